/-! The orders on the pad are carried out. -/
theorem J90_43 (n : Nat) (m : DV) (z : Int32) : f_X7_does_J90 n m 43 z = if z = 0 then bd2 (f_X7_writes m (m 13 0) (m 14 0) (m 15 0)) (fun _ u => some (1, u)) else some (0, m) := by
  unfold f_X7_does_J90
  by_cases h : z = 0
  · simp only [if_pos h, if_true]
  · simp only [if_neg h]
theorem J90_116 (n : Nat) (m : DV) (z : Int32) : f_X7_does_J90 n m 116 z = if z = 0 then bd2 (f_X7_passes n m (m 13 0)) (fun _ u => some (1, u)) else some (0, m) := by
  unfold f_X7_does_J90
  by_cases h : z = 0
  · simp only [if_pos h, if_true, if_neg (show ¬ (116 : Int32) = 43 by decide)]
  · simp only [if_neg h]
theorem J90_98 (n : Nat) (m : DV) (z : Int32) : f_X7_does_J90 n m 98 z = if z = 0 then bd2 (f_X7_burns m (m 13 0)) (fun _ u => some (1, u)) else some (0, m) := by
  unfold f_X7_does_J90
  by_cases h : z = 0
  · simp only [if_pos h, if_true, if_neg (show ¬ (98 : Int32) = 43 by decide), if_neg (show ¬ (98 : Int32) = 116 by decide)]
  · simp only [if_neg h]
theorem J90_117 (n : Nat) (m : DV) (z : Int32) : f_X7_does_J90 n m 117 z = if z = 0 then bd2 (f_X7_putsHours m (m 13 0) (m 14 0) (m 15 0)) (fun _ u => some (1, u)) else some (0, m) := by
  unfold f_X7_does_J90
  by_cases h : z = 0
  · simp only [if_pos h, if_true, if_neg (show ¬ (117 : Int32) = 43 by decide), if_neg (show ¬ (117 : Int32) = 116 by decide), if_neg (show ¬ (117 : Int32) = 98 by decide)]
  · simp only [if_neg h]
theorem J90_107 (n : Nat) (m : DV) (z : Int32) : f_X7_does_J90 n m 107 z = if z = 0 then bd2 (f_X7_turns m (m 13 0)) (fun _ u => some (1, u)) else some (0, m) := by
  unfold f_X7_does_J90
  by_cases h : z = 0
  · simp only [if_pos h, if_neg (show ¬ (107 : Int32) = 43 by decide), if_neg (show ¬ (107 : Int32) = 116 by decide), if_neg (show ¬ (107 : Int32) = 98 by decide), if_neg (show ¬ (107 : Int32) = 117 by decide)]
  · simp only [if_neg h]
/-- C the class's order, D the reference's -/
def DOC (v m : DV) (C D : Option (Int32 × DV)) : Prop := ∃ r v1 m1 y, C = some (r, v1) ∧ D = some (y, m1) ∧ ((y = 1 ∧ ¬ r < 0) ∨ (y = 0 ∧ r < 0)) ∧ REL2 v1 (m1 0) ∧ (∀ j, 14 ≤ j → v1 j = v j) ∧ ∀ q, q ≠ 0 → m1 q = m q
theorem dos_fin {v m : DV} {F A C D : Option (Int32 × DV)} {Z : Option Int32} (h : DOS v m F Z A) (hC : C = bd2 F (fun r u => some (r, mx dks v u))) (hD : D = bd1 Z (fun z => if z = 0 then bd2 A (fun _ u => some (1, u)) else some (0, m))) : DOC v m C D := by
  obtain ⟨r, v1, e, h⟩ := h
  rw [e, bd2_s] at hC
  have hdk : ∀ j, j < 14 → mx dks v v1 j = v1 j := fun j hj => mx_dks_lo v v1 hj
  rcases h with ⟨a, b, c⟩ | ⟨a, b, m2, c1, c2, c3⟩
  · rw [b, bd1_s, if_neg (fun e => absurd a (by rw [e]; decide))] at hD
    exact ⟨r, _, m, 0, hC, hD, Or.inr ⟨rfl, a⟩, c.deq (DEQ_of hdk) (fun _ _ => rfl), fun j hj => mx_dks_hi v v1 hj, fun _ _ => rfl⟩
  · rw [b, bd1_s, if_pos rfl, c1, bd2_s] at hD
    exact ⟨r, _, m2, 1, hC, hD, Or.inl ⟨rfl, a⟩, c2.deq (DEQ_of hdk) (fun _ _ => rfl), fun j hj => mx_dks_hi v v1 hj, c3⟩
theorem do_eq {v m : DV} (h : REL2 v (m 0)) {n n' : Nat} (hn : 2000 ≤ n) (hn' : 2000 ≤ n') {x a b c : Int32} (m12 : m 12 0 = x) (m13 : m 13 0 = a) (m14 : m 14 0 = b) (m15 : m 15 0 = c) (v18 : v 18 0 = x) (h1 : (x = 43 ∨ x = 117) → v 19 0 = a ∧ v 20 0 = b ∧ v 21 0 = c) (h2 : x = 107 → v 19 0 = a) (h3 : (x = 116 ∨ x = 98) → v 20 0 = a) (hx : x = 43 ∨ x = 107 ∨ x = 117 ∨ x = 116 ∨ x = 98) (h107 : x = 107 → ∃ d, d < 6 ∧ a = nI d) : DOC v m (f_X6_carryOutOrder n v) (f_X7_does n' m) := by
  unfold f_X6_carryOutOrder f_X7_does
  rw [v18, m12]
  rcases hx with q | q | q | q | q <;> subst q
  · obtain ⟨a1, a2, a3⟩ := h1 (Or.inl rfl)
    rw [if_pos rfl, if_pos rfl, a1, a2, a3]
    refine dos_fin (write_do h hn hn' a b c) rfl ?_
    simp only [J90_43, m13, m14, m15]
  · obtain ⟨d, hd, rfl⟩ := h107 rfl
    rw [if_neg (by decide), if_neg (by decide), if_pos rfl, if_neg (by decide), if_neg (by decide), if_neg (by decide), if_neg (by decide), h2 rfl]
    refine dos_fin (turn_do h hd) rfl ?_
    rw [J90_107, m13, bd1_s]
  · obtain ⟨a1, a2, a3⟩ := h1 (Or.inr rfl)
    rw [if_neg (by decide), if_neg (by decide), if_neg (by decide), if_neg (by decide), if_neg (by decide), if_neg (by decide), if_neg (by decide), if_pos rfl, a1, a2, a3]
    refine dos_fin (hours_do h a b c) rfl ?_
    rw [J90_117, m13, m14, m15, bd1_s]
  · rw [if_neg (by decide), if_neg (by decide), if_neg (by decide), if_pos rfl, if_neg (by decide), if_pos rfl, h3 (Or.inl rfl)]
    refine dos_fin (pass_do h hn hn' a) rfl ?_
    simp only [J90_116, m13]
  · rw [if_neg (by decide), if_pos rfl, if_neg (by decide), if_neg (by decide), if_pos rfl, h3 (Or.inr rfl)]
    refine dos_fin (burn_do h a) rfl ?_
    simp only [J90_98, m13]
theorem ordF_kind {ch : Nat → Int32} {q : Nat} {t : Nat × Int32 × Int32 × Int32} (h : ordF ch q = .inr t) : ch q = 43 ∨ ch q = 107 ∨ ch q = 117 ∨ ch q = 116 ∨ ch q = 98 := by
  unfold ordF at h
  split at h
  · rename_i e
    rcases e with e | e | e
    · exact Or.inl e
    · exact Or.inr (Or.inl e)
    · exact Or.inr (Or.inr (Or.inl e))
  split at h
  · rename_i e
    rcases e with e | e
    · exact Or.inr (Or.inr (Or.inr (Or.inl e)))
    · exact Or.inr (Or.inr (Or.inr (Or.inr e)))
  · exact nomatch h
theorem ordF_107 {ch : Nat → Int32} {q q2 : Nat} {a b c : Int32} (h : ordF ch q = .inr (q2, a, b, c)) (h7 : ch q = 107) : ∃ d, d < 6 ∧ a = nI d := by
  unfold ordF at h
  rw [h7, if_pos (Or.inr (Or.inl rfl))] at h
  split at h
  · exact nomatch h
  rename_i e
  rcases in_lh (ch (q + 1)) (lo := 48) (hi := 53) (by decide) (by decide) with ⟨e1, -⟩ | ⟨-, j, j1, j2, ej⟩
  · exact absurd e1 e
  unfold o130 o151 o173 o219 at h
  rw [if_neg (by decide), if_neg (by decide), if_neg (by decide), if_neg (by decide), if_neg (by decide)] at h
  cases h
  exact ⟨j - 48, by omega, by rw [ej, sub48 j1]⟩
theorem carry_L {L : Nat} {ch : Nat → Int32} : ∀ (r q i n n' : Nat) (v m : DV), GD ch L r q → q ≤ 80 → i ≤ q → r + 2100 ≤ n → r + 2100 ≤ n' → TXT v L → chF v L = ch → v 17 0 = nI q → TXR v m L → m 10 0 = nI q → m 11 0 = 0 → REL2 v (m 0) →
    ∃ c v2 m2, f_X6_carryOutOrders_L10 n v (nI i) = some (nI c, v2) ∧ f_X7_go_L14 n' m 1 (nI i) 1 = some (nI c, m2) ∧ c ≤ 81 ∧ REL2 v2 (m2 0) ∧ (∀ j, (14 ≤ j ∧ j < 17) ∨ 21 < j → v2 j = v j) ∧ (∀ j, (0 < j ∧ j < 10) ∨ 15 < j → m2 j = m j)
  | 0, q, i, n, n', v, m, h, _, _, _, _, _, _, _, _, _, _, _ => h.elim
  | r + 1, q, i, n, n', v, m, hg, hq, hi, hn, hn', ht, hc, h17, hx, h10, h11, hR => by
    have h1' : ¬ (1 : Int32) = 0 := by decide
    obtain ⟨n, rfl⟩ := up1 (show 0 < n by omega)
    obtain ⟨n', rfl⟩ := up1 (show 0 < n' by omega)
    obtain ⟨q2, a, b, c, ho, hg⟩ := hg
    obtain ⟨m2, a1, a2, a3⟩ := order_eq ht hq hx h10 h11
    obtain ⟨rc, v2, b1, b2, b3⟩ := clsOrder_eq ht h17 hq
    rw [hc, ho] at a3 b3
    have hkd := ordF_kind ho
    have hL := ht.1
    have hq80 : q < L := by
      refine ch_in (v := v) (L := L) (q := q) ?_
      rw [hc]
      rcases hkd with e | e | e | e | e <;> rw [e] <;> decide
    have hle := ordF_le ho
    obtain ⟨d0, d1, d2, d3, d4, d5, d6⟩ := a3
    obtain ⟨f0, -, f1, f2, f3, f4, f5⟩ := b3
    have ht2 : TXT v2 L := ht.eqv (b2 15 (by omega)) (b2 16 (by omega))
    have hc2 : chF v2 L = ch := by rw [chF_eq L (b2 15 (by omega)), hc]
    have hx2 : TXR v2 m2 L := (hx.eqo a2).eqv (b2 15 (by omega))
    have hR2 : REL2 v2 (m2 0) := hR.deq (DEQ_of (fun j hj => b2 j (by omega))) (fun j _ => by rw [a2 0 (by omega)])
    obtain ⟨rr, v3, m3, y, g1, g2, g3, g4, g5, g6⟩ := do_eq hR2 (n := n) (n' := n') (by omega) (by omega) d3 d4 d5 d6 f2 f3 f4 f5 hkd (ordF_107 ho)
    rw [f_X6_carryOutOrders_L10, f_X7_go_L14, if_neg h1', a1, bd1_s, if_neg h1', if_neg (show ¬ (80 : Int32) ≤ nI i from nI_ge (a := i) (b := 80) (by omega) (by decide)), b1, bd2_s, f0, if_neg h1', show mx [15, 16, 17, 18, 19, 20, 21] v v2 = v2 from mx_pks_of b2, g1, bd2_s, g2, bd2_s]
    have v3f : ∀ j, (14 ≤ j ∧ j < 17) ∨ 21 < j → v3 j = v j := fun j hj => by rw [g5 j (by omega), b2 j (by omega)]
    have m3f : ∀ j, (0 < j ∧ j < 10) ∨ 15 < j → m3 j = m j := fun j hj => by rw [g6 j (by omega), a2 j (by omega)]
    have m311 : m3 11 0 = 0 := by rw [g6 11 (by decide), d2]
    have m310 : m3 10 0 = nI q2 := by rw [g6 10 (by decide), d1]
    unfold f_X7_go_J37 f_X7_go_J38 f_X7_go_J51 f_X7_go_J69 f_X7_go_J84
    rcases g3 with ⟨y1, hr⟩ | ⟨y0, hr⟩
    · subst y1
      have hx3 : TXR v3 m3 L := by
        refine TXR.eqv (v := v2) ?_ (g5 15 (by decide))
        exact ⟨by rw [g6 9 (by decide)]; exact hx2.1, fun j hj => by rw [g6 5 (by decide)]; exact hx2.2 j hj⟩
      have ht3 : TXT v3 L := ht2.eqv (g5 15 (by decide)) (g5 16 (by decide))
      have hc3 : chF v3 L = ch := by rw [chF_eq L (g5 15 (by decide)), hc2]
      have f31 : v3 17 0 = nI q2 := by rw [g5 17 (by decide), f1]
      rw [if_neg h1', if_neg h1', if_pos (Int32.not_lt.mp hr), m311, if_pos rfl, if_neg h1', m310, hx3.1, take_eq ht3 f31 d0, hc3, nI_1]
      rcases hg with hql | ⟨hql, e59, hg⟩
      · have hne : ¬ ch q2 = 59 := fun e => hql (ch_in (v := v3) (L := L) (q := q2) (by rw [hc3, e]; decide))
        rw [if_neg hne, bd2_s, if_pos rfl, if_pos (nI_le (by omega) (by omega))]
        unfold f_X7_go_J85
        rw [if_pos rfl]
        simp only [go_stop (show 0 < n' by omega)]
        exact ⟨i + 1, _, m3, rfl, rfl, by omega, by rw [show mx [15, 16, 17, 18, 19, 20, 21] v3 v3 = v3 from mx_pks_of (fun _ _ => rfl)]; exact g4, fun j hj => by rw [show mx [15, 16, 17, 18, 19, 20, 21] v3 v3 = v3 from mx_pks_of (fun _ _ => rfl)]; exact v3f j hj, m3f⟩
      · rw [if_pos e59, bd2_s, if_neg h1', if_neg (nI_ge (by omega) (by omega)), show mx [15, 16, 17, 18, 19, 20, 21] v3 (vs v3 17 (fun _ => nI (q2 + 1))) = vs v3 17 (fun _ => nI (q2 + 1)) from mx_pks_of (fun j hj => vs_o _ _ (by omega))]
        obtain ⟨m4, s1, s2, s3⟩ := sign_eq (v := v3) hL d0 hx3 m310 m311 59 59
        rw [hc3] at s3
        unfold f_X7_go_J85
        rw [if_neg h1', s1, bd2_s]
        rcases s3 with ⟨e, -, -⟩ | ⟨e, w1, w2⟩
        · exact absurd e59 ((in59 _).mp e)
        rw [w2, if_pos rfl]
        obtain ⟨c', v5, m5, z1, z2, z3, z4, z5, z6⟩ := carry_L (L := L) (ch := ch) r (q2 + 1) (i + 1) n n' (vs v3 17 (fun _ => nI (q2 + 1))) m4 hg (by omega) (by omega) (by omega) (by omega) (ht3.eqv rfl rfl) hc3 rfl ((hx3.eqo (EQO.of s2)).eqv rfl) w1 w2 (g4.deq (DEQ_of (fun j hj => vs_o _ _ (by omega))) (fun j _ => by rw [s2 0 (by decide) (by decide)]))
        exact ⟨c', v5, m5, z1, z2, z3, z4, fun j hj => by rw [z5 j hj, vs_o _ _ (by omega), v3f j hj], fun j hj => by rw [z6 j hj, s2 j (by omega) (by omega), m3f j hj]⟩
    · subst y0
      rw [if_pos rfl, if_pos rfl, if_neg (fun e => absurd hr (Int32.not_lt.mpr e)), m311, if_pos rfl, if_pos rfl, if_neg h1']
      unfold f_X7_go_J85
      rw [if_pos rfl]
      simp only [go_stop (show 0 < n' by omega), Int32.add_zero]
      exact ⟨i, v3, m3, rfl, rfl, by omega, g4, v3f, m3f⟩
theorem bd2_inv {α γ β : Type} {o : Option (α × γ)} {k : α → γ → Option β} {y : β} (h : bd2 o k = some y) : ∃ a b, o = some (a, b) ∧ k a b = some y := by
  cases o with
  | none => exact nomatch h
  | some p => exact ⟨p.1, p.2, rfl, h⟩
theorem coo1_22 {n : Nat} {v v' : DV} {r : Int32} (h : f_X6_carryOutOrder n v = some (r, v')) : v' 22 = v 22 := by
  unfold f_X6_carryOutOrder at h
  split at h
  · obtain ⟨a, b, -, e⟩ := bd2_inv h; cases e; rfl
  split at h
  · obtain ⟨a, b, -, e⟩ := bd2_inv h; cases e; rfl
  split at h
  · obtain ⟨a, b, -, e⟩ := bd2_inv h; cases e; rfl
  split at h
  · obtain ⟨a, b, -, e⟩ := bd2_inv h; cases e; rfl
  · obtain ⟨a, b, -, e⟩ := bd2_inv h; cases e; rfl
theorem coo_22 : ∀ (n : Nat) (v v' : DV) (x r : Int32), f_X6_carryOutOrders_L10 n v x = some (r, v') → v' 22 = v 22
  | 0, _, _, _, _, h => nomatch h
  | n + 1, v, v', x, r, h => by
    rw [f_X6_carryOutOrders_L10] at h
    split at h
    · cases h; rfl
    obtain ⟨r20, v20, -, h⟩ := bd2_inv h
    split at h
    · cases h; rfl
    obtain ⟨r27, v27, e27, h⟩ := bd2_inv h
    have g : v27 22 = v 22 := by rw [coo1_22 e27]; rfl
    split at h
    · obtain ⟨r41, v41, -, h⟩ := bd2_inv h
      split at h
      · cases h; exact g
      · rw [coo_22 n _ _ _ _ h]; exact g
    · cases h; exact g
theorem carry_kp (n0 : Nat) (v : DV) : ∀ r4 v4 r v', f_X4_faultIndex n0 v = some (r4, v4) → f_X6_carryOutOrders n0 (mx pks v v4) = some (r, v') → v' 22 0 = v 22 0 := by
  intro r4 v4 r v' _ h
  rw [coo_22 n0 _ _ _ _ h]
  rfl
theorem carry_eq {k : Nat} {v : DV} {l : List DV} {sv : Nat → Option DV} {m : DV} (h : SIM k v l sv m) {n n' : Nat} (hn : 3000 ≤ n) (hn' : 3000 ≤ n') : ∃ r u lu m2 k2, coF n k v l = some (r, u, lu) ∧ f_X7_carryOut n' m = some (r, m2) ∧ SIM k2 u lu sv m2 := by
  obtain ⟨L, ht, hx⟩ := h.text
  obtain ⟨ro, v2, m2, a1, a2, a3, a4, a5⟩ := fault_both ht hx (n := n) (n' := n') (by omega) (by omega)
  have h2 : SIM k v2 l sv m2 := h.read a3 a4
  unfold coF f_X7_carryOut
  rw [a1, bd2_s, a2, bd2_s, mx_pks_of a3]
  rcases a5 with ⟨b0, b1, b2⟩ | ⟨b1, b2, j, hj, b3⟩
  · rw [b1, b2, if_pos rfl, if_pos rfl]
    obtain ⟨x, hx1, hx2⟩ := copyFrom_ok (preW l k) v2
    obtain ⟨hA, hP, hk, hH, hS⟩ := h2
    obtain ⟨m3, c1, c2, c3⟩ := know_eq hH hA hx2 (show 2000 ≤ n' by omega)
    rw [hx1, c1, bd1_s, bd1_s]
    unfold f_X6_carryOutOrders f_X7_go
    have ht2 : TXT v2 L := ht.eqv (a3 15 (by omega)) (a3 16 (by omega))
    have hc2 : chF v2 L = chF v L := chF_eq L (a3 15 (by omega))
    have hx3 : TXR v2 m2 L := (hx.eqo a4).eqv (a3 15 (by omega))
    obtain ⟨c, u, m4, d1, d2, d3, d4, d5, d6⟩ := carry_L (L := L) (ch := chF v L) 81 0 0 n n' (vs v2 17 (fun _ => 0)) (vs (vs m3 10 (fun _ => 0)) 11 (fun _ => 0)) b0 (by omega) (by omega) (by omega) (by omega) (ht2.eqv rfl rfl) hc2 rfl ⟨by show m3 9 0 = _; rw [c3 9 (by decide) (by decide)]; exact hx3.1, fun j hj => by show m3 5 j = v2 15 j; rw [c3 5 (by decide) (by decide)]; exact hx3.2 j hj⟩ rfl rfl (hA.deq (DEQ_of (fun j hj => vs_o _ _ (by omega))) (fun j _ => by show m3 0 j = _; rw [c3 0 (by decide) (by decide)]))
    rw [show f_X6_carryOutOrders_L10 n (vs v2 17 (fun _ => 0)) 0 = _ from d1, show f_X7_go_L14 n' (vs (vs m3 10 (fun _ => 0)) 11 (fun _ => 0)) 1 0 1 = _ from d2]
    simp only [bd2_s]
    have hr : ¬ nI c < 0 := nI_pos (by omega)
    unfold recV recL
    rw [if_neg hr, if_neg hr]
    have e4 : ∀ j, 0 < j → j < 10 → m4 j = m3 j := fun j h0 h1 => by rw [d6 j (by omega), vs_o _ _ (by omega), vs_o _ _ (by omega)]
    refine ⟨_, _, _, _, keepK k, rfl, rfl, d4.deq (DEQ_of (fun j hj => by rw [vs_o _ _ (by omega), vs_o _ _ (by omega)])) (fun _ _ => rfl), ⟨0, by omega, rfl, rfl, fun j hj => absurd hj (Nat.not_lt_zero j)⟩, rfl, c2.eqm ?_ ?_, hS.eqm ?_ ?_⟩
    · exact e4 2 (by decide) (by decide)
    · exact e4 8 (by decide) (by decide)
    · show m4 3 = m2 3
      rw [e4 3 (by decide) (by decide), c3 3 (by decide) (by decide)]
    · show m4 4 = m2 4
      rw [e4 4 (by decide) (by decide), c3 4 (by decide) (by decide)]
  · have hne : ¬ ro = -6 := by
      rw [b3]; exact nI_ne6 (by omega)
    rw [b1, if_neg hne, if_neg (by decide)]
    exact ⟨_, _, _, _, k, rfl, rfl, h2⟩
