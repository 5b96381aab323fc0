/-! The whole pad: its first fault. -/
theorem numF_le {ch : Nat → Int32} {q : Nat} {x : Int32} {q2 : Nat} (h : numF ch q = some (x, q2)) : q < q2 := by
  unfold numF at h
  split at h
  · exact nomatch h
  split at h
  · cases h; omega
  split at h
  · cases h; omega
  · cases h; omega
theorem o219_le {ch : Nat → Int32} {q : Nat} {x a b : Int32} {q2 : Nat} {t : Int32 × Int32 × Int32} (h : o219 ch q x a b = .inr (q2, t)) : q ≤ q2 := by
  unfold o219 at h
  split at h
  · split at h
    · exact nomatch h
    · split at h
      · exact nomatch h
      · rename_i e
        have := numF_le e
        cases h; omega
  · cases h; omega
theorem o173_le {ch : Nat → Int32} {q : Nat} {x a b : Int32} {q2 : Nat} {t : Int32 × Int32 × Int32} (h : o173 ch q x a b = .inr (q2, t)) : q ≤ q2 := by
  unfold o173 at h
  split at h
  · split at h
    · exact o219_le h
    · split at h
      · exact nomatch h
      · rename_i e
        have := numF_le e
        cases h; omega
  · exact o219_le h
theorem o165_le {ch : Nat → Int32} {q : Nat} {x a : Int32} {q2 : Nat} {t : Int32 × Int32 × Int32} (h : o165 ch q x a = .inr (q2, t)) : q ≤ q2 := by
  unfold o165 at h
  split at h
  · exact nomatch h
  · rename_i e
    have := numF_le e
    have := o173_le h
    omega
theorem o151_le {ch : Nat → Int32} {q : Nat} {x a : Int32} {q2 : Nat} {t : Int32 × Int32 × Int32} (h : o151 ch q x a = .inr (q2, t)) : q ≤ q2 := by
  unfold o151 at h
  split at h
  · exact o165_le h
  split at h
  · exact o165_le h
  · exact o173_le h
theorem o130_le {ch : Nat → Int32} {q : Nat} {x a : Int32} {q2 : Nat} {t : Int32 × Int32 × Int32} (h : o130 ch q x a = .inr (q2, t)) : q ≤ q2 := by
  unfold o130 at h
  split at h
  · split at h
    · exact nomatch h
    · have := o151_le h
      omega
  · exact o151_le h
theorem ordF_le {ch : Nat → Int32} {q : Nat} {q2 : Nat} {t : Int32 × Int32 × Int32} (h : ordF ch q = .inr (q2, t)) : q < q2 := by
  unfold ordF at h
  split at h
  · split at h
    · exact nomatch h
    · have := o130_le h
      omega
  split at h
  · split at h
    · exact nomatch h
    · rename_i e
      have := numF_le e
      have := o130_le h
      omega
  · exact nomatch h
/-- from place q on the text is orders, parted by ';' -/
def GD (ch : Nat → Int32) (L : Nat) : Nat → Nat → Prop
  | 0, _ => False
  | k + 1, q => ∃ q2 a b c, ordF ch q = .inr (q2, a, b, c) ∧ (¬ q2 < L ∨ (q2 < L ∧ ch q2 = 59 ∧ GD ch L k (q2 + 1)))
theorem go_stop {n : Nat} (hn : 0 < n) (m : DV) (x1 x2 : Int32) : f_X7_go_L14 n m x1 x2 0 = some (x2, m) := by
  obtain ⟨n, rfl⟩ := up1 hn
  rw [f_X7_go_L14, if_pos rfl]
theorem chF_eq {v u : DV} (L : Nat) (h : u 15 = v 15) : chF u L = chF v L := by
  funext q
  unfold chF
  rw [h]
theorem TXT.eqv {v u : DV} {L : Nat} (h : TXT v L) (h15 : u 15 = v 15) (h16 : u 16 = v 16) : TXT u L := by
  unfold TXT
  rw [h15, h16]
  exact h
theorem TXR.eqv {v u m : DV} {L : Nat} (h : TXR v m L) (h15 : u 15 = v 15) : TXR u m L := by
  unfold TXR
  rw [h15]
  exact h
theorem in59 (x : Int32) : f_X7_in x 59 59 = 0 ↔ ¬ x = 59 := in_one (c := 59) (by decide) (by decide)
theorem fault_L {L : Nat} {ch : Nat → Int32} : ∀ (r q i n n' : Nat) (v m : DV) (x2 : Int32), 81 ≤ q + r → q ≤ 80 → i ≤ q → r ≤ n → r + 1 ≤ n' → TXT v L → chF v L = ch → v 17 0 = nI q → TXR v m L → m 10 0 = nI q → m 11 0 = 0 →
    ∃ ro v2 m2, f_X4_faultIndex_L7 n v (nI i) = some (ro, v2) ∧ f_X7_go_L14 n' m 0 x2 1 = some (x2, m2) ∧ (∀ j, j < 17 ∨ 21 < j → v2 j = v j) ∧ EQO m m2 ∧ ((GD ch L r q ∧ ro = -6 ∧ m2 11 0 = 0) ∨ (m2 11 0 = 1 ∧ m2 10 0 = ro ∧ ∃ j, j ≤ 80 ∧ ro = nI j))
  | 0, q, i, n, n', v, m, x2, h1, h2, _, _, _, _, _, _, _, _, _ => absurd h1 (by omega)
  | r + 1, q, i, n, n', v, m, x2, hr, hq, hi, hn, hn', ht, hc, h17, hx, h10, h11 => by
    have h1' : ¬ (1 : Int32) = 0 := by decide
    obtain ⟨n, rfl⟩ := up1 (show 0 < n by omega)
    obtain ⟨n', rfl⟩ := up1 (show 0 < n' by omega)
    obtain ⟨m2, a1, a2, a3⟩ := order_eq ht hq hx h10 h11
    obtain ⟨rc, v2, b1, b2, b3⟩ := clsOrder_eq ht h17 hq
    rw [hc] at a3 b3
    rw [f_X4_faultIndex_L7, f_X7_go_L14, if_neg h1', a1, bd1_s, if_pos rfl]
    unfold f_X7_go_J37 f_X7_go_J38 f_X7_go_J51 f_X7_go_J69 f_X7_go_J84
    rw [if_pos rfl, if_pos rfl, if_pos rfl, Int32.add_zero]
    by_cases c80 : i = 80
    · subst c80
      have : q = 80 := by omega
      subst this
      have c0 : ch 80 = 0 := by
        rw [← hc]; unfold chF
        rw [if_neg (by have := ht.1; omega)]
      have e0 : ordF ch 80 = .inl 80 := by
        unfold ordF
        rw [c0, if_neg (by decide), if_neg (by decide)]
      rw [e0] at a3
      obtain ⟨-, d1, d2⟩ := a3
      rw [if_pos (show (80 : Int32) ≤ nI 80 by decide), d2, if_neg h1']
      unfold f_X7_go_J85
      rw [if_pos rfl]
      simp only [go_stop (show 0 < n' by omega)]
      exact ⟨_, v, m2, rfl, rfl, fun _ _ => rfl, a2, Or.inr ⟨d2, by rw [d1, h17], 80, by omega, h17⟩⟩
    rw [if_neg (show ¬ (80 : Int32) ≤ nI i from nI_ge (a := i) (b := 80) (by omega) (by decide)), b1, bd2_s]
    cases ho : ordF ch q with
    | inl q2 =>
      rw [ho] at a3 b3
      obtain ⟨d0, d1, d2⟩ := a3
      obtain ⟨f0, -, f1⟩ := b3
      rw [d2, if_neg h1', f0, if_pos rfl]
      unfold f_X7_go_J85
      rw [if_pos rfl]
      simp only [go_stop (show 0 < n' by omega)]
      exact ⟨_, v2, m2, rfl, rfl, b2, a2, Or.inr ⟨d2, by rw [d1, f1], q2, d0, f1⟩⟩
    | inr t =>
      obtain ⟨q2, a, b, c⟩ := t
      have hle := ordF_le ho
      rw [ho] at a3 b3
      obtain ⟨d0, d1, d2, -⟩ := a3
      obtain ⟨f0, -, f1, -⟩ := b3
      have ht2 : TXT v2 L := ht.eqv (b2 15 (by omega)) (b2 16 (by omega))
      have hc2 : chF v2 L = ch := by rw [chF_eq L (b2 15 (by omega)), hc]
      have hx2 : TXR v2 m2 L := (hx.eqo a2).eqv (b2 15 (by omega))
      have hL := ht.1
      rw [d2, if_pos rfl, f0, if_neg h1', f1, d1, ht2.2.1, hx2.1]
      by_cases hql : q2 < L
      · rw [if_neg (nI_ge (by omega) (by omega)), if_pos (nI_lt (by omega) (by omega)), take_eq ht2 f1 d0, hc2]
        obtain ⟨m3, s1, s2, s3⟩ := sign_eq (v := v2) hL d0 hx2 d1 d2 59 59
        unfold f_X7_go_J85
        rw [if_neg h1', s1, bd2_s]
        rw [hc2] at s3
        rcases s3 with ⟨e, g1, g2⟩ | ⟨e, g1, g2⟩
        · rw [if_neg ((in59 _).mp e), bd2_s, if_pos rfl, g2, if_neg h1']
          simp only [go_stop (show 0 < n' by omega)]
          exact ⟨_, v2, m3, rfl, rfl, b2, a2.trans (EQO.of s2), Or.inr ⟨g2, by rw [g1, f1], q2, d0, f1⟩⟩
        · have e59 : ch q2 = 59 := Decidable.byContradiction (fun h => e ((in59 _).mpr h))
          rw [if_pos e59, bd2_s, if_neg h1', g2, if_pos rfl, nI_1]
          obtain ⟨ro, v4, m4, w1, w2, w3, w4, w5⟩ := fault_L (L := L) (ch := ch) r (q2 + 1) (i + 1) n n' (vs v2 17 (fun _ => nI (q2 + 1))) m3 x2 (by omega) (by omega) (by omega) (by omega) (by omega) (ht2.eqv rfl rfl) hc2 rfl (((hx.eqo a2).eqo (EQO.of s2)).eqv (b2 15 (by omega))) g1 g2
          refine ⟨ro, v4, m4, w1, w2, fun j hj => by rw [w3 j hj, vs_o _ _ (by omega), b2 j hj], (a2.trans (EQO.of s2)).trans w4, ?_⟩
          rcases w5 with ⟨y1, y2⟩ | y
          · exact Or.inl ⟨⟨q2, a, b, c, ho, Or.inr ⟨hql, e59, y1⟩⟩, y2⟩
          · exact Or.inr y
      · rw [if_pos (nI_le (by omega) (by omega)), if_neg (nI_nlt (by omega) (by omega))]
        unfold f_X7_go_J85
        rw [if_pos rfl]
        simp only [go_stop (show 0 < n' by omega)]
        exact ⟨_, v2, m2, rfl, rfl, b2, a2, Or.inl ⟨⟨q2, a, b, c, ho, Or.inl hql⟩, rfl, d2⟩⟩
/-- both sides read the whole pad -/
theorem fault_both {v m : DV} {L : Nat} (ht : TXT v L) (hx : TXR v m L) {n n' : Nat} (hn : 81 ≤ n) (hn' : 82 ≤ n') : ∃ ro v2 m2, f_X4_faultIndex n v = some (ro, v2) ∧ f_X7_go n' m 0 = some (0, m2) ∧ (∀ j, j < 17 ∨ 21 < j → v2 j = v j) ∧ EQO m m2 ∧ ((GD (chF v L) L 81 0 ∧ ro = -6 ∧ m2 11 0 = 0) ∨ (m2 11 0 = 1 ∧ m2 10 0 = ro ∧ ∃ j, j ≤ 80 ∧ ro = nI j)) := by
  unfold f_X4_faultIndex f_X7_go
  have e0 : EQO m (vs (vs m 10 (fun _ => 0)) 11 (fun _ => 0)) := (EQO.vs _ (by decide) (by decide)).trans (EQO.vs _ (by decide) (by decide))
  obtain ⟨ro, v2, m2, a1, a2, a3, a4, a5⟩ := fault_L (L := L) (ch := chF v L) 81 0 0 n n' (vs v 17 (fun _ => 0)) (vs (vs m 10 (fun _ => 0)) 11 (fun _ => 0)) 0 (by omega) (by omega) (by omega) hn hn' (ht.eqv rfl rfl) rfl rfl ((hx.eqo e0).eqv rfl) rfl rfl
  exact ⟨ro, v2, m2, a1, a2, fun j hj => by rw [a3 j hj, vs_o _ _ (by omega)], e0.trans a4, a5⟩
theorem SIM.text {k : Nat} {v : DV} {l : List DV} {sv : Nat → Option DV} {m : DV} (h : SIM k v l sv m) : ∃ L, TXT v L ∧ TXR v m L := by
  obtain ⟨L, a, b, c, d⟩ := h.2.1
  exact ⟨L, ⟨a, b, fun j hj => (d j hj).2⟩, c, fun j hj => (d j hj).1⟩
theorem SIM.read {k : Nat} {v u : DV} {l : List DV} {sv : Nat → Option DV} {m m2 : DV} (h : SIM k v l sv m) (hv : ∀ j, j < 17 ∨ 21 < j → u j = v j) (hm : EQO m m2) : SIM k u l sv m2 := by
  obtain ⟨a, b, c, d, f⟩ := h
  refine ⟨a.deq (DEQ_of (fun j hj => hv j (by omega))) (fun j _ => by rw [hm 0 (by omega)]), b.eqm ?_ ?_ ?_ ?_, ?_, d.eqm ?_ ?_, f.eqm ?_ ?_⟩
  · exact hm 5 (by omega)
  · exact hm 9 (by omega)
  · exact hv 15 (by omega)
  · exact hv 16 (by omega)
  · rw [hv 22 (by omega), c]
  · exact hm 2 (by omega)
  · exact hm 8 (by omega)
  · exact hm 3 (by omega)
  · exact hm 4 (by omega)
theorem mx_pks_of {v u : DV} (h : ∀ j, j < 17 ∨ 21 < j → u j = v j) : mx pks v u = u := by
  funext j
  by_cases c : 15 ≤ j ∧ j ≤ 21
  · obtain ⟨c1, c2⟩ := c
    rcases (show j = 15 ∨ j = 16 ∨ j = 17 ∨ j = 18 ∨ j = 19 ∨ j = 20 ∨ j = 21 by omega) with q | q | q | q | q | q | q <;> subst q <;> rfl
  · rw [mx_o pks (h j (by omega)), h j (by omega)]
theorem fault_eq {k : Nat} {v : DV} {l : List DV} {sv : Nat → Option DV} {m : DV} (h : SIM k v l sv m) {n n' : Nat} (hn : 100 ≤ n) (hn' : 100 ≤ n') : ∃ r u m2, f_X6_fault n v = some (r, u) ∧ f_X7_fault n' m = some (r, m2) ∧ SIM k u l sv m2 := by
  obtain ⟨L, ht, hx⟩ := h.text
  obtain ⟨ro, v2, m2, a1, a2, a3, a4, a5⟩ := fault_both ht hx (n := n) (n' := n') (by omega) (by omega)
  unfold f_X6_fault f_X7_fault
  rw [a1, bd2_s, a2, bd2_s, show mx [15, 16, 17, 18, 19, 20, 21] v v2 = v2 from mx_pks_of a3]
  rcases a5 with ⟨-, b1, b2⟩ | ⟨b1, b2, -⟩
  · rw [b1, b2, if_pos rfl]
    exact ⟨_, _, _, rfl, rfl, h.read a3 a4⟩
  · rw [b1, if_neg (by decide), b2]
    exact ⟨_, _, _, rfl, rfl, h.read a3 a4⟩
