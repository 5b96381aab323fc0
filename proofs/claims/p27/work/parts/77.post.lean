/-! The best hour of the post does as it is told. -/
section PO
variable {v : DV} {l : List DV} {N w : Nat}
/-- how many go within D days if the post comes at the hour h -/
def CP (v : DV) (N w D h : Nat) : Nat := cntP (willGo v (nI h) N (D * 24)) w
theorem best_L27 (hI : INV v N w) (hN : N < 24000) {D : Nat} (hD : D ≤ 20) : ∀ (r h n b0 m0 : Nat), h + r = 24 → r + 100 ≤ n → ((h = 0 ∧ b0 = 0 ∧ m0 = 0) ∨ (b0 < h ∧ CP v N w D b0 = m0 ∧ ∀ j, j < h → CP v N w D j ≤ m0 ∧ (CP v N w D j = m0 → b0 ≤ j))) → ∃ b m, b < 24 ∧ CP v N w D b = m ∧ (∀ j, j < 24 → CP v N w D j ≤ m ∧ (CP v N w D j = m → b ≤ j)) ∧ ∀ p2, f_X6_bestPost_L31 n v (nI D) p2 (nI b0) (nI m0) (nI h) = some (if p2 = 0 then nI b else nI m)
  | 0, h, n, b0, m0, hh, hn, hy => by
    obtain ⟨n, rfl⟩ := up1 (show 0 < n by omega)
    have : h = 24 := by omega
    subst this
    rcases hy with ⟨e, -⟩ | ⟨e1, e2, e3⟩
    · exact absurd e (by decide)
    refine ⟨b0, m0, e1, e2, e3, fun p2 => ?_⟩
    rw [f_X6_bestPost_L31, if_pos (show (24 : Int32) ≤ nI 24 by decide)]
    by_cases q : p2 = 0
    · rw [if_pos q, if_pos q]
    · rw [if_neg q, if_neg q]
  | r + 1, h, n, b0, m0, hh, hn, hy => by
    obtain ⟨n, rfl⟩ := up1 (show 0 < n by omega)
    have h30 := hI.1.2.2
    have hlt : ¬ (24 : Int32) ≤ nI h := nI_ge (a := h) (b := 24) (by omega) (by decide)
    have e24' : nI D * 24 = nI (D * 24) := pk_mul D 24
    have hc : lp (fun j a => if willGo v (nI h) N (D * 24) j = true then a + 1 else a) w 0 0 = CP v N w D h := rfl
    have hw : f_X0_sentWithin n v (nI h) (nI (D * 24)) = some (nI (CP v N w D h)) := by
      unfold f_X0_sentWithin
      rw [show f_X0_sentWithin_L5 n v (nI h) (nI (D * 24)) 0 0 = _ from within_L hI hN (show h < 24 by omega) (show D * 24 ≤ 1200 by omega) w 0 n 0 (by omega) (by omega), hc]
    have hc30 : ∀ j, CP v N w D j ≤ 30 := fun j => by have := cntP_le (willGo v (nI j) N (D * 24)) w; unfold CP; omega
    have hm30 : m0 ≤ 30 := by
      rcases hy with ⟨-, -, e⟩ | ⟨-, e, -⟩
      · omega
      · rw [← e]; exact hc30 b0
    by_cases q : CP v N w D h ≤ m0
    · obtain ⟨b, m, a1, a2, a3, a4⟩ := best_L27 hI hN hD r (h + 1) n b0 m0 (by omega) (by omega) (Or.inr (by
        rcases hy with ⟨e1, e2, e3⟩ | ⟨e1, e2, e3⟩
        · subst e1 e2 e3
          have e0 : CP v N w D 0 = 0 := by omega
          refine ⟨by decide, e0, fun j hj => ?_⟩
          have : j = 0 := by omega
          subst this
          exact ⟨by omega, fun _ => Nat.le_refl 0⟩
        · refine ⟨by omega, e2, fun j hj => ?_⟩
          by_cases qj : j = h
          · subst qj; exact ⟨q, fun _ => by omega⟩
          · exact e3 j (by omega)))
      refine ⟨b, m, a1, a2, a3, fun p2 => ?_⟩
      rw [f_X6_bestPost_L31, if_neg hlt, e24', hw, bd1_s, if_pos (nI_le q (by omega)), nI_1]
      exact a4 p2
    · have hch := hc30 h
      obtain ⟨b, m, a1, a2, a3, a4⟩ := best_L27 hI hN hD r (h + 1) n h (CP v N w D h) (by omega) (by omega) (Or.inr ⟨by omega, rfl, fun j hj => by
        by_cases qj : j = h
        · subst qj; exact ⟨Nat.le_refl _, fun _ => Nat.le_refl _⟩
        · rcases hy with ⟨e1, e2, e3⟩ | ⟨e1, e2, e3⟩
          · omega
          · have := e3 j (by omega)
            exact ⟨by omega, fun e => by omega⟩⟩)
      refine ⟨b, m, a1, a2, a3, fun p2 => ?_⟩
      rw [f_X6_bestPost_L31, if_neg hlt, e24', hw, bd1_s, if_neg (nI_ge (by omega) (by omega)), nI_1]
      exact a4 p2
theorem best_c (hI : INV v N w) (hN : N < 24000) {D n : Nat} (hD1 : 1 ≤ D) (hD : D ≤ 20) (hn : 1000 ≤ n) : ∃ b m, b < 24 ∧ CP v N w D b = m ∧ (∀ j, j < 24 → CP v N w D j ≤ m ∧ (CP v N w D j = m → b ≤ j)) ∧ f_X6_bestPost n v (nI D) 0 = some (nI b) ∧ f_X6_bestPost n v (nI D) 1 = some (nI m) := by
  obtain ⟨b, m, a1, a2, a3, a4⟩ := best_L27 hI hN hD 24 0 n 0 0 rfl (by omega) (Or.inl ⟨rfl, rfl, rfl⟩)
  have gen : ∀ p2 : Int32, ¬ p2 < 0 → p2 ≤ 1 → f_X6_bestPost n v (nI D) p2 = some (if p2 = 0 then nI b else nI m) := by
    intro p2 h1 h2
    unfold f_X6_bestPost
    rw [if_neg (show ¬ nI D < 1 from nI_nlt (b := 1) (a := D) hD1 (by omega)), if_neg (show ¬ (20 : Int32) < nI D from nI_nlt (b := D) (a := 20) hD (by decide)), if_neg h1, if_pos h2]
    exact a4 p2
  exact ⟨b, m, a1, a2, a3, (gen 0 (by decide) (by decide)).trans (by rw [if_pos rfl]), (gen 1 (by decide) (by decide)).trans (by rw [if_neg i10])⟩
theorem lockB_deq {u : DV} (e : DEQ u v) {d : Nat} (hd : d < 6) : ∀ t, lockB u d N t = lockB v d N t
  | 0 => (e.2.2.2.1 d hd).2.1
  | t + 1 => by
    show keyR (u 5 d) (u 6 d) _ (lockB u d N t) = keyR (v 5 d) (v 6 d) _ (lockB v d N t)
    rw [lockB_deq e hd t, (e.2.2.2.1 d hd).2.2.1, (e.2.2.2.1 d hd).2.2.2]
theorem sentBy_deq {u : DV} (hI : INV v N w) (e : DEQ u v) (P : Int32) {k : Nat} (hk : k < w) : ∀ t, sentBy u P N k t = sentBy v P N k t
  | 0 => rfl
  | t + 1 => by
    show (sentBy u P N k t || goesT u P N k t) = (sentBy v P N k t || goesT v P N k t)
    rw [sentBy_deq hI e P hk t]
    congr 1
    have h30 := hI.1.2.2
    have hd := (hI.let hk).1.2
    obtain ⟨e7, e8, e9, -⟩ := e.2.2.2.2 k (by omega)
    unfold goesT
    have er : rdy u k = rdy v k := by
      unfold rdy
      rw [e7, e8, e9, e.2.2.1 1 (by decide), e.2.2.1 2 (by decide), (e.2.2.2.1 (tn (v 7 k)) (by omega)).1]
    rw [er, e7, lockB_deq e (show tn (v 7 k) < 6 by omega)]
theorem willGo_deq {u : DV} (hI : INV v N w) (e : DEQ u v) (P : Int32) {k : Nat} (hk : k < w) (t : Nat) : willGo u P N t k = willGo v P N t k := by
  have h30 := hI.1.2.2
  unfold willGo
  rw [sentBy_deq hI e P hk, (e.2.2.2.2 k (by omega)).2.2.2.2.1]
/-- the post at the hour b, D days, and back -/
theorem try_c {u0 : DV} (h : SG v l N w) (hI0 : INV u0 N w) (e0 : DEQ v u0) {n D b : Nat} (hn : 2000 ≤ n) (hD1 : 1 ≤ D) (hD : D ≤ 8) (hb : b < 24) (hN : N + 24 * D < 24000) : ∃ r u1 l1 u2 l2 u3 u4, chgK (kV v) (f_X0_changeSetting v 0 (nI b)) v l = some (r, u1, l1) ∧ ¬ r < 0 ∧ kOK u1 l1 = true ∧ chgK (kV u1) (f_X0_passHours n u1 (24 * nI D)) u1 l1 = some (nI (CP u0 N w D b), u2, l2) ∧ kOK u2 l2 = true ∧ (∃ j, j < 10 ∧ undoF u2 l2 = some (nI j, u3)) ∧ kOK u3 l2 = true ∧ (∃ j, j < 10 ∧ undoF u3 l2 = some (nI j, u4)) ∧ SG u4 l2 N w ∧ DEQ u4 u0 := by
  obtain ⟨a1, a2, a3⟩ := set_x h.1 0 23 (by decide) rfl ⟨fun _ => rfl, fun h => absurd h (by decide), fun h => absurd h (by decide)⟩ (x := b) (by omega)
  obtain ⟨u1, l1, b1, b2, b3, b4, b5, b6, ⟨x, b7, b7'⟩, b8⟩ := chg_yes h a2 a3 a1
  obtain ⟨s, u2, l2, c1, c2, c3, c4, c5, c6, c7, ⟨y, c8, c8'⟩, c9⟩ := one_hour (STc_0 b2.1) b2 hn (p := 24 * D) (by omega) (by omega) (by omega)
  rw [Nat.zero_add] at c2 c3
  have hs : s = CP u0 N w D b := by
    have := STc_cnt c2
    rw [c4] at this
    have e1 : cntP (willGo u1 (u1 2 0) N (24 * D)) w = CP u0 N w D b := by
      unfold CP
      rw [Nat.mul_comm 24 D]
      refine cntP_congr (fun j hj => ?_)
      have hIp := post_INV h.1.1 hb
      have e20 : u1 2 0 = nI b := by rw [b3 2 (by decide), vs_s, upd_s]
      rw [e20, willGo_deq hIp (DEQ_of b3) (nI b) hj]
      have e2 : willGo (post v b) (nI b) N (D * 24) j = willGo v (nI b) N (D * 24) j := by
        show (decide (v 11 j = 0) && sentBy (post v b) (nI b) N j (D * 24)) = (decide (v 11 j = 0) && sentBy v (nI b) N j (D * 24))
        rw [sentBy_post]
      exact e2.trans (willGo_deq hI0 e0 (nI b) hj _)
    rw [← e1]
    omega
  have hGy : GD y N w := GD_deq b2.1 c8'
  obtain ⟨u3, d1, d2, d3, d4, d5⟩ := undo_c c3 c6 c8 hGy
  have hk2 := c7 b5
  have htop : l2[kV u3 - 1]? = some x := by rw [d4, show kV u2 - 1 - 1 = kV u2 - 2 by omega, c9 b5]; exact b7
  obtain ⟨u4, f1, f2, f3, f4, f5⟩ := undo_c d2 (by omega) htop (GD_deq h.1 b7')
  refine ⟨v 2 0, u1, l1, u2, l2, u3, u4, b1, a3, b2.ok, ?_, c3.ok, ⟨_, ?_, d1⟩, d2.ok, ⟨_, ?_, f1⟩, f2, (f3.tr b7').tr e0⟩
  · rw [← hs, show (24 : Int32) * nI D = nI (24 * D) from pk_mul 24 D]
    exact c1
  · have := c3.2.2.1; omega
  · have := d2.2.2.1; omega
theorem post_c (h : SG v l N w) {n D o : Nat} (hn : 2000 ≤ n) (hD1 : 1 ≤ D) (hD : D ≤ 8) (ho : o < 24) : ∃ u lu, f_L_isPostSo n v l (nI D) (nI o) = some (1, u, lu) ∧ SG u lu N w := by
  have hI := h.1.1
  have hN := h.1.2.1
  obtain ⟨b, m, a1, a2, a3, a4, a5⟩ := best_c hI hN hD1 (show D ≤ 20 by omega) (show 1000 ≤ n by omega)
  unfold f_L_isPostSo
  rw [a4, bd1_s, a5, bd1_s, ct_0 hI, bd1_s]
  by_cases qd : N / 24 ≤ 900
  · rw [if_pos (show nI (N / 24) ≤ 900 from nI_le (b := 900) qd (by decide))]
    obtain ⟨r, u1, l1, u2, l2, u3, u4, b1, b2, b3, b4, b5, ⟨j1, b6, b6'⟩, b7, ⟨j2, b8, b8'⟩, b9, b10⟩ := try_c h hI (DEQ.rfl' v) hn hD1 hD a1 (by omega)
    obtain ⟨r', w1, k1, w2, k2, w3, w4, c1, c2, c3, c4, c5, ⟨i1, c6, c6'⟩, c7, ⟨i2, c8, c8'⟩, c9, c10⟩ := try_c b9 hI b10 hn hD1 hD ho (by omega)
    rw [h.ok, ck_t, b1, bd3_s, b3, ck_t, b4, bd3_s, a2, if_pos rfl]
    unfold f_L_isPostSo_J62
    rw [b5, ck_t, b6', bd2_s, b7, ck_t, b8', bd2_s, b9.ok, ck_t, c1, bd3_s, c3, ck_t, c4, bd3_s, c5, ck_t, c6', bd2_s, c7, ck_t, c8', bd2_s, if_neg i10]
    have hC : ∀ j, CP v N w D j ≤ 30 := fun j => by have := cntP_le (willGo v (nI j) N (D * 24)) w; have := hI.1.2.2; unfold CP; omega
    have hm : m ≤ 30 := by rw [← a2]; exact hC b
    have hC1 := hC o
    obtain ⟨d1, d2⟩ := a3 o ho
    have fin : f_L_isPostSo_J130 n w4 k2 r' (nI i2) = some (1, w4, k2) := by
      unfold f_L_isPostSo_J130
      rw [if_neg (nI_pos (by omega)), if_neg c2]
    by_cases q : CP v N w D o < m
    · rw [if_pos (nI_lt q (by omega)), fin]
      exact ⟨_, _, rfl, c9⟩
    · have e : CP v N w D o = m := by omega
      rw [e, if_neg (nI_nlt (Nat.le_refl m) (by omega)), if_pos rfl, if_neg (nI_nlt (d2 e) (by omega)), fin]
      exact ⟨_, _, rfl, c9⟩
  · rw [if_neg (show ¬ nI (N / 24) ≤ 900 from nI_ge (a := 900) (b := N / 24) (by omega) (by omega)), if_neg (nI_pos (by omega))]
    exact ⟨_, _, rfl, h⟩
end PO
