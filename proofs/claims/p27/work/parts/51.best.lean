/-! bestPost. -/
theorem cntP_or {p q r : Nat → Bool} : ∀ {w : Nat}, (∀ j, j < w → r j = (p j || q j) ∧ (p j && q j) = false) → cntP r w = cntP p w + cntP q w := by
  intro w
  induction w with
  | zero => intro _; rfl
  | succ w ih =>
    intro h
    rw [cntP_succ, cntP_succ, cntP_succ, ih (fun j hj => h j (by omega))]
    obtain ⟨h1, h2⟩ := h w (by omega)
    rw [h1]
    cases hp : p w <;> cases hq : q w <;> rw [hp, hq] at h2 <;> simp at h2 ⊢ <;> omega
section BP
variable {v : DV} {N w : Nat}
def willGo (v : DV) (P : Int32) (N t : Nat) (k : Nat) : Bool := decide (v 11 k = 0) && sentBy v P N k t
theorem ST_cnt {P : Int32} {t : Nat} {vt m : DV} (h : ST v P N w t vt m) : cntP (isP vt 1) w = cntP (isP v 1) w + cntP (willGo v P N t) w := by
  obtain ⟨-, -, -, -, -, -, -, h11⟩ := h
  refine cntP_or (fun j hj => ?_)
  unfold isP willGo
  rw [h11 j hj]
  by_cases q0 : v 11 j = 0
  · rw [q0]
    cases hs : sentBy v P N j t <;> decide
  · rw [if_neg (fun h => q0 h.1), decide_eq_false q0]
    simp
theorem passes_L {P : Int32} {A p : Nat} (hp : p ≤ 600) (hN : N < 24000) : ∀ (r t n : Nat) (m vt : DV), t + r = p → r + 500 ≤ n → ST v P N w t vt m → ∃ m2, f_X7_passes_L10 n m (nI p) (nI (cntP (isP v 1) w)) (nI t) = some (nI (cntP (willGo v P N p) w), m2) ∧ ∀ q, q ≠ 0 → m2 q = m q
  | 0, t, n, m, vt, ht, hn, hS => by
    obtain ⟨n, rfl⟩ := up1 (show 0 < n by omega)
    have : t = p := by omega
    subst this
    rw [f_X7_passes_L10, if_pos (nI_le (Nat.le_refl _) (by omega)), many_eq hS.1 hS.2.1 6 1 (by omega), stA6_cnt, bd1_s, ST_cnt hS, nI_subn (by omega), Nat.add_sub_cancel_left]
    exact ⟨m, rfl, fun _ _ => rfl⟩
  | r + 1, t, n, m, vt, ht, hn, hS => by
    obtain ⟨n, rfl⟩ := up1 (show 0 < n by omega)
    rw [f_X7_passes_L10, if_neg (nI_ge (by omega) (by omega)), nI_1]
    obtain ⟨v2, m2, a1, a2, a3⟩ := ST_step hS (by omega) (show 200 ≤ n by omega)
    rw [a1, bd1_s]
    obtain ⟨m3, b1, b2⟩ := passes_L (A := A) hp hN r (t + 1) n m2 v2 (by omega) (by omega) a2
    exact ⟨m3, b1, fun q hq => by rw [b2 q hq, a3 q hq]⟩
/-- another hour of the post -/
def post (v : DV) (h : Nat) : DV := vs v 2 (upd (v 2) 0 (nI h))
theorem post_INV (hI : INV v N w) {h : Nat} (hh : h < 24) : INV (post v h) N w := by
  refine ⟨hI.1, ⟨?_, ?_, ?_⟩, hI.2.2⟩
  · show B (upd (v 2) 0 (nI h) 0) 23
    rw [upd_s]; exact B_nI (by omega)
  · exact hI.2.1.2.1
  · exact hI.2.1.2.2
theorem lockB_post (h : Nat) (d : Nat) : ∀ t, lockB (post v h) d N t = lockB v d N t
  | 0 => rfl
  | t + 1 => by
    show keyR _ _ _ (lockB (post v h) d N t) = keyR _ _ _ (lockB v d N t)
    rw [lockB_post h d t]
    rfl
theorem sentBy_post (h : Nat) (P : Int32) (k : Nat) : ∀ t, sentBy (post v h) P N k t = sentBy v P N k t
  | 0 => rfl
  | t + 1 => by
    show (sentBy (post v h) P N k t || goesT (post v h) P N k t) = (sentBy v P N k t || goesT v P N k t)
    rw [sentBy_post h P k t]
    congr 1
    unfold goesT
    rw [lockB_post]
    rfl
theorem post_REL {s : Nat → Int32} (hR : REL v s N w) (h : Nat) : REL (post v h) (upd s 0 (nI h)) N w := by
  obtain ⟨⟨a0, a1, a2, a3, a4, a5⟩, hd, hl⟩ := hR
  refine ⟨⟨?_, ?_, ?_, ?_, ?_, ?_⟩, fun d hd6 => ?_, fun j hj => ?_⟩
  · rw [upd_s]; exact (upd_s (v 2) 0 (nI h)).symm
  · rw [upd_o _ _ (by decide)]; exact a1
  · rw [upd_o _ _ (by decide)]; exact a2
  · rw [upd_o _ _ (by decide)]; exact a3
  · rw [upd_o _ _ (by decide)]; exact a4
  · rw [upd_o _ _ (by decide)]; exact a5
  · rw [upd_o _ _ (by omega), upd_o _ _ (by omega), upd_o _ _ (by omega), upd_o _ _ (by omega)]
    exact hd d hd6
  · rw [upd_o _ _ (by omega), upd_o _ _ (by omega), upd_o _ _ (by omega), upd_o _ _ (by omega), upd_o _ _ (by omega), upd_o _ _ (by omega), upd_o _ _ (by omega)]
    exact hl j hj
theorem passes_post {m : DV} (hI : INV v N w) (hN : N < 24000) (hR : REL v (m 0) N w) {h p n : Nat} (hh : h < 24) (hp : p ≤ 600) (hn : 1200 ≤ n) : ∃ m2, f_X7_passes n (vs m 0 (upd (m 0) 0 (nI h))) (nI p) = some (nI (cntP (willGo v (nI h) N p) w), m2) ∧ ∀ q, q ≠ 0 → m2 q = m q := by
  have hI1 := post_INV hI hh
  have hR1 : REL (post v h) ((vs m 0 (upd (m 0) 0 (nI h))) 0) N w := by rw [vs_s]; exact post_REL hR h
  have hS := ST_0 (m := vs m 0 (upd (m 0) 0 (nI h))) hI1 hR1
  rw [show post v h 2 0 = nI h from upd_s (v 2) 0 (nI h)] at hS
  obtain ⟨m2, a1, a2⟩ := passes_L (A := 0) hp hN p 0 n _ _ (by omega) (by omega) hS
  unfold f_X7_passes
  rw [many_eq hI1 hR1 6 1 (by omega), stA6_cnt, bd1_s, show f_X7_passes_L10 n _ (nI p) _ 0 = _ from a1]
  have e : cntP (willGo (post v h) (nI h) N p) w = cntP (willGo v (nI h) N p) w := cntP_congr (fun j _ => by
    show (decide (v 11 j = 0) && sentBy (post v h) (nI h) N j p) = (decide (v 11 j = 0) && sentBy v (nI h) N j p)
    rw [sentBy_post])
  rw [e]
  exact ⟨m2, rfl, fun q hq => by rw [a2 q hq, vs_o m _ hq]⟩
/-- the class counts those that are sent within X hours -/
theorem within_L (hI : INV v N w) (hN : N < 24000) {h X : Nat} (hh : h < 24) (hX : X ≤ 1200) : ∀ (r i n c : Nat), i + r = w → r + 20 ≤ n → f_X0_sentWithin_L5 n v (nI h) (nI X) (nI c) (nI i) = some (nI (lp (fun j a => if willGo v (nI h) N X j then a + 1 else a) r i c))
  | 0, i, n, c, hi, hn => by
    obtain ⟨n, rfl⟩ := up1 (show 0 < n by omega)
    have h30 := hI.1.2.2
    rw [f_X0_sentWithin_L5, hI.1.2.1, if_pos (nI_le (by omega) (by omega))]
    rfl
  | r + 1, i, n, c, hi, hn => by
    obtain ⟨n, rfl⟩ := up1 (show 0 < n by omega)
    have h30 := hI.1.2.2
    have hiw : i < w := by omega
    have ih := fun c => within_L hI hN hh hX r (i + 1) n c (by omega) (by omega)
    rw [f_X0_sentWithin_L5, hI.1.2.1, if_neg (nI_ge (by omega) (by omega))]
    simp only [ixb_nI (show i < 30 by omega) (by decide), ck_t, clq (show i < 2 ^ 31 by omega), nI_1]
    rw [till_eq hI hN hiw hh hX (by omega), bd1_s]
    show _ = some (nI (lp _ r (i + 1) (if willGo v (nI h) N X i then c + 1 else c)))
    have hs := sentBy_fst hI hiw hh X
    unfold willGo
    by_cases q : v 11 i = 0
    · rw [if_pos q, decide_eq_true q, Bool.true_and]
      cases hf : fstF v N i h with
      | none =>
        have : ¬ sentBy v (nI h) N i X = true := fun e => by
          obtain ⟨f, h1, -⟩ := hs.mp e
          rw [hf] at h1; cases h1
        rw [if_neg this]
        simp only [if_true]
        exact ih c
      | some f =>
        by_cases q2 : f < X
        · have : sentBy v (nI h) N i X = true := hs.mpr ⟨f, hf, q2⟩
          rw [if_pos this]
          simp only [if_pos q2]
          rw [if_neg (nI_ne6 (by omega))]
          exact ih (c + 1)
        · have : ¬ sentBy v (nI h) N i X = true := fun e => by
            obtain ⟨g, h1, h2⟩ := hs.mp e
            rw [hf] at h1; cases h1; exact q2 h2
          rw [if_neg this]
          simp only [if_neg q2, if_true]
          exact ih c
    · rw [if_neg q, decide_eq_false q]
      simp only [Bool.false_and, Bool.false_eq_true, if_false]
      exact ih c
theorem best_L {s : Nat → Int32} (hI : INV v N w) (hN : N < 24000) (hR : REL v s N w) {D : Nat} (hD : D ≤ 20) (p2 : Int32) : ∀ (r h n n' : Nat) (m : DV) (x3 x4 y4 : Int32), h + r = 24 → r + 100 ≤ n → r + 3000 ≤ n' → (∀ j, j < 240 → m 0 j = s j ∧ m 1 j = s j) → (y4 = x4 ∨ (h = 0 ∧ x3 = 0 ∧ x4 = 0 ∧ y4 = -1)) → ∃ x m2, f_X6_bestPost_L31 n v (nI D) p2 x3 x4 (nI h) = some x ∧ f_X7_bestPost_L34 n' m (nI D) p2 x3 y4 (nI h) = some (x, m2) ∧ (∀ j, j < 240 → m2 0 j = s j) ∧ ∀ q, q ≠ 0 → m2 q = m q
  | 0, h, n, n', m, x3, x4, y4, hh, hn, hn', hm, hy => by
    obtain ⟨n, rfl⟩ := up1 (show 0 < n by omega)
    obtain ⟨n', rfl⟩ := up1 (show 0 < n' by omega)
    have : h = 24 := by omega
    subst this
    rcases hy with e | ⟨e, -⟩
    · subst e
      rw [f_X6_bestPost_L31, f_X7_bestPost_L34, if_pos (show (24 : Int32) ≤ nI 24 by decide), if_pos (show (24 : Int32) ≤ nI 24 by decide)]
      by_cases q : p2 = 0
      · rw [if_pos q, if_pos q]; exact ⟨_, _, rfl, rfl, fun j hj => (hm j hj).1, fun _ _ => rfl⟩
      · rw [if_neg q, if_neg q]; exact ⟨_, _, rfl, rfl, fun j hj => (hm j hj).1, fun _ _ => rfl⟩
    · exact absurd e (by decide)
  | r + 1, h, n, n', m, x3, x4, y4, hh, hn, hn', hm, hy => by
    obtain ⟨n, rfl⟩ := up1 (show 0 < n by omega)
    obtain ⟨n', rfl⟩ := up1 (show 0 < n' by omega)
    have h30 := hI.1.2.2
    have hlt : ¬ (24 : Int32) ≤ nI h := nI_ge (a := h) (b := 24) (by omega) (by decide)
    have e24 : (24 : Int32) * nI D = nI (D * 24) := by
      show nI 24 * nI D = _
      rw [pk_mul, Nat.mul_comm]
    have e24' : nI D * 24 = nI (D * 24) := pk_mul D 24
    rw [f_X6_bestPost_L31, f_X7_bestPost_L34, if_neg hlt, if_neg hlt, cl_0, lt_s1, e24, e24', nI_1]
    have hR1 : REL v (m 0) N w := REL_deq hR h30 (DEQ.rfl' v) (fun j hj => (hm j hj).1)
    obtain ⟨m2, a1, a2⟩ := passes_post hI hN hR1 (show h < 24 by omega) (show D * 24 ≤ 600 by omega) (show 1200 ≤ n' by omega)
    unfold f_X0_sentWithin
    rw [show f_X0_sentWithin_L5 n v (nI h) (nI (D * 24)) 0 0 = _ from within_L hI hN (show h < 24 by omega) (show D * 24 ≤ 1200 by omega) w 0 n 0 (by omega) (by omega), a1, bd1_s, bd2_s]
    have hc : lp (fun j a => if willGo v (nI h) N (D * 24) j = true then a + 1 else a) w 0 0 = cntP (willGo v (nI h) N (D * 24)) w := rfl
    rw [hc]
    have hc30 : cntP (willGo v (nI h) N (D * 24)) w ≤ 30 := by have := cntP_le (willGo v (nI h) N (D * 24)) w; omega
    generalize cntP (willGo v (nI h) N (D * 24)) w = c at *
    obtain ⟨m3, b1, b2, b3⟩ := putBack_eq m2 (show 300 ≤ n' by omega)
    have hm3 : ∀ j, j < 240 → m3 0 j = s j ∧ m3 1 j = s j := fun j hj => by
      rw [b2 j hj, b3 1 (by decide), a2 1 (by decide), (hm j hj).2]
      exact ⟨rfl, rfl⟩
    have go : ∀ y3 x4' : Int32, ∃ x m2', f_X6_bestPost_L31 n v (nI D) p2 y3 x4' (nI (h + 1)) = some x ∧ f_X7_bestPost_L34 n' m3 (nI D) p2 y3 x4' (nI (h + 1)) = some (x, m2') ∧ (∀ j, j < 240 → m2' 0 j = s j) ∧ ∀ q, q ≠ 0 → m2' q = m q := by
      intro y3 x4'
      obtain ⟨x, m4, c1, c2, c3, c4⟩ := best_L hI hN hR hD p2 r (h + 1) n n' m3 y3 x4' x4' (by omega) (by omega) (by omega) hm3 (Or.inl rfl)
      exact ⟨x, m4, c1, c2, c3, fun q hq => by rw [c4 q hq, b3 q hq, a2 q hq]⟩
    unfold f_X7_bestPost_J72
    simp only [b1, bd1_s, nI_1]
    rcases hy with e | ⟨e1, e2, e3, e4⟩
    · subst e
      by_cases q : nI c ≤ y4
      · rw [if_pos q, if_pos q, if_pos q]; exact go _ _
      · rw [if_neg q, if_neg q, if_neg q]; exact go _ _
    · subst e1 e2 e3 e4
      have hm1 : ¬ nI c ≤ -1 := by
        rw [Int32.le_iff_toInt_le, nI_toInt (by omega)]
        have : (-1 : Int32).toInt = -1 := by decide
        omega
      rw [if_neg hm1, if_neg hm1]
      by_cases q : c = 0
      · subst q
        rw [if_pos (by decide)]; exact go _ _
      · rw [if_neg (show ¬ nI c ≤ 0 from nI_ge (a := 0) (b := c) (by omega) (by omega))]; exact go _ _
theorem bestPost_eq {m : DV} (hI : INV v N w) (hN : N < 24000) (hR : REL v (m 0) N w) {n n' : Nat} (hn : 1000 ≤ n) (hn' : 4000 ≤ n') (p1 p2 : Int32) : ∃ r m2, f_X6_bestPost n v p1 p2 = some r ∧ f_X7_bestPost n' m p1 p2 = some (r, m2) ∧ (∀ j, j < 240 → m2 0 j = m 0 j) ∧ ∀ i, i ≠ 0 → i ≠ 1 → m2 i = m i := by
  have h10 : ¬ (1 : Int32) = 0 := by decide
  unfold f_X6_bestPost f_X7_bestPost
  rcases in1_cases p1 (hi := 20) (by decide) with ⟨e, q⟩ | ⟨e, D, hD1, hD, rfl⟩
  · rw [show f_X7_in p1 1 20 = 0 from e, if_pos rfl]
    rcases q with q | ⟨q, q2⟩
    · rw [if_pos q]; exact ⟨_, _, rfl, rfl, fun _ _ => rfl, fun _ _ _ => rfl⟩
    · rw [if_neg q, if_pos (show (20 : Int32) < p1 by
        rw [Int32.lt_iff_toInt_lt]
        rw [Int32.le_iff_toInt_le] at q2
        have : (nI 20).toInt = (20 : Int32).toInt := rfl
        omega)]
      exact ⟨_, _, rfl, rfl, fun _ _ => rfl, fun _ _ _ => rfl⟩
  rw [show f_X7_in (nI D) 1 20 = 1 from e, if_neg h10, if_neg (show ¬ nI D < 1 from nI_nlt (b := 1) (a := D) hD1 (by omega)), if_neg (show ¬ (20 : Int32) < nI D from nI_nlt (b := D) (a := 20) hD (by decide))]
  rcases in0_cases p2 (hi := 1) (by decide) with ⟨e, q⟩ | ⟨e, j, hj, rfl⟩
  · rw [show f_X7_in p2 0 1 = 0 from e, if_pos rfl]
    rcases q with q | ⟨q, q2⟩
    · rw [if_pos q]; exact ⟨_, _, rfl, rfl, fun _ _ => rfl, fun _ _ _ => rfl⟩
    · rw [if_neg q, if_neg (show ¬ p2 ≤ 1 from q2)]; exact ⟨_, _, rfl, rfl, fun _ _ => rfl, fun _ _ _ => rfl⟩
  rw [show f_X7_in (nI j) 0 1 = 1 from e, if_neg h10, if_neg (nI_pos (by omega)), if_pos (show nI j ≤ 1 from nI_le (b := 1) hj (by decide))]
  obtain ⟨m1, c1, c2, c3⟩ := putAside_eq m (show 300 ≤ n' by omega)
  rw [c1, bd1_s]
  obtain ⟨x, m2, a1, a2, a3, a4⟩ := best_L (s := m 0) hI hN hR hD (nI j) 24 0 n n' m1 0 0 (-1) rfl (by omega) (by omega) (fun i hi => ⟨by rw [c3 0 (by decide)], c2 i hi⟩) (Or.inr ⟨rfl, rfl, rfl, rfl⟩)
  exact ⟨x, m2, a1, a2, a3, fun i i0 i1 => by rw [a4 i i0, c3 i i1]⟩
end BP
