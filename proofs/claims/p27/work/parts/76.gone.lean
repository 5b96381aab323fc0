/-! What is told of a letter's hours comes so. -/
theorem DEQ.tr {u v x : DV} (a : DEQ u v) (b : DEQ v x) : DEQ u x := by
  obtain ⟨a0, a1, a2, a3, a4⟩ := a
  obtain ⟨b0, b1, b2, b3, b4⟩ := b
  refine ⟨a0.trans b0, a1.trans b1, fun i hi => (a2 i hi).trans (b2 i hi), fun d hd => ?_, fun k hk => ?_⟩
  · obtain ⟨c1, c2, c3, c4⟩ := a3 d hd
    obtain ⟨d1, d2, d3, d4⟩ := b3 d hd
    exact ⟨c1.trans d1, c2.trans d2, c3.trans d3, c4.trans d4⟩
  · obtain ⟨c1, c2, c3, c4, c5, c6, c7⟩ := a4 k hk
    obtain ⟨d1, d2, d3, d4, d5, d6, d7⟩ := b4 k hk
    exact ⟨c1.trans d1, c2.trans d2, c3.trans d3, c4.trans d4, c5.trans d5, c6.trans d6, c7.trans d7⟩
theorem cnt_lt {p q : Nat → Bool} {w k : Nat} (h : ∀ j, j < w → p j = true → q j = true) (hk : k < w) (h1 : p k = false) (h2 : q k = true) : cntP p w + 1 ≤ cntP q w := by
  have a : cntP (fun j => if j = k then true else p j) w = cntP p w + 1 := cntP_flip hk h1 (if_pos rfl) (fun j hj => if_neg hj)
  rw [← a]
  refine cntP_mono (fun j hj hp => ?_) (Nat.le_refl _)
  by_cases e : j = k
  · subst e; exact h2
  · have : (if j = k then true else p j) = true := hp
    rw [if_neg e] at this
    exact h j hj this
section GON
variable {v : DV} {l : List DV} {N w : Nat}
theorem how_cases (h : INV v N w) {k : Nat} (hk : k < w) : v 11 k = 0 ∨ v 11 k = 1 ∨ v 11 k = 2 := by
  obtain ⟨j, hj, e⟩ := (h.2.2.2.1 k hk).2.2.2.2.1
  rw [e]
  rcases (show j = 0 ∨ j = 1 ∨ j = 2 by omega) with q | q | q <;> subst q
  · exact Or.inl rfl
  · exact Or.inr (Or.inl rfl)
  · exact Or.inr (Or.inr rfl)
theorem goes_c (h : GD v N w) {n k : Nat} (hk : k < w) (hn : 100 ≤ n) : f_X6_goesIn n v (nI k) = some (if v 11 k = 2 then -5 else if v 11 k = 1 then 0 else match fstF v N k (tn (v 2 0)) with | some f => if f < 1200 then nI (f + 1) else -6 | none => -6) := by
  have hI := h.1
  have h30 := hI.1.2.2
  have hp := hI.st.1
  unfold f_X6_goesIn
  rw [isL_1 hI hk, if_neg i10, ixb_nI (show k < 30 by omega) (by decide), ck_t, clq (show k < 2 ^ 31 by omega)]
  by_cases q2 : v 11 k = 2
  · rw [if_pos q2, if_pos q2]
  rw [if_neg q2, if_neg q2, ck_t]
  by_cases q1 : v 11 k = 1
  · rw [if_pos q1, if_pos q1]
  rw [if_neg q1, if_neg q1, cl_0]
  have ht := till_eq h.1 h.2.1 hk (show tn (v 2 0) < 24 by omega) (X := 1200) (by decide) (show 10 ≤ n by omega)
  rw [← hp.1] at ht
  rw [show f_X0_hoursTillSent n v (nI k) (v 2 0) 1200 = _ from ht, bd1_s]
  cases fstF v N k (tn (v 2 0)) <;> rfl
theorem undo_end (h : SG v l N w) {k n : Nat} (hk : k < w) (h0 : v 11 k = 0) {x5 x6 z0 : Int32} (h6 : x6 = 1) (hz : ¬ z0 < 0) (h5 : ¬ x5 < 0) : f_L_isGoneSo_J206 n v l (nI k) x5 x6 z0 = some (1, v, l) := by
  unfold f_L_isGoneSo_J206
  rw [h6, if_neg i10, if_neg hz, if_neg h5, oL_4 h.1.1 hk, bd2_s, if_pos h0]
theorem one_hour {t : Nat} {va : DV} (hS : STc v N w t va) (hSG : SG va l (N + t) w) {n : Nat} (hn : 2000 ≤ n) {p : Nat} (hp1 : 1 ≤ p) (hp : p ≤ 240) (hN : N + t + p < 24000) : ∃ s vb lb, chgK (kV va) (f_X0_passHours n va (nI p)) va l = some (nI s, vb, lb) ∧ STc v N w (t + p) vb ∧ SG vb lb (N + (t + p)) w ∧ cntP (isP vb 1) w = cntP (isP va 1) w + s ∧ s ≤ 30 ∧ 1 ≤ kV vb ∧ (1 ≤ kV va → 2 ≤ kV vb) ∧ (∃ x, lb[kV vb - 1]? = some x ∧ DEQ x va) ∧ (1 ≤ kV va → lb[kV vb - 2]? = l[kV va - 1]?) := by
  obtain ⟨v2, s, a1, a2, a3, a4, a5⟩ := passes_c hp1 hp (show 1000 ≤ n by omega) hS hN
  obtain ⟨u, lu, b1, b2, b3, b4, b5, b6, b7, b8⟩ := chg_yes hSG a1 (nI_pos (by omega)) a2.1
  refine ⟨s, u, lu, b1, STc_eq a2 b3, b2, ?_, a4, b5, b6, b7, b8⟩
  rw [← a3]
  exact cntP_congr (fun j _ => by unfold isP; rw [b3 11 (by decide)])
/-- so many hours, the last one by itself; and back -/
theorem gone_run (h : SG v l N w) {n k T : Nat} (hn : 2000 ≤ n) (hk : k < w) (h0 : v 11 k = 0) (hT1 : 1 ≤ T) (hT : T ≤ 240) (hN : N + T < 24000) {x3 : Int32} (hs1 : ¬ sentBy v (v 2 0) N k (T - 1) = true) (hs2 : sentBy v (v 2 0) N k T = true ↔ nI T = x3) : ∃ u lu, f_L_isGoneSo_J73 n v l (nI k) x3 (nI T) = some (1, u, lu) ∧ SG u lu N w := by
  have h30 := h.1.1.1.2.2
  -- from the state one hour ahead of the end
  have last : ∀ (va : DV) (la : List DV) (x5 : Int32), STc v N w (T - 1) va → SG va la (N + (T - 1)) w → ¬ x5 < 0 → (T = 1 ∧ (∀ j, j < 14 → va j = v j) ∨ 2 ≤ T ∧ 1 ≤ kV va ∧ ∃ x, la[kV va - 1]? = some x ∧ DEQ x v) → ∃ u lu, f_L_isGoneSo_J93 n va la (nI k) x3 (nI T) x5 = some (1, u, lu) ∧ SG u lu N w := by
    intro va la x5 hS hG h5 hback
    have hva : va 11 k = 0 := by rw [hS.2.2.2.1 k hk, if_neg (fun q => hs1 q.2), h0]
    unfold f_L_isGoneSo_J93
    rw [oL_4 hG.1.1 hk, bd2_s, if_pos hva]
    unfold f_L_isGoneSo_J109
    obtain ⟨s, vb, lb, a1, a2, a3, a4, a5, a6, a7, ⟨xb, a8, a8'⟩, a9⟩ := one_hour hS hG hn (p := 1) (by decide) (by decide) (by omega)
    rw [hG.ok, ck_t, show f_X0_passHours n va 1 = f_X0_passHours n va (nI 1) from rfl, a1, bd3_s, if_neg i10, oL_4 a3.1.1 hk, bd2_s]
    have eT : T - 1 + 1 = T := by omega
    rw [eT] at a2 a3
    have hvb : vb 11 k = if sentBy v (v 2 0) N k T = true then 1 else 0 := by
      rw [a2.2.2.2.1 k hk, h0]
      by_cases q : sentBy v (v 2 0) N k T = true
      · rw [if_pos ⟨rfl, q⟩, if_pos q]
      · rw [if_neg (fun z => q z.2), if_neg q]
    -- the way back
    have ret : ∃ u lu, f_L_isGoneSo_J183 n vb lb (nI k) (nI T) x5 1 = some (1, u, lu) ∧ SG u lu N w := by
      unfold f_L_isGoneSo_J183
      rw [a3.ok, ck_t]
      have hGx : GD xb (N + (T - 1)) w := GD_deq hG.1 a8'
      obtain ⟨u1, c1, c2, c3, c4, c5⟩ := undo_c a3 a6 a8 hGx
      rw [c1, bd2_s]
      have hpos : ¬ nI (kV vb - 1) < 0 := nI_pos (by have := a3.2.2.1; omega)
      rcases hback with ⟨e1, e2⟩ | ⟨e1, e2, x, e3, e4⟩
      · subst e1
        have hG1 : SG u1 lb N w := c2
        rw [if_pos (show nI 1 ≤ 1 by decide), undo_end hG1 hk (by rw [(c3.2.2.2.2 k (by omega)).2.2.2.2.1, (a8'.2.2.2.2 k (by omega)).2.2.2.2.1, hva]) rfl hpos h5]
        exact ⟨_, _, rfl, hG1⟩
      · rw [if_neg (show ¬ nI T ≤ 1 from nI_ge (a := 1) (b := T) (by omega) (by omega)), c2.ok, ck_t]
        have hk2 := a7 e2
        have htop : lb[kV u1 - 1]? = some x := by rw [c4, show kV vb - 1 - 1 = kV vb - 2 by omega, a9 e2]; exact e3
        obtain ⟨u2, d1, d2, d3, d4, d5⟩ := undo_c c2 (by omega) htop (GD_deq h.1 e4)
        rw [d1, bd2_s, undo_end d2 hk (by rw [(d3.2.2.2.2 k (by omega)).2.2.2.2.1, (e4.2.2.2.2 k (by omega)).2.2.2.2.1, h0]) rfl (nI_pos (by have := c2.2.2.1; omega)) h5]
        exact ⟨_, _, rfl, d2⟩
    by_cases q : sentBy v (v 2 0) N k T = true
    · rw [if_pos q] at hvb
      rw [if_pos hvb]
      unfold f_L_isGoneSo_J138 f_L_isGoneSo_J149
      have e3 := hs2.mp q
      have hs : 1 ≤ s := by
        have := cnt_lt (p := isP va 1) (q := isP vb 1) (w := w) (k := k) (fun j hj hp => by
          unfold isP at hp ⊢
          rw [decide_eq_true_iff] at hp ⊢
          rw [hS.2.2.2.1 j hj] at hp
          rw [a2.2.2.2.1 j hj]
          by_cases z : v 11 j = 0 ∧ sentBy v (v 2 0) N j (T - 1) = true
          · have z2 : sentBy v (v 2 0) N j T = true := by
              rw [← eT]
              show (sentBy v (v 2 0) N j (T - 1) || goesT v (v 2 0) N j (T - 1)) = true
              rw [z.2]; rfl
            rw [if_pos ⟨z.1, z2⟩]
          · rw [if_neg z] at hp
            rw [if_neg (fun z3 => by rw [z3.1] at hp; exact absurd hp (by decide)), hp]) hk (by unfold isP; rw [hva]; decide) (by unfold isP; rw [hvb]; decide)
        omega
      have hh : heatS vb k = vb 13 k := by unfold heatS; rw [if_pos hvb]
      obtain ⟨y, hy, ey⟩ := heatS_B a3.1.1 hk
      have hcool := a2.2.2.2.2 k hk h0 hvb
      have e2 : vb 2 1 = v 2 1 := by rw [a2.2.1 2 (by decide) (by decide) (by decide) (by decide) (by decide) (by decide)]
      have hst := h.1.1.st.2.1
      have hnl : ¬ vb 2 1 < heatS vb k := by
        rw [ey, e2, hst.1]
        rw [hh] at ey
        rw [ey, tn_nI (by omega)] at hcool
        exact nI_nlt hcool (by omega)
      rw [if_pos e3, if_pos rfl, if_pos e3, if_neg (show ¬ nI s ≤ 0 from nI_ge (a := 0) (b := s) (by omega) (by omega)), oL_2 a3.1.1 hk, bd2_s, ct_8 a3.1.1, bd1_s, if_neg hnl]
      exact ret
    · rw [if_neg q] at hvb
      rw [if_neg (show ¬ vb 11 k = 1 by rw [hvb]; decide)]
      unfold f_L_isGoneSo_J138 f_L_isGoneSo_J149
      have e3 : ¬ nI T = x3 := fun z => q (hs2.mpr z)
      rw [if_neg e3, if_pos rfl, if_neg e3]
      exact ret
  unfold f_L_isGoneSo_J73
  by_cases q : T = 1
  · subst q
    rw [if_pos (show nI 1 ≤ 1 by decide)]
    exact last v l 0 (STc_0 h.1) h (by decide) (Or.inl ⟨rfl, fun _ _ => rfl⟩)
  · rw [if_neg (show ¬ nI T ≤ 1 from nI_ge (a := 1) (b := T) (by omega) (by omega)), h.ok, ck_t, show nI T - 1 = nI (T - 1) from by
      obtain ⟨m, rfl⟩ := up1 (show 0 < T by omega)
      rw [nI_pred, Nat.add_sub_cancel]]
    obtain ⟨s, va, la, a1, a2, a3, a4, a5, a6, a7, ⟨x, a8, a8'⟩, a9⟩ := one_hour (STc_0 h.1) h hn (p := T - 1) (by omega) (by omega) (by omega)
    rw [a1, bd3_s]
    rw [Nat.zero_add] at a2 a3
    exact last va la (nI s) a2 a3 (nI_pos (by omega)) (Or.inr ⟨by omega, a6, x, a8, a8'⟩)
theorem gone_c (h : SG v l N w) {n k : Nat} (hn : 2000 ≤ n) (hk : k < w) : ∃ u lu, f_L_isGoneSo n v l (nI k) = some (1, u, lu) ∧ SG u lu N w := by
  have hI := h.1.1
  have h30 := hI.1.2.2
  have hN := h.1.2.1
  unfold f_L_isGoneSo
  rw [oL_4 hI hk, bd2_s, goes_c h.1 hk (by omega), bd1_s]
  rcases how_cases hI hk with q | q | q
  · rw [if_neg (show ¬ v 11 k = 2 by rw [q]; decide), if_neg (show ¬ v 11 k = 1 by rw [q]; decide), q, if_neg (show ¬ (0 : Int32) < 0 by decide), ct_0 hI, bd1_s]
    by_cases qd : N / 24 ≤ 900
    · rw [if_pos (show nI (N / 24) ≤ 900 from nI_le (b := 900) qd (by decide))]
      obtain ⟨ep, hp⟩ := hI.st.1
      have hsb := fun t => sentBy_fst hI hk (show tn (v 2 0) < 24 by omega) t
      rw [← ep] at hsb
      -- not within 240 hours
      have far : ∀ x3 : Int32, ¬ nI 240 = x3 → (∀ f, fstF v N k (tn (v 2 0)) = some f → 240 ≤ f) → ∃ u lu, f_L_isGoneSo_J73 n v l (nI k) x3 240 = some (1, u, lu) ∧ SG u lu N w := by
        intro x3 hx hf
        have hno : ∀ t, t ≤ 240 → ¬ sentBy v (v 2 0) N k t = true := by
          intro t ht hs
          obtain ⟨f, e1, e2⟩ := (hsb t).mp hs
          have := hf f e1
          omega
        exact gone_run h hn hk q (T := 240) (by decide) (by decide) (by omega) (hno _ (by decide)) ⟨fun hs => absurd hs (hno _ (by decide)), fun e => absurd e hx⟩
      have h6 : ¬ nI 240 = -6 := nI_ne6 (by decide)
      cases hf : fstF v N k (tn (v 2 0)) with
      | none =>
        show ∃ u lu, (if (-6 : Int32) = -6 then _ else _) = some (1, u, lu) ∧ _
        rw [if_pos rfl]
        exact far (-6) h6 (fun f e => by rw [hf] at e; cases e)
      | some f =>
        show ∃ u lu, (if (if f < 1200 then nI (f + 1) else -6) = -6 then f_L_isGoneSo_J66 n v l (nI k) (if f < 1200 then nI (f + 1) else -6) else if (if f < 1200 then nI (f + 1) else -6) ≤ 240 then f_L_isGoneSo_J73 n v l (nI k) (if f < 1200 then nI (f + 1) else -6) (if f < 1200 then nI (f + 1) else -6) else f_L_isGoneSo_J66 n v l (nI k) (if f < 1200 then nI (f + 1) else -6)) = some (1, u, lu) ∧ _
        by_cases q1 : f < 1200
        · rw [if_pos q1, if_neg (nI_ne6 (by omega))]
          by_cases q2 : f + 1 ≤ 240
          · rw [if_pos (show nI (f + 1) ≤ 240 from nI_le (b := 240) q2 (by decide))]
            refine gone_run h hn hk q (T := f + 1) (by omega) q2 (by omega) (fun hs => ?_) ⟨fun _ => rfl, fun _ => (hsb (f + 1)).mpr ⟨f, hf, by omega⟩⟩
            obtain ⟨g, e1, e2⟩ := (hsb (f + 1 - 1)).mp hs
            rw [hf] at e1
            cases e1
            omega
          · rw [if_neg (show ¬ nI (f + 1) ≤ 240 from nI_ge (a := 240) (b := f + 1) (by omega) (by omega))]
            exact far _ (fun e => by have := (nI_eq (by decide) (by omega)).mp e; omega) (fun g e => by rw [hf] at e; cases e; omega)
        · rw [if_neg q1, if_pos rfl]
          exact far (-6) h6 (fun g e => by rw [hf] at e; cases e; omega)
    · rw [if_neg (show ¬ nI (N / 24) ≤ 900 from nI_ge (a := 900) (b := N / 24) (by omega) (by omega))]
      unfold f_L_isGoneSo_J28
      rw [if_pos rfl]
      exact ⟨_, _, rfl, h⟩
  · rw [if_neg (show ¬ v 11 k = 2 by rw [q]; decide), if_pos q, q, if_pos (show (0 : Int32) < 1 by decide)]
    unfold f_L_isGoneSo_J28
    rw [if_neg i10, if_pos rfl, if_pos rfl]
    exact ⟨_, _, rfl, h⟩
  · rw [if_pos q, q, if_pos (show (0 : Int32) < 2 by decide)]
    unfold f_L_isGoneSo_J28
    rw [if_neg (show ¬ (2 : Int32) = 0 by decide), if_neg (show ¬ (2 : Int32) = 1 by decide), if_pos rfl]
    exact ⟨_, _, rfl, h⟩
end GON
