/-! The law's step: whatever it does leaves a sound desk. -/
theorem low_eq (x : Int32) {m : Nat} (h0 : 0 < m) (hm : m < 2 ^ 31) : ∃ j, j < m ∧ f_L_low x (nI m) = some (nI j) := by
  obtain ⟨n, hn, rfl⟩ := wb_of32 x
  refine ⟨n % 2 ^ 31 % m, Nat.mod_lt _ h0, ?_⟩
  unfold f_L_low
  rw [decide_eq_true (nI_ne0 h0 hm), ck_t, pk_andN hn 31 (by decide), pk_rem (by omega) h0 hm]
theorem low_lit (x y : Int32) (m : Nat) (hy : y = nI m) (h0 : 0 < m) (hm : m < 2 ^ 31) : ∃ j, j < m ∧ f_L_low x y = some (nI j) := by
  subst hy; exact low_eq x h0 hm
section DOE
variable {v : DV} {l : List DV} {N w : Nat}
theorem sent_L (h : INV v N w) : ∀ (r i n : Nat) (x2 : Int32), i + r = w → r < n → ∃ y, f_L_sent_L24 n v x2 (nI i) = some (y, v)
  | 0, i, n, x2, hi, hn => by
    obtain ⟨n, rfl⟩ := up1 hn
    have h30 := h.1.2.2
    rw [f_L_sent_L24, ct_2 h, bd1_s, if_pos (nI_le (by omega) (by omega))]
    exact ⟨_, rfl⟩
  | r + 1, i, n, x2, hi, hn => by
    obtain ⟨n, rfl⟩ := up1 (show 0 < n by omega)
    have h30 := h.1.2.2
    rw [f_L_sent_L24, ct_2 h, bd1_s, if_neg (nI_ge (by omega) (by omega)), oL_4 h (show i < w by omega), bd2_s, nI_1]
    have ih := fun x => sent_L h r (i + 1) n x (by omega) (by omega)
    by_cases q : x2 < 0
    · rw [if_pos q]; exact ⟨_, rfl⟩
    rw [if_neg q]
    by_cases q1 : v 11 i = 1
    · rw [if_pos q1]
      by_cases q2 : 0 ≤ x2 - 1
      · rw [if_pos q2]; exact ih _
      · rw [if_neg q2]; exact ⟨_, rfl⟩
    · rw [if_neg q1]
      by_cases q2 : 0 ≤ x2 - 0
      · rw [if_pos q2]; exact ih _
      · rw [if_neg q2]; exact ⟨_, rfl⟩
theorem sent_c (h : INV v N w) {n : Nat} (hn : 100 ≤ n) (p : Int32) : ∃ y, f_L_sent n v p = some (y, v) := by
  have h30 := h.1.2.2
  unfold f_L_sent
  rw [ct_4 h hn, bd1_s]
  have hc := cntP_le (isP v 1) w
  by_cases q : cntP (isP v 1) w = 0
  · rw [q, if_pos (show nI 0 = 0 from rfl)]
    exact sent_L h w 0 n _ (by omega) (by omega)
  · rw [if_neg (nI_ne0 (by omega) (by omega)), bd1_s]
    obtain ⟨j, hj, e⟩ := low_eq p (m := cntP (isP v 1) w) (by omega) (by omega)
    rw [e, bd1_s]
    exact sent_L h w 0 n _ (by omega) (by omega)
/-- one change, whatever it is -/
theorem one_c (h : SG v l N w) {F : Option (Int32 × DV)} (hF : RES v N w F) : ∃ r u lu N1 w1, ck (kOK v l) (bd3 (chgK (kV v) F v l) (fun a b c => some (a, b, c))) = some (r, u, lu) ∧ ¬ r < -6 ∧ N ≤ N1 ∧ SG u lu N1 w1 := by
  obtain ⟨r, u, lu, N1, w1, a, b, c, -, d⟩ := chg_any h hF
  exact ⟨r, u, lu, N1, w1, by rw [h.ok, ck_t, a, bd3_s], b, c, d⟩
theorem does_wr (h : SG v l N w) {n : Nat} (hn : 2000 ≤ n) (p r5 : Int32) : ∃ r u lu N1 w1, bd1 (f_L_low (p >>> (7 &&& 31)) 70) (fun r72 =>
    (if ((p >>> (14 &&& 31)) &&& 1) = 0 then
    ck (kOK v l) (bd3 (chgK (kV v) (f_X0_writeLetter n v r5 r72 (-6)) v l) (fun r97 v97 l97 =>
    some (r97, v97, l97)))
    else
    bd2 (f_L_sent n v (p >>> (15 &&& 31))) (fun r94 v94 =>
    ck (kOK v94 l) (bd3 (chgK (kV v94) (f_X0_writeLetter n v94 r5 r72 r94) v94 l) (fun r97 v97 l97 =>
    some (r97, v97, l97)))))) = some (r, u, lu) ∧ ¬ r < -6 ∧ N ≤ N1 ∧ SG u lu N1 w1 := by
  obtain ⟨j, hj, e⟩ := low_lit (p >>> (7 &&& 31)) 70 70 rfl (by decide) (by decide)
  rw [e, bd1_s]
  by_cases q : ((p >>> (14 &&& 31)) &&& 1) = 0
  · rw [if_pos q]
    exact one_c h (write_c h.1 hn _ _ _)
  · rw [if_neg q]
    obtain ⟨y, e2⟩ := sent_c h.1.1 (show 100 ≤ n by omega) (p >>> (15 &&& 31))
    rw [e2, bd2_s]
    exact one_c h (write_c h.1 hn _ _ _)
theorem does_hr (h : SG v l N w) (n : Nat) (x1 z0 z1 : Int32) : ∃ r u lu N1 w1, f_L_does_J172 n v l x1 z0 z1 = some (r, u, lu) ∧ ¬ r < -6 ∧ N ≤ N1 ∧ SG u lu N1 w1 := by
  unfold f_L_does_J172
  obtain ⟨j, hj, e⟩ := low_lit (x1 >>> (9 &&& 31)) 24 24 rfl (by decide) (by decide)
  obtain ⟨j2, hj2, e2⟩ := low_lit (x1 >>> (14 &&& 31)) 24 24 rfl (by decide) (by decide)
  rw [e, e2, bd1_s, bd1_s, bd1_s, bd1_s]
  by_cases q : nI j = nI j2
  · rw [if_pos q]
    exact one_c h (hours_c h.1 _ _ _)
  · rw [if_neg q]
    exact one_c h (hours_c h.1 _ _ _)
theorem set_r (h : GD v N w) {i hi x : Nat} (hi3 : i < 3) (hh : hsF i = nI hi) (hbd : (i = 0 → hi = 23) ∧ (i = 1 → hi = 99) ∧ (i = 2 → hi = 20)) (hx : x ≤ hi) : RES v N w (f_X0_changeSetting v (nI i) (nI x)) := by
  obtain ⟨a, b, c⟩ := set_x h i hi hi3 hh hbd hx
  exact res_ok c (Nat.le_refl w) a b
theorem does_c (h : SG v l N w) {n : Nat} (hn : 2000 ≤ n) (p : Int32) : ∃ r u lu N1 w1, f_L_does n v l p = some (r, u, lu) ∧ ¬ r < -6 ∧ N ≤ N1 ∧ SG u lu N1 w1 := by
  have hI := h.1.1
  have h30 := hI.1.2.2
  unfold f_L_does
  obtain ⟨d, hd, e⟩ := low_lit (p >>> (4 &&& 31)) 6 6 rfl (by decide) (by decide)
  rw [e, bd1_s]
  by_cases q0 : (p &&& 15) = 0
  · rw [if_pos q0]; exact does_wr h hn p _
  rw [if_neg q0]
  by_cases q1 : (p &&& 15) = 1
  · rw [if_pos q1]; exact does_wr h hn p _
  rw [if_neg q1]
  by_cases q2 : (p &&& 15) = 2
  · rw [if_pos q2]; exact does_wr h hn p _
  rw [if_neg q2]
  by_cases q3 : (p &&& 15) = 3
  · rw [if_pos q3]; exact does_wr h hn p _
  rw [if_neg q3]
  by_cases q4 : (p &&& 15) = 4
  · rw [if_pos q4]
    by_cases q : ((p >>> (7 &&& 31)) &&& 3) = 0
    · rw [if_pos q]; exact one_c h (turn_c h.1 _)
    · rw [if_neg q]
      obtain ⟨j, hj, e⟩ := low_lit (p >>> (9 &&& 31)) 4 4 rfl (by decide) (by decide)
      rw [e, bd1_s]; exact one_c h (rest_c h.1 _ _)
  rw [if_neg q4]
  by_cases q5 : (p &&& 15) = 5
  · rw [if_pos q5]
    obtain ⟨j, hj, e⟩ := low_lit (p >>> (7 &&& 31)) 31 31 rfl (by decide) (by decide)
    rw [e, bd1_s]; exact one_c h (rest_c h.1 _ _)
  rw [if_neg q5]
  by_cases q6 : (p &&& 15) = 6
  · rw [if_pos q6]
    by_cases q : ((p >>> (7 &&& 31)) &&& 3) = 0
    · rw [if_pos q]; exact does_hr h n p _ _
    · rw [if_neg q]
      obtain ⟨j, hj, e⟩ := low_lit (p >>> (9 &&& 31)) 24 24 rfl (by decide) (by decide)
      rw [e, bd1_s]; exact does_hr h n p _ _
  rw [if_neg q6]
  by_cases q7 : (p &&& 15) = 7
  · rw [if_pos q7, ct_2 hI, bd1_s]
    by_cases q : w = 0
    · subst q
      rw [if_pos (show nI 0 = 0 from rfl)]
      exact ⟨0, v, l, N, 0, rfl, by decide, Nat.le_refl N, h⟩
    · rw [if_neg (nI_ne0 (by omega) (by omega)), bd1_s]
      obtain ⟨j, hj, e⟩ := low_eq (p >>> (4 &&& 31)) (m := w) (by omega) (by omega)
      rw [e, bd1_s]; exact one_c h (burn_c h.1 _)
  rw [if_neg q7]
  by_cases q8 : (p &&& 15) = 8
  · rw [if_pos q8]
    obtain ⟨i, hi, e⟩ := low_lit (p >>> (4 &&& 31)) 3 3 rfl (by decide) (by decide)
    rw [e, bd1_s]
    rcases (show i = 0 ∨ i = 1 ∨ i = 2 by omega) with q | q | q <;> subst q
    · rw [if_pos (show nI 0 = 0 from rfl)]
      obtain ⟨j, hj, e⟩ := low_lit (p >>> (6 &&& 31)) 24 24 rfl (by decide) (by decide)
      rw [e, bd1_s]; exact one_c h (set_r h.1 (hi := 23) (by decide) rfl ⟨fun _ => rfl, fun h => absurd h (by decide), fun h => absurd h (by decide)⟩ (by omega))
    · rw [if_neg (show ¬ nI 1 = 0 by decide), if_pos (show nI 1 = 1 from rfl)]
      obtain ⟨j, hj, e⟩ := low_lit (p >>> (6 &&& 31)) 100 100 rfl (by decide) (by decide)
      rw [e, bd1_s]; exact one_c h (set_r h.1 (hi := 99) (by decide) rfl ⟨fun h => absurd h (by decide), fun _ => rfl, fun h => absurd h (by decide)⟩ (by omega))
    · rw [if_neg (show ¬ nI 2 = 0 by decide), if_neg (show ¬ nI 2 = 1 by decide)]
      obtain ⟨j, hj, e⟩ := low_lit (p >>> (6 &&& 31)) 21 21 rfl (by decide) (by decide)
      rw [e, bd1_s]; exact one_c h (set_r h.1 (hi := 20) (by decide) rfl ⟨fun h => absurd h (by decide), fun h => absurd h (by decide), fun _ => rfl⟩ (by omega))
  rw [if_neg q8]
  obtain ⟨j, hj, e⟩ := low_lit (p >>> (4 &&& 31)) 40 40 rfl (by decide) (by decide)
  rw [e, bd1_s, show (1 : Int32) + nI j = nI (1 + j) from nI_add 1 j]
  exact one_c h (pass_r h.1 (by omega) (by omega) (by omega))
end DOE
