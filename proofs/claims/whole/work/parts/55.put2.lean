/-! put: the characters' places. -/
section PP
variable {M : Nat}
def byt (M i : Nat) : Nat := M / 2 ^ (8 * i) % 256
theorem byt_lt (M i : Nat) : byt M i < 256 := Nat.mod_lt _ (by decide)
/-- the reference's placing -/
theorem put_L126 (hM : M < 2 ^ 64) {L c : Nat} (hc : c ≤ 8) (hL : L + c ≤ 80) : ∀ (r i n : Nat) (m : DV), i + r = c → r < n → m 9 0 = nI L → (∀ j, j < i → m 5 (L + c - 1 - j) = nI (byt M j)) → ∃ m2, f_X7_put_L126 n m (lN M) (nI c) (nI i) = some (nI (L + c), m2) ∧ m2 9 0 = nI (L + c) ∧ (∀ j, j < c → m2 5 (L + c - 1 - j) = nI (byt M j)) ∧ (∀ j, j < L → m2 5 j = m 5 j) ∧ ∀ q, q ≠ 5 → q ≠ 9 → m2 q = m q
  | 0, i, n, m, hi, hn, h9, hb => by
    obtain ⟨n, rfl⟩ := up1 hn
    have : i = c := by omega
    subst this
    rw [f_X7_put_L126, if_pos (nI_le (Nat.le_refl _) (by omega)), h9, nI_add]
    exact ⟨_, rfl, rfl, hb, fun _ _ => rfl, fun q _ q9 => vs_o m _ q9⟩
  | r + 1, i, n, m, hi, hn, h9, hb => by
    obtain ⟨n, rfl⟩ := up1 (show 0 < n by omega)
    have hMi : M / 2 ^ (8 * i) < 2 ^ 64 := Nat.lt_of_le_of_lt (Nat.div_le_self _ _) hM
    have e : nI L + nI c - 1 - nI i = nI (L + c - 1 - i) := by
      rw [nI_add, show nI (L + c) = nI (L + c - 1 + 1) by rw [show L + c - 1 + 1 = L + c by omega], nI_pred, nI_subn (by omega)]
    rw [f_X7_put_L126, if_neg (nI_ge (by omega) (by omega)), h9, e, shr8k hM (by omega), and255 hMi, toI32_b _ (Nat.mod_lt _ (by decide))]
    simp only [ixb_nI (show L + c - 1 - i < 80 by omega) (by decide), ck_t, lt_s1, clq (show L + c - 1 - i < 2 ^ 31 by omega), nI_1]
    obtain ⟨m2, a1, a2, a3, a4, a5⟩ := put_L126 hM hc hL r (i + 1) n (vs m 5 (upd (m 5) (L + c - 1 - i) (nI (M / 2 ^ (8 * i) % 256)))) (by omega) (by omega) h9 (fun j hj => by
      rw [vs_s]
      by_cases q : j = i
      · subst q; rw [upd_s]; rfl
      · rw [upd_o _ _ (by omega)]; exact hb j (by omega))
    refine ⟨m2, a1, a2, a3, fun j hj => ?_, fun q hq q9 => by rw [a5 q hq q9, vs_o m _ hq]⟩
    rw [a4 j hj, vs_s, upd_o _ _ (by omega)]
/-- the class's appending -/
theorem put_L34 (hM : M < 2 ^ 64) {L c : Nat} (hc : c ≤ 8) (hL : L + c ≤ 80) : ∀ (k n : Nat) (v : DV), k ≤ c → k < n → v 16 0 = nI (L + (c - k)) → (∀ j, j < c → k ≤ j → v 15 (L + c - 1 - j) = nI (byt M j)) → ∃ u, f_X6_put_L34 n v (lN M) (nI k + -1) = some (nI (L + c), u) ∧ u 16 0 = nI (L + c) ∧ (∀ j, j < c → u 15 (L + c - 1 - j) = nI (byt M j)) ∧ (∀ j, j < L → u 15 j = v 15 j) ∧ ∀ q, q ≠ 15 → q ≠ 16 → u q = v q
  | 0, n, v, hk, hn, h16, hb => by
    obtain ⟨n, rfl⟩ := up1 hn
    rw [f_X6_put_L34, if_pos m1_neg, h16, Nat.sub_zero]
    exact ⟨v, rfl, h16, fun j hj => hb j hj (Nat.zero_le j), fun _ _ => rfl, fun _ _ _ => rfl⟩
  | k + 1, n, v, hk, hn, h16, hb => by
    obtain ⟨n, rfl⟩ := up1 (show 0 < n by omega)
    have hMk : M / 2 ^ (8 * k) < 2 ^ 64 := Nat.lt_of_le_of_lt (Nat.div_le_self _ _) hM
    have hpos : L + (c - (k + 1)) = L + c - 1 - k := by omega
    rw [m1_step, f_X6_put_L34, if_neg (nI_pos (by omega)), shr8k hM (by omega), and255 hMk]
    unfold f_X4_append
    rw [h16, hpos, if_neg (show ¬ (80 : Int32) ≤ nI (L + c - 1 - k) from nI_ge (a := L + c - 1 - k) (b := 80) (by omega) (by decide)), chr_b _ (Nat.mod_lt _ (by decide)), nI_1]
    simp only [ixb_nI (show L + c - 1 - k < 80 by omega) (by decide), ck_t, bd1_s, clq (show L + c - 1 - k < 2 ^ 31 by omega)]
    have emx : ∀ f g, mx [15, 16, 17, 18, 19, 20, 21] v (vs (vs v 15 f) 16 g) = vs (vs v 15 f) 16 g := by
      intro f g
      funext j
      by_cases q16 : j = 16
      · subst q16; rfl
      · by_cases q15 : j = 15
        · subst q15; rfl
        · have : (vs (vs v 15 f) 16 g) j = v j := by rw [vs_o _ _ q16, vs_o _ _ q15]
          rw [mx_o _ this, this]
    rw [emx]
    obtain ⟨u, a1, a2, a3, a4, a5⟩ := put_L34 hM hc hL k n (vs (vs v 15 (upd (v 15) (L + c - 1 - k) (nI (M / 2 ^ (8 * k) % 256)))) 16 (fun _ => nI (L + c - 1 - k + 1))) (by omega) (by omega) (by rw [vs_s]; congr 1; omega) (fun j hj hkj => by
      rw [vs_o _ _ (show (15 : Nat) ≠ 16 by decide), vs_s]
      by_cases q : j = k
      · subst q; rw [upd_s]; rfl
      · rw [upd_o _ _ (by omega)]; exact hb j hj (by omega))
    refine ⟨u, a1, a2, a3, fun j hj => ?_, fun q h15 h16 => by rw [a5 q h15 h16, vs_o _ _ h16, vs_o _ _ h15]⟩
    rw [a4 j hj, vs_o _ _ (show (15 : Nat) ≠ 16 by decide), vs_s, upd_o _ _ (by omega)]
end PP
section PE
variable {k : Nat} {v : DV} {l : List DV} {sv : Nat → Option DV} {m : DV}
theorem SIM.pad {u m2 : DV} (h : SIM k v l sv m) (hp : PADR u m2) (hv : ∀ q, q ≠ 15 → q ≠ 16 → u q = v q) (hm : ∀ q, q ≠ 5 → q ≠ 9 → m2 q = m q) : SIM k u l sv m2 := by
  obtain ⟨a, b, c, d, f⟩ := h
  refine ⟨a.deq (DEQ_of (fun j hj => hv j (by omega) (by omega))) (fun j _ => by rw [hm 0 (by decide) (by decide)]), hp, by rw [hv 22 (by decide) (by decide), c], d.eqm (hm 2 (by decide) (by decide)) (hm 8 (by decide) (by decide)), f.eqm (hm 3 (by decide) (by decide)) (hm 4 (by decide) (by decide))⟩
theorem wipe_eq (h : SIM k v l sv m) : ∃ r u m2, f_X6_wipe v = some (r, u) ∧ f_X7_wipe m = some (r, m2) ∧ SIM k u l sv m2 := by
  obtain ⟨L, hL, e1, e2, -⟩ := id h.2.1
  unfold f_X6_wipe f_X7_wipe
  rw [e1, e2]
  exact ⟨_, _, _, rfl, rfl, h.pad ⟨0, by omega, rfl, rfl, fun j hj => absurd hj (Nat.not_lt_zero j)⟩ (fun q _ h16 => vs_o v _ h16) (fun q _ h9 => vs_o m _ h9)⟩
theorem put_eq (h : SIM k v l sv m) {n n' : Nat} (hn : 100 ≤ n) (hn' : 100 ≤ n') (p1 : Int64) : ∃ r u m2, f_X6_put n v p1 = some (r, u) ∧ f_X7_put n' m p1 = some (r, m2) ∧ SIM k u l sv m2 := by
  obtain ⟨M, hM, rfl⟩ := wb_of p1
  obtain ⟨L, hL, e1, e2, hch⟩ := id h.2.1
  unfold f_X6_put f_X7_put f_X6_charactersIn
  have hx := put_L8 hM m 8 0 n' rfl (by omega)
  rw [Nat.mul_zero, Nat.pow_zero, Nat.div_one] at hx
  rw [show f_X6_charactersIn_L4 n 0 (lN M) = _ from chars_L4 8 0 n M rfl (by omega) hM, bd1_s, show f_X7_put_L8 n' m (lN M) 0 0 0 = _ from hx]
  have hle := cF_le 8 0 M
  have hok := cF_ok 8 0 M
  generalize cF 8 0 M = c at *
  by_cases q : c = 0
  · subst q
    rw [if_pos (show nI 0 = 0 from rfl), if_pos rfl]
    exact ⟨_, _, _, rfl, rfl, h⟩
  have q' : ¬ nI c = 0 := fun e => q ((nI_eq (b := 0) (by omega) (by decide)).mp e)
  rw [if_neg q', if_neg q, e1, nI_add]
  unfold endE
  rw [if_pos rfl, e2, nI_add]
  by_cases q80 : L + c ≤ 80
  · rw [if_pos (show nI (L + c) ≤ 80 from nI_le (b := 80) q80 (by decide)), if_pos (show nI (L + c) ≤ 80 from nI_le (b := 80) q80 (by decide)), Int32.sub_eq_add_neg]
    obtain ⟨u, a1, a2, a3, a4, a5⟩ := put_L34 hM (show c ≤ 8 by omega) q80 c n v (Nat.le_refl _) (by omega) (by rw [e1, Nat.sub_self, Nat.add_zero]) (fun j hj hkj => by omega)
    obtain ⟨m2, b1, b2, b3, b4, b5⟩ := put_L126 hM (show c ≤ 8 by omega) q80 c 0 (n' - (8 + 1)) m (by omega) (by omega) e2 (fun j hj => absurd hj (Nat.not_lt_zero j))
    rw [show nI c + -1 = nI c + -(1 : Int32) from rfl] at a1
    rw [a1, show f_X7_put_L126 (n' - (8 + 1)) m (lN M) (nI c) 0 = _ from b1]
    refine ⟨_, u, m2, rfl, rfl, h.pad ⟨L + c, q80, a2, b2, fun j hj => ?_⟩ a5 b5⟩
    by_cases qj : j < L
    · rw [b4 j qj, a4 j qj]; exact hch j qj
    · have ej : j = L + c - 1 - (L + c - 1 - j) := by omega
      have hlt : L + c - 1 - j < c := by omega
      have ho := hok q (L + c - 1 - j) (by omega)
      unfold okB at ho
      rw [Bool.and_eq_true, decide_eq_true_iff, decide_eq_true_iff] at ho
      have x1 := a3 _ hlt
      have x2 := b3 _ hlt
      rw [← ej] at x1 x2
      exact ⟨by rw [x1, x2], byt M (L + c - 1 - j), ho.1, ho.2, x1⟩
  · rw [if_neg (show ¬ nI (L + c) ≤ 80 from nI_ge (a := 80) (b := L + c) (by omega) (by omega)), if_neg (show ¬ nI (L + c) ≤ 80 from nI_ge (a := 80) (b := L + c) (by omega) (by omega))]
    exact ⟨_, _, _, rfl, rfl, h⟩
end PE
