/-! The state before a change is kept. -/
theorem know_L52 {k : Nat} (hk : k ≤ 5) : ∀ (r i n : Nat) (m : DV), i + r = 240 → r < n → m 8 0 = nI k → (∀ j, j < i → m 2 (240 * k + j) = m 0 j) → ∃ m2, f_X7_know_L52 n m (nI i) = some m2 ∧ m2 8 0 = nI (k + 1) ∧ (∀ j, j < 240 → m2 2 (240 * k + j) = m 0 j) ∧ (∀ j, j < 240 * k → m2 2 j = m 2 j) ∧ ∀ q, q ≠ 2 → q ≠ 8 → m2 q = m q
  | 0, i, n, m, hi, hn, h8, hz => by
    obtain ⟨n, rfl⟩ := up1 hn
    have : i = 240 := by omega
    subst this
    rw [f_X7_know_L52, if_pos (by decide), h8, nI_1]
    exact ⟨_, rfl, rfl, hz, fun _ _ => rfl, fun q _ q8 => vs_o m _ q8⟩
  | r + 1, i, n, m, hi, hn, h8, hz => by
    obtain ⟨n, rfl⟩ := up1 (show 0 < n by omega)
    have e240 : (240 : Int32) * nI k + nI i = nI (240 * k + i) := by
      show nI 240 * nI k + nI i = _
      rw [pk_mul, nI_add]
    rw [f_X7_know_L52, if_neg (show ¬ (240 : Int32) ≤ nI i from nI_ge (a := i) (b := 240) (by omega) (by decide)), h8, e240]
    simp only [ixb_nI (show i < 240 by omega) (by decide), ixb_nI (show 240 * k + i < 1440 by omega) (by decide), ck_t, lt_s1, clq (show i < 2 ^ 31 by omega), clq (show 240 * k + i < 2 ^ 31 by omega), nI_1]
    obtain ⟨m2, h1, h2, h3, h4, h5⟩ := know_L52 hk r (i + 1) n (vs m 2 (upd (m 2) (240 * k + i) (m 0 i))) (by omega) (by omega) h8 (fun j hj => by
      rw [vs_s, vs_o m _ (show (0 : Nat) ≠ 2 by decide)]
      by_cases q : j = i
      · subst q; rw [upd_s]
      · rw [upd_o _ _ (show 240 * k + j ≠ 240 * k + i by omega)]; exact hz j (by omega))
    refine ⟨m2, h1, h2, fun j hj => by rw [h3 j hj, vs_o m _ (show (0 : Nat) ≠ 2 by decide)], fun j hj => ?_, fun q hq hq8 => by rw [h5 q hq hq8, vs_o m _ hq]⟩
    rw [h4 j hj, vs_s, upd_o _ _ (by omega)]
theorem know_L11 : ∀ (r i n : Nat) (m m0 : DV), i + r = 1200 → r < n → (∀ j, j < i → m 2 j = m0 2 (240 + j)) → (∀ j, i ≤ j → m 2 j = m0 2 j) → (∀ q, q ≠ 2 → m q = m0 q) → ∃ m2 n2, n = n2 + (r + 1) ∧ f_X7_know_L11 n m (nI i) = f_X7_know_L52 n2 m2 0 ∧ m2 8 0 = m0 8 0 - 1 ∧ (∀ j, j < 1200 → m2 2 j = m0 2 (240 + j)) ∧ ∀ q, q ≠ 2 → q ≠ 8 → m2 q = m0 q
  | 0, i, n, m, m0, hi, hn, hz, _, hq => by
    obtain ⟨n, rfl⟩ := up1 hn
    have : i = 1200 := by omega
    subst this
    rw [f_X7_know_L11, if_pos (by decide)]
    refine ⟨_, n, rfl, rfl, ?_, hz, fun q q2 q8 => by rw [vs_o m _ q8, hq q q2]⟩
    rw [vs_s, hq 8 (by decide)]
  | r + 1, i, n, m, m0, hi, hn, hz, hr, hq => by
    obtain ⟨n, rfl⟩ := up1 (show 0 < n by omega)
    have e240 : (240 : Int32) + nI i = nI (240 + i) := nI_add 240 i
    rw [f_X7_know_L11, if_neg (show ¬ (1200 : Int32) ≤ nI i from nI_ge (a := i) (b := 1200) (by omega) (by decide)), e240]
    simp only [ixb_nI (show i < 1440 by omega) (by decide), ixb_nI (show 240 + i < 1440 by omega) (by decide), ck_t, lt_s1, clq (show i < 2 ^ 31 by omega), clq (show 240 + i < 2 ^ 31 by omega), nI_1]
    obtain ⟨m2, n2, h1, h2, h3, h4, h5⟩ := know_L11 r (i + 1) n (vs m 2 (upd (m 2) i (m 2 (240 + i)))) m0 (by omega) (by omega) (fun j hj => by
      rw [vs_s]
      by_cases q : j = i
      · subst q; rw [upd_s]; exact hr _ (by omega)
      · rw [upd_o _ _ q]; exact hz j (by omega)) (fun j hj => by
      rw [vs_s, upd_o _ _ (by omega)]; exact hr j (by omega)) (fun q hq2 => by rw [vs_o m _ hq2]; exact hq q hq2)
    exact ⟨m2, n2, by omega, h2, h3, h4, h5⟩
theorem know_eq {k : Nat} {v x : DV} {l : List DV} {m : DV} (h : HIST k l m) (hR : REL2 v (m 0)) (hx : DEQ x v) {n : Nat} (hn : 2000 ≤ n) : ∃ m2, f_X7_know n m = some m2 ∧ HIST (keepK k) (keepL k (putAt l k x)) m2 ∧ ∀ q, q ≠ 2 → q ≠ 8 → m2 q = m q := by
  obtain ⟨h8, h6, hl, h7, hh⟩ := h
  unfold f_X7_know
  rw [h8]
  by_cases q : k = 6
  · subst q
    rw [if_pos (show nI 6 = 6 from rfl)]
    obtain ⟨m1, n1, a1, a2, a3, a4, a5⟩ := know_L11 1200 0 n m m rfl (by omega) (fun j hj => absurd hj (Nat.not_lt_zero j)) (fun _ _ => rfl) (fun _ _ => rfl)
    rw [show f_X7_know_L11 n m 0 = _ from a2]
    obtain ⟨m2, b1, b2, b3, b4, b5⟩ := know_L52 (k := 5) (by omega) 240 0 n1 m1 rfl (by omega) (by rw [a3, h8]; decide) (fun j hj => absurd hj (Nat.not_lt_zero j))
    rw [show f_X7_know_L52 n1 m1 0 = _ from b1]
    have e6 : keepK 6 = 6 := rfl
    have el : ∀ y : List DV, keepL 6 y = y.tail ++ y.head?.toList := fun _ => rfl
    have hp7 : (putAt l 6 x).length = 7 := putAt_len x hl h7 rfl
    have hix : ∀ i, i < 6 → (keepL 6 (putAt l 6 x))[i]? = (putAt l 6 x)[i + 1]? := by
      intro i hi
      rw [el, List.getElem?_append_left (by rw [List.length_tail]; omega), List.getElem?_tail]
    have hat : ∀ i, i < 6 → (putAt l 6 x)[i]? = l[i]? := by
      intro i hi
      unfold putAt
      split
      · rw [List.getElem?_set_ne (by omega)]
      · rw [List.getElem?_append_left (by omega)]
    have h6x : (putAt l 6 x)[6]? = some x := by
      unfold putAt
      split
      · rw [List.getElem?_set_self (by omega)]
      · have : l.length = 6 := by omega
        rw [List.getElem?_append_right (by omega), this]; rfl
    refine ⟨m2, rfl, ⟨by rw [e6]; exact b2, by rw [e6]; omega, ?_, ?_, ?_⟩, fun q q2 q8 => by rw [b5 q q2 q8, a5 q q2 q8]⟩
    · rw [e6, el, List.length_append, List.length_tail]; omega
    · rw [← (keepL_perm 6 (putAt l 6 x)).length_eq]; omega
    · rw [e6]
      intro i hi
      rw [hix i hi]
      by_cases q5 : i = 5
      · subst q5
        refine ⟨x, h6x, hR.deq hx (fun j hj => ?_)⟩
        rw [b3 j hj, a5 0 (by decide) (by decide)]
      · obtain ⟨u, hu, hu2⟩ := hh (i + 1) (by omega)
        refine ⟨u, by rw [hat (i + 1) (by omega), hu], hu2.deq (DEQ.rfl' u) (fun j hj => ?_)⟩
        show m2 2 (240 * i + j) = m 2 (240 * (i + 1) + j)
        rw [b4 _ (by omega), a4 _ (by omega)]
        congr 1
        omega
  · have hne : ¬ nI k = 6 := fun e => q ((nI_eq (b := 6) (by omega) (by omega)).mp e)
    rw [if_neg hne]
    obtain ⟨m2, b1, b2, b3, b4, b5⟩ := know_L52 (k := k) (by omega) 240 0 n m rfl (by omega) h8 (fun j hj => absurd hj (Nat.not_lt_zero j))
    rw [show f_X7_know_L52 n m 0 = _ from b1]
    have ek : keepK k = k + 1 := by unfold keepK; rw [if_pos (by omega)]
    have el : keepL k (putAt l k x) = putAt l k x := by unfold keepL; rw [if_pos (by omega)]
    rw [ek, el]
    have hat : ∀ i, i < k → (putAt l k x)[i]? = l[i]? := by
      intro i hi
      unfold putAt
      split
      · rw [List.getElem?_set_ne (by omega)]
      · rw [List.getElem?_append_left (by omega)]
    have hkx : (putAt l k x)[k]? = some x := by
      unfold putAt
      split
      · rw [List.getElem?_set_self (by omega)]
      · have : l.length = k := by omega
        rw [List.getElem?_append_right (by omega), this]; simp
    have hlen : k + 1 ≤ (putAt l k x).length ∧ (putAt l k x).length ≤ 7 := by
      unfold putAt
      split
      · rw [List.length_set]; omega
      · rw [List.length_append, List.length_singleton]; omega
    refine ⟨m2, rfl, ⟨b2, by omega, hlen.1, hlen.2, fun i hi => ?_⟩, b5⟩
    by_cases qk : i = k
    · subst qk
      exact ⟨x, hkx, hR.deq hx (fun j hj => b3 j hj)⟩
    · obtain ⟨u, hu, hu2⟩ := hh i (by omega)
      refine ⟨u, by rw [hat i (by omega), hu], hu2.deq (DEQ.rfl' u) (fun j hj => ?_)⟩
      show m2 2 (240 * i + j) = m 2 (240 * i + j)
      have : 240 * (i + 1) ≤ 240 * k := Nat.mul_le_mul_left 240 (by omega)
      rw [b4 _ (by omega)]
