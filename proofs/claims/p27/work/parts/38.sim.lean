/-! Desks alike; the relation of the two objects; history. -/
def DEQ (u v : DV) : Prop :=
  u 0 0 = v 0 0 ∧ u 1 0 = v 1 0 ∧ (∀ i, i < 3 → u 2 i = v 2 i) ∧
  (∀ d, d < 6 → u 3 d = v 3 d ∧ u 4 d = v 4 d ∧ u 5 d = v 5 d ∧ u 6 d = v 6 d) ∧
  (∀ k, k < 30 → u 7 k = v 7 k ∧ u 8 k = v 8 k ∧ u 9 k = v 9 k ∧ u 10 k = v 10 k ∧ u 11 k = v 11 k ∧ u 12 k = v 12 k ∧ u 13 k = v 13 k)
theorem DEQ_of {u v : DV} (h : ∀ j, j < 14 → u j = v j) : DEQ u v := by
  refine ⟨by rw [h 0 (by decide)], by rw [h 1 (by decide)], fun i _ => by rw [h 2 (by decide)], fun d _ => ?_, fun k _ => ?_⟩
  · rw [h 3 (by decide), h 4 (by decide), h 5 (by decide), h 6 (by decide)]; exact ⟨rfl, rfl, rfl, rfl⟩
  · rw [h 7 (by decide), h 8 (by decide), h 9 (by decide), h 10 (by decide), h 11 (by decide), h 12 (by decide), h 13 (by decide)]
    exact ⟨rfl, rfl, rfl, rfl, rfl, rfl, rfl⟩
theorem DEQ.rfl' (v : DV) : DEQ v v := DEQ_of (fun _ _ => rfl)
theorem cntP_congr {p q : Nat → Bool} {w : Nat} (h : ∀ j, j < w → p j = q j) : cntP p w = cntP q w := by
  unfold cntP
  refine lp_congr w 0 0 (fun j a _ hj => ?_)
  rw [h j (by omega)]
theorem INV_deq {u v : DV} {N w : Nat} (h : INV v N w) (e : DEQ u v) : INV u N w := by
  obtain ⟨e0, e1, e2, e3, e4⟩ := e
  obtain ⟨⟨h0, h1, h30⟩, ⟨h2, h3, h4⟩, h5, h6, h7, h8⟩ := h
  refine ⟨⟨by rw [e0, h0], by rw [e1, h1], h30⟩, ⟨by rw [e2 0 (by decide)]; exact h2, by rw [e2 1 (by decide)]; exact h3, by rw [e2 2 (by decide)]; exact h4⟩, fun d hd => ?_, fun k hk => ?_, fun d hd => ?_, h8⟩
  · obtain ⟨a, b, c, f⟩ := e3 d hd
    rw [a, b, c, f]; exact h5 d hd
  · obtain ⟨a, b, c, d, f, g, i⟩ := e4 k (by omega)
    obtain ⟨k1, k2, k3, k4, k5, k6⟩ := h6 k hk
    refine ⟨by rw [a]; exact k1, by rw [b]; exact k2, by rw [c]; exact k3, ?_, by rw [f]; exact k5, by rw [f, i]; exact k6⟩
    rcases k4 with q | ⟨j, hj, q, q2⟩
    · exact Or.inl (by rw [d, q])
    · exact Or.inr ⟨j, hj, by rw [d, q], by rw [(e4 j (by omega)).2.2.2.2.1, q2]⟩
  · rw [cntP_congr (q := inDr v d) (fun j hj => by unfold inDr; rw [(e4 j (by omega)).1, (e4 j (by omega)).2.2.2.2.1])]
    exact h7 d hd
theorem REL_deq {u v : DV} {s t : Nat → Int32} {N w : Nat} (h : REL v s N w) (h30 : w ≤ 30) (e : DEQ u v) (es : ∀ j, j < 240 → t j = s j) : REL u t N w := by
  obtain ⟨e0, e1, e2, e3, e4⟩ := e
  obtain ⟨⟨a0, a1, a2, a3, a4, a5⟩, hd, hl⟩ := h
  refine ⟨⟨?_, ?_, ?_, ?_, ?_, ?_⟩, fun d hd6 => ?_, fun k hk => ?_⟩
  · rw [es _ (by decide), e2 _ (by decide), a0]
  · rw [es _ (by decide), e2 _ (by decide), a1]
  · rw [es _ (by decide), e2 _ (by decide), a2]
  · rw [es _ (by decide), a3]
  · rw [es _ (by decide), a4]
  · rw [es _ (by decide), a5]
  · obtain ⟨b0, b1, b2, b3⟩ := hd d hd6
    obtain ⟨c0, c1, c2, c3⟩ := e3 d hd6
    refine ⟨?_, ?_, ?_, ?_⟩
    · rw [es _ (by omega), c1, b0]
    · rw [es _ (by omega), c0, b1]
    · rw [es _ (by omega), c2, b2]
    · rw [es _ (by omega), c3, b3]
  · obtain ⟨b0, b1, b2, b3, b4, b5, b6⟩ := hl k hk
    obtain ⟨c0, c1, c2, c3, c4, c5, c6⟩ := e4 k (by omega)
    refine ⟨?_, ?_, ?_, ?_, ?_, ?_, ?_⟩
    · rw [es _ (by omega), c0, b0]
    · rw [es _ (by omega), c1, b1]
    · rw [es _ (by omega), c2, b2]
    · rw [es _ (by omega), c4, b3]
    · rw [es _ (by omega), c5, b4]
    · rw [es _ (by omega), c3, b5]
    · rw [es _ (by omega), c4, c6]; exact b6
theorem cpy_at {α : Type} (f g : Nat → α) (n : Nat) {k : Nat} (hk : k < n) : va_cpy f g 0 0 n k = f k := by
  unfold va_cpy
  rw [if_pos ⟨Nat.zero_le k, by omega⟩, Nat.zero_add, Nat.sub_zero]
theorem copyFrom_ok (u w : DV) : ∃ x, f_X0_copyFrom u w = some x ∧ DEQ x w := by
  refine ⟨_, rfl, rfl, rfl, fun i hi => ?_, fun d hd => ⟨?_, ?_, ?_, ?_⟩, fun k hk => ⟨?_, ?_, ?_, ?_, ?_, ?_, ?_⟩⟩
  · exact cpy_at (w 2) (u 2) 3 hi
  · exact cpy_at (w 3) (u 3) 6 hd
  · exact cpy_at (w 4) (u 4) 6 hd
  · exact cpy_at (w 5) (u 5) 6 hd
  · exact cpy_at (w 6) (u 6) 6 hd
  · exact cpy_at (w 7) (u 7) 30 hk
  · exact cpy_at (w 8) (u 8) 30 hk
  · exact cpy_at (w 9) (u 9) 30 hk
  · exact cpy_at (w 10) (u 10) 30 hk
  · exact cpy_at (w 11) (u 11) 30 hk
  · exact cpy_at (w 12) (u 12) 30 hk
  · exact cpy_at (w 13) (u 13) 30 hk
theorem copyFrom_ne (u w : DV) : f_X0_copyFrom u w ≠ none := by
  obtain ⟨x, h, -⟩ := copyFrom_ok u w
  rw [h]; exact fun h => nomatch h
/-- a desk and a row of the reference -/
def REL2 (v : DV) (s : Nat → Int32) : Prop := ∃ N w, INV v N w ∧ N < 24000 ∧ REL v s N w
theorem REL2.deq {u v : DV} {s t : Nat → Int32} (h : REL2 v s) (e : DEQ u v) (es : ∀ j, j < 240 → t j = s j) : REL2 u t := by
  obtain ⟨N, w, hI, hN, hR⟩ := h
  exact ⟨N, w, INV_deq hI e, hN, REL_deq hR hI.1.2.2 e es⟩
def HIST (k : Nat) (l : List DV) (m : DV) : Prop :=
  m 8 0 = nI k ∧ k ≤ 6 ∧ k ≤ l.length ∧ l.length ≤ 7 ∧ ∀ i, i < k → ∃ u, l[i]? = some u ∧ REL2 u (fun j => m 2 (240 * i + j))
def PADR (v m : DV) : Prop := ∃ L : Nat, L ≤ 80 ∧ v 16 0 = nI L ∧ m 9 0 = nI L ∧ ∀ j, j < L → m 5 j = v 15 j ∧ ∃ c : Nat, 33 ≤ c ∧ c ≤ 126 ∧ v 15 j = nI c
def SLOT (sv : Nat → Option DV) (m : DV) : Prop := ∀ i, i < 2 → (sv i = none ∧ m 4 i = 0) ∨ ∃ u, sv i = some u ∧ m 4 i = 1 ∧ REL2 u (fun j => m 3 (240 * i + j))
/-- the class's object and the reference's -/
def SIM (k : Nat) (v : DV) (l : List DV) (sv : Nat → Option DV) (m : DV) : Prop :=
  REL2 v (m 0) ∧ PADR v m ∧ v 22 0 = nI k ∧ HIST k l m ∧ SLOT sv m
theorem HIST.eqm {k : Nat} {l : List DV} {m m2 : DV} (h : HIST k l m) (e2 : m2 2 = m 2) (e8 : m2 8 = m 8) : HIST k l m2 := by
  unfold HIST; rw [e2, e8]; exact h
theorem PADR.eqm {v u m m2 : DV} (h : PADR v m) (e5 : m2 5 = m 5) (e9 : m2 9 = m 9) (e15 : u 15 = v 15) (e16 : u 16 = v 16) : PADR u m2 := by
  unfold PADR; rw [e5, e9, e15, e16]; exact h
theorem SLOT.eqm {sv : Nat → Option DV} {m m2 : DV} (h : SLOT sv m) (e3 : m2 3 = m 3) (e4 : m2 4 = m 4) : SLOT sv m2 := by
  unfold SLOT; rw [e3, e4]; exact h
/-- what only looks leaves the relation -/
theorem SIM.look {k : Nat} {v u : DV} {l : List DV} {sv : Nat → Option DV} {m m2 : DV} (h : SIM k v l sv m) (hv : ∀ j, j ≠ 14 → u j = v j) (h0 : ∀ j, j < 240 → m2 0 j = m 0 j) (hm : ∀ i, i ≠ 0 → i ≠ 1 → i ≠ 6 → i ≠ 7 → m2 i = m i) : SIM k u l sv m2 := by
  obtain ⟨a, b, c, d, f⟩ := h
  refine ⟨a.deq (DEQ_of (fun j hj => hv j (by omega))) h0, b.eqm ?_ ?_ ?_ ?_, ?_, d.eqm ?_ ?_, f.eqm ?_ ?_⟩
  · exact hm 5 (by decide) (by decide) (by decide) (by decide)
  · exact hm 9 (by decide) (by decide) (by decide) (by decide)
  · exact hv 15 (by decide)
  · exact hv 16 (by decide)
  · rw [hv 22 (by decide), c]
  · exact hm 2 (by decide) (by decide) (by decide) (by decide)
  · exact hm 8 (by decide) (by decide) (by decide) (by decide)
  · exact hm 3 (by decide) (by decide) (by decide) (by decide)
  · exact hm 4 (by decide) (by decide) (by decide) (by decide)
-- rows put aside and back
theorem putAside_L : ∀ (r i n : Nat) (m : DV), i + r = 240 → r < n → (∀ j, j < i → m 1 j = m 0 j) → ∃ m2, f_X7_putAside_L2 n m (nI i) = some m2 ∧ (∀ j, j < 240 → m2 1 j = m 0 j) ∧ ∀ q, q ≠ 1 → m2 q = m q
  | 0, i, n, m, hi, hn, hz => by
    obtain ⟨n, rfl⟩ := up1 hn
    have : i = 240 := by omega
    subst this
    rw [f_X7_putAside_L2, if_pos (by decide)]
    exact ⟨m, rfl, hz, fun _ _ => rfl⟩
  | r + 1, i, n, m, hi, hn, hz => by
    obtain ⟨n, rfl⟩ := up1 (show 0 < n by omega)
    rw [f_X7_putAside_L2, if_neg (show ¬ (240 : Int32) ≤ nI i from nI_ge (a := i) (b := 240) (by omega) (by decide))]
    simp only [ixb_nI (show i < 240 by omega) (by decide), ck_t, lt_s1, clq (show i < 2 ^ 31 by omega), nI_1]
    obtain ⟨m2, h1, h2, h3⟩ := putAside_L r (i + 1) n (vs m 1 (upd (m 1) i (m 0 i))) (by omega) (by omega) (fun j hj => by
      rw [vs_s, vs_o m _ (show (0 : Nat) ≠ 1 by decide)]
      by_cases q : j = i
      · subst q; rw [upd_s]
      · rw [upd_o _ _ q]; exact hz j (by omega))
    exact ⟨m2, h1, fun j hj => by rw [h2 j hj, vs_o m _ (show (0 : Nat) ≠ 1 by decide)], fun q hq => by rw [h3 q hq, vs_o m _ hq]⟩
theorem putBack_L : ∀ (r i n : Nat) (m : DV), i + r = 240 → r < n → (∀ j, j < i → m 0 j = m 1 j) → ∃ m2, f_X7_putBack_L2 n m (nI i) = some m2 ∧ (∀ j, j < 240 → m2 0 j = m 1 j) ∧ ∀ q, q ≠ 0 → m2 q = m q
  | 0, i, n, m, hi, hn, hz => by
    obtain ⟨n, rfl⟩ := up1 hn
    have : i = 240 := by omega
    subst this
    rw [f_X7_putBack_L2, if_pos (by decide)]
    exact ⟨m, rfl, hz, fun _ _ => rfl⟩
  | r + 1, i, n, m, hi, hn, hz => by
    obtain ⟨n, rfl⟩ := up1 (show 0 < n by omega)
    rw [f_X7_putBack_L2, if_neg (show ¬ (240 : Int32) ≤ nI i from nI_ge (a := i) (b := 240) (by omega) (by decide))]
    simp only [ixb_nI (show i < 240 by omega) (by decide), ck_t, lt_s1, clq (show i < 2 ^ 31 by omega), nI_1]
    obtain ⟨m2, h1, h2, h3⟩ := putBack_L r (i + 1) n (vs m 0 (upd (m 0) i (m 1 i))) (by omega) (by omega) (fun j hj => by
      rw [vs_s, vs_o m _ (show (1 : Nat) ≠ 0 by decide)]
      by_cases q : j = i
      · subst q; rw [upd_s]
      · rw [upd_o _ _ q]; exact hz j (by omega))
    exact ⟨m2, h1, fun j hj => by rw [h2 j hj, vs_o m _ (show (1 : Nat) ≠ 0 by decide)], fun q hq => by rw [h3 q hq, vs_o m _ hq]⟩
theorem putAside_eq (m : DV) {n : Nat} (hn : 300 ≤ n) : ∃ m2, f_X7_putAside n m = some m2 ∧ (∀ j, j < 240 → m2 1 j = m 0 j) ∧ ∀ q, q ≠ 1 → m2 q = m q := putAside_L 240 0 n m rfl (by omega) (fun j hj => absurd hj (Nat.not_lt_zero j))
theorem putBack_eq (m : DV) {n : Nat} (hn : 300 ≤ n) : ∃ m2, f_X7_putBack n m = some m2 ∧ (∀ j, j < 240 → m2 0 j = m 1 j) ∧ ∀ q, q ≠ 0 → m2 q = m q := putBack_L 240 0 n m rfl (by omega) (fun j hj => absurd hj (Nat.not_lt_zero j))
