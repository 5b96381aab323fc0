/-! The history: what a change puts on it, what undo takes from it. -/
def HK (k : Nat) (l : List DV) : Prop := k ≤ 6 ∧ k ≤ l.length ∧ l.length ≤ 7 ∧ ∀ i, i < k → ∃ u N w, l[i]? = some u ∧ GD u N w
/-- a sound desk with a sound history -/
def SG (v : DV) (l : List DV) (N w : Nat) : Prop := GD v N w ∧ v 22 0 = nI (kV v) ∧ HK (kV v) l
theorem SG.ok {v : DV} {l : List DV} {N w : Nat} (h : SG v l N w) : kOK v l = true := decide_eq_true ⟨h.2.1, h.2.2.1, h.2.2.2.1, h.2.2.2.2.1⟩
theorem SG.look {v u : DV} {l : List DV} {N w : Nat} (h : SG v l N w) (e : ∀ j, j < 14 → u j = v j) (e22 : u 22 = v 22) : SG u l N w := by
  have hk : kV u = kV v := by unfold kV; rw [e22]
  refine ⟨GD_deq h.1 (DEQ_of e), ?_, ?_⟩
  · rw [e22, hk]; exact h.2.1
  · rw [hk]; exact h.2.2
theorem SG.v14 {v : DV} {l : List DV} {N w : Nat} (h : SG v l N w) (c : Nat → Int32) : SG (vs v 14 c) l N w := h.look (fun j hj => vs_o _ _ (by omega)) (vs_o _ _ (by decide))
theorem keep_at {l : List DV} {k : Nat} (x : DV) (h6 : k ≤ 6) (hl : k ≤ l.length) (h7 : l.length ≤ 7) : keepK k ≤ 6 ∧ keepK k ≤ (keepL k (putAt l k x)).length ∧ (keepL k (putAt l k x)).length ≤ 7 ∧ 1 ≤ keepK k ∧ (1 ≤ k → 2 ≤ keepK k) ∧ (keepL k (putAt l k x))[keepK k - 1]? = some x ∧ (1 ≤ k → (keepL k (putAt l k x))[keepK k - 2]? = l[k - 1]?) ∧ ∀ i, i < keepK k → (keepL k (putAt l k x))[i]? = some x ∨ ∃ j, j < k ∧ (keepL k (putAt l k x))[i]? = l[j]? := by
  have hlen := (keepL_perm k (putAt l k x)).length_eq
  have h2 := putAt_len2 x hl h6 h7
  have htop : (putAt l k x)[k]? = some x := by
    unfold putAt
    split
    · rename_i q
      rw [List.getElem?_set_self q]
    · have : k = l.length := by omega
      subst this
      simp
  have hge : k + 1 ≤ (putAt l k x).length := by
    have := List.getElem?_eq_some_iff.mp htop
    obtain ⟨q, -⟩ := this
    omega
  by_cases q : k < 6
  · have e1 : keepK k = k + 1 := by unfold keepK; rw [if_pos q]
    have e2 : keepL k (putAt l k x) = putAt l k x := by unfold keepL; rw [if_pos q]
    rw [e1, e2]
    refine ⟨by omega, hge, h2.2, by omega, fun _ => by omega, htop, fun h1 => ?_, fun i hi => ?_⟩
    · rw [show k + 1 - 2 = k - 1 by omega]; exact putAt_lo x (by omega) hl
    · by_cases e : i = k
      · subst e; exact Or.inl htop
      · exact Or.inr ⟨i, by omega, putAt_lo x (by omega) hl⟩
  · have hk : k = 6 := by omega
    subst hk
    have e1 : keepK 6 = 6 := rfl
    have e2 : keepL 6 (putAt l 6 x) = (putAt l 6 x).tail ++ (putAt l 6 x).head?.toList := rfl
    have h77 : (putAt l 6 x).length = 7 := by omega
    have at_ : ∀ i, i < 6 → (keepL 6 (putAt l 6 x))[i]? = (putAt l 6 x)[i + 1]? := by
      intro i hi
      rw [e2, List.getElem?_append_left (by rw [List.length_tail]; omega), List.getElem?_tail]
    rw [e1]
    refine ⟨by decide, by omega, by omega, by decide, fun _ => by decide, ?_, fun _ => ?_, fun i hi => ?_⟩
    · rw [at_ _ (by decide)]; exact htop
    · rw [at_ _ (by decide)]; exact putAt_lo x (by decide) hl
    · rw [at_ i hi]
      by_cases e : i = 5
      · subst e; exact Or.inl htop
      · exact Or.inr ⟨i + 1, by omega, putAt_lo x (by omega) hl⟩
section CHS
variable {v : DV} {l : List DV} {N w : Nat}
/-- a change that isn't refused -/
theorem chg_yes (h : SG v l N w) {r : Int32} {v1 : DV} {F : Option (Int32 × DV)} (hF : F = some (r, v1)) (hr : ¬ r < 0) {N1 w1 : Nat} (hG : GD v1 N1 w1) : ∃ u lu, chgK (kV v) F v l = some (r, u, lu) ∧ SG u lu N1 w1 ∧ (∀ j, j < 14 → u j = v1 j) ∧ (∀ j, 14 ≤ j → j ≠ 22 → u j = v j) ∧ 1 ≤ kV u ∧ (1 ≤ kV v → 2 ≤ kV u) ∧ (∃ x, lu[kV u - 1]? = some x ∧ DEQ x v) ∧ (1 ≤ kV v → lu[kV u - 2]? = l[kV v - 1]?) := by
  obtain ⟨hG0, hk, h6, hl, h7, hh⟩ := h
  obtain ⟨x, hx, hx2⟩ := copyFrom_ok (preW l (kV v)) v
  obtain ⟨c1, c2, c3, c4, c5, c6, c7, c8⟩ := keep_at x h6 hl h7
  have hku : kV (vs (mx dks v v1) 22 (fun _ => nI (keepK (kV v)))) = keepK (kV v) := by
    show Int32.toNatClampNeg (nI (keepK (kV v))) = _
    exact nI_clamp (by omega)
  have hlo : ∀ j, j < 14 → (vs (mx dks v v1) 22 (fun _ => nI (keepK (kV v)))) j = v1 j := fun j hj => by rw [vs_o _ _ (by omega), mx_dks_lo v v1 hj]
  refine ⟨vs (mx dks v v1) 22 (fun _ => nI (keepK (kV v))), keepL (kV v) (putAt l (kV v) x), ?_, ⟨GD_deq hG (DEQ_of hlo), ?_, ?_⟩, hlo, fun j hj h22 => ?_, ?_, ?_, ⟨x, ?_, hx2⟩, ?_⟩
  · unfold chgK
    rw [hx, hF]
    simp only [bd1_s, bd2_s]
    unfold recV recL
    rw [if_neg hr, if_neg hr]
  · rw [hku]; rfl
  · rw [hku]
    refine ⟨c1, c2, c3, fun i hi => ?_⟩
    rcases c8 i hi with e | ⟨j, hj, e⟩
    · exact ⟨x, N, w, e, GD_deq hG0 hx2⟩
    · obtain ⟨u, N2, w2, e2, e3⟩ := hh j hj
      exact ⟨u, N2, w2, e.trans e2, e3⟩
  · rw [vs_o _ _ h22, mx_dks_hi v v1 hj]
  · rw [hku]; exact c4
  · rw [hku]; exact c5
  · rw [hku]; exact c6
  · rw [hku]; exact c7
/-- a change that is refused -/
theorem chg_not (h : SG v l N w) {r : Int32} {F : Option (Int32 × DV)} (hF : F = some (r, v)) (hr : r < 0) : ∃ lu, chgK (kV v) F v l = some (r, v, lu) ∧ SG v lu N w := by
  obtain ⟨hG0, hk, h6, hl, h7, hh⟩ := h
  obtain ⟨x, hx, -⟩ := copyFrom_ok (preW l (kV v)) v
  have h2 := putAt_len2 x hl h6 h7
  refine ⟨putAt l (kV v) x, ?_, hG0, hk, h6, h2.1, h2.2, fun i hi => by rw [putAt_lo x hi hl]; exact hh i hi⟩
  unfold chgK
  rw [hx, hF]
  simp only [bd1_s, bd2_s]
  unfold recV recL
  rw [if_pos hr, if_pos hr, mx_dks_self]
/-- any change leaves a sound desk with a sound history -/
theorem chg_any (h : SG v l N w) {F : Option (Int32 × DV)} (hF : RES v N w F) : ∃ r u lu N1 w1, chgK (kV v) F v l = some (r, u, lu) ∧ ¬ r < -6 ∧ N ≤ N1 ∧ w ≤ w1 ∧ SG u lu N1 w1 := by
  obtain ⟨r, v1, e, ⟨h1, h2, h3⟩ | ⟨h1, N1, w1, h2, h3, h4⟩⟩ := hF
  · subst h3
    obtain ⟨lu, a, b⟩ := chg_not h e h1
    exact ⟨r, v1, lu, N, w, a, h2, Nat.le_refl N, Nat.le_refl w, b⟩
  · obtain ⟨u, lu, a, b, -⟩ := chg_yes h e h1 h4
    refine ⟨r, u, lu, N1, w1, a, fun q => h1 ?_, h2, h3, b⟩
    rw [Int32.lt_iff_toInt_lt] at q ⊢
    have e6 : (-6 : Int32).toInt = -6 := by decide
    have e0 : (0 : Int32).toInt = 0 := by decide
    omega
theorem undo_c (h : SG v l N w) (hk : 1 ≤ kV v) {x : DV} (hx : l[kV v - 1]? = some x) {Nx wx : Nat} (hG : GD x Nx wx) : ∃ u, undoF v l = some (nI (kV v - 1), u) ∧ SG u l Nx wx ∧ DEQ u x ∧ kV u = kV v - 1 ∧ ∀ j, 14 ≤ j → j ≠ 22 → u j = v j := by
  obtain ⟨hG0, hk0, h6, hl, h7, hh⟩ := h
  obtain ⟨k, hk1⟩ : ∃ k, kV v = k + 1 := ⟨kV v - 1, by omega⟩
  rw [hk1] at hx hk0 h6 hl hh ⊢
  rw [Nat.add_sub_cancel] at hx ⊢
  obtain ⟨y, hy, hy2⟩ := copyFrom_ok (vs v 22 (fun _ => nI k)) x
  have hku : kV (mx dks (vs v 22 (fun _ => nI k)) y) = k := by
    show Int32.toNatClampNeg (mx dks (vs v 22 (fun _ => nI k)) y 22 0) = _
    rw [mx_dks_hi _ _ (by decide)]
    exact nI_clamp (by omega)
  have hde : DEQ (mx dks (vs v 22 (fun _ => nI k)) y) x := by
    obtain ⟨a, b, c, d, f⟩ := hy2
    have e : ∀ j, j < 14 → mx dks (vs v 22 (fun _ => nI k)) y j = y j := fun j hj => mx_dks_lo _ _ hj
    refine ⟨by rw [e 0 (by decide)]; exact a, by rw [e 1 (by decide)]; exact b, fun i hi => by rw [e 2 (by decide)]; exact c i hi, fun i hi => ?_, fun i hi => ?_⟩
    · rw [e 3 (by decide), e 4 (by decide), e 5 (by decide), e 6 (by decide)]; exact d i hi
    · rw [e 7 (by decide), e 8 (by decide), e 9 (by decide), e 10 (by decide), e 11 (by decide), e 12 (by decide), e 13 (by decide)]; exact f i hi
  refine ⟨mx dks (vs v 22 (fun _ => nI k)) y, ?_, ⟨GD_deq hG hde, ?_, ?_⟩, hde, hku, fun j hj h22 => ?_⟩
  · unfold undoF
    rw [hk1]
    simp only [hx, hy, bd1_s]
  · rw [hku, mx_dks_hi _ _ (by decide)]; rfl
  · rw [hku]
    exact ⟨by omega, by omega, h7, fun i hi => hh i (by omega)⟩
  · rw [mx_dks_hi _ _ hj, vs_o _ _ h22]
end CHS
