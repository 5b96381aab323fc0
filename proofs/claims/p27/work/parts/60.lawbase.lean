/-! The law's own methods: the object's world with its history, changes, undo, as pure values. -/
def bd3 {α γ δ β : Type} (o : Option (α × γ × δ)) (k : α → γ → δ → Option β) : Option β := match o with | none => none | some x => k x.1 x.2.1 x.2.2
theorem bd3_1 {α γ δ β : Type} {o : Option (α × γ × δ)} {k : α → γ → δ → Option β} {res : Option β} (h : bd3 o k = res) (hne : res ≠ none) : o ≠ none := by
  intro ho; subst ho; exact hne h.symm
theorem bd3_2 {α γ δ β : Type} {o : Option (α × γ × δ)} {k : α → γ → δ → Option β} {res : Option β} {x : α} {y : γ} {z : δ} (h : bd3 o k = res) (hx : o = some (x, y, z)) : k x y z = res := by
  subst hx; exact h
theorem bd3_s {α γ δ β : Type} (x : α) (y : γ) (z : δ) (k : α → γ → δ → Option β) : bd3 (some (x, y, z)) k = k x y z := rfl
abbrev XW (G : Gt) (a : Nat → Nat) (v : DV) (hs : List HD) : va_W := xW G.2 a v (rowsF hs) (fun _ => none) (hs ++ [])
theorem XW_x (G : Gt) (a : Nat → Nat) (v : DV) (hs : List HD) : (XW G a v hs).Perm (xcoreC G.2 a v ++ (xArr G.2 a (rowsF hs) (fun _ => none) ++ deskL G.2 (hs ++ []))) := List.Perm.refl _
/-- how many changes can be undone -/
def kV (v : DV) : Nat := Int32.toNatClampNeg (v 22 0)
def kOK (v : DV) (l : List DV) : Bool := decide (v 22 0 = nI (kV v) ∧ kV v ≤ 6 ∧ kV v ≤ l.length ∧ l.length ≤ 7)
theorem kOK_1 {v : DV} {hs : List HD} (h : kOK v (hs.map Prod.snd) = true) : v 22 0 = nI (kV v) ∧ kV v ≤ 6 ∧ kV v ≤ hs.length ∧ hs.length ≤ 7 := by
  have := of_decide_eq_true h
  rwa [List.length_map] at this
theorem chgF_ne {k : Nat} {F : Option (Int32 × DV)} {v : DV} {l : List DV} (h : chgK k F v l ≠ none) : F ≠ none := by
  rintro rfl
  apply h
  unfold chgK
  obtain ⟨x, hx, -⟩ := copyFrom_ok (preW l k) v
  rw [hx]
  rfl
def undoF (v : DV) (l : List DV) : Option (Int32 × DV) :=
  match kV v with
  | 0 => some (-5, v)
  | j + 1 => match l[j]? with
    | none => none
    | some w => bd1 (f_X0_copyFrom (vs v 22 (fun _ => nI j)) w) (fun x => some (nI j, mx dks (vs v 22 (fun _ => nI j)) x))
theorem undoF_of {v u : DV} {l : List DV} {r : Int32} (h : ∃ r1, takeR v l (kV v) r1 u ∧ r = if r1 = 0 then -5 else u 22 0) : undoF v l = some (r, u) := by
  obtain ⟨r1, h1, h2⟩ := h
  unfold undoF
  cases hk : kV v with
  | zero =>
    rw [hk] at h1
    obtain ⟨h3, h4⟩ := h1
    rw [h2, h3, h4]
    rfl
  | succ j =>
    rw [hk] at h1
    obtain ⟨w, x, h3, h4, h5, h6⟩ := h1
    have h10 : ¬ (1 : Int32) = 0 := by decide
    rw [h2, h5, if_neg h10, h6]
    simp only [h3, h4, bd1_s]
    rfl
theorem va_freeW {A0 : Nat → Prop} {ws : va_W} {H0 H : Heap} {locs : List Loc} (hD : va_D A0 ws) (hS : va_S A0 H0 H locs) (hA : ∀ q, H0.size ≤ q → A0 q) : ∀ q, va_A ws H.size q → A0 q := by
  intro q h
  rcases h with ⟨k, e, h⟩ | h
  · exact (va_D_nodup.mp hD).2 (q, e) (List.mem_of_getElem? h)
  · exact hA q (Nat.le_trans hS.1 h)
theorem pnr (ws : va_W) : (ws ++ []).Perm ws := by rw [List.append_nil]
theorem pnl (ws : va_W) : ws.Perm (ws ++ []) := (pnr ws).symm
