/-! The law: its world, what stands at each of its calls. -/
abbrev LW (G : Gt) (a b : Nat → Nat) (v : DV) (hs : List HD) (sl : Nat → Option HD) (m : DV) : va_W := xW G.2 a v (rowsF hs) (slotF sl) (hs ++ esF sl) ++ modelC G.2 b m
theorem LW_x (G : Gt) (a b : Nat → Nat) (v : DV) (hs : List HD) (sl : Nat → Option HD) (m : DV) : (LW G a b v hs sl m).Perm (xcoreC G.2 a v ++ ((xArr G.2 a (rowsF hs) (slotF sl) ++ deskL G.2 (hs ++ esF sl)) ++ modelC G.2 b m)) := by
  have h : LW G a b v hs sl m = xcoreC G.2 a v ++ ((xArr G.2 a (rowsF hs) (slotF sl) ++ deskL G.2 (hs ++ esF sl)) ++ modelC G.2 b m) := List.append_assoc _ _ _
  rw [h]
/-- what the law's calls stand on -/
def LC (p : Program) (s : State) (m : MethodId) (args : Array Value) (c : Code) (G : Gt) (A : Nat → Prop) (b0 L : Nat) (xs : Nat → Int32) : Prop := p.tables.exec = Jvm.exec ∧ c.code = cL_law ∧ c.maxLocals = 4 ∧ s.vm.findClass RL = some m.cls ∧ (∀ w ∈ wsL_law, w.before args s = true) ∧ amb G s ∧ va_X b0 L xs s s.heap ∧ b0 < s.heap.size ∧ ¬ A b0 ∧ (∀ q : Nat, s.heap.size ≤ q → A q) ∧ hsOK A s
/-- the two objects, alike -/
def LSt (G : Gt) (a b : Nat → Nat) (A : Nat → Prop) (s : State) (H : Heap) (locs : List Loc) (v : DV) (hs : List HD) (sl : Nat → Option HD) (k : Nat) (m : DV) : Prop := SIM k v (hs.map Prod.snd) (valS sl) m ∧ va_P G.1 vwCl (LW G a b v hs sl m) H ∧ va_D A (LW G a b v hs sl m) ∧ va_S A s.heap H locs
/-- whatever the two objects are, if they are alike it goes on -/
def LK (p : Program) (l : Launch) (e : Env) (R : Room) (s : State) (m : MethodId) (args : Array Value) (below : List Frame) (meth : Method) (c : Code) (Q : State → Prop) (G : Gt) (a b : Nat → Nat) (A : Nat → Prop) (ls : Array Slot) (cells slots pc : Nat) : Prop := ∀ (v : DV) (hs : List HD) (sl : Nat → Option HD) (k : Nat) (m' : DV) (H : Heap) (locs : List Loc), LSt G a b A s H locs v hs sl k m' → W p l e R s m args below meth c H locs cells slots Q (F0 m pc ls [])
theorem chgK_ne {k : Nat} {F : Option (Int32 × DV)} {v : DV} {l : List DV} {r : Int32} {u : DV} {lu : List DV} (h : chgK k F v l = some (r, u, lu)) : F ≠ none := by
  rintro rfl
  unfold chgK at h
  obtain ⟨x, hx, -⟩ := copyFrom_ok (preW l k) v
  rw [hx] at h
  exact nomatch h
theorem trip_inj {α β γ : Type} {a a' : α} {b b' : β} {c c' : γ} (h : some (a, b, c) = some (a', b', c')) : a = a' ∧ b = b' ∧ c = c' := by
  cases h; exact ⟨rfl, rfl, rfl⟩
theorem pair_inj {α β : Type} {a a' : α} {b b' : β} (h : some (a, b) = some (a', b')) : a = a' ∧ b = b' := by
  cases h; exact ⟨rfl, rfl⟩
theorem vp_in_add {i L : Nat} (j : Nat) {x : Int32} (hx : x = nI j) (h : i + j < L) (hL : L < 2 ^ 31) : vp_in (nI i + x) L := by
  rw [hx, nI_add]
  exact vp_in_nI h hL
theorem lg_cmp_self (x : Int64) : lg_cmp x x = 0 := by
  simp [lg_cmp]
