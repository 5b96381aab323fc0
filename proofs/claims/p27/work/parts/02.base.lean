/-! The common words: pure values, guards, what surrounds every contract. -/
abbrev DV : Type := Nat → Nat → Int32
/-- component k is f -/
def vs (v : DV) (k : Nat) (f : Nat → Int32) : DV := fun j => cond (Nat.beq j k) f (v j)
/-- of the components ks take the second's -/
def mx (ks : List Nat) (v u : DV) : DV := fun j => cond (ks.any (fun i => Nat.beq j i)) (u j) (v j)
def ixb (i : Int32) (n : Nat) : Bool := !(decide (i < 0)) && decide (i.toNatClampNeg < n)
def ck {α : Type} (b : Bool) (k : Option α) : Option α := cond b k none
def bd1 {α β : Type} (o : Option α) (k : α → Option β) : Option β := match o with | none => none | some x => k x
def bd2 {α γ β : Type} (o : Option (α × γ)) (k : α → γ → Option β) : Option β := match o with | none => none | some x => k x.1 x.2
theorem ck_1 {α : Type} {b : Bool} {k res : Option α} (h : ck b k = res) (hne : res ≠ none) : b = true ∧ k = res := by
  cases b with
  | true => exact ⟨rfl, h⟩
  | false => exact absurd h.symm hne
theorem bd1_1 {α β : Type} {o : Option α} {k : α → Option β} {res : Option β} (h : bd1 o k = res) (hne : res ≠ none) : o ≠ none := by
  intro ho; subst ho; exact hne h.symm
theorem bd1_2 {α β : Type} {o : Option α} {k : α → Option β} {res : Option β} (h : bd1 o k = res) {x : α} (hx : o = some x) : k x = res := by
  subst hx; exact h
theorem bd2_1 {α γ β : Type} {o : Option (α × γ)} {k : α → γ → Option β} {res : Option β} (h : bd2 o k = res) (hne : res ≠ none) : o ≠ none := by
  intro ho; subst ho; exact hne h.symm
theorem bd2_2 {α γ β : Type} {o : Option (α × γ)} {k : α → γ → Option β} {res : Option β} (h : bd2 o k = res) {x : α} {y : γ} (hx : o = some (x, y)) : k x y = res := by
  subst hx; exact h
theorem it_1 {α : Type} {c : Prop} [Decidable c] {a b res : α} (h : (if c then a else b) = res) (hc : c) : a = res := by
  rw [if_pos hc] at h; exact h
theorem it_2 {α : Type} {c : Prop} [Decidable c] {a b res : α} (h : (if c then a else b) = res) (hc : ¬ c) : b = res := by
  rw [if_neg hc] at h; exact h
theorem ixb_1 {i : Int32} {n : Nat} (h : ixb i n = true) : vp_in i n := by
  simp only [ixb, Bool.and_eq_true, Bool.not_eq_true', decide_eq_false_iff_not, decide_eq_true_eq] at h
  intro hh
  rcases hh with h1 | h1
  · exact h.1 h1
  · omega
theorem none_1 {α : Type} {res : Option α} (h : (none : Option α) = res) (hne : res ≠ none) : False := hne h.symm
/-- the addresses' classes of arrays: int, char, boolean, rows of desks -/
abbrev Gt : Type := va_G × (Nat → ClassId)
abbrev tyL (g : Nat → ClassId) : List (ClassId × FieldType) := [(g 0, .int), (g 1, .char), (g 2, .char), (g 3, .object RX0)]
/-- the links between nest mates that the class's own calls take -/
abbrev nestW : List Cond := [.methodLinkNest RX6 9 yX0_init RX6, .methodLinkNest RX0 17 yX1_init RX6, .methodLinkNest RX0 24 yX3_init RX6, .methodLinkNest RX6 18 yX5_init RX6, .methodLinkNest RX6 25 yX4_init RX6, .methodLinkNest RX6 32 yX2_init RX6, .methodLinkNest RX2 21 yX0_init RX6, .methodLinkNest RX0 29 yX6_copy RX6, .methodLinkNest RX1 24 yX6_copy RX6, .methodLinkNest RX3 37 yX6_copy RX6, .methodLinkNest RX0 47 yX6_isMood RX6, .methodLinkNest RX0 89 yX6_isHour RX6]
theorem nest_warm : ∀ w ∈ nestW, ∀ {s U : State}, s.WarmedH U.vm → va_Nw w s → va_Nw w U := by
  intro w hw s U hW h
  simp only [nestW, List.mem_cons, List.not_mem_nil, or_false] at hw
  rcases hw with rfl | rfl | rfl | rfl | rfl | rfl | rfl | rfl | rfl | rfl | rfl | rfl <;> exact va_Nw.warmM hW h
theorem nest_tab : ∀ w ∈ nestW, w.onTables = true := by
  intro w hw
  simp only [nestW, List.mem_cons, List.not_mem_nil, or_false] at hw
  rcases hw with rfl | rfl | rfl | rfl | rfl | rfl | rfl | rfl | rfl | rfl | rfl | rfl <;> rfl
/-- what surrounds every call: the classes as the tables have them, and the nest's links -/
def amb (G : Gt) (U : State) : Prop := va_K G.1 vwCl (tyL G.2) U ∧ (∀ w ∈ nestW, va_Nw w U) ∧ va_AO RX0 U
theorem amb_warm {G : Gt} {s U : State} (hW : s.WarmedH U.vm) (h : amb G s) : amb G U := ⟨va_K.moved hW.alike h.1, fun w hw => nest_warm w hw hW (h.2.1 w hw), va_AO.moved hW.alike h.2.2⟩
theorem amb_same {G : Gt} {s U : State} (hW : s.vm = U.vm) (h : amb G s) : amb G U := ⟨va_K.moved (u := s) (U := U) (by rw [hW]; exact Vm.Alike.refl U.vm) h.1, fun w hw => (h.2.1 w hw).same (nest_tab w hw) hW, va_AO.moved (by rw [hW]; exact Vm.Alike.refl U.vm) h.2.2⟩
/-- the start of a method that only reads -/
def pcR (G : Gt) (av : List Value) (ws : va_W) : Array Value → State → Prop := va_Pc av (fun U => va_P G.1 vwCl ws U.heap ∧ amb G U)
theorem pcR_blind {G : Gt} {av : List Value} {ws : va_W} : FrameBlind (pcR G av ws) := fun _ U g mk q => ⟨q.1, q.2.1, amb_same (s := U) (U := U.calling g mk _) rfl q.2.2⟩
theorem pcR_pre {G : Gt} {av : List Value} {ws : va_W} {s : State} {H : Heap} (hP : va_P G.1 vwCl ws H) (ha : amb G s) : ∀ U : State, U.heap = H → s.WarmedH U.vm → pcR G av ws av.toArray U := fun U hU hW => ⟨rfl, by rw [hU]; exact hP, amb_warm hW ha⟩
/-- the start of a method that writes -/
def pcW (G : Gt) (av : List Value) (ws : va_W) (sz : Nat) : Array Value → State → Prop := va_Pc av (fun U => U.heap.size = sz ∧ va_P G.1 vwCl ws U.heap ∧ va_D (fun _ => True) ws ∧ amb G U)
theorem pcW_blind {G : Gt} {av : List Value} {ws : va_W} {sz : Nat} : FrameBlind (pcW G av ws sz) := fun _ U g mk q => ⟨q.1, q.2.1, q.2.2.1, q.2.2.2.1, amb_same (s := U) (U := U.calling g mk _) rfl q.2.2.2.2⟩
theorem pcW_pre {G : Gt} {av : List Value} {ws : va_W} {s : State} {H : Heap} {A : Nat → Prop} (hP : va_P G.1 vwCl ws H) (hD : va_D A ws) (ha : amb G s) : ∀ U : State, U.heap = H → s.WarmedH U.vm → pcW G av ws H.size av.toArray U := fun U hU hW => ⟨rfl, by rw [hU], by rw [hU]; exact hP, hD.weaken (fun _ _ _ _ => trivial), amb_warm hW ha⟩
/-- the world behind a method that writes -/
def atW (G : Gt) (ws : va_W) (A : Nat → Prop) (t : State) : Prop := va_P G.1 vwCl ws t.heap ∧ va_D A ws
theorem sR {A : Nat → Prop} {H : Heap} : va_S A H H [] := va_S.rf
def nn64 (r : UInt64) : Bool := decide (r &&& 0x7fffffffffffffff ≤ 0x7ff0000000000000)
def nn32 (r : UInt32) : Bool := decide (r &&& 0x7fffffff ≤ 0x7f800000)
theorem nn64_1 {r : UInt64} (h : nn64 r = true) : vf_n64 r := of_decide_eq_true (p := r &&& 0x7fffffffffffffff ≤ 0x7ff0000000000000) h
theorem nn32_1 {r : UInt32} (h : nn32 r = true) : vf_n32 r := of_decide_eq_true (p := r &&& 0x7fffffff ≤ 0x7f800000) h
def okZ (x : Int32) : Bool := decide (x = 0) || decide (x = 1)
def okC (x : Int32) : Bool := decide ((x.toUInt32 % 65536).toInt32 = x)
theorem okZ_0 {x : Int32} (h : okZ x = true) : x = 0 ∨ x = 1 := by
  simp only [okZ, Bool.or_eq_true, decide_eq_true_eq] at h; exact h
theorem okZ_1 {x : Int32} (h : okZ x = true) : narrow .boolean (.int x) = .int x := by
  rcases okZ_0 h with rfl | rfl <;> rfl
theorem okZ_2 {x : Int32} (h : okZ x = true) : fits .boolean (.int x) = true := by
  rcases okZ_0 h with rfl | rfl <;> rfl
theorem okC_1 {x : Int32} (h : okC x = true) : narrow .char (.int x) = .int x := by
  have h1 : (x.toUInt32 % 65536).toInt32 = x := of_decide_eq_true h
  have h2 := pk_nc x
  rw [h1] at h2
  exact h2
theorem ne_i {x y : Int32} {k : Int} (h : ¬ x = y) (hk : y.toInt = k) : x.toInt ≠ k := fun e => h (Int32.toInt_inj.mp (e.trans hk.symm))
section CW
variable {p : Program} {l : Launch} {e : Env} {R : Room} {s : State} {m : MethodId} {args : Array Value} {below : List Frame} {meth : Method} {c : Code} {H : Heap} {locs : List Loc} {cells slots : Nat} {Q : State → Prop}
variable {pc : Nat} {ls : Array Slot} {rest st0 : List Value} {aa : Array Value} {A : Nat → Prop} {mc ms : Nat} {G : Gt} {ws wc wr : va_W}
theorem cwi {S : Type} {post : Int32 → S → Prop} {w1 : S → va_W} (hr : va_Run p l e R s m args below meth c H locs cells slots mc ms (F0 m pc ls st0) rest (va_Qi post (fun u t => atW G (w1 u) (va_A wc H.size) t) (va_A wc H.size) aa) (va_A wc H.size)) (hP : va_P G.1 vwCl ws H) (hD : va_D A ws) (hS : va_S A s.heap H locs) (hA : ∀ q : Nat, s.heap.size ≤ q → A q) (isC isR : List Nat) (hC : isC.map (fun i => ws[i]?) = wc.map some) (hR : isR.map (fun i => ws[i]?) = wr.map some) (hn : va_nd isR = true) (hdis : ∀ i ∈ isR, i ∉ isC)
    (kk : ∀ (r : Int32) (u : S) (H1 : Heap) (locs1 : List Loc), post r u → va_P G.1 vwCl (wr ++ w1 u) H1 → va_D A (wr ++ w1 u) → va_S A s.heap H1 locs1 → W p l e R s m args below meth c H1 locs1 (cells + mc) (slots + ms) Q (F0 m (pc + 3) ls (.int r :: rest))) : W p l e R s m args below meth c H locs cells slots Q (F0 m pc ls st0) := by
  have hF := va_free hD hS hA isC hC
  refine va_calli hr hS (fun q _ h => hF q h) hF (fun r u t H1 locs1 ht _ hw hB _ hk1 hS1 => ?_)
  obtain ⟨hP1, hD1⟩ := hB
  rw [ht] at hP1
  obtain ⟨j1, j2⟩ := va_join (wr := wr) hP hD isC isR hC hR hn hdis hk1 hF hP1 hD1
  exact kk r u H1 locs1 hw j1 j2 hS1
theorem cwl {S : Type} {post : Int64 → S → Prop} {w1 : S → va_W} (hr : va_Run p l e R s m args below meth c H locs cells slots mc ms (F0 m pc ls st0) rest (va_Ql post (fun u t => atW G (w1 u) (va_A wc H.size) t) (va_A wc H.size) aa) (va_A wc H.size)) (hP : va_P G.1 vwCl ws H) (hD : va_D A ws) (hS : va_S A s.heap H locs) (hA : ∀ q : Nat, s.heap.size ≤ q → A q) (isC isR : List Nat) (hC : isC.map (fun i => ws[i]?) = wc.map some) (hR : isR.map (fun i => ws[i]?) = wr.map some) (hn : va_nd isR = true) (hdis : ∀ i ∈ isR, i ∉ isC)
    (kk : ∀ (r : Int64) (u : S) (H1 : Heap) (locs1 : List Loc), post r u → va_P G.1 vwCl (wr ++ w1 u) H1 → va_D A (wr ++ w1 u) → va_S A s.heap H1 locs1 → W p l e R s m args below meth c H1 locs1 (cells + mc) (slots + ms) Q (F0 m (pc + 3) ls (.long r :: rest))) : W p l e R s m args below meth c H locs cells slots Q (F0 m pc ls st0) := by
  have hF := va_free hD hS hA isC hC
  refine va_calll hr hS (fun q _ h => hF q h) hF (fun r u t H1 locs1 ht _ hw hB _ hk1 hS1 => ?_)
  obtain ⟨hP1, hD1⟩ := hB
  rw [ht] at hP1
  obtain ⟨j1, j2⟩ := va_join (wr := wr) hP hD isC isR hC hR hn hdis hk1 hF hP1 hD1
  exact kk r u H1 locs1 hw j1 j2 hS1
theorem cwv {S : Type} {post : S → Prop} {w1 : S → va_W} (hr : va_Run p l e R s m args below meth c H locs cells slots mc ms (F0 m pc ls st0) rest (va_Qv post (fun u t => atW G (w1 u) (va_A wc H.size) t) (va_A wc H.size) aa) (va_A wc H.size)) (hP : va_P G.1 vwCl ws H) (hD : va_D A ws) (hS : va_S A s.heap H locs) (hA : ∀ q : Nat, s.heap.size ≤ q → A q) (isC isR : List Nat) (hC : isC.map (fun i => ws[i]?) = wc.map some) (hR : isR.map (fun i => ws[i]?) = wr.map some) (hn : va_nd isR = true) (hdis : ∀ i ∈ isR, i ∉ isC)
    (kk : ∀ (u : S) (H1 : Heap) (locs1 : List Loc), post u → va_P G.1 vwCl (wr ++ w1 u) H1 → va_D A (wr ++ w1 u) → va_S A s.heap H1 locs1 → W p l e R s m args below meth c H1 locs1 (cells + mc) (slots + ms) Q (F0 m (pc + 3) ls rest)) : W p l e R s m args below meth c H locs cells slots Q (F0 m pc ls st0) := by
  have hF := va_free hD hS hA isC hC
  refine va_callv hr hS (fun q _ h => hF q h) hF (fun u t H1 locs1 ht _ hw hB _ hk1 hS1 => ?_)
  obtain ⟨hP1, hD1⟩ := hB
  rw [ht] at hP1
  obtain ⟨j1, j2⟩ := va_join (wr := wr) hP hD isC isR hC hR hn hdis hk1 hF hP1 hD1
  exact kk u H1 locs1 hw j1 j2 hS1
end CW
def drawersC (g : Nat → ClassId) (a : Nat → Nat) (v : DV) : va_W := [(a 2, .inr (1, [.ref (a 3), .ref (a 4), .ref (a 5), .ref (a 6)])), (a 3, .inl (g 0, 6, .inl (v 3))), (a 4, .inl (g 0, 6, .inl (v 4))), (a 5, .inl (g 0, 6, .inl (v 5))), (a 6, .inl (g 0, 6, .inl (v 6)))]
def lettersC (g : Nat → ClassId) (a : Nat → Nat) (v : DV) : va_W := [(a 7, .inr (3, [.int (v 1 0), .ref (a 8), .ref (a 9), .ref (a 10), .ref (a 11), .ref (a 12), .ref (a 13), .ref (a 14)])), (a 8, .inl (g 0, 30, .inl (v 7))), (a 9, .inl (g 0, 30, .inl (v 8))), (a 10, .inl (g 0, 30, .inl (v 9))), (a 11, .inl (g 0, 30, .inl (v 10))), (a 12, .inl (g 0, 30, .inl (v 11))), (a 13, .inl (g 0, 30, .inl (v 12))), (a 14, .inl (g 0, 30, .inl (v 13)))]
def deskC (g : Nat → ClassId) (a : Nat → Nat) (v : DV) : va_W := [(a 0, .inr (0, [.ref (a 1), .int (v 0 0), .ref (a 2), .ref (a 7)])), (a 1, .inl (g 0, 3, .inl (v 2))), (a 2, .inr (1, [.ref (a 3), .ref (a 4), .ref (a 5), .ref (a 6)])), (a 3, .inl (g 0, 6, .inl (v 3))), (a 4, .inl (g 0, 6, .inl (v 4))), (a 5, .inl (g 0, 6, .inl (v 5))), (a 6, .inl (g 0, 6, .inl (v 6))), (a 7, .inr (3, [.int (v 1 0), .ref (a 8), .ref (a 9), .ref (a 10), .ref (a 11), .ref (a 12), .ref (a 13), .ref (a 14)])), (a 8, .inl (g 0, 30, .inl (v 7))), (a 9, .inl (g 0, 30, .inl (v 8))), (a 10, .inl (g 0, 30, .inl (v 9))), (a 11, .inl (g 0, 30, .inl (v 10))), (a 12, .inl (g 0, 30, .inl (v 11))), (a 13, .inl (g 0, 30, .inl (v 12))), (a 14, .inl (g 0, 30, .inl (v 13)))]
def regC (g : Nat → ClassId) (a : Nat → Nat) (v : DV) : va_W := [(a 15, .inr (5, [.ref (a 16)])), (a 16, .inl (g 0, 30, .inl (v 14))), (a 0, .inr (0, [.ref (a 1), .int (v 0 0), .ref (a 2), .ref (a 7)])), (a 1, .inl (g 0, 3, .inl (v 2))), (a 2, .inr (1, [.ref (a 3), .ref (a 4), .ref (a 5), .ref (a 6)])), (a 3, .inl (g 0, 6, .inl (v 3))), (a 4, .inl (g 0, 6, .inl (v 4))), (a 5, .inl (g 0, 6, .inl (v 5))), (a 6, .inl (g 0, 6, .inl (v 6))), (a 7, .inr (3, [.int (v 1 0), .ref (a 8), .ref (a 9), .ref (a 10), .ref (a 11), .ref (a 12), .ref (a 13), .ref (a 14)])), (a 8, .inl (g 0, 30, .inl (v 7))), (a 9, .inl (g 0, 30, .inl (v 8))), (a 10, .inl (g 0, 30, .inl (v 9))), (a 11, .inl (g 0, 30, .inl (v 10))), (a 12, .inl (g 0, 30, .inl (v 11))), (a 13, .inl (g 0, 30, .inl (v 12))), (a 14, .inl (g 0, 30, .inl (v 13)))]
def padC (g : Nat → ClassId) (a : Nat → Nat) (v : DV) : va_W := [(a 17, .inr (4, [.ref (a 18), .int (v 16 0), .int (v 17 0), .int (v 18 0), .int (v 19 0), .int (v 20 0), .int (v 21 0)])), (a 18, .inl (g 1, 80, .inl (v 15)))]
def modelC (g : Nat → ClassId) (a : Nat → Nat) (v : DV) : va_W := [(a 0, .inr (7, [.ref (a 1), .ref (a 2), .ref (a 3), .int (v 8 0), .ref (a 4), .ref (a 5), .ref (a 6), .int (v 9 0), .ref (a 7), .ref (a 8), .int (v 10 0), .int (v 11 0), .int (v 12 0), .int (v 13 0), .int (v 14 0), .int (v 15 0)])), (a 1, .inl (g 0, 240, .inl (v 0))), (a 2, .inl (g 0, 240, .inl (v 1))), (a 3, .inl (g 0, 1440, .inl (v 2))), (a 4, .inl (g 0, 480, .inl (v 3))), (a 5, .inl (g 2, 2, .inl (v 4))), (a 6, .inl (g 0, 80, .inl (v 5))), (a 7, .inl (g 0, 30, .inl (v 6))), (a 8, .inl (g 0, 30, .inl (v 7)))]
def xcoreC (g : Nat → ClassId) (a : Nat → Nat) (v : DV) : va_W := [(a 21, .inr (6, [.ref (a 0), .ref (a 15), .ref (a 17), .ref (a 19), .ref (a 22)])), (a 15, .inr (5, [.ref (a 16)])), (a 16, .inl (g 0, 30, .inl (v 14))), (a 0, .inr (0, [.ref (a 1), .int (v 0 0), .ref (a 2), .ref (a 7)])), (a 1, .inl (g 0, 3, .inl (v 2))), (a 2, .inr (1, [.ref (a 3), .ref (a 4), .ref (a 5), .ref (a 6)])), (a 3, .inl (g 0, 6, .inl (v 3))), (a 4, .inl (g 0, 6, .inl (v 4))), (a 5, .inl (g 0, 6, .inl (v 5))), (a 6, .inl (g 0, 6, .inl (v 6))), (a 7, .inr (3, [.int (v 1 0), .ref (a 8), .ref (a 9), .ref (a 10), .ref (a 11), .ref (a 12), .ref (a 13), .ref (a 14)])), (a 8, .inl (g 0, 30, .inl (v 7))), (a 9, .inl (g 0, 30, .inl (v 8))), (a 10, .inl (g 0, 30, .inl (v 9))), (a 11, .inl (g 0, 30, .inl (v 10))), (a 12, .inl (g 0, 30, .inl (v 11))), (a 13, .inl (g 0, 30, .inl (v 12))), (a 14, .inl (g 0, 30, .inl (v 13))), (a 17, .inr (4, [.ref (a 18), .int (v 16 0), .int (v 17 0), .int (v 18 0), .int (v 19 0), .int (v 20 0), .int (v 21 0)])), (a 18, .inl (g 1, 80, .inl (v 15))), (a 19, .inr (2, [.ref (a 20), .int (v 22 0)]))]
/-- the row of the settings' greatest values, a static of the class; no cell of A -/
def hsF : Nat → Int32 := fun j => if j = 0 then 23 else if j = 1 then 99 else 20
def hsOK (A : Nat → Prop) (U : State) : Prop := va_Nw (.fieldLinkNest RX0 44 "MoodDrawers" "HIGHEST_SETTING" "[I" RX6) U ∧ ∃ t : Nat, va_Z "MoodDrawers" "HIGHEST_SETTING" "[I" (.ref t) A U U.heap ∧ va_T .int t 3 (fun j => .int (hsF j)) A U U.heap
def pcH (G : Gt) (av : List Value) (ws : va_W) (sz : Nat) : Array Value → State → Prop := va_Pc av (fun U => U.heap.size = sz ∧ va_P G.1 vwCl ws U.heap ∧ va_D (fun _ => True) ws ∧ amb G U ∧ hsOK (va_A ws sz) U)
