/-! The desk with its history and slots: rows of desks, in any number; worlds by their segments. -/
abbrev HD : Type := (Nat → Nat) × DV
def rowsF (hs : List HD) : Nat → Option Nat := fun i => (hs[i]?).map (fun d => d.1 0)
def deskL (g : Nat → ClassId) (ds : List HD) : va_W := ds.flatMap (fun d => deskC g d.1 d.2)
def xArr (g : Nat → ClassId) (a : Nat → Nat) (R S : Nat → Option Nat) : va_W := [(a 20, .inl (g 3, 7, .inr (.inr (.inr (.inr R))))), (a 22, .inl (g 3, 2, .inr (.inr (.inr (.inr S)))))]
def xA (g : Nat → ClassId) (a : Nat → Nat) (v : DV) : va_W := [(a 21, .inr (6, [.ref (a 0), .ref (a 15), .ref (a 17), .ref (a 19), .ref (a 22)])), (a 15, .inr (5, [.ref (a 16)])), (a 16, .inl (g 0, 30, .inl (v 14)))]
def xH (a : Nat → Nat) (v : DV) : va_W := [(a 19, .inr (2, [.ref (a 20), .int (v 22 0)]))]
theorem xcoreC_eq (g : Nat → ClassId) (a : Nat → Nat) (v : DV) : xcoreC g a v = xA g a v ++ (deskC g a v ++ (padC g a v ++ xH a v)) := rfl
theorem deskL_app (g : Nat → ClassId) (l1 l2 : List HD) : deskL g (l1 ++ l2) = deskL g l1 ++ deskL g l2 := List.flatMap_append
theorem deskL_cons (g : Nat → ClassId) (d : HD) (l : List HD) : deskL g (d :: l) = deskC g d.1 d.2 ++ deskL g l := List.flatMap_cons
/-- segments in another order -/
theorem segp (segs : List va_W) (n : Nat) (idx : List Nat) (hn : segs.length = n) (h : idx.Perm (List.range n)) : segs.flatten.Perm ((idx.map (fun i => segs.getD i [])).flatten) := by
  subst hn
  have h1 : (List.range segs.length).map (fun i => segs.getD i []) = segs := by
    apply List.ext_getElem
    · simp
    · intro i h1 h2
      simp at h1
      simp [List.getD, List.getElem?_eq_getElem h1]
  have h2 : segs.Perm (idx.map (fun i => segs.getD i [])) := by
    have h3 := (h.symm.map (fun i => segs.getD i []))
    rw [h1] at h3
    exact h3
  exact h2.flatten
section CWP
variable {p : Program} {l : Launch} {e : Env} {R : Room} {s : State} {m : MethodId} {args : Array Value} {below : List Frame} {meth : Method} {c : Code} {H : Heap} {locs : List Loc} {cells slots : Nat} {Q : State → Prop}
variable {pc : Nat} {ls : Array Slot} {rest st0 : List Value} {aa : Array Value} {A : Nat → Prop} {mc ms : Nat} {G : Gt} {ws wc wr : va_W}
theorem cwiP {S : Type} {post : Int32 → S → Prop} {w1 ws1 : S → va_W} (hr : va_Run p l e R s m args below meth c H locs cells slots mc ms (F0 m pc ls st0) rest (va_Qi post (fun u t => atW G (w1 u) (va_A wc H.size) t) (va_A wc H.size) aa) (va_A wc H.size)) (hP : va_P G.1 vwCl ws H) (hD : va_D A ws) (hS : va_S A s.heap H locs) (hA : ∀ q : Nat, s.heap.size ≤ q → A q) (h1 : ws.Perm (wc ++ wr)) (h2 : ∀ u, (w1 u ++ wr).Perm (ws1 u))
    (kk : ∀ (r : Int32) (u : S) (H1 : Heap) (locs1 : List Loc), post r u → va_P G.1 vwCl (ws1 u) H1 → va_D A (ws1 u) → va_S A s.heap H1 locs1 → W p l e R s m args below meth c H1 locs1 (cells + mc) (slots + ms) Q (F0 m (pc + 3) ls (.int r :: rest))) : W p l e R s m args below meth c H locs cells slots Q (F0 m pc ls st0) := by
  have hP' := va_P_perm hP h1
  have hD' := va_D_perm hD h1
  have hF := va_freeA hD' hS hA
  refine va_calli hr hS (fun q _ h => hF q h) hF (fun r u t H1 locs1 ht _ hw hB _ hk1 hS1 => ?_)
  obtain ⟨hP1, hD1⟩ := hB
  rw [ht] at hP1
  obtain ⟨j1, j2⟩ := va_joinA hP' hD' hk1 hF hP1 hD1
  exact kk r u H1 locs1 hw (va_P_perm j1 (h2 u)) (va_D_perm j2 (h2 u)) hS1
theorem cwlP {S : Type} {post : Int64 → S → Prop} {w1 ws1 : S → va_W} (hr : va_Run p l e R s m args below meth c H locs cells slots mc ms (F0 m pc ls st0) rest (va_Ql post (fun u t => atW G (w1 u) (va_A wc H.size) t) (va_A wc H.size) aa) (va_A wc H.size)) (hP : va_P G.1 vwCl ws H) (hD : va_D A ws) (hS : va_S A s.heap H locs) (hA : ∀ q : Nat, s.heap.size ≤ q → A q) (h1 : ws.Perm (wc ++ wr)) (h2 : ∀ u, (w1 u ++ wr).Perm (ws1 u))
    (kk : ∀ (r : Int64) (u : S) (H1 : Heap) (locs1 : List Loc), post r u → va_P G.1 vwCl (ws1 u) H1 → va_D A (ws1 u) → va_S A s.heap H1 locs1 → W p l e R s m args below meth c H1 locs1 (cells + mc) (slots + ms) Q (F0 m (pc + 3) ls (.long r :: rest))) : W p l e R s m args below meth c H locs cells slots Q (F0 m pc ls st0) := by
  have hP' := va_P_perm hP h1
  have hD' := va_D_perm hD h1
  have hF := va_freeA hD' hS hA
  refine va_calll hr hS (fun q _ h => hF q h) hF (fun r u t H1 locs1 ht _ hw hB _ hk1 hS1 => ?_)
  obtain ⟨hP1, hD1⟩ := hB
  rw [ht] at hP1
  obtain ⟨j1, j2⟩ := va_joinA hP' hD' hk1 hF hP1 hD1
  exact kk r u H1 locs1 hw (va_P_perm j1 (h2 u)) (va_D_perm j2 (h2 u)) hS1
theorem cwvP {S : Type} {post : S → Prop} {w1 ws1 : S → va_W} (hr : va_Run p l e R s m args below meth c H locs cells slots mc ms (F0 m pc ls st0) rest (va_Qv post (fun u t => atW G (w1 u) (va_A wc H.size) t) (va_A wc H.size) aa) (va_A wc H.size)) (hP : va_P G.1 vwCl ws H) (hD : va_D A ws) (hS : va_S A s.heap H locs) (hA : ∀ q : Nat, s.heap.size ≤ q → A q) (h1 : ws.Perm (wc ++ wr)) (h2 : ∀ u, (w1 u ++ wr).Perm (ws1 u))
    (kk : ∀ (u : S) (H1 : Heap) (locs1 : List Loc), post u → va_P G.1 vwCl (ws1 u) H1 → va_D A (ws1 u) → va_S A s.heap H1 locs1 → W p l e R s m args below meth c H1 locs1 (cells + mc) (slots + ms) Q (F0 m (pc + 3) ls rest)) : W p l e R s m args below meth c H locs cells slots Q (F0 m pc ls st0) := by
  have hP' := va_P_perm hP h1
  have hD' := va_D_perm hD h1
  have hF := va_freeA hD' hS hA
  refine va_callv hr hS (fun q _ h => hF q h) hF (fun u t H1 locs1 ht _ hw hB _ hk1 hS1 => ?_)
  obtain ⟨hP1, hD1⟩ := hB
  rw [ht] at hP1
  obtain ⟨j1, j2⟩ := va_joinA hP' hD' hk1 hF hP1 hD1
  exact kk u H1 locs1 hw (va_P_perm j1 (h2 u)) (va_D_perm j2 (h2 u)) hS1
end CWP
/-- the whole world of an object: its own cells, the rows and slots, all desks beside the living one -/
def xW (g : Nat → ClassId) (a : Nat → Nat) (v : DV) (R S : Nat → Option Nat) (ds : List HD) : va_W := xcoreC g a v ++ (xArr g a R S ++ deskL g ds)
/-- all but the living desk -/
def xR (g : Nat → ClassId) (a : Nat → Nat) (v : DV) (R S : Nat → Option Nat) (T : va_W) : va_W := xA g a v ++ (padC g a v ++ (xH a v ++ (xArr g a R S ++ T)))
abbrev dks : List Nat := [0, 1, 2, 3, 4, 5, 6, 7, 8, 9, 10, 11, 12, 13]
theorem xW_desk (g : Nat → ClassId) (a : Nat → Nat) (v : DV) (R S : Nat → Option Nat) (ds : List HD) : (xW g a v R S ds).Perm (deskC g a v ++ xR g a v R S (deskL g ds)) := by
  have h := segp [xA g a v, deskC g a v, padC g a v, xH a v, xArr g a R S, deskL g ds] 6 [1, 0, 2, 3, 4, 5] rfl (by decide)
  simpa [xW, xR, xcoreC_eq, List.append_assoc] using h
theorem xW_desk' (g : Nat → ClassId) (a : Nat → Nat) (v u : DV) (R S : Nat → Option Nat) (ds : List HD) : (deskC g a u ++ xR g a v R S (deskL g ds)).Perm (xW g a (mx dks v u) R S ds) := by
  have h := (xW_desk g a (mx dks v u) R S ds).symm
  exact h
theorem xW_split (g : Nat → ClassId) (a : Nat → Nat) (v : DV) (R S : Nat → Option Nat) (l1 l2 : List HD) (d : HD) : (xW g a v R S (l1 ++ d :: l2)).Perm ((deskC g d.1 d.2 ++ deskC g a v) ++ xR g a v R S (deskL g l1 ++ deskL g l2)) := by
  have h := segp [xA g a v, deskC g a v, padC g a v, xH a v, xArr g a R S, deskL g l1, deskC g d.1 d.2, deskL g l2] 8 [6, 1, 0, 2, 3, 4, 5, 7] rfl (by decide)
  simpa [xW, xR, xcoreC_eq, deskL_app, deskL_cons, List.append_assoc] using h
theorem xW_split2 (g : Nat → ClassId) (a : Nat → Nat) (v : DV) (R S : Nat → Option Nat) (l1 l2 : List HD) (d : HD) : (xW g a v R S (l1 ++ d :: l2)).Perm ((deskC g a v ++ deskC g d.1 d.2) ++ xR g a v R S (deskL g l1 ++ deskL g l2)) := by
  have h := segp [xA g a v, deskC g a v, padC g a v, xH a v, xArr g a R S, deskL g l1, deskC g d.1 d.2, deskL g l2] 8 [1, 6, 0, 2, 3, 4, 5, 7] rfl (by decide)
  simpa [xW, xR, xcoreC_eq, deskL_app, deskL_cons, List.append_assoc] using h
theorem xW_perm (g : Nat → ClassId) (a : Nat → Nat) (v : DV) (R S : Nat → Option Nat) {d1 d2 : List HD} (h : d1.Perm d2) : (xW g a v R S d1).Perm (xW g a v R S d2) := by
  refine List.Perm.append_left _ (List.Perm.append_left _ ?_)
  exact h.flatMap_right _
/-- a row's words count only at its places -/
theorem va_P_rows {D : va_G} {cl : List vw_C} {w1 w2 : va_W} {q : Nat} {cA : ClassId} {n : Nat} {f g : Nat → Option Nat} {H : Heap} (h : va_P D cl (w1 ++ (q, .inl (cA, n, .inr (.inr (.inr (.inr f))))) :: w2) H) (hfg : ∀ j, j < n → f j = g j) : va_P D cl (w1 ++ (q, .inl (cA, n, .inr (.inr (.inr (.inr g))))) :: w2) H := by
  have hc : vp_cell cA (n, .inr (.inr (.inr (.inr f)))) = vp_cell cA (n, .inr (.inr (.inr (.inr g)))) := by
    show arrV cA n (fun j => va_rf (f j)) = arrV cA n (fun j => va_rf (g j))
    unfold arrV
    congr 1
    apply Array.ext
    · simp
    · intro i h1 h2
      simp at h1
      simp [hfg i h1]
  intro k x hk
  have hx := List.mem_of_getElem? hk
  rcases List.mem_append.mp hx with h1 | h1
  · obtain ⟨i, hi⟩ := List.getElem?_of_mem (List.mem_append_left ((q, Sum.inl (cA, n, .inr (.inr (.inr (.inr f))))) :: w2) h1)
    exact h i x hi
  · rcases List.mem_cons.mp h1 with h2 | h2
    · subst h2
      obtain ⟨i, hi⟩ := List.getElem?_of_mem (List.mem_append_right w1 (List.mem_cons_self (a := (q, (Sum.inl (cA, n, .inr (.inr (.inr (.inr f)))) : va_E))) (l := w2)))
      have h3 := h i _ hi
      show H[q]? = some _
      rw [← hc]
      exact h3
    · obtain ⟨i, hi⟩ := List.getElem?_of_mem (List.mem_append_right w1 (List.mem_cons_of_mem (q, (Sum.inl (cA, n, .inr (.inr (.inr (.inr f)))) : va_E)) h2))
      exact h i x hi
theorem va_D_rows {A : Nat → Prop} {w1 w2 : va_W} {q : Nat} {e1 e2 : va_E} (h : va_D A (w1 ++ (q, e1) :: w2)) : va_D A (w1 ++ (q, e2) :: w2) := by
  rw [va_D_nodup] at h ⊢
  refine ⟨?_, ?_⟩
  · have h1 := h.1
    simp only [List.map_append, List.map_cons] at h1 ⊢
    exact h1
  · intro x hx
    rcases List.mem_append.mp hx with h1 | h1
    · exact h.2 x (List.mem_append_left _ h1)
    · rcases List.mem_cons.mp h1 with h2 | h2
      · subst h2
        exact h.2 (q, e1) (List.mem_append_right _ List.mem_cons_self)
      · exact h.2 x (List.mem_append_right _ (List.mem_cons_of_mem _ h2))
