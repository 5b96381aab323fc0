/-! The law's loop, and the law from its entry. -/
set_option maxHeartbeats 4000000 in
set_option maxRecDepth 100000 in
theorem law_loop {p : Program} {l : Launch} {e : Env} {s : State} {m : MethodId} {below : List Frame} {meth : Method} {c : Code} {G : Gt} {a : Nat → Nat} {b0 L : Nat} {xs : Nat → Int32} (C : LC p s m #[Value.ref b0] c G (fun q : Nat => s.heap.size ≤ q) b0 L xs) (hr : meth.sig.returnType = ret) (hlocks : meth.locks = false) (hL : L ≤ 260) : ∀ (n i cells slots : Nat), n + i = 56 → cells + 106 * n ≤ 600000 → slots + 1801 * n ≤ 7302250 → KK p l e s m #[Value.ref b0] below meth c (lw_Z below #[Value.ref b0] s) G a (fun q : Nat => s.heap.size ≤ q) [(2, .int (nI i)), (0, .ref b0), (1, .ref (a 21))] cells slots 10 (fun _ _ => True) := by
  intro n
  induction n with
  | zero =>
    intro i cells slots h1 h2 h3 v hs N w H locs ls _ h hl
    obtain ⟨hx, hb, hml, hown, hts, hamb, hX, hbl, hbA, hA, hHS⟩ := id C
    obtain ⟨hSG, hP, hD, hS⟩ := id h
    have hi : i = 56 := by omega
    subst hi
    refine lv_iload_n hx hb dL_law_10 rfl (lv_at hl 0 rfl) ?_
    refine lv_bipush (v := 56) hx hb dL_law_11 (by decide) ?_
    refine lv_icmp_ge (tgt := 194) hx hb dL_law_13 (by decide) (fun _ => ?_) (fun c9 => absurd (show (56 : Int32) ≤ nI 56 by decide) c9)
    refine lv_iconst (v := 1) hx hb dL_law_194 (by decide) ?_
    refine va_forget (fun q hq => hS.2.2 q hq) ?_
    refine W.widen (k := 600000) (n := 7302250) (by omega) (by omega) ?_
    exact lw_ret (Drawn.sameBut.refl s.drawn lw_cs) hx hb hr hlocks dL_law_195
  | succ n ih =>
    intro i cells slots h1 h2 h3 v hs N w H locs ls _ h hl
    obtain ⟨hx, hb, hml, hown, hts, hamb, hX, hbl, hbA, hA, hHS⟩ := id C
    refine lv_iload_n hx hb dL_law_10 rfl (lv_at hl 0 rfl) ?_
    refine lv_bipush (v := 56) hx hb dL_law_11 (by decide) ?_
    refine lv_icmp_ge (tgt := 194) hx hb dL_law_13 (by decide) (fun c9 => absurd c9 (show ¬ (56 : Int32) ≤ nI i from nI_ge (a := i) (b := 56) (by omega) (by decide))) (fun _ => ?_)
    exact law_step C (show i < 56 by omega) hL (by omega) (by omega) (ih (i + 1) (cells + 106) (slots + 1801) (by omega) (by omega) (by omega)) v hs N w H locs ls trivial h hl
set_option maxHeartbeats 4000000 in
set_option maxRecDepth 100000 in
theorem whole_go {p : Program} {e : Env} {s : State} {m : MethodId} {below : List Frame} {meth : Method} {c : Code} (l : Launch) {b L : Nat} {xs : Nat → Int32} (hL : L ≤ 260) (hx : p.tables.exec = Jvm.exec) (hb : c.code = cL_law) (hr : meth.sig.returnType = ret) (hml : c.maxLocals = 7) (hown : s.vm.findClass RL = some m.cls) (htw : ∀ w ∈ lw_tbl, w.before #[Value.ref b] s = true) (hX : va_X b L xs s s.heap) (hbl : b < s.heap.size) (hlocks : meth.locks = false) (hgv : (Jvm.Cond.and given_1 narrow_1).before #[Value.ref b] s = true) : W p l e room_1 s m #[Value.ref b] below meth c s.heap [] 0 0 (lw_Z below #[Value.ref b] s) (entryFrame m ([Value.ref b] : List Value).toArray 7) := by
  have hA : ∀ q : Nat, s.heap.size ≤ q → (fun q : Nat => s.heap.size ≤ q) q := fun _ h => h
  have hbA : ¬ (fun q : Nat => s.heap.size ≤ q) b := Nat.not_le.mpr hbl
  have hts : ∀ w ∈ wsL_law, w.before #[Value.ref b] s = true := fun w h => htw w (wsL_law_in w h)
  obtain ⟨G, hamb⟩ := amb_entry htw
  have hHS : hsOK (fun q : Nat => s.heap.size ≤ q) s := hs_entry htw hgv (fun a h => Nat.not_le.mpr h)
  have C : LC p s m #[Value.ref b] c G (fun q : Nat => s.heap.size ≤ q) b L xs := ⟨hx, hb, hml, hown, hts, hamb, hX, hbl, hbA, hA, hHS⟩
  have hK := hamb.1
  have hS : va_S (fun q : Nat => s.heap.size ≤ q) s.heap s.heap [] := va_S.rf
  have hP : va_P G.1 vwCl [] s.heap := fun k q h => by simp at h
  have hD : va_D (fun q : Nat => s.heap.size ≤ q) [] := ⟨fun i j p q h => by simp at h, fun k q h => by simp at h⟩
  have hl := lv_entry ([.ref b]) (n := 7) (Nat.le_of_ble_eq_true rfl)
  rw [lg_entry_eq]
  generalize (lg_sl ([.ref b]) ++ List.replicate (7 - (lg_sl ([.ref b])).length) Slot.unset).toArray = ls at hl ⊢
  have hl : lv_has ls 7 [(0, .ref b)] := hl
  refine va_new (ci := 6) (fs := [.null, .null, .null, .null, .null]) (C := RX6) (T := TX6) (N := 5) hx hb htw inX6 tyX6 tyX6_ok hown (hts (.classLink RL 9 RX6) (by decide +kernel)) (hts (.instantiable RX6 5) (by decide +kernel)) (hts (.initialized RX6) (by decide +kernel)) hK hP hD hS hA rfl (fun j hj => by rcases (show j = 0 ∨ j = 1 ∨ j = 2 ∨ j = 3 ∨ j = 4 by omega) with rfl | rfl | rfl | rfl | rfl <;> rfl) (Nat.le_of_ble_eq_true rfl) (Nat.le_of_ble_eq_true rfl) dL_law_0 (fun q0 H hP hD hS => ?_)
  have hP : va_P G.1 vwCl [(q0, .inr (6, [.null, .null, .null, .null, .null]))] H := hP
  have hD : va_D (fun q : Nat => s.heap.size ≤ q) [(q0, .inr (6, [.null, .null, .null, .null, .null]))] := hD
  refine lv_dup hx hb dL_law_3 rfl ?_
  refine cwv (va_runI (As := []) (rest := [.ref q0]) ⟨hx, hb, hml, hown, hts⟩ (ok_X6_init l G q0 H.size) (cwI 0 hts gL_law_X6_init rfl rfl rfl (hts (.initialized RX6) (by decide +kernel)) (hts (.methodLink RL 75 yX6_init) (by decide +kernel)) (hts (.instanceMethod yX6_init) (by decide +kernel)) rfl (by decide +kernel) ⟨Nat.le_of_ble_eq_true rfl, Nat.le_of_ble_eq_true rfl⟩) ⟨pcW_blind, pcW_pre hP hD hamb⟩ rfl rfl hl.1 rfl (lv_room (Nat.le_of_ble_eq_true rfl)) dL_law_4 ⟨Nat.le_of_ble_eq_true rfl, Nat.le_of_ble_eq_true rfl⟩) (wr := []) hP hD hS hA [0] [] rfl rfl (by decide) (by decide) (fun a H2 locs2 hw hP2 hD2 hS2 => ?_)
  have hw : a 21 = q0 := hw
  subst hw
  generalize H2 = H, locs2 = locs at hP2 hD2 hS2 ⊢
  have hP : va_P G.1 vwCl (XW G a iv_X6_init []) H := hP2
  have hD : va_D (fun q : Nat => s.heap.size ≤ q) (XW G a iv_X6_init []) := hD2
  have hS : va_S (fun q : Nat => s.heap.size ≤ q) s.heap H locs := hS2
  refine lv_astore_n (lv' := [(1, .ref (a 21)), (0, .ref b)]) hx hb dL_law_7 rfl hl (by decide) rfl (fun ls hl => ?_)
  refine lv_iconst (v := 0) hx hb dL_law_8 (by decide) ?_
  refine lv_istore_n (lv' := [(2, .int 0), (1, .ref (a 21)), (0, .ref b)]) hx hb dL_law_9 rfl hl (by decide) rfl (fun ls hl => ?_)
  refine W.widen (k := 100) (n := 1000) (Nat.le_of_ble_eq_true rfl) (Nat.le_of_ble_eq_true rfl) ?_
  exact law_loop C hr hlocks hL 56 0 100 1000 rfl (Nat.le_of_ble_eq_true rfl) (Nat.le_of_ble_eq_true rfl) iv_X6_init [] 0 0 H locs ls trivial ⟨sg0, hP, hD, hS⟩ (lv_sub hl [0, 2, 1] rfl)
