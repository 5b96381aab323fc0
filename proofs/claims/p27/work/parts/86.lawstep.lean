/-! One event of the law, from the last check to the first. -/
/-- the object, sound, in its world -/
def OK27 (G : Gt) (a : Nat → Nat) (A : Nat → Prop) (s : State) (H : Heap) (locs : List Loc) (v : DV) (hs : List HD) (N w : Nat) : Prop := SG v (hs.map Prod.snd) N w ∧ va_P G.1 vwCl (XW G a v hs) H ∧ va_D A (XW G a v hs) ∧ va_S A s.heap H locs
/-- whatever the object is, if it is sound it goes on at pc -/
def KK (p : Program) (l : Launch) (e : Env) (s : State) (m : MethodId) (args : Array Value) (below : List Frame) (meth : Method) (c : Code) (Q : State → Prop) (G : Gt) (a : Nat → Nat) (A : Nat → Prop) (lv : List (Nat × Value)) (cells slots pc : Nat) (P : Nat → Nat → Prop) : Prop := ∀ (v : DV) (hs : List HD) (N w : Nat) (H : Heap) (locs : List Loc) (ls : Array Slot), P N w → OK27 G a A s H locs v hs N w → lv_has ls 7 lv → W p l e room_1 s m args below meth c H locs cells slots Q (F0 m pc ls [])
section STEP
variable {p : Program} {l : Launch} {e : Env} {s : State} {m : MethodId} {args : Array Value} {below : List Frame} {meth : Method} {c : Code} {Q : State → Prop} {G : Gt} {a : Nat → Nat} {A : Nat → Prop} {b0 L : Nat} {xs : Nat → Int32} {i cells slots w0 : Nat} {x : Int32}
set_option maxHeartbeats 4000000 in
set_option maxRecDepth 100000 in
theorem law_188 (C : LC p s m args c G A b0 L xs) (kk : KK p l e s m args below meth c Q G a A [(2, .int (nI (i + 1))), (0, .ref b0), (1, .ref (a 21))] cells slots 10 (fun _ _ => True)) : KK p l e s m args below meth c Q G a A [(2, .int (nI i)), (0, .ref b0), (1, .ref (a 21))] cells slots 188 (fun _ _ => True) := by
  intro v hs N w H locs ls _ h hl
  obtain ⟨hx, hb, hml, hown, hts, hamb, hX, hbl, hbA, hA, hHS⟩ := C
  have hK := hamb.1
  refine lv_iinc (v := nI (i + 1)) (lv' := [(2, .int (nI (i + 1))), (0, .ref b0), (1, .ref (a 21))]) hx hb dL_law_188 hl (k := 0) rfl (nI_add i 1) (by decide) rfl (fun ls hl => ?_)
  refine lv_goto (tgt := 10) hx hb dL_law_191 (by decide) ?_
  exact kk v hs N w H locs ls trivial h hl
set_option maxHeartbeats 4000000 in
set_option maxRecDepth 100000 in
theorem law_155 (C : LC p s m args c G A b0 L xs) (hc : cells + 0 ≤ 600000) (hsl : slots + 0 ≤ 7302250) (hw0 : 0 < w0) (kk : KK p l e s m args below meth c Q G a A [(2, .int (nI i)), (0, .ref b0), (1, .ref (a 21))] cells slots 188 (fun _ _ => True)) : KK p l e s m args below meth c Q G a A [(2, .int (nI i)), (0, .ref b0), (1, .ref (a 21)), (3, .int x), (6, .int (nI w0))] cells slots 155 (fun _ w => w = w0) := by
  intro v hs N w H locs ls hww h hl
  subst hww
  obtain ⟨hx, hb, hml, hown, hts, hamb, hX, hbl, hbA, hA, hHS⟩ := C
  have hK := hamb.1
  obtain ⟨hSG, hP, hD, hS⟩ := id h
  have hI := hSG.1.1
  have h30 := hI.1.2.2
  refine lv_iload_n hx hb dL_law_155 rfl (lv_at hl 0 rfl) ?_
  refine lv_iconst (v := 5) hx hb dL_law_156 (by decide) ?_
  refine lv_irem hx hb dL_law_157 (by decide) ?_
  refine lv_iconst (v := 3) hx hb dL_law_158 (by decide) ?_
  refine lv_icmp_ne (tgt := 188) hx hb dL_law_159 (by decide) (fun _ => kk v hs N w H locs ls trivial h (lv_sub hl [0, 1, 2] rfl)) (fun _ => ?_)
  refine lv_aload_n hx hb dL_law_162 rfl (lv_at hl 2 rfl) ?_
  refine lv_iload_n hx hb dL_law_163 rfl (lv_at hl 3 rfl) ?_
  refine lv_iconst (v := 4) hx hb dL_law_164 (by decide) ?_
  refine lv_ishr hx hb dL_law_165 ?_
  refine lv_iload hx hb dL_law_166 (lv_at hl 4 rfl) ?_
  obtain ⟨j, hj, ej⟩ := low_eq (x >>> (4 &&& 31)) hw0 (show w < 2 ^ 31 by omega)
  have hnj : f_L_low (x >>> (4 &&& 31)) (nI w) ≠ none := by rw [ej]; exact fun e => nomatch e
  refine vp_callSi (W.runS (As := [.int (x >>> (4 &&& 31)), .int (nI w)]) (rest := [.ref (a 21)]) ⟨hx, hb, hml, hown, hts⟩ (ok_L_low l (x >>> (4 &&& 31)) (nI w) hnj) (va_cwS 2 hts gL_law_L_low rfl rfl rfl (by decide +kernel) ⟨Nat.le_of_ble_eq_true rfl, Nat.le_of_ble_eq_true rfl⟩) ⟨fun _ _ _ _ q => q, fun _ _ _ => ⟨rfl, trivial⟩⟩ rfl rfl hl.1 rfl (lv_room (Nat.le_of_ble_eq_true rfl)) dL_law_168 ⟨show cells + 0 ≤ 600000 by omega, show slots + 0 ≤ 7302250 by omega⟩) (fun r hw => ?_)
  have gj := Option.some.inj (ej.symm.trans hw)
  subst gj
  refine lv_iload_n hx hb dL_law_171 rfl (lv_at hl 3 rfl) ?_
  refine lv_bipush (v := 8) hx hb dL_law_172 (by decide) ?_
  refine lv_ishr hx hb dL_law_174 ?_
  refine lv_iload hx hb dL_law_175 (lv_at hl 4 rfl) ?_
  obtain ⟨q, hq, eq⟩ := low_eq (x >>> (8 &&& 31)) hw0 (show w < 2 ^ 31 by omega)
  have hnq : f_L_low (x >>> (8 &&& 31)) (nI w) ≠ none := by rw [eq]; exact fun e => nomatch e
  refine vp_callSi (W.runS (As := [.int (x >>> (8 &&& 31)), .int (nI w)]) (rest := [.int (nI j), .ref (a 21)]) ⟨hx, hb, hml, hown, hts⟩ (ok_L_low l (x >>> (8 &&& 31)) (nI w) hnq) (va_cwS 2 hts gL_law_L_low rfl rfl rfl (by decide +kernel) ⟨Nat.le_of_ble_eq_true rfl, Nat.le_of_ble_eq_true rfl⟩) ⟨fun _ _ _ _ q => q, fun _ _ _ => ⟨rfl, trivial⟩⟩ rfl rfl hl.1 rfl (lv_room (Nat.le_of_ble_eq_true rfl)) dL_law_177 ⟨show cells + 0 ≤ 600000 by omega, show slots + 0 ≤ 7302250 by omega⟩) (fun r hw => ?_)
  have gq := Option.some.inj (eq.symm.trans hw)
  subst gq
  obtain ⟨cc, ec⟩ := regret_c hI (n := 5000) (by decide) hj hq
  have hPc := va_P_left (va_P_perm hP (XW_x G a v hs))
  have hDc := va_D_left (va_D_perm hD (XW_x G a v hs))
  have hne : f_L_isRegretSo 5000 v (nI j) (nI q) ≠ none := by rw [ec]; exact fun e => nomatch e
  refine cwiP (w1 := fun u : DV => xcoreC G.2 a u) (ws1 := fun u : DV => XW G a u hs) (va_runS (As := [.ref (a 21), .int (nI j), .int (nI q)]) (rest := []) ⟨hx, hb, hml, hown, hts⟩ (ok_L_isRegretSo l G a _ 5000 v (nI j) (nI q) hne) (va_cwS 3 hts gL_law_L_isRegretSo rfl rfl rfl (by decide +kernel) ⟨Nat.le_of_ble_eq_true rfl, Nat.le_of_ble_eq_true rfl⟩) ⟨pcW_blind, pcW_pre hPc hDc hamb⟩ rfl rfl hl.1 rfl (lv_room (Nat.le_of_ble_eq_true rfl)) dL_law_180 ⟨show cells + 0 ≤ 600000 by omega, show slots + 0 ≤ 7302250 by omega⟩) hP hD hS hA (XW_x G a v hs) (fun u => (XW_x G a u hs).symm) (fun r u H locs hw hP hD hS => ?_)
  obtain ⟨g1, g2⟩ := pair_inj ((ec).symm.trans hw)
  subst g1
  have hO : OK27 G a A s H locs u hs N w := ⟨by rw [← g2]; exact hSG.v14 cc, hP, hD, hS⟩
  exact lv_if_ne (tgt := 188) hx hb dL_law_183 (by decide) (fun _ => kk u hs N w H locs ls trivial hO (lv_sub hl [0, 1, 2] rfl)) (fun e => absurd e i10)
set_option maxHeartbeats 4000000 in
set_option maxRecDepth 100000 in
theorem law_120 (C : LC p s m args c G A b0 L xs) (hc : cells + 60 ≤ 600000) (hsl : slots + 1012 ≤ 7302250) (kk : KK p l e s m args below meth c Q G a A [(2, .int (nI i)), (0, .ref b0), (1, .ref (a 21)), (3, .int x), (6, .int (nI w0))] (cells + 60) (slots + 1012) 155 (fun _ w => w = w0)) : KK p l e s m args below meth c Q G a A [(2, .int (nI i)), (0, .ref b0), (1, .ref (a 21)), (3, .int x), (6, .int (nI w0))] cells slots 120 (fun _ w => w = w0) := by
  intro v hs N w H locs ls hww h hl
  subst hww
  obtain ⟨hx, hb, hml, hown, hts, hamb, hX, hbl, hbA, hA, hHS⟩ := C
  have hK := hamb.1
  obtain ⟨hSG, hP, hD, hS⟩ := id h
  refine lv_iload_n hx hb dL_law_120 rfl (lv_at hl 0 rfl) ?_
  refine lv_bipush (v := 8) hx hb dL_law_121 (by decide) ?_
  refine lv_irem hx hb dL_law_123 (by decide) ?_
  refine lv_iconst (v := 5) hx hb dL_law_124 (by decide) ?_
  refine lv_icmp_ne (tgt := 155) hx hb dL_law_125 (by decide) (fun _ => W.widen (Nat.le_add_right cells 60) (Nat.le_add_right slots 1012) (kk v hs N w H locs ls rfl h hl)) (fun _ => ?_)
  refine lv_aload_n hx hb dL_law_128 rfl (lv_at hl 2 rfl) ?_
  refine lv_iconst (v := 1) hx hb dL_law_129 (by decide) ?_
  refine lv_iload_n hx hb dL_law_130 rfl (lv_at hl 3 rfl) ?_
  refine lv_bipush (v := 6) hx hb dL_law_131 (by decide) ?_
  refine lv_ishr hx hb dL_law_133 ?_
  refine lv_bipush (v := 8) hx hb dL_law_134 (by decide) ?_
  obtain ⟨j, hj, ej⟩ := low_lit (x >>> (6 &&& 31)) 8 8 rfl (by decide) (by decide)
  have hnj : f_L_low (x >>> (6 &&& 31)) (8) ≠ none := by rw [ej]; exact fun e => nomatch e
  refine vp_callSi (W.runS (As := [.int (x >>> (6 &&& 31)), .int (8)]) (rest := [.int 1, .ref (a 21)]) ⟨hx, hb, hml, hown, hts⟩ (ok_L_low l (x >>> (6 &&& 31)) (8) hnj) (va_cwS 2 hts gL_law_L_low rfl rfl rfl (by decide +kernel) ⟨Nat.le_of_ble_eq_true rfl, Nat.le_of_ble_eq_true rfl⟩) ⟨fun _ _ _ _ q => q, fun _ _ _ => ⟨rfl, trivial⟩⟩ rfl rfl hl.1 rfl (lv_room (Nat.le_of_ble_eq_true rfl)) dL_law_136 ⟨show cells + 0 ≤ 600000 by omega, show slots + 0 ≤ 7302250 by omega⟩) (fun r hw => ?_)
  have gj := Option.some.inj (ej.symm.trans hw)
  subst gj
  refine lv_iadd hx hb dL_law_139 ?_
  rw [show (1 : Int32) + nI j = nI (1 + j) from nI_add 1 j]
  refine lv_iload_n hx hb dL_law_140 rfl (lv_at hl 3 rfl) ?_
  refine lv_bipush (v := 9) hx hb dL_law_141 (by decide) ?_
  refine lv_ishr hx hb dL_law_143 ?_
  refine lv_bipush (v := 24) hx hb dL_law_144 (by decide) ?_
  obtain ⟨q, hq, eq⟩ := low_lit (x >>> (9 &&& 31)) 24 24 rfl (by decide) (by decide)
  have hnq : f_L_low (x >>> (9 &&& 31)) (24) ≠ none := by rw [eq]; exact fun e => nomatch e
  refine vp_callSi (W.runS (As := [.int (x >>> (9 &&& 31)), .int (24)]) (rest := [.int (nI (1 + j)), .ref (a 21)]) ⟨hx, hb, hml, hown, hts⟩ (ok_L_low l (x >>> (9 &&& 31)) (24) hnq) (va_cwS 2 hts gL_law_L_low rfl rfl rfl (by decide +kernel) ⟨Nat.le_of_ble_eq_true rfl, Nat.le_of_ble_eq_true rfl⟩) ⟨fun _ _ _ _ q => q, fun _ _ _ => ⟨rfl, trivial⟩⟩ rfl rfl hl.1 rfl (lv_room (Nat.le_of_ble_eq_true rfl)) dL_law_146 ⟨show cells + 0 ≤ 600000 by omega, show slots + 0 ≤ 7302250 by omega⟩) (fun r hw => ?_)
  have gq := Option.some.inj (eq.symm.trans hw)
  subst gq
  obtain ⟨u1, l1, ec, hG⟩ := post_c hSG (n := 5000) (by decide) (D := 1 + j) (o := q) (by omega) (by omega) hq
  have hne : f_L_isPostSo 5000 v (hs.map Prod.snd) ((nI (1 + j))) ((nI q)) ≠ none := by rw [ec]; exact fun e => nomatch e
  refine cwiP (wr := []) (w1 := fun u : DV × List HD => XW G a u.1 u.2) (ws1 := fun u : DV × List HD => XW G a u.1 u.2) (va_runS (As := [.ref (a 21), .int (nI (1 + j)), .int (nI q)]) (rest := []) ⟨hx, hb, hml, hown, hts⟩ (ok_L_isPostSo l G a _ 5000 v hs ((nI (1 + j))) ((nI q)) hne) (va_cwS 3 hts gL_law_L_isPostSo rfl rfl rfl (by decide +kernel) ⟨Nat.le_of_ble_eq_true rfl, Nat.le_of_ble_eq_true rfl⟩) ⟨pcH_blind, pcH_pre hP hD hamb hHS hS (va_freeW hD hS hA)⟩ rfl rfl hl.1 rfl (lv_room (Nat.le_of_ble_eq_true rfl)) dL_law_149 ⟨show cells + 60 ≤ 600000 by omega, show slots + 1012 ≤ 7302250 by omega⟩) hP hD hS hA (pnl _) (fun _ => pnr _) (fun r u H locs hw hP hD hS => ?_)
  obtain ⟨g1, g2, g3⟩ := trip_inj ((ec).symm.trans hw)
  subst g1
  have hO : OK27 G a A s H locs u.1 u.2 N w := ⟨by rw [← g2, ← g3]; exact hG, hP, hD, hS⟩
  exact lv_if_eq (tgt := 186) hx hb dL_law_152 (by decide) (fun e => absurd e i10) (fun _ => kk u.1 u.2 N w H locs ls rfl hO hl)
set_option maxHeartbeats 4000000 in
set_option maxRecDepth 100000 in
theorem law_98 (C : LC p s m args c G A b0 L xs) (hc : cells + 30 ≤ 600000) (hsl : slots + 506 ≤ 7302250) (hw0 : 0 < w0) (kk : KK p l e s m args below meth c Q G a A [(2, .int (nI i)), (0, .ref b0), (1, .ref (a 21)), (3, .int x), (6, .int (nI w0))] (cells + 30) (slots + 506) 120 (fun _ w => w = w0)) : KK p l e s m args below meth c Q G a A [(2, .int (nI i)), (0, .ref b0), (1, .ref (a 21)), (3, .int x), (6, .int (nI w0))] cells slots 98 (fun _ w => w = w0) := by
  intro v hs N w H locs ls hww h hl
  subst hww
  obtain ⟨hx, hb, hml, hown, hts, hamb, hX, hbl, hbA, hA, hHS⟩ := C
  have hK := hamb.1
  obtain ⟨hSG, hP, hD, hS⟩ := id h
  have h30 := hSG.1.1.1.2.2
  refine lv_iload_n hx hb dL_law_98 rfl (lv_at hl 0 rfl) ?_
  refine lv_iconst (v := 4) hx hb dL_law_99 (by decide) ?_
  refine lv_irem hx hb dL_law_100 (by decide) ?_
  refine lv_iconst (v := 2) hx hb dL_law_101 (by decide) ?_
  refine lv_icmp_ne (tgt := 120) hx hb dL_law_102 (by decide) (fun _ => W.widen (Nat.le_add_right cells 30) (Nat.le_add_right slots 506) (kk v hs N w H locs ls rfl h hl)) (fun _ => ?_)
  refine lv_aload_n hx hb dL_law_105 rfl (lv_at hl 2 rfl) ?_
  refine lv_iload_n hx hb dL_law_106 rfl (lv_at hl 3 rfl) ?_
  refine lv_iconst (v := 5) hx hb dL_law_107 (by decide) ?_
  refine lv_ishr hx hb dL_law_108 ?_
  refine lv_iload hx hb dL_law_109 (lv_at hl 4 rfl) ?_
  obtain ⟨j, hj, ej⟩ := low_eq (x >>> (5 &&& 31)) hw0 (show w < 2 ^ 31 by omega)
  have hnj : f_L_low (x >>> (5 &&& 31)) (nI w) ≠ none := by rw [ej]; exact fun e => nomatch e
  refine vp_callSi (W.runS (As := [.int (x >>> (5 &&& 31)), .int (nI w)]) (rest := [.ref (a 21)]) ⟨hx, hb, hml, hown, hts⟩ (ok_L_low l (x >>> (5 &&& 31)) (nI w) hnj) (va_cwS 2 hts gL_law_L_low rfl rfl rfl (by decide +kernel) ⟨Nat.le_of_ble_eq_true rfl, Nat.le_of_ble_eq_true rfl⟩) ⟨fun _ _ _ _ q => q, fun _ _ _ => ⟨rfl, trivial⟩⟩ rfl rfl hl.1 rfl (lv_room (Nat.le_of_ble_eq_true rfl)) dL_law_111 ⟨show cells + 0 ≤ 600000 by omega, show slots + 0 ≤ 7302250 by omega⟩) (fun r hw => ?_)
  have gj := Option.some.inj (ej.symm.trans hw)
  subst gj
  obtain ⟨u1, l1, ec, hG⟩ := gone_c hSG (n := 5000) (by decide) hj
  have hne : f_L_isGoneSo 5000 v (hs.map Prod.snd) ((nI j)) ≠ none := by rw [ec]; exact fun e => nomatch e
  refine cwiP (wr := []) (w1 := fun u : DV × List HD => XW G a u.1 u.2) (ws1 := fun u : DV × List HD => XW G a u.1 u.2) (va_runS (As := [.ref (a 21), .int (nI j)]) (rest := []) ⟨hx, hb, hml, hown, hts⟩ (ok_L_isGoneSo l G a _ 5000 v hs ((nI j)) hne) (va_cwS 2 hts gL_law_L_isGoneSo rfl rfl rfl (by decide +kernel) ⟨Nat.le_of_ble_eq_true rfl, Nat.le_of_ble_eq_true rfl⟩) ⟨pcH_blind, pcH_pre hP hD hamb hHS hS (va_freeW hD hS hA)⟩ rfl rfl hl.1 rfl (lv_room (Nat.le_of_ble_eq_true rfl)) dL_law_114 ⟨show cells + 30 ≤ 600000 by omega, show slots + 506 ≤ 7302250 by omega⟩) hP hD hS hA (pnl _) (fun _ => pnr _) (fun r u H locs hw hP hD hS => ?_)
  obtain ⟨g1, g2, g3⟩ := trip_inj ((ec).symm.trans hw)
  subst g1
  have hO : OK27 G a A s H locs u.1 u.2 N w := ⟨by rw [← g2, ← g3]; exact hG, hP, hD, hS⟩
  exact lv_if_eq (tgt := 186) hx hb dL_law_117 (by decide) (fun e => absurd e i10) (fun _ => kk u.1 u.2 N w H locs ls rfl hO hl)
set_option maxHeartbeats 4000000 in
set_option maxRecDepth 100000 in
theorem law_93 (C : LC p s m args c G A b0 L xs) (hw30 : w0 ≤ 30) (k188 : KK p l e s m args below meth c Q G a A [(2, .int (nI i)), (0, .ref b0), (1, .ref (a 21))] (cells + 90) (slots + 1518) 188 (fun _ _ => True)) (kk : 0 < w0 → KK p l e s m args below meth c Q G a A [(2, .int (nI i)), (0, .ref b0), (1, .ref (a 21)), (3, .int x), (6, .int (nI w0))] cells slots 98 (fun _ w => w = w0)) : KK p l e s m args below meth c Q G a A [(2, .int (nI i)), (0, .ref b0), (1, .ref (a 21)), (3, .int x), (6, .int (nI w0))] cells slots 93 (fun _ w => w = w0) := by
  intro v hs N w H locs ls hww h hl
  obtain ⟨hx, hb, hml, hown, hts, hamb, hX, hbl, hbA, hA, hHS⟩ := C
  have hK := hamb.1
  refine lv_iload hx hb dL_law_93 (lv_at hl 4 rfl) ?_
  refine lv_if_le (tgt := 188) hx hb dL_law_95 (by decide) (fun _ => W.widen (Nat.le_add_right cells 90) (Nat.le_add_right slots 1518) (k188 v hs N w H locs ls trivial h (lv_sub hl [0, 1, 2] rfl))) (fun c9 => ?_)
  refine kk ?_ v hs N w H locs ls hww h hl
  rcases Nat.eq_zero_or_pos w0 with q | q
  · subst q; exact absurd (show nI 0 ≤ 0 by decide) c9
  · exact q
set_option maxHeartbeats 4000000 in
set_option maxRecDepth 100000 in
theorem law_70 (C : LC p s m args c G A b0 L xs) (hc : cells + 1 ≤ 600000) (hsl : slots + 30 ≤ 7302250) (kk : KK p l e s m args below meth c Q G a A [(2, .int (nI i)), (0, .ref b0), (1, .ref (a 21)), (3, .int x), (6, .int (nI w0))] (cells + 1) (slots + 30) 93 (fun _ w => w = w0)) : KK p l e s m args below meth c Q G a A [(2, .int (nI i)), (0, .ref b0), (1, .ref (a 21)), (3, .int x), (6, .int (nI w0))] cells slots 70 (fun _ w => w = w0) := by
  intro v hs N w H locs ls hww h hl
  subst hww
  obtain ⟨hx, hb, hml, hown, hts, hamb, hX, hbl, hbA, hA, hHS⟩ := C
  have hK := hamb.1
  obtain ⟨hSG, hP, hD, hS⟩ := id h
  refine lv_aload_n hx hb dL_law_70 rfl (lv_at hl 2 rfl) ?_
  obtain ⟨cc, cb, ec⟩ := letters_c hSG.1 (n := 5000) (by decide)
  have hPc := va_P_left (va_P_perm hP (XW_x G a v hs))
  have hDc := va_D_left (va_D_perm hD (XW_x G a v hs))
  have hne : f_L_areLettersSo 5000 v  ≠ none := by rw [ec]; exact fun e => nomatch e
  refine cwiP (w1 := fun u : DV => xcoreC G.2 a u) (ws1 := fun u : DV => XW G a u hs) (va_runS (As := [.ref (a 21)]) (rest := []) ⟨hx, hb, hml, hown, hts⟩ (ok_L_areLettersSo l G a _ 5000 v  hne) (va_cwS 1 hts gL_law_L_areLettersSo rfl rfl rfl (by decide +kernel) ⟨Nat.le_of_ble_eq_true rfl, Nat.le_of_ble_eq_true rfl⟩) ⟨pcW_blind, pcW_pre hPc hDc hamb⟩ rfl rfl hl.1 rfl (lv_room (Nat.le_of_ble_eq_true rfl)) dL_law_71 ⟨show cells + 1 ≤ 600000 by omega, show slots + 30 ≤ 7302250 by omega⟩) hP hD hS hA (XW_x G a v hs) (fun u => (XW_x G a u hs).symm) (fun r v2 H locs hw hP hD hS => ?_)
  obtain ⟨g1, g2⟩ := pair_inj ((ec).symm.trans hw)
  subst g1
  have hO : OK27 G a A s H locs v2 hs N w := ⟨by rw [← g2]; exact hSG.look (fun j hj => by unfold TB; rw [vs_o _ _ (by omega), vs_o _ _ (by omega)]) (by unfold TB; rw [vs_o _ _ (by decide), vs_o _ _ (by decide)]), hP, hD, hS⟩
  clear hPc hDc hne
  refine lv_if_eq (tgt := 91) hx hb dL_law_74 (by decide) (fun e => absurd e i10) (fun _ => ?_)
  clear hw g2 ec
  obtain ⟨hSG2, -, -, -⟩ := id hO
  refine lv_iload_n hx hb dL_law_77 rfl (lv_at hl 0 rfl) ?_
  refine lv_iconst (v := 3) hx hb dL_law_78 (by decide) ?_
  refine lv_irem hx hb dL_law_79 (by decide) ?_
  refine lv_iconst (v := 1) hx hb dL_law_80 (by decide) ?_
  refine lv_icmp_ne (tgt := 93) hx hb dL_law_81 (by decide) (fun _ => kk v2 hs N w H locs ls rfl hO hl) (fun _ => ?_)
  refine lv_aload_n hx hb dL_law_84 rfl (lv_at hl 2 rfl) ?_
  have ed := drawers_c hSG2.1.1 (n := 5000) (by decide)
  have hPc := va_P_left (va_P_perm hP (XW_x G a v2 hs))
  have hDc := va_D_left (va_D_perm hD (XW_x G a v2 hs))
  have hne : f_L_areDrawersSo 5000 v2 ≠ none := by rw [ed]; exact fun e => nomatch e
  refine cwiP (w1 := fun u : DV => xcoreC G.2 a u) (ws1 := fun u : DV => XW G a u hs) (va_runS (As := [.ref (a 21)]) (rest := []) ⟨hx, hb, hml, hown, hts⟩ (ok_L_areDrawersSo l G a _ 5000 v2 hne) (va_cwS 1 hts gL_law_L_areDrawersSo rfl rfl rfl (by decide +kernel) ⟨Nat.le_of_ble_eq_true rfl, Nat.le_of_ble_eq_true rfl⟩) ⟨pcW_blind, pcW_pre hPc hDc hamb⟩ rfl rfl hl.1 rfl (lv_room (Nat.le_of_ble_eq_true rfl)) dL_law_85 ⟨show cells + 1 + 0 ≤ 600000 by omega, show slots + 30 + 0 ≤ 7302250 by omega⟩) hP hD hS hA (XW_x G a v2 hs) (fun u => (XW_x G a u hs).symm) (fun r u H locs hw hP hD hS => ?_)
  obtain ⟨g1, g2⟩ := pair_inj (ed.symm.trans hw)
  subst g1
  exact lv_if_ne (tgt := 93) hx hb dL_law_88 (by decide) (fun _ => kk u hs N w H locs ls rfl ⟨by rw [← g2]; exact hSG2, hP, hD, hS⟩ hl) (fun e => absurd e i10)
set_option maxHeartbeats 4000000 in
set_option maxRecDepth 100000 in
theorem law_16 (C : LC p s m args c G A b0 L xs) (hi : i < 56) (hL : L ≤ 260) (hc : cells + 15 ≤ 600000) (hsl : slots + 253 ≤ 7302250) (kk : ∀ (w0 : Nat) (x : Int32), w0 ≤ 30 → KK p l e s m args below meth c Q G a A [(2, .int (nI i)), (0, .ref b0), (1, .ref (a 21)), (3, .int x), (6, .int (nI w0))] (cells + 15) (slots + 253) 70 (fun _ w => w = w0)) : KK p l e s m args below meth c Q G a A [(2, .int (nI i)), (0, .ref b0), (1, .ref (a 21))] cells slots 16 (fun _ _ => True) := by
  intro v hs N w H locs ls _ h hl
  obtain ⟨hx, hb, hml, hown, hts, hamb, hX, hbl, hbA, hA, hHS⟩ := C
  have hK := hamb.1
  obtain ⟨hSG, hP, hD, hS⟩ := id h
  have hI := hSG.1.1
  refine lv_aload_n hx hb dL_law_16 rfl (lv_at hl 1 rfl) ?_
  refine lv_iload_n hx hb dL_law_17 rfl (lv_at hl 0 rfl) ?_
  refine vp_callSi (W.runS (As := [.ref b0, .int (nI i)]) (rest := []) ⟨hx, hb, hml, hown, hts⟩ (ok_L_cell l b0 L i xs hL (by omega)) (va_cwS 2 hts gL_law_L_cell rfl rfl rfl (by decide +kernel) ⟨Nat.le_of_ble_eq_true rfl, Nat.le_of_ble_eq_true rfl⟩) ⟨pcX_blind, pcX_pre hX hbl hbA hS⟩ rfl rfl hl.1 rfl (lv_room (Nat.le_of_ble_eq_true rfl)) dL_law_18 ⟨show cells + 0 ≤ 600000 by omega, show slots + 0 ≤ 7302250 by omega⟩) (fun x hw => ?_)
  clear hw
  refine lv_istore_n (lv' := [(3, .int x), (2, .int (nI i)), (0, .ref b0), (1, .ref (a 21))]) hx hb dL_law_21 rfl hl (by decide) rfl (fun ls hl => ?_)
  refine lv_aload_n hx hb dL_law_22 rfl (lv_at hl 3 rfl) ?_
  refine lv_iconst (v := 0) hx hb dL_law_23 (by decide) ?_
  have hPc := va_P_left (va_P_perm hP (XW_x G a v hs))
  have hDc := va_D_left (va_D_perm hD (XW_x G a v hs))
  refine vp_callSi (W.runV (As := [.int 0]) (rest := []) ⟨hx, hb, hml, hown, hts⟩ (ok_X6_count l G a 5000 v 0 (by rw [ct_0 hI 5000]; exact fun e => nomatch e)) (cwV 1 hts gL_law_X6_count rfl rfl rfl (by decide +kernel) ⟨Nat.le_of_ble_eq_true rfl, Nat.le_of_ble_eq_true rfl⟩) ⟨pcR_blind, va_recv hK hPc (ci := 6) (q0 := 0) rfl rfl, pcR_pre hPc hamb⟩ rfl rfl hl.1 rfl (lv_room (Nat.le_of_ble_eq_true rfl)) dL_law_24 ⟨show cells + 0 ≤ 600000 by omega, show slots + 0 ≤ 7302250 by omega⟩) (fun r hw => ?_)
  have g := Option.some.inj ((ct_0 hI 5000).symm.trans hw)
  subst g
  refine lv_istore (lv' := [(4, .int (nI (N / 24))), (3, .int x), (2, .int (nI i)), (0, .ref b0), (1, .ref (a 21))]) hx hb dL_law_27 hl (by decide) rfl (fun ls hl => ?_)
  refine lv_aload_n hx hb dL_law_29 rfl (lv_at hl 4 rfl) ?_
  refine lv_iload_n hx hb dL_law_30 rfl (lv_at hl 1 rfl) ?_
  obtain ⟨r0, u0, l0, N1, w1, ec, hr6, hNN, hG⟩ := does_c hSG (n := 5000) (by decide) x
  have hne : f_L_does 5000 v (hs.map Prod.snd) (x) ≠ none := by rw [ec]; exact fun e => nomatch e
  refine cwiP (wr := []) (w1 := fun u : DV × List HD => XW G a u.1 u.2) (ws1 := fun u : DV × List HD => XW G a u.1 u.2) (va_runS (As := [.ref (a 21), .int x]) (rest := []) ⟨hx, hb, hml, hown, hts⟩ (ok_L_does l G a _ 5000 v hs (x) hne) (va_cwS 2 hts gL_law_L_does rfl rfl rfl (by decide +kernel) ⟨Nat.le_of_ble_eq_true rfl, Nat.le_of_ble_eq_true rfl⟩) ⟨pcH_blind, pcH_pre hP hD hamb hHS hS (va_freeW hD hS hA)⟩ rfl rfl hl.1 rfl (lv_room (Nat.le_of_ble_eq_true rfl)) dL_law_31 ⟨show cells + 15 ≤ 600000 by omega, show slots + 253 ≤ 7302250 by omega⟩) hP hD hS hA (pnl _) (fun _ => pnr _) (fun r u H locs hw hP hD hS => ?_)
  obtain ⟨g1, g2, g3⟩ := trip_inj ((ec).symm.trans hw)
  subst g1
  have hO : OK27 G a A s H locs u.1 u.2 N1 w1 := ⟨by rw [← g2, ← g3]; exact hG, hP, hD, hS⟩
  clear hPc hDc hne ec hw g2 g3
  obtain ⟨v2, hs2⟩ := u
  have hO : OK27 G a A s H locs v2 hs2 N1 w1 := hO
  have hP : va_P G.1 vwCl (XW G a v2 hs2) H := hP
  have hD : va_D A (XW G a v2 hs2) := hD
  have hI1 := hO.1.1.1
  have hN0 := hSG.1.2.1
  have hN1 := hO.1.1.2.1
  have hPc := va_P_left (va_P_perm hP (XW_x G a v2 hs2))
  refine lv_istore (lv' := [(5, .int r0), (4, .int (nI (N / 24))), (3, .int x), (2, .int (nI i)), (0, .ref b0), (1, .ref (a 21))]) hx hb dL_law_34 hl (by decide) rfl (fun ls hl => ?_)
  refine lv_aload_n hx hb dL_law_36 rfl (lv_at hl 5 rfl) ?_
  refine lv_iconst (v := 2) hx hb dL_law_37 (by decide) ?_
  refine vp_callSi (W.runV (As := [.int 2]) (rest := []) ⟨hx, hb, hml, hown, hts⟩ (ok_X6_count l G a 5000 v2 2 (by rw [ct_2 hI1 5000]; exact fun e => nomatch e)) (cwV 1 hts gL_law_X6_count rfl rfl rfl (by decide +kernel) ⟨Nat.le_of_ble_eq_true rfl, Nat.le_of_ble_eq_true rfl⟩) ⟨pcR_blind, va_recv hK hPc (ci := 6) (q0 := 0) rfl rfl, pcR_pre hPc hamb⟩ rfl rfl hl.1 rfl (lv_room (Nat.le_of_ble_eq_true rfl)) dL_law_38 ⟨show cells + 15 + 0 ≤ 600000 by omega, show slots + 253 + 0 ≤ 7302250 by omega⟩) (fun r hw => ?_)
  have g := Option.some.inj ((ct_2 hI1 5000).symm.trans hw)
  subst g
  refine lv_istore (lv' := [(6, .int (nI w1)), (5, .int r0), (4, .int (nI (N / 24))), (3, .int x), (2, .int (nI i)), (0, .ref b0), (1, .ref (a 21))]) hx hb dL_law_41 hl (by decide) rfl (fun ls hl => ?_)
  refine lv_iload hx hb dL_law_43 (lv_at hl 1 rfl) ?_
  refine lv_bipush (v := -6) hx hb dL_law_45 (by decide) ?_
  refine lv_icmp_lt (tgt := 91) hx hb dL_law_47 (by decide) (fun e => absurd e hr6) (fun _ => ?_)
  refine lv_aload_n hx hb dL_law_50 rfl (lv_at hl 6 rfl) ?_
  refine lv_iconst (v := 0) hx hb dL_law_51 (by decide) ?_
  refine vp_callSi (W.runV (As := [.int 0]) (rest := []) ⟨hx, hb, hml, hown, hts⟩ (ok_X6_count l G a 5000 v2 0 (by rw [ct_0 hI1 5000]; exact fun e => nomatch e)) (cwV 1 hts gL_law_X6_count rfl rfl rfl (by decide +kernel) ⟨Nat.le_of_ble_eq_true rfl, Nat.le_of_ble_eq_true rfl⟩) ⟨pcR_blind, va_recv hK hPc (ci := 6) (q0 := 0) rfl rfl, pcR_pre hPc hamb⟩ rfl rfl hl.1 rfl (lv_room (Nat.le_of_ble_eq_true rfl)) dL_law_52 ⟨show cells + 15 + 0 ≤ 600000 by omega, show slots + 253 + 0 ≤ 7302250 by omega⟩) (fun r hw => ?_)
  have g := Option.some.inj ((ct_0 hI1 5000).symm.trans hw)
  subst g
  refine lv_iload hx hb dL_law_55 (lv_at hl 2 rfl) ?_
  refine lv_icmp_lt (tgt := 91) hx hb dL_law_57 (by decide) (fun e => absurd e (nI_nlt (show N / 24 ≤ N1 / 24 by omega) (by omega))) (fun _ => ?_)
  refine lv_aload_n hx hb dL_law_60 rfl (lv_at hl 6 rfl) ?_
  refine lv_iconst (v := 1) hx hb dL_law_61 (by decide) ?_
  refine vp_callSi (W.runV (As := [.int 1]) (rest := []) ⟨hx, hb, hml, hown, hts⟩ (ok_X6_count l G a 5000 v2 1 (by rw [ct_1 hI1 5000]; exact fun e => nomatch e)) (cwV 1 hts gL_law_X6_count rfl rfl rfl (by decide +kernel) ⟨Nat.le_of_ble_eq_true rfl, Nat.le_of_ble_eq_true rfl⟩) ⟨pcR_blind, va_recv hK hPc (ci := 6) (q0 := 0) rfl rfl, pcR_pre hPc hamb⟩ rfl rfl hl.1 rfl (lv_room (Nat.le_of_ble_eq_true rfl)) dL_law_62 ⟨show cells + 15 + 0 ≤ 600000 by omega, show slots + 253 + 0 ≤ 7302250 by omega⟩) (fun r hw => ?_)
  have g := Option.some.inj ((ct_1 hI1 5000).symm.trans hw)
  subst g
  refine lv_bipush (v := 23) hx hb dL_law_65 (by decide) ?_
  refine lv_icmp_gt (tgt := 91) hx hb dL_law_67 (by decide) (fun e => absurd e (show ¬ (23 : Int32) < nI (N1 % 24) from nI_nlt (b := N1 % 24) (a := 23) (by omega) (by decide))) (fun _ => ?_)
  exact kk w1 x hI1.1.2.2 v2 hs2 N1 w1 H locs ls rfl hO (lv_sub hl [4, 5, 6, 3, 0] rfl)
/-- one event: the object stays sound, every check holds -/
theorem law_step (C : LC p s m args c G A b0 L xs) (hi : i < 56) (hL : L ≤ 260) (hc : cells + 106 ≤ 600000) (hsl : slots + 1801 ≤ 7302250) (kk : KK p l e s m args below meth c Q G a A [(2, .int (nI (i + 1))), (0, .ref b0), (1, .ref (a 21))] (cells + 106) (slots + 1801) 10 (fun _ _ => True)) : KK p l e s m args below meth c Q G a A [(2, .int (nI i)), (0, .ref b0), (1, .ref (a 21))] cells slots 16 (fun _ _ => True) := by
  have k188 := law_188 C kk
  refine law_16 C hi hL (by omega) (by omega) (fun w0 x hw30 => ?_)
  refine law_70 C (by omega) (by omega) ?_
  refine law_93 C hw30 k188 (fun hw0 => ?_)
  refine law_98 C (by omega) (by omega) hw0 ?_
  refine law_120 C (by omega) (by omega) ?_
  exact law_155 C (by omega) (by omega) hw0 k188
end STEP
