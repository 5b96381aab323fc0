/-! The law's entry: what surrounds every call; the new object is sound. -/
theorem nest_in : ∀ w ∈ nestW, w ∈ lw_tbl := by decide +kernel
theorem amb_entry {s : State} {av : Array Value} (hts : ∀ w ∈ lw_tbl, w.before av s = true) : ∃ G : Gt, amb G s := by
  obtain ⟨c0, i0, k0⟩ := u_known (C := RX0) (T := TX0) (N := 4) (n := 4) hts inX0 (hts (.instantiable RX0 4) (by decide +kernel))
  obtain ⟨c1, i1, k1⟩ := u_known (C := RX1) (T := TX1) (N := 4) (n := 4) hts inX1 (hts (.instantiable RX1 4) (by decide +kernel))
  obtain ⟨c2, i2, k2⟩ := u_known (C := RX2) (T := TX2) (N := 2) (n := 2) hts inX2 (hts (.instantiable RX2 2) (by decide +kernel))
  obtain ⟨c3, i3, k3⟩ := u_known (C := RX3) (T := TX3) (N := 8) (n := 8) hts inX3 (hts (.instantiable RX3 8) (by decide +kernel))
  obtain ⟨c4, i4, k4⟩ := u_known (C := RX4) (T := TX4) (N := 7) (n := 7) hts inX4 (hts (.instantiable RX4 7) (by decide +kernel))
  obtain ⟨c5, i5, k5⟩ := u_known (C := RX5) (T := TX5) (N := 1) (n := 1) hts inX5 (hts (.instantiable RX5 1) (by decide +kernel))
  obtain ⟨c6, i6, k6⟩ := u_known (C := RX6) (T := TX6) (N := 5) (n := 5) hts inX6 (hts (.instantiable RX6 5) (by decide +kernel))
  obtain ⟨g0, kA0, co0, a1, a2, a3⟩ := Cond.arrayClass_spec (type := .int) (hts (.arrayClass .int) (by decide +kernel))
  obtain ⟨g1, kA1, co1, b1, b2, b3⟩ := Cond.arrayClass_spec (type := .char) (hts (.arrayClass .char) (by decide +kernel))
  have hov := hts (.arrayOver (.object RX0)) (by decide +kernel)
  obtain ⟨comp, g3, kA3, f1, f2, f3, f4, f5⟩ := Cond.arrayOver_spec (n := RX0) hov
  refine ⟨((fun c => ([c0, c1, c2, c3, c4, c5, c6] : List ClassId).getD c c0, fun c => ([i0, i1, i2, i3, i4, i5, i6] : List (Nat → Nat)).getD c i0), fun j => ([g0, g1, g1, g3] : List ClassId).getD j g0), ⟨?_, ?_⟩, fun w hw => va_Nw.of (nest_tab w hw) (hts w (nest_in w hw)), va_AO.of hov⟩
  · intro c q hq
    match c, hq with
    | 0, hq => cases hq; exact k0
    | 1, hq => cases hq; exact k1
    | 2, hq => cases hq; exact k2
    | 3, hq => cases hq; exact k3
    | 4, hq => cases hq; exact k4
    | 5, hq => cases hq; exact k5
    | 6, hq => cases hq; exact k6
    | c + 7, hq => exact nomatch hq
  · intro c q hq
    match c, hq with
    | 0, hq => cases hq; exact ⟨fun n z => ⟨fun k h => (by cases h), kA0, a2, co0, a3⟩, a1⟩
    | 1, hq => cases hq; exact ⟨fun n z => ⟨fun k h => (by cases h), kA1, b2, co1, b3⟩, b1⟩
    | 2, hq => cases hq; exact ⟨fun n z => ⟨fun k h => (by cases h), kA1, b2, co1, b3⟩, b1⟩
    | 3, hq => cases hq; exact ⟨fun n z => ⟨fun k h => (by cases h), kA3, f3, comp, f4⟩, kA3, comp, f3, f4, f1, f5⟩
    | c + 4, hq => exact nomatch hq
theorem hs_entry {s : State} {b : Addr} {A : Nat → Prop} (hts : ∀ w ∈ lw_tbl, w.before #[Value.ref b] s = true) (hgv : (Jvm.Cond.and given_1 narrow_1).before #[Value.ref b] s = true) (hA : ∀ a : Nat, a < s.heap.size → ¬ A a) : hsOK A s := by
  have hs := flat_of_before _ hgv
  have e3 := va_eqt (hs (Cond.eq (.length (.static "MoodDrawers" "HIGHEST_SETTING" "[I")) (.int 3)) (by decide +kernel))
  have x0 := va_eqt (hs (Cond.eq (.elem (.static "MoodDrawers" "HIGHEST_SETTING" "[I") (.int 0)) (.int 23)) (by decide +kernel))
  have x1 := va_eqt (hs (Cond.eq (.elem (.static "MoodDrawers" "HIGHEST_SETTING" "[I") (.int 1)) (.int 99)) (by decide +kernel))
  have x2 := va_eqt (hs (Cond.eq (.elem (.static "MoodDrawers" "HIGHEST_SETTING" "[I") (.int 2)) (.int 20)) (by decide +kernel))
  obtain ⟨t, h1, h2⟩ := va_Tof (tm := .static "MoodDrawers" "HIGHEST_SETTING" "[I") (ty := .int) (N := 3) (f := fun j => .int (hsF j)) (by decide) (hs (.arrayOf (.static "MoodDrawers" "HIGHEST_SETTING" "[I") .int) (by decide +kernel)) e3 (fun j hj => by
    rcases (show j = 0 ∨ j = 1 ∨ j = 2 by omega) with rfl | rfl | rfl
    · exact x0
    · exact x1
    · exact x2) hA
  exact ⟨va_Nw.of rfl (hts (.fieldLinkNest RX0 44 "MoodDrawers" "HIGHEST_SETTING" "[I" RX6) (by decide +kernel)), t, va_Zof (hts (.laysStatic "MoodDrawers" "HIGHEST_SETTING" "[I") (by decide +kernel)) (hts (.initialized "MoodDrawers") (by decide +kernel)) h1 hA, h2⟩
theorem iv_dr : ∀ d, d < 6 → iv_X6_init 3 d = nI 2 ∧ iv_X6_init 4 d = nI 0 ∧ iv_X6_init 5 d = -6 ∧ iv_X6_init 6 d = -6 := by decide +kernel
theorem iv_22 : iv_X6_init 22 0 = 0 := by decide +kernel
theorem sg0 : SG iv_X6_init [] 0 0 := by
  have hk : kV iv_X6_init = 0 := by unfold kV; rw [iv_22]; rfl
  refine ⟨⟨⟨⟨by decide +kernel, by decide +kernel, by decide⟩, ⟨⟨17, by decide, by decide +kernel⟩, ⟨30, by decide, by decide +kernel⟩, ⟨5, by decide, by decide +kernel⟩⟩, fun d hd => ?_, fun k hk => absurd hk (Nat.not_lt_zero k), fun d _ => Nat.zero_le 8, by decide⟩, by decide, fun k hk => absurd hk (Nat.not_lt_zero k)⟩, by rw [hk, iv_22]; rfl, ?_⟩
  · obtain ⟨a, b, c, f⟩ := iv_dr d hd
    exact ⟨⟨2, by decide, a⟩, ⟨0, by decide, b⟩, Or.inl ⟨c, f⟩⟩
  · rw [hk]
    exact ⟨by decide, Nat.zero_le _, Nat.zero_le _, fun i hi => absurd hi (Nat.not_lt_zero i)⟩
