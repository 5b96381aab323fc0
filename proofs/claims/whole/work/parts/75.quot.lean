/-! Doubles: a quotient of two whole numbers above 0 is a normal number. -/
theorem cmpk_lt {c k j : Nat} (h2 : c < 2 ^ 53) (h : k < j) : c * 2 ^ k < 2 ^ 52 * 2 ^ j := by
  have a : 2 ^ (k + 1) ≤ 2 ^ j := Nat.pow_le_pow_right (by decide) (by omega)
  have b : 2 ^ 52 * 2 ^ (k + 1) ≤ 2 ^ 52 * 2 ^ j := Nat.mul_le_mul (Nat.le_refl _) a
  have p : 0 < 2 ^ k := Nat.two_pow_pos k
  have d : (c + 1) * 2 ^ k ≤ 2 ^ 53 * 2 ^ k := Nat.mul_le_mul (by omega) (Nat.le_refl _)
  rw [Nat.succ_mul] at d
  have e2 : 2 ^ (k + 1) = 2 ^ k * 2 := Nat.pow_succ 2 k
  rw [e2] at b
  generalize 2 ^ k = K at *
  omega
theorem div_low {f : FP.Core.Fmt} (hf : FP.Core.Good f) {x y La Kb K : Nat} (hx : La * f.tails ≤ FP.Core.mag f x) (hxf : FP.Core.mag f x < FP.Core.infBits f) (hy : FP.Core.mag f y < Kb * f.tails) (hKb : Kb ≤ f.exps - 1) (hy0 : 1 * f.tails ≤ FP.Core.mag f y) (hL : 1 ≤ La) (hK : 1 ≤ K) (hK2 : K ≤ f.exps - 1) (h : K + Kb + (f.p - 1) ≤ La + (-f.qmin).toNat + 1) : K * f.tails ≤ FP.Core.mag f (FP.Core.div f x y) := by
  obtain ⟨s, c, q, x1, x2, x3⟩ := FP.Core.fin_of_mag hf hxf
  obtain ⟨t, d, r, y1, y2, y3⟩ := FP.Core.fin_of_mag hf (FP.Core.mag_lt_inf hy hKb)
  have hq := FP.Core.qmin_neg hf
  have l1 : f.tails * 2 ^ (La - 1) ≤ FP.Core.zmag f (.fin s c q) := by
    rw [x3, ← FP.Core.unitsOf_start hL]; exact FP.Core.unitsOf_le_iff.mpr hx
  have l3 : f.tails * 2 ^ (1 - 1) ≤ FP.Core.zmag f (.fin t d r) := by
    rw [y3, ← FP.Core.unitsOf_start (Nat.le_refl 1)]; exact FP.Core.unitsOf_le_iff.mpr hy0
  have hd0 : d ≠ 0 := by
    rintro rfl
    have h1 : FP.Core.zmag f (.fin t 0 r) = 0 := Nat.zero_mul _
    have := Nat.mul_pos (FP.Core.tails_pos f) (Nat.two_pow_pos (1 - 1))
    omega
  have hd : FP.Core.decode f (FP.Core.div f x y) = FP.Core.roundRatio f (s != t) c d (q - r) := by
    unfold FP.Core.div
    rw [FP.Core.decode_enc hf (FP.Core.quotient_fits hf _ _), x1, y1]
    simp only [FP.Core.quotient, if_neg hd0]
  have hx1 := x2.2.1
  have hy1 := y2.2.1
  refine FP.Core.mag_ge hf hd (by omega) (e0 := 2 * f.qmin - r) (by omega) (by omega) (Nat.mul_le_mul_right _ hK2) ?_
  obtain ⟨k1, l2⟩ := FP.Core.units_lt_start hy
  rw [FP.Core.unitsOf_start hK]
  have e1 : FP.Core.inUnits c (q - r) (2 * f.qmin - r) = FP.Core.zmag f (.fin s c q) * 2 ^ (-f.qmin).toNat := by
    show c * _ = c * _ * _
    rw [Nat.mul_assoc, ← Nat.pow_add]; congr 2; omega
  have e2 : 2 ^ (f.qmin - (2 * f.qmin - r)).toNat * d = FP.Core.zmag f (.fin t d r) := by
    show _ = d * _
    rw [Nat.mul_comm]; congr 2; omega
  rw [e1, Nat.mul_assoc, e2, y3]
  calc f.tails * 2 ^ (K - 1) * FP.Core.unitsOf f (FP.Core.mag f y) ≤ f.tails * 2 ^ (K - 1) * (f.tails * 2 ^ (Kb - 1)) := Nat.mul_le_mul_left _ (Nat.le_of_lt l2)
    _ = f.tails * 2 ^ (K - 1 + (f.p - 1) + (Kb - 1)) := by
      rw [Nat.pow_add, Nat.pow_add, show 2 ^ (f.p - 1) = f.tails from rfl]; ac_rfl
    _ ≤ f.tails * 2 ^ (La - 1 + (-f.qmin).toNat) := Nat.mul_le_mul_left _ (Nat.pow_le_pow_right (by decide) (by omega))
    _ = f.tails * 2 ^ (La - 1) * 2 ^ (-f.qmin).toNat := by rw [Nat.pow_add, Nat.mul_assoc]
    _ ≤ FP.Core.zmag f (.fin s c q) * 2 ^ (-f.qmin).toNat := Nat.mul_le_mul_right _ l1
theorem i2d_pos {a : Int32} (h : ¬ a.toInt < 0) : ∃ c q, FP.Core.val64 (FP.i2d a) = .fin false c q := by
  obtain ⟨s, c, q, e⟩ := FP.Core.i2d_fin a
  have g : FP.Core.sgn (FP.Core.val64 (FP.Core.i2d a)) = false := by
    rw [FP.Core.val64_i2d]
    show FP.Core.sgn (FP.Core.roundRatio FP.Core.b64 (decide (a.toInt < 0)) a.toInt.natAbs 1 0) = false
    rw [FP.Core.sgn_roundRatio, decide_eq_false h]
  rw [e] at g
  have g2 : s = false := g
  subst g2
  exact ⟨c, q, e⟩
theorem div_nrm {a b : Int32} (ha : 0 < a.toInt) (hb : 0 < b.toInt) : ∃ c k, NRM (FP.ddiv (FP.i2d a) (FP.i2d b)) c k ∧ 850 ≤ k ∧ k ≤ 1200 := by
  have ba := FP.Core.i2d_big (v := a) (by omega)
  have bb := FP.Core.i2d_big (v := b) (by omega)
  have ma := FP.Core.i2d_mag a
  have mb := FP.Core.i2d_mag b
  have hi := FP.Core.ddiv_mag ma bb.1 bb.2 (by decide) (by decide)
  have hlo : 900 * 2 ^ 52 ≤ (FP.Core.ddiv (FP.Core.i2d a) (FP.Core.i2d b)).toNat % 2 ^ 63 := by
    have h1 : (FP.Core.ddiv (FP.Core.i2d a) (FP.Core.i2d b)).toNat = FP.Core.div FP.Core.b64 (FP.Core.i2d a).toNat (FP.Core.i2d b).toNat := FP.Core.toNat_of64 (FP.Core.quotient_fits FP.Core.good_b64 _ _)
    have h2 := div_low FP.Core.good_b64 (x := (FP.Core.i2d a).toNat) (y := (FP.Core.i2d b).toNat) (La := 1023) (Kb := 1056) (K := 900)
      (by rw [FP.Core.mag_toNat64, FP.Core.tails_b64]; exact ba.1) (by rw [FP.Core.mag_toNat64, FP.Core.infBits_b64]; omega) (by rw [FP.Core.mag_toNat64, FP.Core.tails_b64]; exact mb)
      (by rw [FP.Core.exps_b64]; decide) (by rw [FP.Core.mag_toNat64, FP.Core.tails_b64]; omega) (by decide) (by decide) (by rw [FP.Core.exps_b64]; decide) (by rw [FP.Core.p_b64, FP.Core.qmin_b64]; decide)
    rw [← h1, FP.Core.mag_toNat64, FP.Core.tails_b64] at h2
    exact h2
  generalize hx : FP.Core.ddiv (FP.Core.i2d a) (FP.Core.i2d b) = x at *
  have hfin : FP.Core.DFin x := by rw [FP.Core.fin_bits]; omega
  obtain ⟨s, c, q, hv⟩ := hfin
  have hnn : FP.Core.val64 x ≠ .nan := by rw [hv]; exact FP.Core.Datum.noConfusion
  have hs : s = false := by
    obtain ⟨c1, q1, e1⟩ := i2d_pos (a := a) (by omega)
    obtain ⟨c2, q2, e2⟩ := i2d_pos (a := b) (by omega)
    have e3 := FP.Core.val64_ddiv (FP.Core.i2d a) (FP.Core.i2d b)
    rw [hx, hv, e1, e2] at e3
    have e4 : FP.Core.quotient FP.Core.b64 (.fin false c1 q1) (.fin false c2 q2) = if c2 = 0 then (if c1 = 0 then .nan else .inf (false != false)) else FP.Core.roundRatio FP.Core.b64 (false != false) c1 c2 (q1 - q2) := rfl
    rw [e4] at e3
    split at e3
    · split at e3
      · exact nomatch e3
      · exact nomatch e3
    · have := congrArg FP.Core.sgn e3
      rw [FP.Core.sgn_roundRatio] at this
      exact this
  subst hs
  have hft := FP.Core.val64_fits x
  rw [hv] at hft
  obtain ⟨f1, f2, f3, f4⟩ := hft
  have f1' : c < 2 ^ 53 := f1
  have hz := FP.Core.zmag_bits hnn
  rw [hv] at hz
  rw [FP.Core.qmin_b64] at f2
  have hz1 : c * 2 ^ (q - -1074).toNat = FP.Core.unitsOf FP.Core.b64 (x.toNat % 2 ^ 63) := by
    rw [← hz]
    show _ = c * 2 ^ (q - FP.Core.b64.qmin).toNat
    rw [FP.Core.qmin_b64]
  obtain ⟨k, hk⟩ : ∃ k : Nat, q = (k : Int) - 1074 := ⟨(q + 1074).toNat, by omega⟩
  have hk2 : (q - -1074).toNat = k := by omega
  rw [hk2] at hz1
  have u1 : 2 ^ 52 * 2 ^ (900 - 1) ≤ c * 2 ^ k := by
    rw [hz1]
    have := FP.Core.unitsOf_start (f := FP.Core.b64) (K := 900) (by decide)
    rw [FP.Core.tails_b64] at this
    rw [← this]
    exact FP.Core.unitsOf_le_iff.mpr hlo
  have u2 : c * 2 ^ k < 2 ^ 52 * 2 ^ (1057 - 1) := by
    rw [hz1]
    have := FP.Core.units_lt_start (f := FP.Core.b64) (m := x.toNat % 2 ^ 63) (K := 1057) (by rw [FP.Core.tails_b64]; exact hi)
    rw [FP.Core.tails_b64] at this
    exact this.2
  have k1 : 899 ≤ k := Decidable.byContradiction (fun h => by
    have := cmpk_lt (c := c) (k := k) (j := 900 - 1) f1' (by omega)
    exact absurd u1 (Nat.not_le_of_lt this))
  have c1 : 2 ^ 52 ≤ c := by
    rcases f4 with e | e
    · rw [FP.Core.qmin_b64] at e; omega
    · rw [FP.Core.tails_b64] at e; exact e
  have k2 : k < 1057 - 1 := (cmpk c1 f1').mp u2
  exact ⟨c, k, ⟨by show FP.Core.val64 (FP.Core.ddiv (FP.Core.i2d a) (FP.Core.i2d b)) = _; rw [hx, hv, hk], c1, f1', by omega⟩, by omega, by omega⟩
