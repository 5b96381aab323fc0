/-! Doubles: halving and doubling are exact. -/
theorem nn64_of {x : UInt64} (h : FP.Core.val64 x ≠ .nan) : nn64 x = true := by
  have h1 := (FP.Core.ne_nan x).mp h
  unfold nn64
  rw [decide_eq_true_iff, UInt64.le_iff_toNat_le, UInt64.toNat_and]
  have e : (0x7fffffffffffffff : UInt64).toNat = 2 ^ 63 - 1 := by decide
  have e2 : (0x7ff0000000000000 : UInt64).toNat = 9218868437227405312 := by decide
  rw [e, e2, Nat.and_two_pow_sub_one_eq_mod]
  exact h1
theorem nn64_nan {x : UInt64} (h : FP.Core.dIsNaN x = false) : nn64 x = true := nn64_of ((FP.Core.notNaN_iff x).mp h)
/-- x is c * 2 ^ (k - 1074), a normal number above 0 -/
def NRM (x : UInt64) (c k : Nat) : Prop := FP.Core.val64 x = .fin false c ((k : Int) - 1074) ∧ 2 ^ 52 ≤ c ∧ c < 2 ^ 53 ∧ k ≤ 2045
theorem NRM.num {x : UInt64} {c k : Nat} (h : NRM x c k) : FP.Core.val64 x ≠ .nan := by
  rw [h.1]; exact FP.Core.Datum.noConfusion
theorem NRM.nn {x : UInt64} {c k : Nat} (h : NRM x c k) : nn64 x = true := nn64_of h.num
theorem NRM.uniq {x y : UInt64} {c k : Nat} (h : NRM x c k) (g : NRM y c k) : x = y := FP.Core.val64_inj h.num (by rw [h.1, g.1])
theorem nrm_fits {c k : Nat} (h1 : 2 ^ 52 ≤ c) (h2 : c < 2 ^ 53) (h3 : k ≤ 2045) : FP.Core.fits FP.Core.b64 (.fin false c ((k : Int) - 1074)) := by
  refine ⟨?_, ?_, ?_, Or.inr ?_⟩
  · show c < 2 ^ 53; exact h2
  · rw [FP.Core.qmin_b64]; omega
  · have : FP.Core.b64.qmax = 971 := by decide
    rw [this]; omega
  · rw [FP.Core.tails_b64]; exact h1
theorem v64_2 : FP.Core.val64 4611686018427387904 = .fin false (2 ^ 52) (-51) := by decide +kernel
theorem v64_h : FP.Core.val64 4602678819172646912 = .fin false (2 ^ 52) (-53) := by decide +kernel
theorem nrm_div {x : UInt64} {c k : Nat} (h : NRM x c (k + 1)) : NRM (FP.ddiv x 4611686018427387904) c k := by
  obtain ⟨h1, h2, h3, h4⟩ := h
  refine ⟨?_, h2, h3, by omega⟩
  rw [FP.Core.val64_ddiv, h1, v64_2]
  show (if (2 ^ 52 : Nat) = 0 then (if c = 0 then FP.Core.Datum.nan else FP.Core.Datum.inf (false != false)) else FP.Core.roundRatio FP.Core.b64 (false != false) c (2 ^ 52) (((k + 1 : Nat) : Int) - 1074 - -51)) = _
  rw [if_neg (by decide)]
  refine FP.Core.roundRatio_exact FP.Core.good_b64 (by decide) (nrm_fits h2 h3 (by omega)) ?_
  have key : ∀ a b : Nat, a = 52 → b = 0 → c * 2 ^ a = c * 2 ^ 52 * 2 ^ b := by
    intro a b ha hb; subst ha hb; rw [Nat.pow_zero, Nat.mul_one]
  exact key _ _ (by omega) (by omega)
theorem nrm_half {x : UInt64} {c k : Nat} (h : NRM x c (k + 1)) : NRM (FP.dmul x 4602678819172646912) c k := by
  obtain ⟨h1, h2, h3, h4⟩ := h
  refine ⟨?_, h2, h3, by omega⟩
  rw [FP.Core.val64_dmul, h1, v64_h]
  unfold FP.Core.exactProduct FP.Core.round
  refine FP.Core.roundRatio_exact FP.Core.good_b64 (by decide) (nrm_fits h2 h3 (by omega)) ?_
  have key : ∀ a b : Nat, a = 0 → b = 52 → c * 2 ^ 52 * 2 ^ a = c * 1 * 2 ^ b := by
    intro a b ha hb; subst ha hb; rw [Nat.pow_zero, Nat.mul_one, Nat.mul_one]
  exact key _ _ (by omega) (by omega)
theorem nrm_dbl {x : UInt64} {c k : Nat} (h : NRM x c k) (hk : k < 2045) : NRM (FP.dmul x 4611686018427387904) c (k + 1) := by
  obtain ⟨h1, h2, h3, h4⟩ := h
  refine ⟨?_, h2, h3, by omega⟩
  rw [FP.Core.val64_dmul, h1, v64_2]
  unfold FP.Core.exactProduct FP.Core.round
  refine FP.Core.roundRatio_exact FP.Core.good_b64 (by decide) (nrm_fits h2 h3 (by omega)) ?_
  have key : ∀ a b : Nat, a = 0 → b = 52 → c * 2 ^ 52 * 2 ^ a = c * 1 * 2 ^ b := by
    intro a b ha hb; subst ha hb; rw [Nat.pow_zero, Nat.mul_one, Nat.mul_one]
  exact key _ _ (by omega) (by omega)
theorem zval_nrm (c k : Nat) : FP.Core.zval FP.Core.b64 (.fin false c ((k : Int) - 1074)) = ((c * 2 ^ k : Nat) : Int) := by
  show FP.Core.signed false (c * 2 ^ ((k : Int) - 1074 - FP.Core.b64.qmin).toNat) = _
  rw [FP.Core.qmin_b64, show ((k : Int) - 1074 - -1074).toNat = k by omega]
  rfl
theorem cmpk {c k j : Nat} (h1 : 2 ^ 52 ≤ c) (h2 : c < 2 ^ 53) : c * 2 ^ k < 2 ^ 52 * 2 ^ j ↔ k < j := by
  constructor
  · intro h
    refine Decidable.byContradiction (fun hn => ?_)
    have a : 2 ^ j ≤ 2 ^ k := Nat.pow_le_pow_right (by decide) (by omega)
    have b : 2 ^ 52 * 2 ^ j ≤ c * 2 ^ k := Nat.mul_le_mul h1 a
    omega
  · intro h
    have a : 2 ^ (k + 1) ≤ 2 ^ j := Nat.pow_le_pow_right (by decide) (by omega)
    have b : 2 ^ 52 * 2 ^ (k + 1) ≤ 2 ^ 52 * 2 ^ j := Nat.mul_le_mul (Nat.le_refl _) a
    have p : 0 < 2 ^ k := Nat.two_pow_pos k
    have d : (c + 1) * 2 ^ k ≤ 2 ^ 53 * 2 ^ k := Nat.mul_le_mul (by omega) (Nat.le_refl _)
    rw [Nat.succ_mul] at d
    have e2 : 2 ^ (k + 1) = 2 ^ k * 2 := Nat.pow_succ 2 k
    rw [e2] at b
    generalize 2 ^ k = K at *
    omega
theorem nrm_lt {x y : UInt64} {c k j : Nat} (h : NRM x c k) (g : NRM y (2 ^ 52) j) : FP.Core.dcmp x y = some .lt ↔ k < j := by
  rw [FP.Core.dcmp_lt, h.1, g.1, zval_nrm, zval_nrm, Int.ofNat_lt, cmpk h.2.1 h.2.2.1]
  exact ⟨fun q => q.2.2, fun q => ⟨FP.Core.Datum.noConfusion, FP.Core.Datum.noConfusion, q⟩⟩
theorem nrm_1 : NRM FP.dconst1 (2 ^ 52) 1022 := ⟨FP.Core.val64_dconst1, by decide, by decide, by decide⟩
theorem nrm_2 : NRM 4611686018427387904 (2 ^ 52) 1023 := ⟨v64_2, by decide, by decide, by decide⟩
theorem cmpG {o : Option Ordering} : 0 ≤ Op.cmpValue o CmpOp.g ↔ ¬ o = some .lt := by
  cases o with
  | none => decide
  | some o => cases o <;> decide
theorem cmpL {o : Option Ordering} (h : o ≠ none) : Op.cmpValue o CmpOp.l < 0 ↔ o = some .lt := by
  cases o with
  | none => exact absurd rfl h
  | some o => cases o <;> decide
theorem nrm_cmp {x y : UInt64} {c k d j : Nat} (h : NRM x c k) (g : NRM y d j) : FP.Core.dcmp x y ≠ none := fun e => ((FP.Core.dcmp_none x y).mp e).elim h.num g.num
theorem nrm_ge1 {x : UInt64} {c k : Nat} (h : NRM x c k) : 0 ≤ Op.cmpValue (FP.dcmp x FP.dconst1) CmpOp.g ↔ 1022 ≤ k := by
  rw [cmpG, nrm_lt h nrm_1]; omega
theorem nrm_lt2 {x : UInt64} {c k : Nat} (h : NRM x c k) : Op.cmpValue (FP.dcmp x 4611686018427387904) CmpOp.l < 0 ↔ k < 1023 := by
  rw [cmpL (nrm_cmp h nrm_2), nrm_lt h nrm_2]
theorem nrm_gt0 {x : UInt64} {c k : Nat} (h : NRM x c k) : FP.Core.dcmp x FP.dconst0 = some .gt := by
  rw [FP.Core.dcmp_gt]
  refine ⟨h.num, by decide +kernel, ?_⟩
  rw [show FP.Core.zval FP.Core.b64 (FP.Core.val64 FP.dconst0) = 0 from FP.Core.zval64_zero, h.1, zval_nrm]
  have p : 0 < c * 2 ^ k := Nat.mul_pos (by have := h.2.1; omega) (Nat.two_pow_pos k)
  omega
/-! the exponent, counted -/
def dnC (i : Nat) : Int32 := Int32.ofInt (-(i : Int))
def dnM (i : Nat) : Int64 := Int64.ofInt (1023 - (i : Int))
def upM (i : Nat) : Int64 := Int64.ofInt (1023 + (i : Int))
theorem dn_all : (List.range 200).all (fun i => decide (dnC i + (-1) = dnC (i + 1)) && !decide (dnC i ≤ 1 - 1023) && decide (dnC i + 1023 = nI (1023 - i)) && decide (dnM i - 1 = dnM (i + 1)) && decide (upM i + 1 = upM (i + 1)) && decide (Int32.toInt64 (nI (1023 + i)) <<< (Int32.toInt64 52 &&& 63) = upM i * 4503599627370496) && decide (Int32.toInt64 (nI (1023 - i)) <<< (Int32.toInt64 52 &&& 63) = dnM i * 4503599627370496)) = true := by decide +kernel
theorem dn_at {i : Nat} (h : i < 200) : dnC i + (-1) = dnC (i + 1) ∧ ¬ dnC i ≤ 1 - 1023 ∧ dnC i + 1023 = nI (1023 - i) ∧ dnM i - 1 = dnM (i + 1) ∧ upM i + 1 = upM (i + 1) ∧ Int32.toInt64 (nI (1023 + i)) <<< (Int32.toInt64 52 &&& 63) = upM i * 4503599627370496 ∧ Int32.toInt64 (nI (1023 - i)) <<< (Int32.toInt64 52 &&& 63) = dnM i * 4503599627370496 := by
  have a := dn_all
  rw [List.all_eq_true] at a
  have b := a i (List.mem_range.mpr h)
  simp only [Bool.and_eq_true, decide_eq_true_eq, Bool.not_eq_true', decide_eq_false_iff_not] at b
  obtain ⟨⟨⟨⟨⟨⟨b1, b2⟩, b3⟩, b4⟩, b5⟩, b6⟩, b7⟩ := b
  exact ⟨b1, b2, b3, b4, b5, b6, b7⟩
theorem cL43 : ∀ (j n i k : Nat) (x : UInt64) (c : Nat), k + j = 1022 → i + j < 200 → j < n → NRM x c k → ∃ n' y, NRM y c 1022 ∧ f_X6_bitsOf_L43 n 1023 52 (dnC i) x = f_X6_bitsOf_J72 n' 1023 52 (dnC (i + j)) y
  | 0, n, i, k, x, c, hk, hi, hn, h => by
    obtain ⟨n, rfl⟩ := up1 hn
    have : k = 1022 := by omega
    subst this
    rw [f_X6_bitsOf_L43, if_pos ((nrm_ge1 h).mpr (by omega))]
    exact ⟨n, x, h, rfl⟩
  | j + 1, n, i, k, x, c, hk, hi, hn, h => by
    obtain ⟨n, rfl⟩ := up1 (show 0 < n by omega)
    obtain ⟨b1, b2, -⟩ := dn_at (show i < 200 by omega)
    have h2 := nrm_dbl h (by omega)
    rw [f_X6_bitsOf_L43, if_neg (fun e => absurd ((nrm_ge1 h).mp e) (by omega)), if_neg b2, h2.nn, ck_t, b1]
    obtain ⟨n', y, a, b⟩ := cL43 j n (i + 1) (k + 1) _ c (by omega) (by omega) (by omega) h2
    exact ⟨n', y, a, by rw [b, show i + 1 + j = i + (j + 1) by omega]⟩
theorem cJ43 {n : Nat} (hn : 0 < n) {x : UInt64} {c : Nat} (x4 : Int32) (h : NRM x c 1022) : ∃ n', f_X6_bitsOf_L43 n 1023 52 x4 x = f_X6_bitsOf_J72 n' 1023 52 x4 x := by
  obtain ⟨n, rfl⟩ := up1 hn
  rw [f_X6_bitsOf_L43, if_pos ((nrm_ge1 h).mpr (by omega))]
  exact ⟨n, rfl⟩
theorem cL14 : ∀ (j n i k : Nat) (x : UInt64) (c : Nat), k = 1022 + j → i + j < 200 → j + 2 ≤ n → NRM x c k → ∃ n' y, NRM y c 1022 ∧ f_X6_bitsOf_L14 n 1023 52 (nI i) x = f_X6_bitsOf_J72 n' 1023 52 (nI (i + j)) y
  | 0, n, i, k, x, c, hk, hi, hn, h => by
    obtain ⟨n, rfl⟩ := up1 (show 0 < n by omega)
    subst hk
    rw [f_X6_bitsOf_L14, if_pos ((nrm_lt2 h).mpr (by omega))]
    obtain ⟨n', e⟩ := cJ43 (n := n) (by omega) (nI i) h
    exact ⟨n', x, h, e⟩
  | j + 1, n, i, k, x, c, hk, hi, hn, h => by
    obtain ⟨n, rfl⟩ := up1 (show 0 < n by omega)
    subst hk
    have h2 : NRM (FP.ddiv x 4611686018427387904) c (1022 + j) := nrm_div h
    rw [f_X6_bitsOf_L14, if_neg (fun e => absurd ((nrm_lt2 h).mp e) (by omega)), if_neg (show ¬ (1023 : Int32) ≤ nI i from nI_ge (a := i) (b := 1023) (by omega) (by decide)), h2.nn, ck_t, nI_1]
    obtain ⟨n', y, a, b⟩ := cL14 j n (i + 1) (1022 + j) _ c rfl (by omega) (by omega) h2
    exact ⟨n', y, a, by rw [b, show i + 1 + j = i + (j + 1) by omega]⟩
theorem mL37 : ∀ (j n i k : Nat) (x : UInt64) (c : Nat), k = 1022 + j → i + j < 200 → j < n → NRM x c k → ∃ n' y, NRM y c 1022 ∧ f_X7_bitsOfDouble_L37 n (upM i) x = f_X7_bitsOfDouble_L37 (n' + 1) (upM (i + j)) y
  | 0, n, i, k, x, c, hk, hi, hn, h => by
    obtain ⟨n, rfl⟩ := up1 hn
    subst hk
    exact ⟨n, x, h, rfl⟩
  | j + 1, n, i, k, x, c, hk, hi, hn, h => by
    obtain ⟨n, rfl⟩ := up1 (show 0 < n by omega)
    subst hk
    obtain ⟨-, -, -, -, b5, -⟩ := dn_at (show i < 200 by omega)
    have h2 : NRM (FP.dmul x 4602678819172646912) c (1022 + j) := nrm_half h
    rw [f_X7_bitsOfDouble_L37, if_neg (fun e => absurd ((nrm_lt2 h).mp e) (by omega)), h2.nn, ck_t, b5]
    obtain ⟨n', y, a, b⟩ := mL37 j n (i + 1) (1022 + j) _ c rfl (by omega) (by omega) h2
    exact ⟨n', y, a, by rw [b, show i + 1 + j = i + (j + 1) by omega]⟩
theorem mL15 : ∀ (j n i k : Nat) (x : UInt64) (c : Nat), k + j = 1022 → i + j < 200 → j + 1 < n → NRM x c k → ∃ n' y, NRM y c 1022 ∧ f_X7_bitsOfDouble_L15 n (dnM i) x = f_X7_bitsOfDouble_L37 (n' + 1) (dnM (i + j)) y
  | 0, n, i, k, x, c, hk, hi, hn, h => by
    obtain ⟨n, rfl⟩ := up1 (show 0 < n by omega)
    obtain ⟨n, rfl⟩ := up1 (show 0 < n by omega)
    have : k = 1022 := by omega
    subst this
    rw [f_X7_bitsOfDouble_L15, if_pos ((nrm_ge1 h).mpr (by omega))]
    exact ⟨n, x, h, rfl⟩
  | j + 1, n, i, k, x, c, hk, hi, hn, h => by
    obtain ⟨n, rfl⟩ := up1 (show 0 < n by omega)
    obtain ⟨-, -, -, b4, -⟩ := dn_at (show i < 200 by omega)
    have h2 := nrm_dbl h (by omega)
    rw [f_X7_bitsOfDouble_L15, if_neg (fun e => absurd ((nrm_ge1 h).mp e) (by omega)), h2.nn, ck_t, b4]
    obtain ⟨n', y, a, b⟩ := mL15 j n (i + 1) (k + 1) _ c (by omega) (by omega) (by omega) h2
    exact ⟨n', y, a, by rw [b, show i + 1 + j = i + (j + 1) by omega]⟩
/-- the last step of both -/
theorem fin_nn {y : UInt64} {c : Nat} (h : NRM y c 1022) : nn64 (FP.dsub y FP.dconst1) = true ∧ nn64 (FP.dmul (FP.dsub y FP.dconst1) 4841369599423283200) = true := by
  have f1 : FP.Core.DFin FP.dconst1 := ⟨_, _, _, FP.Core.val64_dconst1⟩
  have fy : FP.Core.dIsNaN y = false := (FP.Core.notNaN_iff y).mpr h.num
  have a : FP.Core.dIsNaN (FP.Core.dsub y FP.dconst1) = false := FP.Core.dsub_out fy f1
  have v : FP.Core.val64 4841369599423283200 = .fin false (2 ^ 52) 0 := by decide +kernel
  have f2 : FP.Core.DFin 4841369599423283200 := ⟨_, _, _, v⟩
  have z2 : ¬ FP.Core.DZero 4841369599423283200 := by
    rintro ⟨s, q, e⟩
    rw [v] at e
    cases e
  exact ⟨nn64_nan a, nn64_nan (FP.Core.dmul_out' a f2 z2)⟩
theorem l2d_52 : FP.l2d (1 <<< (Int32.toInt64 52 &&& 63)) = 4841369599423283200 := by decide +kernel
theorem bits_nrm {x : UInt64} {c k : Nat} (h : NRM x c k) (h1 : 850 ≤ k) (h2 : k ≤ 1200) {n n' : Nat} (hn : 300 ≤ n) (hn' : 300 ≤ n') : ∃ r, f_X6_bitsOf n x 1023 52 = some r ∧ f_X7_bitsOfDouble n' x = some r := by
  have g0 := nrm_gt0 h
  unfold f_X6_bitsOf f_X7_bitsOfDouble
  rw [show FP.dcmp x FP.dconst0 = some .gt from g0, if_pos (by decide), if_neg (by decide)]
  by_cases c1 : k < 1022
  · obtain ⟨n, rfl⟩ := up1 (show 0 < n by omega)
    rw [f_X6_bitsOf_L14, if_pos ((nrm_lt2 h).mpr (by omega))]
    obtain ⟨m1, y, a1, a2⟩ := cL43 (1022 - k) n 0 k x c (by omega) (by omega) (by omega) h
    obtain ⟨m2, y', b1, b2⟩ := mL15 (1022 - k) n' 0 k x c (by omega) (by omega) (by omega) h
    have e := a1.uniq b1
    subst e
    rw [show f_X6_bitsOf_L43 n 1023 52 0 x = _ from a2, show f_X7_bitsOfDouble_L15 n' 1023 x = _ from b2]
    unfold f_X6_bitsOf_J72
    rw [f_X7_bitsOfDouble_L37, if_pos ((nrm_lt2 a1).mpr (by omega)), (fin_nn a1).1, l2d_52, (fin_nn a1).2, ck_t, ck_t, ck_t, ck_t]
    obtain ⟨-, -, d3, -, -, -, d7⟩ := dn_at (show 0 + (1022 - k) < 200 by omega)
    rw [d3, d7]
    exact ⟨_, rfl, rfl⟩
  · obtain ⟨m1, y, a1, a2⟩ := cL14 (k - 1022) n 0 k x c (by omega) (by omega) (by omega) h
    obtain ⟨n', rfl⟩ := up1 (show 0 < n' by omega)
    rw [f_X7_bitsOfDouble_L15, if_pos ((nrm_ge1 h).mpr (by omega))]
    obtain ⟨m2, y', b1, b2⟩ := mL37 (k - 1022) n' 0 k x c (by omega) (by omega) (by omega) h
    have e := a1.uniq b1
    subst e
    rw [show f_X6_bitsOf_L14 n 1023 52 0 x = _ from a2, show f_X7_bitsOfDouble_L37 n' 1023 x = _ from b2]
    unfold f_X6_bitsOf_J72
    rw [f_X7_bitsOfDouble_L37, if_pos ((nrm_lt2 a1).mpr (by omega)), (fin_nn a1).1, l2d_52, (fin_nn a1).2, ck_t, ck_t, ck_t, ck_t]
    obtain ⟨-, -, -, -, -, d6, -⟩ := dn_at (show 0 + (k - 1022) < 200 by omega)
    rw [show nI (0 + (k - 1022)) + 1023 = nI (1023 + (0 + (k - 1022))) by rw [show (1023 : Int32) = nI 1023 from rfl, nI_add, Nat.add_comm], d6]
    exact ⟨_, rfl, rfl⟩
