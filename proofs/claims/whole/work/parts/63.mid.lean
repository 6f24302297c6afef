/-! A step of a half or a quarter stays between. -/
section XMID
/-- a power of two of least numbers, as a datum -/
def pw (j : Nat) : FP.Core.Datum := if j < 53 then .fin false (2 ^ j) FP.Core.b64.qmin else .fin false (2 ^ 52) (FP.Core.b64.qmin + ((j - 52 : Nat) : Int))
theorem pw_nn (j : Nat) : pw j ≠ .nan := by
  unfold pw; split <;> exact FP.Core.Datum.noConfusion
theorem pw_zv (j : Nat) : FP.Core.zval FP.Core.b64 (pw j) = ((2 ^ j : Nat) : Int) := by
  unfold pw
  split
  · show FP.Core.signed false (2 ^ j * 2 ^ (FP.Core.b64.qmin - FP.Core.b64.qmin).toNat) = _
    rw [Int.sub_self]
    show ((2 ^ j * 2 ^ 0 : Nat) : Int) = _
    rw [Nat.pow_zero, Nat.mul_one]
  · rename_i h
    show FP.Core.signed false (2 ^ 52 * 2 ^ (FP.Core.b64.qmin + ((j - 52 : Nat) : Int) - FP.Core.b64.qmin).toNat) = _
    rw [show FP.Core.b64.qmin + ((j - 52 : Nat) : Int) - FP.Core.b64.qmin = ((j - 52 : Nat) : Int) by omega, Int.toNat_natCast, ← Nat.pow_add, show 52 + (j - 52) = j by omega]
    rfl
theorem pw_fits {j : Nat} (h : j ≤ 2000) : FP.Core.fits FP.Core.b64 (pw j) := by
  have e1 : FP.Core.b64.p = 53 := rfl
  have e2 : FP.Core.b64.qmin = -1074 := by decide +kernel
  have e3 : FP.Core.b64.qmax = 971 := by decide +kernel
  have e4 : FP.Core.b64.tails = 2 ^ 52 := by decide +kernel
  unfold pw
  split
  · rename_i h1
    refine ⟨?_, Int.le_refl _, ?_, .inl rfl⟩
    · rw [e1]; exact Nat.pow_lt_pow_right (by decide) h1
    · rw [e2, e3]; decide
  · rename_i h1
    refine ⟨?_, ?_, ?_, .inr ?_⟩
    · rw [e1]; decide
    · omega
    · rw [e2, e3]; omega
    · rw [e4]; exact Nat.le_refl _
theorem pw_log {U : Int} (h : 0 < U) : ∃ j : Nat, ((2 ^ j : Nat) : Int) ≤ U ∧ U < ((2 ^ (j + 1) : Nat) : Int) := by
  refine ⟨U.toNat.log2, ?_, ?_⟩
  · have := Nat.log2_self_le (n := U.toNat) (by omega)
    omega
  · have := Nat.lt_log2_self (n := U.toNat)
    omega
/-- sums and products against a datum -/
theorem dsub_leD {a b : UInt64} {V : FP.Core.Datum} (ha : DF a) (hb : DF b) (fV : FP.Core.fits FP.Core.b64 V) (hV : V ≠ .nan) (h : zv a - zv b ≤ FP.Core.zval FP.Core.b64 V) : zv (FP.dsub a b) ≤ FP.Core.zval FP.Core.b64 V := by
  rw [dsub_add hb.nn]
  have := FP.Core.sum_le FP.Core.good_b64 ha hb.neg (FP.Core.val64_fits a) (FP.Core.val64_fits (FP.dneg b)) fV hV (by
    have := dneg_zv b
    unfold zv at this h
    rw [this]; omega)
  rwa [← FP.Core.val64_dadd] at this
theorem dsub_geD {a b : UInt64} {V : FP.Core.Datum} (ha : DF a) (hb : DF b) (fV : FP.Core.fits FP.Core.b64 V) (hV : V ≠ .nan) (h : FP.Core.zval FP.Core.b64 V ≤ zv a - zv b) : FP.Core.zval FP.Core.b64 V ≤ zv (FP.dsub a b) := by
  rw [dsub_add hb.nn]
  have := FP.Core.sum_ge FP.Core.good_b64 ha hb.neg (FP.Core.val64_fits a) (FP.Core.val64_fits (FP.dneg b)) fV hV (by
    have := dneg_zv b
    unfold zv at this h
    rw [this]; omega)
  rwa [← FP.Core.val64_dadd] at this
/-- a half or a quarter -/
def part (c : UInt64) (k : Nat) : Prop := FP.Core.val64 c = .fin false (2 ^ 52) (-52 - (k : Int))
theorem part_half : part 4602678819172646912 1 := by unfold part; decide +kernel
theorem part_quarter : part 4598175219545276416 2 := by unfold part; decide +kernel
theorem part_mul {c d : UInt64} {k : Nat} {V : FP.Core.Datum} (hc : part c k) (hd : DF d) (fV : FP.Core.fits FP.Core.b64 V) (hV : V ≠ .nan) :
    (zv d ≤ FP.Core.zval FP.Core.b64 V * ((2 ^ k : Nat) : Int) → zv (FP.dmul c d) ≤ FP.Core.zval FP.Core.b64 V) ∧ (FP.Core.zval FP.Core.b64 V * ((2 ^ k : Nat) : Int) ≤ zv d → FP.Core.zval FP.Core.b64 V ≤ zv (FP.dmul c d)) := by
  obtain ⟨s, m, q, e⟩ := hd
  have hf := FP.Core.val64_fits d
  rw [e] at hf
  have hq : FP.Core.b64.qmin ≤ q := hf.2.1
  have ep : FP.Core.val64 (FP.dmul c d) = FP.Core.round FP.Core.b64 (.fin s (2 ^ 52 * m) (-52 - (k : Int) + q)) := by
    rw [show FP.Core.val64 (FP.dmul c d) = FP.Core.round FP.Core.b64 (FP.Core.exactProduct (FP.Core.val64 c) (FP.Core.val64 d)) from FP.Core.val64_dmul c d, show FP.Core.val64 c = _ from hc, e]
    show FP.Core.round FP.Core.b64 (.fin (false != s) (2 ^ 52 * m) (-52 - (k : Int) + q)) = _
    cases s <;> rfl
  have ez : zv d = FP.Core.signed s (m * 2 ^ (q - FP.Core.b64.qmin).toNat) := by
    unfold zv; rw [e]; rfl
  have eu : FP.Core.inUnits (2 ^ 52 * m) (-52 - (k : Int) + q) (FP.Core.b64.qmin - 52 - (k : Int)) = 2 ^ 52 * (m * 2 ^ (q - FP.Core.b64.qmin).toNat) := by
    show 2 ^ 52 * m * 2 ^ (-52 - (k : Int) + q - (FP.Core.b64.qmin - 52 - (k : Int))).toNat = _
    rw [show -52 - (k : Int) + q - (FP.Core.b64.qmin - 52 - (k : Int)) = q - FP.Core.b64.qmin by omega, Nat.mul_assoc]
  have es : FP.Core.signed s (2 ^ 52 * (m * 2 ^ (q - FP.Core.b64.qmin).toNat)) = ((2 ^ 52 : Nat) : Int) * zv d := by
    rw [ez, Nat.mul_comm (2 ^ 52) _, FP.Core.signed_mul, Int.mul_comm]
  have e2 : (FP.Core.b64.qmin - (FP.Core.b64.qmin - 52 - (k : Int))).toNat = 52 + k := by omega
  have e3 : ((2 ^ (52 + k) : Nat) : Int) = ((2 ^ 52 : Nat) : Int) * ((2 ^ k : Nat) : Int) := by rw [Nat.pow_add, Int.natCast_mul]
  have hp : (0 : Int) < ((2 ^ 52 : Nat) : Int) := by decide
  constructor
  · intro h
    unfold zv
    rw [ep]
    refine FP.Core.zval_round_le FP.Core.good_b64 fV hV (e0 := FP.Core.b64.qmin - 52 - (k : Int)) (by omega) (by omega) ?_
    rw [eu, es, e2, e3, Int.mul_left_comm]
    exact Int.mul_le_mul_of_nonneg_left h (Int.le_of_lt hp)
  · intro h
    unfold zv
    rw [ep]
    refine FP.Core.zval_round_ge FP.Core.good_b64 fV hV (e0 := FP.Core.b64.qmin - 52 - (k : Int)) (by omega) (by omega) ?_
    rw [eu, es, e2, e3, Int.mul_left_comm]
    exact Int.mul_le_mul_of_nonneg_left h (Int.le_of_lt hp)
/-- far above all numbers here: 2^60 -/
def HI : UInt64 := 4877398396442247168
def LO : UInt64 := 14100770433297022976
theorem hi_df : DF HI := by
  refine (FP.Core.fin_bits HI).mpr ?_
  decide
theorem lo_df : DF LO := by
  refine (FP.Core.fin_bits LO).mpr ?_
  decide
theorem hi_zv : zv HI = ((2 ^ 1134 : Nat) : Int) := by decide +kernel
theorem lo_zv : zv LO = - zv HI := by decide +kernel
theorem df_hi {a : UInt64} (h : NN a) (h1 : - zv HI ≤ zv a) (h2 : zv a ≤ zv HI) : DF a := df_of h lo_df hi_df (by rw [lo_zv]; exact h1) h2
theorem log_hi {U : Int} {j : Nat} (h : ((2 ^ j : Nat) : Int) ≤ U) (hU : U ≤ zv HI) : j ≤ 1134 := by
  refine Nat.le_of_not_lt fun q => ?_
  have h1 : 2 ^ 1134 < 2 ^ j := Nat.pow_lt_pow_right (by decide) q
  have h2 : ((2 ^ j : Nat) : Int) ≤ ((2 ^ 1134 : Nat) : Int) := by rw [← hi_zv]; exact Int.le_trans h hU
  have h3 := Int.ofNat_le.mp h2
  exact Nat.lt_irrefl _ (Nat.lt_of_lt_of_le h1 h3)
theorem mid {c x m : UInt64} {k : Nat} (hc : part c k) (hk : 1 ≤ k) (dc : DF c) (hx : DF x) (hm : DF m) (h1 : zv m - zv x ≤ zv HI) (h2 : zv x - zv m ≤ zv HI) :
    DF (FP.dsub m x) ∧ NN (FP.dmul c (FP.dsub m x)) ∧ NN (FP.dadd x (FP.dmul c (FP.dsub m x))) ∧ (zv x ≤ zv m → zv x ≤ zv (FP.dadd x (FP.dmul c (FP.dsub m x))) ∧ zv (FP.dadd x (FP.dmul c (FP.dsub m x))) ≤ zv m) ∧ (zv m ≤ zv x → zv m ≤ zv (FP.dadd x (FP.dmul c (FP.dsub m x))) ∧ zv (FP.dadd x (FP.dmul c (FP.dsub m x))) ≤ zv x) := by
  have hp : (2 : Int) ≤ ((2 ^ k : Nat) : Int) := by
    have : 2 ^ 1 ≤ 2 ^ k := Nat.pow_le_pow_right (by decide) hk
    have := Int.ofNat_le.mpr this
    exact this
  have dd : DF (FP.dsub m x) := df_hi (dsub_nn hm hx) (by have := dsub_ge (V := LO) hm hx lo_df.nn (by rw [lo_zv]; omega); rwa [lo_zv] at this) (dsub_le hm hx hi_df.nn h1)
  have nh : NN (FP.dmul c (FP.dsub m x)) := dmul_nn dc dd
  have key : (zv x ≤ zv m → 0 ≤ zv (FP.dmul c (FP.dsub m x)) ∧ zv (FP.dmul c (FP.dsub m x)) ≤ zv m - zv x) ∧ (zv m ≤ zv x → zv (FP.dmul c (FP.dsub m x)) ≤ 0 ∧ zv m - zv x ≤ zv (FP.dmul c (FP.dsub m x))) := by
    have f0 := FP.Core.val64_fits FP.dconst0
    have hz0 : FP.Core.zval FP.Core.b64 (FP.Core.val64 FP.dconst0) = 0 := zv0
    have g0 := part_mul (V := FP.Core.val64 FP.dconst0) hc dd f0 nn0
    rw [hz0, Int.zero_mul] at g0
    constructor
    · intro h
      have d0 := dsub_ge (V := FP.dconst0) hm hx nn0 (by rw [zv0]; omega)
      rw [zv0] at d0
      refine ⟨g0.2 d0, ?_⟩
      rcases Int.lt_or_eq_of_le h with hl | he
      · obtain ⟨j, p1, p2⟩ := pw_log (U := zv m - zv x) (by omega)
        have hj := log_hi p1 h1
        have d1 := dsub_leD (V := pw (j + 1)) hm hx (pw_fits (by omega)) (pw_nn _) (by rw [pw_zv]; omega)
        have g1 := (part_mul (V := pw j) hc dd (pw_fits (by omega)) (pw_nn _)).1 (by
          rw [pw_zv] at d1 ⊢
          refine Int.le_trans d1 ?_
          rw [Nat.pow_succ, Int.natCast_mul]
          exact Int.mul_le_mul_of_nonneg_left hp (Int.natCast_nonneg _))
        rw [pw_zv] at g1
        omega
      · have d1 := dsub_le (V := FP.dconst0) hm hx nn0 (by rw [zv0]; omega)
        rw [zv0] at d1
        have := g0.1 d1
        omega
    · intro h
      have d0 := dsub_le (V := FP.dconst0) hm hx nn0 (by rw [zv0]; omega)
      rw [zv0] at d0
      refine ⟨g0.1 d0, ?_⟩
      rcases Int.lt_or_eq_of_le h with hl | he
      · obtain ⟨j, p1, p2⟩ := pw_log (U := zv x - zv m) (by omega)
        have hj := log_hi p1 h2
        have nz : ∀ i, FP.Core.zval FP.Core.b64 (FP.Core.negate (pw i)) = - ((2 ^ i : Nat) : Int) := fun i => by rw [zv_neg, pw_zv]
        have d1 := dsub_geD (V := FP.Core.negate (pw (j + 1))) hm hx (FP.Core.negate_fits (pw_fits (by omega))) (FP.Core.negate_ne_nan (pw_nn _)) (by rw [nz]; omega)
        have g1 := (part_mul (V := FP.Core.negate (pw j)) hc dd (FP.Core.negate_fits (pw_fits (by omega))) (FP.Core.negate_ne_nan (pw_nn _))).2 (by
          rw [nz] at d1 ⊢
          refine Int.le_trans ?_ d1
          rw [Nat.pow_succ, Int.natCast_mul, Int.neg_mul]
          exact Int.neg_le_neg (Int.mul_le_mul_of_nonneg_left hp (Int.natCast_nonneg _)))
        rw [nz] at g1
        omega
      · have d1 := dsub_ge (V := FP.dconst0) hm hx nn0 (by rw [zv0]; omega)
        rw [zv0] at d1
        have := g0.2 d1
        omega
  have dh : DF (FP.dmul c (FP.dsub m x)) := by
    refine df_hi nh ?_ ?_ <;> rcases Int.le_total (zv x) (zv m) with h | h
    · have := (key.1 h).1; have := hi_zv; omega
    · have := (key.2 h).2; omega
    · have := (key.1 h).2; omega
    · have := (key.2 h).1; omega
  refine ⟨dd, nh, dadd_nn hx dh, fun h => ?_, fun h => ?_⟩
  · obtain ⟨k1, k2⟩ := key.1 h
    exact ⟨dadd_ge hx dh hx.nn (by omega), dadd_le hx dh hm.nn (by omega)⟩
  · obtain ⟨k1, k2⟩ := key.2 h
    exact ⟨dadd_ge hx dh hm.nn (by omega), dadd_le hx dh hx.nn (by omega)⟩
end XMID
