/-! Doubles as whole numbers (library: FloatLaws): comparisons, ranges, sums. -/
section XFP
/-- the value in units of the least double -/
def zv (a : UInt64) : Int := FP.Core.zval FP.Core.b64 (FP.Core.val64 a)
/-- no NaN -/
def NN (a : UInt64) : Prop := FP.Core.val64 a ≠ .nan
/-- finite -/
def DF (a : UInt64) : Prop := FP.Core.DFin a
theorem DF.nn {a : UInt64} (h : DF a) : NN a := FP.Core.DFin.ne_nan h
theorem NN.not {a : UInt64} (h : NN a) : FP.Core.dIsNaN a = false := (FP.Core.notNaN_iff a).mpr h
theorem NN.of {a : UInt64} (h : FP.Core.dIsNaN a = false) : NN a := (FP.Core.notNaN_iff a).mp h
theorem nnb_of {r : UInt64} (h : NN r) : nnb r = true := by
  unfold nnb
  have h1 := (FP.Core.ne_nan r).mp h
  refine decide_eq_true ?_
  rw [UInt64.le_iff_toNat_le, UInt64.toNat_and]
  have h2 : (0x7fffffffffffffff : UInt64).toNat = 2 ^ 63 - 1 := rfl
  rw [h2, Nat.and_two_pow_sub_one_eq_mod]
  exact h1
theorem cmp_tri {a b : UInt64} (ha : NN a) (hb : NN b) : (zv a < zv b ∧ FP.dcmp a b = some .lt) ∨ (zv a = zv b ∧ FP.dcmp a b = some .eq) ∨ (zv b < zv a ∧ FP.dcmp a b = some .gt) := by
  rcases Int.lt_trichotomy (zv a) (zv b) with h | h | h
  · exact .inl ⟨h, FP.Core.dcmp_lt.mpr ⟨ha, hb, h⟩⟩
  · exact .inr (.inl ⟨h, FP.Core.dcmp_eq.mpr ⟨ha, hb, h⟩⟩)
  · exact .inr (.inr ⟨h, FP.Core.dcmp_gt.mpr ⟨ha, hb, h⟩⟩)
section
variable {a b : UInt64} {o : CmpOp}
theorem cv_lt (ha : NN a) (hb : NN b) : (Op.cmpValue (FP.dcmp a b) o < 0) = (zv a < zv b) := by
  rcases cmp_tri ha hb with ⟨h, e⟩ | ⟨h, e⟩ | ⟨h, e⟩ <;> rw [e] <;> cases o <;> refine propext ⟨fun q => ?_, fun q => ?_⟩ <;> first | (exfalso; revert q; decide) | (exfalso; omega) | exact h | (exact Int.le_of_lt h) | (exact Int.le_of_eq h) | (exact Int.le_of_eq h.symm) | decide
theorem cv_gt (ha : NN a) (hb : NN b) : (0 < Op.cmpValue (FP.dcmp a b) o) = (zv b < zv a) := by
  rcases cmp_tri ha hb with ⟨h, e⟩ | ⟨h, e⟩ | ⟨h, e⟩ <;> rw [e] <;> cases o <;> refine propext ⟨fun q => ?_, fun q => ?_⟩ <;> first | (exfalso; revert q; decide) | (exfalso; omega) | exact h | (exact Int.le_of_lt h) | (exact Int.le_of_eq h) | (exact Int.le_of_eq h.symm) | decide
theorem cv_le (ha : NN a) (hb : NN b) : (Op.cmpValue (FP.dcmp a b) o ≤ 0) = (zv a ≤ zv b) := by
  rcases cmp_tri ha hb with ⟨h, e⟩ | ⟨h, e⟩ | ⟨h, e⟩ <;> rw [e] <;> cases o <;> refine propext ⟨fun q => ?_, fun q => ?_⟩ <;> first | (exfalso; revert q; decide) | (exfalso; omega) | exact h | (exact Int.le_of_lt h) | (exact Int.le_of_eq h) | (exact Int.le_of_eq h.symm) | decide
theorem cv_ge (ha : NN a) (hb : NN b) : (0 ≤ Op.cmpValue (FP.dcmp a b) o) = (zv b ≤ zv a) := by
  rcases cmp_tri ha hb with ⟨h, e⟩ | ⟨h, e⟩ | ⟨h, e⟩ <;> rw [e] <;> cases o <;> refine propext ⟨fun q => ?_, fun q => ?_⟩ <;> first | (exfalso; revert q; decide) | (exfalso; omega) | exact h | (exact Int.le_of_lt h) | (exact Int.le_of_eq h) | (exact Int.le_of_eq h.symm) | decide
theorem cv_eq (ha : NN a) (hb : NN b) : (Op.cmpValue (FP.dcmp a b) o = 0) = (zv a = zv b) := by
  rcases cmp_tri ha hb with ⟨h, e⟩ | ⟨h, e⟩ | ⟨h, e⟩ <;> rw [e] <;> cases o <;> refine propext ⟨fun q => ?_, fun q => ?_⟩ <;> first | (exfalso; revert q; decide) | (exfalso; omega) | exact h | (exact Int.le_of_lt h) | (exact Int.le_of_eq h) | (exact Int.le_of_eq h.symm) | decide
theorem ite_p {α : Type} {c d : Prop} [Decidable c] [Decidable d] (h : c = d) (x y : α) : (if c then x else y) = if d then x else y := by
  by_cases q : d
  · rw [if_pos q, if_pos (h ▸ q)]
  · rw [if_neg q, if_neg (fun w => q (h ▸ w))]
theorem i_lt {α : Type} {x y : α} (ha : NN a) (hb : NN b) : (if Op.cmpValue (FP.dcmp a b) o < 0 then x else y) = if zv a < zv b then x else y := ite_p (cv_lt ha hb) x y
theorem i_gt {α : Type} {x y : α} (ha : NN a) (hb : NN b) : (if 0 < Op.cmpValue (FP.dcmp a b) o then x else y) = if zv b < zv a then x else y := ite_p (cv_gt ha hb) x y
theorem i_le {α : Type} {x y : α} (ha : NN a) (hb : NN b) : (if Op.cmpValue (FP.dcmp a b) o ≤ 0 then x else y) = if zv a ≤ zv b then x else y := ite_p (cv_le ha hb) x y
theorem i_ge {α : Type} {x y : α} (ha : NN a) (hb : NN b) : (if 0 ≤ Op.cmpValue (FP.dcmp a b) o then x else y) = if zv b ≤ zv a then x else y := ite_p (cv_ge ha hb) x y
theorem i_eq {α : Type} {x y : α} (ha : NN a) (hb : NN b) : (if Op.cmpValue (FP.dcmp a b) o = 0 then x else y) = if zv a = zv b then x else y := ite_p (cv_eq ha hb) x y
end
/-- a finite sum: its bounds by doubles -/
theorem dadd_nn {a b : UInt64} (ha : DF a) (hb : DF b) : NN (FP.dadd a b) := NN.of (FP.Core.dadd_out ha.nn.not hb)
theorem dsub_nn {a b : UInt64} (ha : DF a) (hb : DF b) : NN (FP.dsub a b) := NN.of (FP.Core.dsub_out ha.nn.not hb)
theorem dmul_nn {a b : UInt64} (ha : DF a) (hb : DF b) : NN (FP.dmul a b) := NN.of (FP.Core.dmul_out ha hb)
theorem zv_neg (d : FP.Core.Datum) : FP.Core.zval FP.Core.b64 (FP.Core.negate d) = - FP.Core.zval FP.Core.b64 d := by
  cases d with
  | nan => rfl
  | inf s => cases s <;> simp [FP.Core.negate, FP.Core.zval, FP.Core.zmag, FP.Core.sgn, FP.Core.signed]
  | fin s c q => cases s <;> simp [FP.Core.negate, FP.Core.zval, FP.Core.zmag, FP.Core.sgn, FP.Core.signed]
theorem dneg_zv (a : UInt64) : zv (FP.dneg a) = - zv a := by
  unfold zv
  rw [show FP.Core.val64 (FP.dneg a) = FP.Core.negate (FP.Core.val64 a) from FP.val64_dneg a, zv_neg]
theorem DF.neg {a : UInt64} (h : DF a) : DF (FP.dneg a) := by
  obtain ⟨s, c, q, h⟩ := h
  exact ⟨!s, c, q, by rw [show FP.Core.val64 (FP.dneg a) = FP.Core.negate (FP.Core.val64 a) from FP.val64_dneg a, h]; rfl⟩
theorem dadd_le {a b V : UInt64} (ha : DF a) (hb : DF b) (hV : NN V) (h : zv a + zv b ≤ zv V) : zv (FP.dadd a b) ≤ zv V := by
  have := FP.Core.sum_le FP.Core.good_b64 ha hb (FP.Core.val64_fits a) (FP.Core.val64_fits b) (FP.Core.val64_fits V) hV h
  rwa [← FP.Core.val64_dadd] at this
theorem dadd_ge {a b V : UInt64} (ha : DF a) (hb : DF b) (hV : NN V) (h : zv V ≤ zv a + zv b) : zv V ≤ zv (FP.dadd a b) := by
  have := FP.Core.sum_ge FP.Core.good_b64 ha hb (FP.Core.val64_fits a) (FP.Core.val64_fits b) (FP.Core.val64_fits V) hV h
  rwa [← FP.Core.val64_dadd] at this
theorem dsub_add {a b : UInt64} (hb : NN b) : FP.dsub a b = FP.dadd a (FP.dneg b) := by
  rw [FP.dneg_core hb.not]
  exact FP.Core.dsub_eq a b
theorem dsub_le {a b V : UInt64} (ha : DF a) (hb : DF b) (hV : NN V) (h : zv a - zv b ≤ zv V) : zv (FP.dsub a b) ≤ zv V := by
  rw [dsub_add hb.nn]
  exact dadd_le ha hb.neg hV (by rw [dneg_zv]; omega)
theorem dsub_ge {a b V : UInt64} (ha : DF a) (hb : DF b) (hV : NN V) (h : zv V ≤ zv a - zv b) : zv V ≤ zv (FP.dsub a b) := by
  rw [dsub_add hb.nn]
  exact dadd_ge ha hb.neg hV (by rw [dneg_zv]; omega)
/-- between finite numbers: finite -/
theorem df_of {a lo hi : UInt64} (h : NN a) (hlo : DF lo) (hhi : DF hi) (h1 : zv lo ≤ zv a) (h2 : zv a ≤ zv hi) : DF a := by
  unfold DF at *
  cases hv : FP.Core.val64 a with
  | nan => exact absurd hv h
  | fin s c q => exact ⟨s, c, q, hv⟩
  | inf s =>
    exfalso
    have b1 := FP.Core.fin_lt_inf hlo
    have b2 := FP.Core.fin_lt_inf hhi
    have c1 := (FP.Core.dcmp_gt.mp b1.2.1).2.2
    have c2 := (FP.Core.dcmp_lt.mp b2.1).2.2
    have e1 : zv 9218868437227405312 = FP.Core.zval FP.Core.b64 (.inf false) := by decide +kernel
    have e2 : zv 18442240474082181120 = FP.Core.zval FP.Core.b64 (.inf true) := by decide +kernel
    unfold zv at *
    rw [hv] at h1 h2
    cases s <;> omega
theorem zv0 : zv FP.dconst0 = 0 := by decide +kernel
theorem zv00 : zv 0 = 0 := by decide +kernel
theorem nn0 : NN FP.dconst0 := by unfold NN; decide +kernel
theorem zv_least : zv 1 = 1 := by decide +kernel
/-- a difference's sign is the order's: numbers underflow by steps -/
theorem dsub_pos {a b : UInt64} (ha : DF a) (hb : DF b) : 0 < zv (FP.dsub a b) ↔ zv b < zv a := by
  constructor
  · intro h
    refine Int.lt_of_not_ge fun q => ?_
    have := dsub_le (V := FP.dconst0) ha hb nn0 (by rw [zv0]; omega)
    rw [zv0] at this; omega
  · intro h
    have := dsub_ge (V := 1) ha hb (by unfold NN; decide +kernel) (by rw [zv_least]; omega)
    rw [zv_least] at this; omega
theorem dsub_neg {a b : UInt64} (ha : DF a) (hb : DF b) : zv (FP.dsub a b) < 0 ↔ zv a < zv b := by
  constructor
  · intro h
    refine Int.lt_of_not_ge fun q => ?_
    have := dsub_ge (V := FP.dconst0) ha hb nn0 (by rw [zv0]; omega)
    rw [zv0] at this; omega
  · intro h
    have := dsub_le (V := 9223372036854775809) ha hb (by unfold NN; decide +kernel) (by rw [show zv 9223372036854775809 = -1 by decide +kernel]; omega)
    rw [show zv 9223372036854775809 = -1 by decide +kernel] at this; omega
end XFP
