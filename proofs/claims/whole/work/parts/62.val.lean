/-! The small functions on doubles, of class and reference, as plain values. -/
section XVAL
theorem bits_of {a b : UInt64} (ha : NN a) (hb : NN b) (h : zv a = zv b) (hz : zv b ≠ 0) : a = b :=
  FP.Core.eq_bits (FP.Core.dnot_zero hb hz) (FP.Core.dcmp_eq.mpr ⟨ha, hb, h⟩)
theorem dneg_nn {a : UInt64} (h : NN a) : NN (FP.dneg a) := NN.of (by rw [show FP.Core.dIsNaN (FP.dneg a) = FP.Core.dIsNaN a from FP.dneg_nan a]; exact h.not)
theorem zero_sub {a : UInt64} (h : NN a) (hz : zv a ≠ 0) : FP.dsub FP.dconst0 a = FP.dneg a := by
  rw [dsub_add h, show FP.dadd FP.dconst0 (FP.dneg a) = FP.dadd (FP.dneg a) FP.dconst0 from FP.Core.dadd_comm _ _]
  refine FP.Core.dadd_zero (dneg_nn h) (fun q => ?_)
  have h1 := dneg_zv a
  rw [q, show zv FP.Core.dzeroNeg = 0 by decide +kernel] at h1
  omega
/-- a double's size -/
def mg (a : UInt64) : UInt64 := if zv a < 0 then FP.dneg a else a
theorem mg_nn {a : UInt64} (h : NN a) : NN (mg a) := by
  unfold mg
  split
  · exact dneg_nn h
  · exact h
theorem mg_zv {a : UInt64} : zv (mg a) = ((zv a).natAbs : Int) := by
  unfold mg
  split
  · rw [dneg_zv]; omega
  · omega
theorem mg_df {a : UInt64} (h : DF a) : DF (mg a) := by
  unfold mg
  split
  · exact h.neg
  · exact h
theorem mag_val {a : UInt64} (h : NN a) : f_X8_magnitude a = some (mg a) := by
  unfold f_X8_magnitude mg
  rw [i_ge h nn0, zv0]
  by_cases q : zv a < 0
  · rw [if_neg (by omega), if_pos q]
  · rw [if_pos (by omega), if_neg q]
theorem size_val {a : UInt64} (h : NN a) : f_X9_size a = some (mg a) := by
  unfold f_X9_size mg
  rw [i_ge h nn0, zv0]
  by_cases q : zv a < 0
  · rw [if_neg (by omega), if_pos q, zero_sub h (by omega), ck_eq (nnb_of (dneg_nn h))]
  · rw [if_pos (by omega), if_neg q]
/-- in a range -/
def rg (a lo hi : UInt64) : Prop := zv lo ≤ zv a ∧ zv a ≤ zv hi
theorem within_val {a lo hi : UInt64} (ha : NN a) (hlo : NN lo) (hhi : NN hi) : (rg a lo hi ∧ f_X8_within a lo hi = some 1) ∨ (¬ rg a lo hi ∧ f_X8_within a lo hi = some 0) := by
  unfold f_X8_within rg
  rw [i_lt ha hlo, i_gt ha hhi]
  by_cases q : zv a < zv lo
  · rw [if_pos q]; exact .inr ⟨by omega, rfl⟩
  · rw [if_neg q]
    by_cases q2 : zv hi < zv a
    · rw [if_pos q2]; exact .inr ⟨by omega, rfl⟩
    · rw [if_neg q2]; exact .inl ⟨by omega, rfl⟩
theorem in_within (a lo hi : UInt64) : f_X9_in a lo hi = f_X8_within a lo hi := rfl
theorem plain_uz (a : UInt64) : f_X9_plain a = f_X8_unsignedZero a := rfl
def ls_ (a b : UInt64) : UInt64 := if zv b < zv a then b else a
def gr_ (a b : UInt64) : UInt64 := if zv a < zv b then b else a
theorem lesser_val {a b : UInt64} (ha : NN a) (hb : NN b) : f_X8_lesser a b = some (ls_ a b) := by
  unfold f_X8_lesser ls_
  rw [i_gt ha hb]
  split <;> rfl
theorem greater_val {a b : UInt64} (ha : NN a) (hb : NN b) : f_X8_greater a b = some (gr_ a b) := by
  unfold f_X8_greater gr_
  rw [i_lt ha hb]
  split <;> rfl
theorem ls_nn {a b : UInt64} (ha : NN a) (hb : NN b) : NN (ls_ a b) := by unfold ls_; split <;> assumption
theorem gr_nn {a b : UInt64} (ha : NN a) (hb : NN b) : NN (gr_ a b) := by unfold gr_; split <;> assumption
/-- cut to a range -/
def bt_ (v lo hi : UInt64) : UInt64 := if zv v < zv lo then lo else if zv hi < zv v then hi else v
theorem bt_nn {v lo hi : UInt64} (hv : NN v) (hl : NN lo) (hh : NN hi) : NN (bt_ v lo hi) := by
  unfold bt_
  split
  · exact hl
  · split
    · exact hh
    · exact hv
theorem between_ref {v lo hi : UInt64} (hv : NN v) (hl : NN lo) (hh : NN hi) : f_X9_between v lo hi = some (bt_ v lo hi) := by
  unfold f_X9_between bt_
  rw [i_ge hv hl, i_le hv hh]
  by_cases q : zv v < zv lo
  · rw [if_neg (by omega), if_pos q]
  · rw [if_pos (by omega), if_neg q]
    by_cases q2 : zv hi < zv v
    · rw [if_neg (by omega), if_pos q2]
    · rw [if_pos (by omega), if_neg q2]
theorem between_val {v lo hi : UInt64} (hv : NN v) (hl : NN lo) (hh : NN hi) (hlh : zv lo < zv hi) (hz : zv lo ≠ 0) : f_X8_between v lo hi = some (bt_ v lo hi) := by
  unfold f_X8_between
  rw [lesser_val hv hh, Option.bind_some, greater_val hl (ls_nn hv hh), Option.bind_some]
  unfold gr_ ls_ bt_
  by_cases q2 : zv hi < zv v
  · rw [if_pos q2, if_pos hlh, if_neg (by omega)]
  · rw [if_neg q2]
    by_cases q : zv v < zv lo
    · rw [if_neg (by omega), if_pos q]
    · rw [if_neg q]
      by_cases q3 : zv lo < zv v
      · rw [if_pos q3]
      · rw [if_neg q3, bits_of hv hl (by omega) hz]
end XVAL
