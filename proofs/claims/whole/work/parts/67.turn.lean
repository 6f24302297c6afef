/-! Bounds by exponents; the wheel: class and reference answer alike. -/
section XTURN
def Bd (K : Nat) (a : UInt64) : Prop := a.toNat % 2 ^ 63 < K * 2 ^ 52
theorem Bd.df {K : Nat} {a : UInt64} (h : Bd K a) (hK : K ≤ 2047) : DF a := FP.Core.fin_of_lt h hK
theorem Bd.mono {K L : Nat} {a : UInt64} (h : Bd K a) (hK : K ≤ L) : Bd L a := Nat.lt_of_lt_of_le h (Nat.mul_le_mul_right _ hK)
theorem Bd.mul {K L : Nat} {a b : UInt64} (ha : Bd K a) (hb : Bd L b) (hK : K ≤ 2047) (hL : L ≤ 2047) : Bd (K + L - 1025 + 3) (FP.dmul a b) := FP.Core.dmul_mag ha hb hK hL
theorem Bd.add {K : Nat} {a b : UInt64} (ha : Bd K a) (hb : Bd K b) (hK : K ≤ 2047) : Bd (K + 2) (FP.dadd a b) := FP.Core.dadd_mag ha hb hK
theorem Bd.sub {K : Nat} {a b : UInt64} (ha : Bd K a) (hb : Bd K b) (hK : K ≤ 2047) : Bd (K + 2) (FP.dsub a b) := FP.Core.dsub_mag ha hb hK
theorem zv_abs (a : UInt64) : (zv a).natAbs = FP.Core.zmag FP.Core.b64 (FP.Core.val64 a) := FP.Core.natAbs_signed _ _
theorem Bd.of {a : UInt64} (h : NN a) (h1 : - zv HI ≤ zv a) (h2 : zv a ≤ zv HI) : Bd 1084 a := by
  have e1 := FP.Core.zmag_bits h
  have e2 := FP.Core.zmag_bits hi_df.nn
  rw [← zv_abs] at e1 e2
  have h3 : (zv a).natAbs ≤ (zv HI).natAbs := by omega
  rw [e1, e2, FP.Core.unitsOf_le_iff] at h3
  have h4 : HI.toNat % 2 ^ 63 < 1084 * 2 ^ 52 := by decide
  exact Nat.lt_of_le_of_lt h3 h4
theorem rg_Bd {a lo hi : UInt64} (h : NN a) (r : rg a lo hi) (h1 : - zv HI ≤ zv lo) (h2 : zv hi ≤ zv HI) : Bd 1084 a := by
  obtain ⟨r1, r2⟩ := r
  exact Bd.of h (by omega) (by omega)
/-- the wheel goes towards the goal, never past it -/
theorem turned_eq {w g lo hi : UInt64} (hw : Bd 1090 w) (hg : Bd 1090 g) (rw_ : rg w lo hi) (rg_ : rg g lo hi) : ∃ r : UInt64, NN r ∧ rg r lo hi ∧ f_X8_turned w g = some r ∧ f_X9_turn_j1 w g = some r := by
  have dw := hw.df (by decide)
  have dg := hg.df (by decide)
  have n1 := dsub_nn dg dw
  have k1 : NN 4587366580439587226 := by unfold NN; decide +kernel
  have bk : Bd 1090 4587366580439587226 := by unfold Bd; decide
  have dk := bk.df (by decide)
  have n2 := dsub_nn dw dk
  have n3 := dadd_nn dw dk
  have kp : 0 < zv 4587366580439587226 := by decide +kernel
  have km : zv 13810738617294363034 = - zv 4587366580439587226 := by decide +kernel
  have kn : NN 13810738617294363034 := by unfold NN; decide +kernel
  obtain ⟨a1, a2⟩ := rw_
  obtain ⟨b1, b2⟩ := rg_
  have hm := mg_zv (a := FP.dsub g w)
  unfold f_X8_turned f_X9_turn_j1
  simp only [ck_eq (nnb_of n1), ck_eq (nnb_of n2), ck_eq (nnb_of n3), mag_val n1, size_val n1, bnd, i_gt (mg_nn n1) k1, i_le dg.nn dw.nn]
  by_cases q : zv 4587366580439587226 < zv (mg (FP.dsub g w))
  · by_cases q2 : zv g ≤ zv w
    · have s0 := dsub_le (V := FP.dconst0) dg dw nn0 (by rw [zv0]; omega)
      rw [zv0] at s0
      have s1 : zv g - zv w < - zv 4587366580439587226 := by
        refine Int.lt_of_not_ge fun z => ?_
        have := dsub_ge (V := 13810738617294363034) dg dw kn (by rw [km]; exact z)
        rw [km] at this
        omega
      simp only [if_pos q, if_pos q2]
      have t1 := dsub_ge (V := g) dw dk dg.nn (by omega)
      have t2 := dsub_le (V := w) dw dk dw.nn (by omega)
      exact ⟨_, n2, ⟨by omega, by omega⟩, rfl, rfl⟩
    · have s0 := dsub_ge (V := FP.dconst0) dg dw nn0 (by rw [zv0]; omega)
      rw [zv0] at s0
      have s1 : zv 4587366580439587226 < zv g - zv w := by
        refine Int.lt_of_not_ge fun z => ?_
        have := dsub_le (V := 4587366580439587226) dg dw k1 z
        omega
      simp only [if_pos q, if_neg q2]
      have t1 := dadd_le (V := g) dw dk dg.nn (by omega)
      have t2 := dadd_ge (V := w) dw dk dw.nn (by omega)
      exact ⟨_, n3, ⟨by omega, by omega⟩, rfl, rfl⟩
  · simp only [if_neg q]; exact ⟨_, dg.nn, ⟨b1, b2⟩, rfl, rfl⟩
end XTURN
