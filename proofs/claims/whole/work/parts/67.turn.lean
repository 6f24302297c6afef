/-! Bounds by exponents; the wheel: class and reference answer alike. -/
section XTURN
def Bd (K : Nat) (a : UInt64) : Prop := a.toNat % 2 ^ 63 < K * 2 ^ 52
theorem Bd.df {K : Nat} {a : UInt64} (h : Bd K a) (hK : K ≤ 2047) : DF a := FP.Core.fin_of_lt h hK
theorem Bd.mono {K L : Nat} {a : UInt64} (h : Bd K a) (hK : K ≤ L) : Bd L a := Nat.lt_of_lt_of_le h (Nat.mul_le_mul_right _ hK)
theorem Bd.mul {K L : Nat} {a b : UInt64} (ha : Bd K a) (hb : Bd L b) (hK : K ≤ 2047) (hL : L ≤ 2047) : Bd (K + L - 1025 + 3) (FP.dmul a b) := FP.Core.dmul_mag ha hb hK hL
theorem Bd.add {K : Nat} {a b : UInt64} (ha : Bd K a) (hb : Bd K b) (hK : K ≤ 2047) : Bd (K + 2) (FP.dadd a b) := FP.Core.dadd_mag ha hb hK
theorem Bd.sub {K : Nat} {a b : UInt64} (ha : Bd K a) (hb : Bd K b) (hK : K ≤ 2047) : Bd (K + 2) (FP.dsub a b) := FP.Core.dsub_mag ha hb hK
theorem zv_abs (a : UInt64) : (zv a).natAbs = FP.Core.zmag FP.Core.b64 (FP.Core.val64 a) := FP.Core.natAbs_signed _ _
theorem Bd.of {a : UInt64} (h : NN a) (h1 : - zv HI ≤ zv a) (h2 : zv a ≤ zv HI) : Bd 1084 a := by
  have e1 := FP.Core.zmag_bits h
  have e2 := FP.Core.zmag_bits hi_df.nn
  rw [← zv_abs] at e1 e2
  have h3 : (zv a).natAbs ≤ (zv HI).natAbs := by omega
  rw [e1, e2, FP.Core.unitsOf_le_iff] at h3
  have h4 : HI.toNat % 2 ^ 63 < 1084 * 2 ^ 52 := by decide
  exact Nat.lt_of_le_of_lt h3 h4
theorem rg_Bd {a lo hi : UInt64} (h : NN a) (r : rg a lo hi) (h1 : - zv HI ≤ zv lo) (h2 : zv hi ≤ zv HI) : Bd 1084 a := by
  obtain ⟨r1, r2⟩ := r
  exact Bd.of h (by omega) (by omega)
/-- the wheel goes towards the goal, never past it -/
theorem turned_eq {w g lo hi : UInt64} (hw : Bd 1090 w) (hg : Bd 1090 g) (rw_ : rg w lo hi) (rg_ : rg g lo hi) : ∃ r : UInt64, NN r ∧ rg r lo hi ∧ f_X8_turned w g = some r ∧ f_X9_turn_j1 w g = some r := by
  have dw := hw.df (by decide)
  have dg := hg.df (by decide)
  have n1 := dsub_nn dg dw
  have k1 : NN 4587366580439587226 := by unfold NN; decide +kernel
  have bk : Bd 1090 4587366580439587226 := by unfold Bd; decide
  have dk := bk.df (by decide)
  have n2 := dsub_nn dw dk
  have n3 := dadd_nn dw dk
  have kp : 0 < zv 4587366580439587226 := by decide +kernel
  have km : zv 13810738617294363034 = - zv 4587366580439587226 := by decide +kernel
  have kn : NN 13810738617294363034 := by unfold NN; decide +kernel
  obtain ⟨a1, a2⟩ := rw_
  obtain ⟨b1, b2⟩ := rg_
  have hm := mg_zv (a := FP.dsub g w)
  unfold f_X8_turned f_X9_turn_j1
  simp only [ck_eq (nnb_of n1), ck_eq (nnb_of n2), ck_eq (nnb_of n3), mag_val n1, size_val n1, bnd, i_gt (mg_nn n1) k1, i_le dg.nn dw.nn]
  by_cases q : zv 4587366580439587226 < zv (mg (FP.dsub g w))
  · by_cases q2 : zv g ≤ zv w
    · have s0 := dsub_le (V := FP.dconst0) dg dw nn0 (by rw [zv0]; omega)
      rw [zv0] at s0
      have s1 : zv g - zv w < - zv 4587366580439587226 := by
        refine Int.lt_of_not_ge fun z => ?_
        have := dsub_ge (V := 13810738617294363034) dg dw kn (by rw [km]; exact z)
        rw [km] at this
        omega
      simp only [if_pos q, if_pos q2]
      have t1 := dsub_ge (V := g) dw dk dg.nn (by omega)
      have t2 := dsub_le (V := w) dw dk dw.nn (by omega)
      exact ⟨_, n2, ⟨by omega, by omega⟩, rfl, rfl⟩
    · have s0 := dsub_ge (V := FP.dconst0) dg dw nn0 (by rw [zv0]; omega)
      rw [zv0] at s0
      have s1 : zv 4587366580439587226 < zv g - zv w := by
        refine Int.lt_of_not_ge fun z => ?_
        have := dsub_le (V := 4587366580439587226) dg dw k1 z
        omega
      simp only [if_pos q, if_neg q2]
      have t1 := dadd_le (V := g) dw dk dg.nn (by omega)
      have t2 := dadd_ge (V := w) dw dk dw.nn (by omega)
      exact ⟨_, n3, ⟨by omega, by omega⟩, rfl, rfl⟩
  · simp only [if_neg q]; exact ⟨_, dg.nn, ⟨b1, b2⟩, rfl, rfl⟩
theorem bt_rg {v lo hi : UInt64} (h : zv lo ≤ zv hi) : rg (bt_ v lo hi) lo hi := by
  unfold bt_ rg
  split
  · exact ⟨Int.le_refl _, h⟩
  · split
    · exact ⟨h, Int.le_refl _⟩
    · exact ⟨by omega, by omega⟩
theorem turn_eq {o s st w : UInt64} (no : NN o) (ns : NN s) (nst : NN st) (nw_ : NN w) (ho : rg o 13840687554816376832 4617315517961601024) (hs : rg s 13830554455654793216 FP.dconst1) (hw : rg w 13822447976325526323 4599075939470750515) :
    ∃ (u : Int32) (r : UInt64), f_X0_steers 4587366580439587226 st = some u ∧ NN r ∧ rg r 13822447976325526323 4599075939470750515 ∧ f_X9_turn o s st w = some r ∧ (u = 0 → ∃ g, f_X2_straightening o s = some g ∧ f_X8_turned w g = some r) ∧ (¬ u = 0 → f_X8_turned w FP.dconst0 = some r) := by
  have kl : NN 13822447976325526323 := by unfold NN; decide +kernel
  have kh : NN 4599075939470750515 := by unfold NN; decide +kernel
  have k5 : NN 4587366580439587226 := by unfold NN; decide +kernel
  have bo := rg_Bd no ho (by decide +kernel) (by decide +kernel)
  have bs := rg_Bd ns hs (by decide +kernel) (by decide +kernel)
  have bw := (rg_Bd nw_ hw (by decide +kernel) (by decide +kernel)).mono (show 1084 ≤ 1090 by decide)
  have c1 : Bd 1023 4591870180066957722 := by unfold Bd; decide
  have c2 : Bd 1023 4602678819172646912 := by unfold Bd; decide
  have m1 := c1.mul bo (by decide) (by decide)
  have m2 := c2.mul bs (by decide) (by decide)
  have m3 := m1.add m2 (by decide)
  have z3 : Bd (1023 + 1084 - 1025 + 3 + 2) FP.dconst0 := by unfold Bd; decide
  have m4 := z3.sub m3 (by decide)
  have g1 := bt_nn (m4.df (by decide)).nn kl kh
  have g2 : rg (bt_ (FP.dsub FP.dconst0 (FP.dadd (FP.dmul 4591870180066957722 o) (FP.dmul 4602678819172646912 s))) 13822447976325526323 4599075939470750515) 13822447976325526323 4599075939470750515 := bt_rg (by decide +kernel)
  have g3 := (rg_Bd g1 g2 (by decide +kernel) (by decide +kernel)).mono (show 1084 ≤ 1090 by decide)
  have r0 : rg FP.dconst0 13822447976325526323 4599075939470750515 := by unfold rg; decide +kernel
  have b0 : Bd 1090 FP.dconst0 := by unfold Bd; decide
  obtain ⟨ra, na, qa, ea, fa⟩ := turned_eq bw g3 hw g2
  obtain ⟨rb, nb, qb, eb, fb⟩ := turned_eq bw b0 hw r0
  unfold f_X9_turn f_X0_steers f_X2_straightening
  simp only [ck_eq (nnb_of (m1.df (by decide)).nn), ck_eq (nnb_of (m2.df (by decide)).nn), ck_eq (nnb_of (m3.df (by decide)).nn), ck_eq (nnb_of (m4.df (by decide)).nn), between_ref (m4.df (by decide)).nn kl kh, between_val (m4.df (by decide)).nn kl kh (by decide +kernel) (by decide +kernel), bnd, mag_val nst, size_val nst, i_le (mg_nn nst) k5]
  by_cases q : zv (mg st) ≤ zv 4587366580439587226
  · simp only [if_pos q]
    exact ⟨0, ra, rfl, na, qa, fa, fun _ => ⟨_, rfl, ea⟩, fun h => absurd rfl h⟩
  · simp only [if_neg q]
    exact ⟨1, rb, rfl, nb, qb, fb, fun h => absurd h n10, fun _ => eb⟩
end XTURN
