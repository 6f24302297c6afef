/-! The pull: class and reference answer alike. -/
section XPULL
theorem pull_end {br pl b : UInt64} {st : Int32} (nb : NN b) (nbr : NN br) (npl : NN pl) (hbr : rg br FP.dconst1 4621256167635550208) (hpl : rg pl FP.dconst0 4613937818241073152) :
    ∃ r : UInt64, NN r ∧ f_X8_limitedPull_j3 br pl st b = some r ∧ f_X9_findForce_j5 br pl st b = some r := by
  have k1 : (0 : Int) < zv FP.dconst1 := by decide +kernel
  have hb := hbr.1
  have hp := hpl.1
  rw [zv0] at hp
  have e0 : FP.dsub FP.dconst0 br = FP.dneg br := zero_sub nbr (by omega)
  have nl := dneg_nn nbr
  have zl := dneg_zv br
  have k4 : NN 13839561654909534208 := by unfold NN; decide +kernel
  have k9 : NN 13844628204490326016 := by unfold NN; decide +kernel
  have kd : ∀ {α : Type} (z : Option α), ck (nnb (FP.dneg br) = true) z = z := fun z => ck_eq (nnb_of nl)
  have B : ∀ v, NN v → f_X8_between v (FP.dneg br) pl = some (bt_ v (FP.dneg br) pl) ∧ f_X9_between v (FP.dneg br) pl = some (bt_ v (FP.dneg br) pl) ∧ NN (bt_ v (FP.dneg br) pl) := fun v hv => ⟨between_val hv nl npl (by omega) (by omega), between_ref hv nl npl, bt_nn hv nl npl⟩
  obtain ⟨b1, b2, b3⟩ := B b nb
  obtain ⟨c1, c2, c3⟩ := B 13839561654909534208 k4
  obtain ⟨d1, d2, d3⟩ := B 13844628204490326016 k9
  unfold f_X8_limitedPull_j3 f_X9_findForce_j5 f_X8_limitedPull_j4 f_X9_findForce_j6
  simp only [e0, kd, lesser_val nb k4, lesser_val nb k9, bnd, i_le nb k4, i_le nb k9]
  by_cases s2 : st = 2
  · have s3 : ¬ st = 3 := by rw [s2]; decide
    simp only [if_pos s2, if_neg s3]
    unfold ls_
    by_cases q : zv b ≤ zv 13839561654909534208
    · simp only [if_pos q, if_neg (show ¬ zv 13839561654909534208 < zv b by omega), b1, b2, bnd]; exact ⟨_, b3, rfl, rfl⟩
    · simp only [if_neg q, if_pos (show zv 13839561654909534208 < zv b by omega), c1, c2, bnd]; exact ⟨_, c3, rfl, rfl⟩
  · by_cases s3 : st = 3
    · simp only [if_neg s2, if_pos s3]
      unfold ls_
      by_cases q : zv b ≤ zv 13844628204490326016
      · simp only [if_pos q, if_neg (show ¬ zv 13844628204490326016 < zv b by omega), b1, b2, bnd]; exact ⟨_, b3, rfl, rfl⟩
      · simp only [if_neg q, if_pos (show zv 13844628204490326016 < zv b by omega), d1, d2, bnd]; exact ⟨_, d3, rfl, rfl⟩
    · simp only [if_neg s2, if_neg s3, b1, b2, bnd]; exact ⟨_, b3, rfl, rfl⟩
theorem pull_mid {br pl b sp bk : UInt64} {st stopping : Int32} (nb : NN b) (nsp : NN sp) (dbk : DF bk) (nbr : NN br) (npl : NN pl) (hbr : rg br FP.dconst1 4621256167635550208) (hpl : rg pl FP.dconst0 4613937818241073152) :
    ∃ r : UInt64, NN r ∧ f_X8_limitedPull_j1 bk br pl stopping sp st b = some r ∧ f_X9_findForce_j3 sp bk stopping br pl st b = some r := by
  have k2 : NN 13835058055282163712 := by unfold NN; decide +kernel
  have nm : NN (FP.dmul 13844628204490326016 bk) := dmul_nn ((FP.Core.fin_bits _).mpr (by decide)) dbk
  have kd : ∀ {α : Type} (z : Option α), ck (nnb (FP.dmul 13844628204490326016 bk) = true) z = z := fun z => ck_eq (nnb_of nm)
  have E : ∀ v, NN v → ∃ r : UInt64, NN r ∧ f_X8_limitedPull_j2 bk br pl st v = some r ∧ f_X9_findForce_j4 bk br pl st v = some r := by
    intro v hv
    unfold f_X8_limitedPull_j2 f_X9_findForce_j4
    simp only [kd, i_le dbk.nn nn0]
    by_cases q : zv bk ≤ zv FP.dconst0
    · simp only [if_pos q]; exact pull_end hv nbr npl hbr hpl
    · simp only [if_neg q]; exact pull_end nm nbr npl hbr hpl
  unfold f_X8_limitedPull_j1 f_X9_findForce_j3
  simp only [i_eq nsp nn0]
  by_cases q : stopping = 0
  · simp only [if_pos q]; exact E b nb
  · by_cases w : zv sp = zv FP.dconst0
    · simp only [if_neg q, if_pos w]; exact E _ nn0
    · simp only [if_neg q, if_neg w]; exact E _ k2
theorem pull_kept {br pl b sp bk pe : UInt64} {st stopping mode : Int32} (nb : NN b) (nsp : NN sp) (dpe : DF pe) (dbk : DF bk) (nbr : NN br) (npl : NN pl) (hbr : rg br FP.dconst1 4621256167635550208) (hpl : rg pl FP.dconst0 4613937818241073152) :
    ∃ u r : UInt64, f_X8_keptPull_j1 mode b = some u ∧ NN r ∧ (if Op.cmpValue (FP.dcmp pe FP.dconst0) .l ≤ 0 then f_X8_limitedPull_j1 bk br pl stopping sp st u else ck (nnb (FP.dmul 4613937818241073152 pe) = true) <| (f_X8_greater u (FP.dmul 4613937818241073152 pe)).bind fun u4 => f_X8_limitedPull_j1 bk br pl stopping sp st u4) = some r ∧ f_X9_findForce_j1 sp pe bk stopping br pl st mode b = some r := by
  have kl : NN 13838435755002691584 := by unfold NN; decide +kernel
  have kh : NN 4611686018427387904 := by unfold NN; decide +kernel
  have nm : NN (FP.dmul 4613937818241073152 pe) := dmul_nn ((FP.Core.fin_bits _).mpr (by decide)) dpe
  have kd : ∀ {α : Type} (z : Option α), ck (nnb (FP.dmul 4613937818241073152 pe) = true) z = z := fun z => ck_eq (nnb_of nm)
  have E : ∀ v, NN v → ∃ u r : UInt64, f_X8_between v 13838435755002691584 4611686018427387904 = some u ∧ NN r ∧ (if Op.cmpValue (FP.dcmp pe FP.dconst0) .l ≤ 0 then f_X8_limitedPull_j1 bk br pl stopping sp st u else ck (nnb (FP.dmul 4613937818241073152 pe) = true) <| (f_X8_greater u (FP.dmul 4613937818241073152 pe)).bind fun u4 => f_X8_limitedPull_j1 bk br pl stopping sp st u4) = some r ∧ f_X9_findForce_j2 sp pe bk stopping br pl st v = some r := by
    intro v hv
    have nu := bt_nn hv kl kh
    unfold f_X9_findForce_j2
    simp only [kd, between_val hv kl kh (by decide +kernel) (by decide +kernel), between_ref hv kl kh, bnd, i_le dpe.nn nn0, greater_val nu nm, i_le nm nu]
    by_cases q : zv pe ≤ zv FP.dconst0
    · simp only [if_pos q]
      obtain ⟨r, h1, h2, h3⟩ := pull_mid (bk := bk) (st := st) (stopping := stopping) nu nsp dbk nbr npl hbr hpl
      exact ⟨_, r, rfl, h1, h2, h3⟩
    · simp only [if_neg q]
      by_cases w : zv (FP.dmul 4613937818241073152 pe) ≤ zv (bt_ v 13838435755002691584 4611686018427387904)
      · simp only [if_pos w]
        obtain ⟨r, h1, h2, h3⟩ := pull_mid (bk := bk) (st := st) (stopping := stopping) nu nsp dbk nbr npl hbr hpl
        exact ⟨_, r, rfl, h1, by rw [greater_val nu nm, bnd, gr_, if_neg (Int.not_lt.mpr w)]; exact h2, h3⟩
      · simp only [if_neg w]
        obtain ⟨r, h1, h2, h3⟩ := pull_mid (bk := bk) (st := st) (stopping := stopping) nm nsp dbk nbr npl hbr hpl
        exact ⟨_, r, rfl, h1, by rw [greater_val nu nm, bnd, gr_, if_pos (Int.not_le.mp w)]; exact h2, h3⟩
  unfold f_X8_keptPull_j1 f_X9_findForce_j1
  by_cases q : mode = 6
  · simp only [if_pos q, lesser_val nb nn0, bnd, i_le nb nn0]
    unfold ls_
    by_cases w : zv b ≤ zv FP.dconst0
    · simp only [if_pos w, if_neg (Int.not_lt.mpr w)]
      obtain ⟨u, r, h1, h2, h3, h4⟩ := E b nb
      exact ⟨u, r, by rw [h1]; rfl, h2, h3, h4⟩
    · simp only [if_neg w, if_pos (Int.not_le.mp w)]
      obtain ⟨u, r, h1, h2, h3, h4⟩ := E _ nn0
      exact ⟨u, r, by rw [h1]; rfl, h2, h3, h4⟩
  · simp only [if_neg q]
    obtain ⟨u, r, h1, h2, h3, h4⟩ := E b nb
    exact ⟨u, r, by rw [h1]; rfl, h2, h3, h4⟩
end XPULL
