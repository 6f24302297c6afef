/-! The whole pull. -/
section XPULLS
theorem pull_eq {br pl sp bk pe wi gp : UInt64} {st stopping mode lead : Int32} {there : Nat → Int32} {x v mx mv : Nat → UInt64} (bsp : Bd 1084 sp) (bwi : Bd 1084 wi) (bgp : Bd 1084 gp) (dpe : DF pe) (dbk : DF bk) (nbr : NN br) (npl : NN pl) (hbr : rg br FP.dconst1 4621256167635550208) (hpl : rg pl FP.dconst0 4613937818241073152)
    (hl : (lead < 0 ∧ f_X7_isThere lead there = some 0) ∨ (¬ lead < 0 ∧ inb lead 8 = true ∧ f_X7_isThere lead there = some 1 ∧ mx lead.toNatClampNeg = x lead.toNatClampNeg ∧ mv lead.toNatClampNeg = v lead.toNatClampNeg ∧ Bd 1084 (x lead.toNatClampNeg) ∧ Bd 1084 (v lead.toNatClampNeg))) :
    ∃ r : UInt64, NN r ∧ f_X8_limitedPull lead sp st mode there x v pe bk wi gp br pl stopping = some r ∧ f_X9_findForce sp pe bk stopping wi gp br pl lead st mode mx mv = some r := by
  have c5 : Bd 1023 4602678819172646912 := by unfold Bd; decide
  have c3 : Bd 1146 4613937818241073152 := by unfold Bd; decide
  have c2 : Bd 1023 4596373779694328218 := by unfold Bd; decide
  have c6 : Bd 1023 4603579539098121011 := by unfold Bd; decide
  have a1 := bwi.sub bsp (by decide)
  have a2 := a1.mul c5 (by decide) (by decide)
  have na := (a2.df (by decide)).nn
  unfold f_X8_limitedPull f_X8_keptPull f_X9_findForce
  simp only [ck_eq (nnb_of (a1.df (by decide)).nn), ck_eq (nnb_of na)]
  rcases hl with ⟨h1, h2⟩ | ⟨h1, hb, h2, ex, ev, bx, bv⟩
  · rw [h2]
    obtain ⟨u, r, g1, g2, g3, g4⟩ := pull_kept (st := st) (stopping := stopping) (mode := mode) na (bsp.df (by decide)).nn dpe dbk nbr npl hbr hpl
    refine ⟨r, g2, ?_, ?_⟩
    · rw [bnd, if_pos rfl, g1, bnd]; exact g3
    · rw [if_pos h1]; exact g4
  · rw [h2]
    have b1 := bgp.mul bsp (by decide) (by decide)
    have b2 := c3.add (b1.mono (by decide)) (by decide)
    have b3 := (bx.mono (show 1084 ≤ 1148 by decide)).sub b2 (by decide)
    have b4 := b3.mul c2 (by decide) (by decide)
    have b5 := bv.sub bsp (by decide)
    have b6 := b5.mul c6 (by decide) (by decide)
    have b7 := b4.add (b6.mono (by decide)) (by decide)
    have nb := (b7.df (by decide)).nn
    simp only [ex, ev, ck_eq hb, ck_eq (nnb_of (b1.df (by decide)).nn), ck_eq (nnb_of (b2.df (by decide)).nn), ck_eq (nnb_of (b3.df (by decide)).nn), ck_eq (nnb_of (b4.df (by decide)).nn), ck_eq (nnb_of (b5.df (by decide)).nn), ck_eq (nnb_of (b6.df (by decide)).nn), ck_eq (nnb_of nb), lesser_val na nb, bnd, i_ge nb na, if_neg n10, if_neg h1, ls_]
    by_cases w : zv (FP.dmul (FP.dsub wi sp) 4602678819172646912) ≤ zv (FP.dadd (FP.dmul (FP.dsub (x lead.toNatClampNeg) (FP.dadd 4613937818241073152 (FP.dmul gp sp))) 4596373779694328218) (FP.dmul (FP.dsub (v lead.toNatClampNeg) sp) 4603579539098121011))
    · obtain ⟨u, r, g1, g2, g3, g4⟩ := pull_kept (st := st) (stopping := stopping) (mode := mode) na (bsp.df (by decide)).nn dpe dbk nbr npl hbr hpl
      refine ⟨r, g2, ?_, ?_⟩
      · rw [if_neg (Int.not_lt.mpr w), g1, bnd]; exact g3
      · rw [if_pos w]; exact g4
    · obtain ⟨u, r, g1, g2, g3, g4⟩ := pull_kept (st := st) (stopping := stopping) (mode := mode) nb (bsp.df (by decide)).nn dpe dbk nbr npl hbr hpl
      refine ⟨r, g2, ?_, ?_⟩
      · rw [if_pos (Int.not_le.mp w), g1, bnd]; exact g3
      · rw [if_neg w]; exact g4
end XPULLS
