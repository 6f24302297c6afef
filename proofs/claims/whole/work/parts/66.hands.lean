/-! Hands, stage, mode, wheel: class and reference answer alike. -/
section XHANDS
/-- 0 or 1 -/
def z01 (x : Int32) : Prop := x = 0 ∨ x = 1
theorem n10 : ¬ (1 : Int32) = 0 := by decide
theorem zb0 : zb 0 = true := by decide
theorem zb1 : zb 1 = true := by decide
theorem look_eq {now sp ca aa : UInt64} {on asked stopping : Int32} (hsp : NN sp) (dn : DF now) (dc : DF ca) (da : DF aa) (hon : z01 on) (ha : z01 asked) (hs : z01 stopping) (hno : asked = 0 ∨ stopping = 0) :
    ∃ a s : Int32, f_X1_pass now sp on asked stopping ca aa = some (a, s) ∧ f_X9_lookAtHands now sp on ca asked aa stopping = some (a, s) ∧ z01 a ∧ z01 s ∧ (a = 0 ∨ s = 0) := by
  have n1 := dsub_nn dn dc
  have n2 := dsub_nn dn da
  have c1 : ∀ {α : Type} (z : Option α), ck (nnb (FP.dsub now ca) = true) z = z := fun z => ck_eq (nnb_of n1)
  have c2 : ∀ {α : Type} (z : Option α), ck (nnb (FP.dsub now aa) = true) z = z := fun z => ck_eq (nnb_of n2)
  have k40 : NN 4630826316843712512 := by unfold NN; decide +kernel
  have k10 : NN 4621819117588971520 := by unfold NN; decide +kernel
  have z0 : ∀ {α : Type} (z : Option α), ck (zb 0 = true) z = z := fun z => ck_eq zb0
  have z1 : ∀ {α : Type} (z : Option α), ck (zb 1 = true) z = z := fun z => ck_eq zb1
  unfold f_X1_pass f_X9_lookAtHands f_X1_off f_X9_off
  simp only [c1, c2]
  rcases hon with rfl | rfl
  · simp only [if_true, bnd, i_ge n1 k40, i_lt n2 k10]
    by_cases b : zv 4630826316843712512 ≤ zv (FP.dsub now ca)
    · simp only [if_pos b]
      rcases ha with rfl | rfl <;> rcases hs with rfl | rfl <;> refine ⟨_, _, rfl, ?_, .inl rfl, .inr rfl, .inl rfl⟩ <;> rfl
    · simp only [if_neg b]
      rcases ha with rfl | rfl
      · rcases hs with rfl | rfl
        · exact ⟨_, _, rfl, rfl, .inl rfl, .inl rfl, .inl rfl⟩
        · exact ⟨_, _, rfl, rfl, .inl rfl, .inr rfl, .inl rfl⟩
      · have hs0 : stopping = 0 := by rcases hno with h | h; exact absurd h n10; exact h
        subst hs0
        simp only [if_neg n10]
        by_cases q : zv (FP.dsub now aa) < zv 4621819117588971520
        · simp only [if_pos q]
          exact ⟨_, _, rfl, rfl, .inr rfl, .inl rfl, .inr rfl⟩
        · simp only [if_neg q]
          exact ⟨_, _, rfl, rfl, .inl rfl, .inr rfl, .inl rfl⟩
  · simp only [if_neg n10]
    rcases hs with rfl | rfl
    · rcases ha with rfl | rfl <;> exact ⟨_, _, rfl, rfl, .inl rfl, .inl rfl, .inl rfl⟩
    · unfold f_X9_lookAtHands_j1 f_X9_lookAtHands_j2
      simp only [if_neg n10, z1, i_eq hsp nn0, zv0]
      by_cases q : zv sp = 0
      · simp only [if_pos q]
        rcases ha with rfl | rfl <;> exact ⟨_, _, rfl, rfl, .inl rfl, .inl rfl, .inl rfl⟩
      · simp only [if_neg q]
        rcases ha with rfl | rfl <;> exact ⟨_, _, rfl, rfl, .inl rfl, .inr rfl, .inl rfl⟩
end XHANDS
