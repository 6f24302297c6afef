/-! Hands, stage, mode, wheel: class and reference answer alike. -/
section XHANDS
/-- 0 or 1 -/
def z01 (x : Int32) : Prop := x = 0 ∨ x = 1
theorem n10 : ¬ (1 : Int32) = 0 := by decide
theorem zb0 : zb 0 = true := by decide
theorem zb1 : zb 1 = true := by decide
theorem look_eq {now sp ca aa : UInt64} {on asked stopping : Int32} (hsp : NN sp) (dn : DF now) (dc : DF ca) (da : DF aa) (hon : z01 on) (ha : z01 asked) (hs : z01 stopping) (hno : asked = 0 ∨ stopping = 0) :
    ∃ a s : Int32, f_X1_pass now sp on asked stopping ca aa = some (a, s) ∧ f_X9_lookAtHands now sp on ca asked aa stopping = some (a, s) ∧ z01 a ∧ z01 s ∧ (a = 0 ∨ s = 0) := by
  have n1 := dsub_nn dn dc
  have n2 := dsub_nn dn da
  have c1 : ∀ {α : Type} (z : Option α), ck (nnb (FP.dsub now ca) = true) z = z := fun z => ck_eq (nnb_of n1)
  have c2 : ∀ {α : Type} (z : Option α), ck (nnb (FP.dsub now aa) = true) z = z := fun z => ck_eq (nnb_of n2)
  have k40 : NN 4630826316843712512 := by unfold NN; decide +kernel
  have k10 : NN 4621819117588971520 := by unfold NN; decide +kernel
  have z0 : ∀ {α : Type} (z : Option α), ck (zb 0 = true) z = z := fun z => ck_eq zb0
  have z1 : ∀ {α : Type} (z : Option α), ck (zb 1 = true) z = z := fun z => ck_eq zb1
  unfold f_X1_pass f_X9_lookAtHands f_X1_off f_X9_off
  simp only [c1, c2]
  rcases hon with rfl | rfl
  · simp only [if_true, bnd, i_ge n1 k40, i_lt n2 k10]
    by_cases b : zv 4630826316843712512 ≤ zv (FP.dsub now ca)
    · simp only [if_pos b]
      rcases ha with rfl | rfl <;> rcases hs with rfl | rfl <;> refine ⟨_, _, rfl, ?_, .inl rfl, .inr rfl, .inl rfl⟩ <;> rfl
    · simp only [if_neg b]
      rcases ha with rfl | rfl
      · rcases hs with rfl | rfl
        · exact ⟨_, _, rfl, rfl, .inl rfl, .inl rfl, .inl rfl⟩
        · exact ⟨_, _, rfl, rfl, .inl rfl, .inr rfl, .inl rfl⟩
      · have hs0 : stopping = 0 := by rcases hno with h | h; exact absurd h n10; exact h
        subst hs0
        simp only [if_neg n10]
        by_cases q : zv (FP.dsub now aa) < zv 4621819117588971520
        · simp only [if_pos q]
          exact ⟨_, _, rfl, rfl, .inr rfl, .inl rfl, .inr rfl⟩
        · simp only [if_neg q]
          exact ⟨_, _, rfl, rfl, .inl rfl, .inr rfl, .inl rfl⟩
  · simp only [if_neg n10]
    rcases hs with rfl | rfl
    · rcases ha with rfl | rfl <;> exact ⟨_, _, rfl, rfl, .inl rfl, .inl rfl, .inl rfl⟩
    · unfold f_X9_lookAtHands_j1 f_X9_lookAtHands_j2
      simp only [if_neg n10, z1, i_eq hsp nn0, zv0]
      by_cases q : zv sp = 0
      · simp only [if_pos q]
        rcases ha with rfl | rfl <;> exact ⟨_, _, rfl, rfl, .inl rfl, .inl rfl, .inl rfl⟩
      · simp only [if_neg q]
        rcases ha with rfl | rfl <;> exact ⟨_, _, rfl, rfl, .inl rfl, .inr rfl, .inl rfl⟩
theorem stage_eq {left steer : UInt64} {stage : Int32} (hl : NN left) (hs : NN steer) : ∃ d r : Int32, f_X8_dueStage left steer = some d ∧ f_X8_nextStage stage d = some r ∧ f_X9_rise steer left stage = some r := by
  have k1 : NN 4605380978949069210 := by unfold NN; decide +kernel
  have k2 : NN 4609884578576439706 := by unfold NN; decide +kernel
  have k3 : NN 4613037098315599053 := by unfold NN; decide +kernel
  have k4 : NN 4599075939470750515 := by unfold NN; decide +kernel
  have e : ∀ b : Int32, f_X9_rise_j2 stage b = f_X8_nextStage stage b := fun b => rfl
  have e2 : ∀ b : Int32, f_X8_nextStage stage b = some (if b ≤ stage then b else stage + 1) := fun b => by unfold f_X8_nextStage; split <;> rfl
  unfold f_X8_dueStage f_X9_rise f_X9_rise_j1 f_X0_steers
  simp only [mag_val hs, size_val hs, bnd, i_ge hl nn0, i_lt hl nn0, i_ge hl k1, i_ge hl k2, i_ge hl k3, i_le (mg_nn hs) k4, zv0, e, e2]
  by_cases q : zv left < 0
  · rw [if_pos q, if_neg (by omega)]
    by_cases w : zv (mg steer) ≤ zv 4599075939470750515
    · rw [if_pos w]; exact ⟨_, _, rfl, rfl, rfl⟩
    · rw [if_neg w]; exact ⟨_, _, rfl, rfl, rfl⟩
  · rw [if_neg q, if_pos (show 0 ≤ zv left by omega)]
    by_cases w : zv (mg steer) ≤ zv 4599075939470750515
    · simp only [if_pos w, bnd, if_true]
      by_cases a1 : zv 4605380978949069210 ≤ zv left
      · by_cases a2 : zv 4609884578576439706 ≤ zv left
        · by_cases a3 : zv 4613037098315599053 ≤ zv left
          · simp only [if_pos a1, if_pos a2, if_pos a3]; exact ⟨_, _, rfl, rfl, rfl⟩
          · simp only [if_pos a1, if_pos a2, if_neg a3]; exact ⟨_, _, rfl, rfl, rfl⟩
        · simp only [if_pos a1, if_neg a2]; exact ⟨_, _, rfl, rfl, rfl⟩
      · simp only [if_neg a1]; exact ⟨_, _, rfl, rfl, rfl⟩
    · simp only [if_neg w, bnd, if_neg n10]
      by_cases a1 : zv 4605380978949069210 ≤ zv left
      · by_cases a2 : zv 4609884578576439706 ≤ zv left
        · by_cases a3 : zv 4613037098315599053 ≤ zv left
          · simp only [if_pos a1, if_pos a2, if_pos a3]; exact ⟨_, _, rfl, rfl, rfl⟩
          · simp only [if_pos a1, if_pos a2, if_neg a3]; exact ⟨_, _, rfl, rfl, rfl⟩
        · simp only [if_pos a1, if_neg a2]; exact ⟨_, _, rfl, rfl, rfl⟩
      · simp only [if_neg a1]; exact ⟨_, _, rfl, rfl, rfl⟩
theorem lt2_le1 {x : Int32} : (x < 2) = (x ≤ 1) := by
  rw [Int32.lt_iff_toInt_lt, Int32.le_iff_toInt_le]
  have e1 : (2 : Int32).toInt = 2 := rfl
  have e2 : (1 : Int32).toInt = 1 := rfl
  rw [e1, e2]
  exact propext ⟨fun h => by omega, fun h => by omega⟩
theorem mode_eq {now pe br ca : UInt64} {df st on asked stopping led lead : Int32} (dn : DF now) (dc : DF ca) (hp : NN pe) (hb : NN br) (hl : led = 0 ↔ lead < 0) :
    ∃ r : Int32, f_X8_chosenMode led now df st pe br on asked stopping ca = some r ∧ f_X9_findMode now df pe br on ca asked stopping lead st = some r := by
  have n1 := dsub_nn dn dc
  have c1 : ∀ {α : Type} (z : Option α), ck (nnb (FP.dsub now ca) = true) z = z := fun z => ck_eq (nnb_of n1)
  have k15 : NN 4624633867356078080 := by unfold NN; decide +kernel
  have kz : ¬ zv 4624633867356078080 ≤ 0 := by decide +kernel
  have e3 : ∀ {α : Type} (x y : α), (if st < 2 then x else y) = if st ≤ 1 then x else y := fun x y => ite_p lt2_le1 x y
  have e4 : ∀ {α : Type} (x y : α), (if led = 0 then x else y) = if lead < 0 then x else y := fun x y => ite_p (propext hl) x y
  unfold f_X8_chosenMode f_X9_findMode f_X1_off f_X9_off
  simp only [c1, e3, e4]
  by_cases q1 : df < 3
  · by_cases q2 : stopping = 0
    · by_cases q3 : on = 0
      · simp only [if_pos q1, if_pos q2, if_pos q3, bnd]
        repeat' split
        all_goals exact ⟨_, rfl, rfl⟩
      · simp only [if_pos q1, if_pos q2, if_neg q3, bnd, i_ge nn0 k15, zv0, if_neg kz]
        repeat' split
        all_goals exact ⟨_, rfl, rfl⟩
    · simp only [if_pos q1, if_neg q2]; exact ⟨_, rfl, rfl⟩
  · simp only [if_neg q1]; exact ⟨_, rfl, rfl⟩
end XHANDS
