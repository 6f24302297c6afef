/-! Age and coasting: one track, class and reference alike. -/
section XAGES
theorem n12 : ¬ (1 : Int32) = 0 := by decide
theorem age_one {th met cc sc ms mc tf ts : Int32} {x mx : UInt64} (hth : z01 th) (h : ¬ th = 0 → mc = cc ∧ ms = sc ∧ mx = x ∧ (¬ met = 0 → cc = 0)) (hm : met = 0 ↔ tf = 0 ∧ ts = 0) :
    agT th (agC th met cc) x = coT (coW (coU th tf ts) th mc) mx ∧ z01 (agT th (agC th met cc) x) ∧
      (¬ agT th (agC th met cc) x = 0 → ¬ th = 0 ∧ agC th met cc = coC (coU th tf ts) mc ∧ agS th met sc = coS (coU th tf ts) ms ∧ 0 ≤ zv x ∧ zv x ≤ zv 4643000109586448384 ∧ ¬ 4 ≤ agC th met cc) := by
  rcases hth with rfl | rfl
  · have e1 : coU 0 tf ts = false := rfl
    have e2 : agT 0 (agC 0 met cc) x = 0 := by
      unfold agT
      split
      · rfl
      · split
        · rfl
        · split <;> rfl
    rw [e1, e2]
    exact ⟨rfl, .inl rfl, fun q => absurd rfl q⟩
  · obtain ⟨rfl, rfl, rfl, h4⟩ := h n12
    by_cases m0 : met = 0
    · obtain ⟨rfl, rfl⟩ := hm.mp m0
      have e1 : coU 1 0 0 = true := rfl
      have e2 : agC 1 met mc = mc + 1 := by unfold agC; rw [if_neg n12, if_pos m0]
      have e3 : agS 1 met ms = coS true ms := by unfold agS coS; rw [if_neg n12, if_pos m0, if_pos rfl]
      rw [e1, e2, e3]
      unfold agT coT coW coC
      rw [if_pos rfl]
      by_cases c4 : 4 ≤ mc + 1
      · simp only [if_pos c4, if_true]
        exact ⟨by first | rfl | trivial, .inl rfl, fun q => absurd (by first | rfl | trivial) q⟩
      · simp only [if_neg c4, if_neg n12]
        by_cases x0 : zv mx < 0
        · simp only [if_pos x0]
          exact ⟨by first | rfl | trivial, .inl rfl, fun q => absurd (by first | rfl | trivial) q⟩
        · simp only [if_neg x0]
          by_cases x2 : zv mx ≤ zv 4643000109586448384
          · simp only [if_pos x2, if_neg (Int.not_lt.mpr x2)]
            exact ⟨by first | rfl | trivial, .inr rfl, fun q => ⟨n12, by first | rfl | trivial, by first | rfl | trivial, by omega, x2, by first | exact c4 | exact fun w => w⟩⟩
          · simp only [if_neg x2, if_pos (Int.not_le.mp x2)]
            exact ⟨by first | rfl | trivial, .inl rfl, fun q => absurd (by first | rfl | trivial) q⟩
    · have hc := h4 m0
      have e1 : coU 1 tf ts = false := by
        unfold coU
        by_cases f0 : tf = 0
        · have s0 : ¬ ts = 0 := fun w => m0 (hm.mpr ⟨f0, w⟩)
          rw [decide_eq_false s0]; simp
        · rw [decide_eq_false f0]; simp
      have e2 : agC 1 met mc = 0 := by unfold agC; rw [if_neg n12, if_neg m0, hc]
      have e3 : agS 1 met ms = coS false ms := by unfold agS coS; rw [if_neg n12, if_neg m0]; rfl
      have c4 : ¬ (4 : Int32) ≤ 0 := by decide
      rw [e1, e2, e3]
      unfold agT coT coW coC
      simp only [if_neg c4, if_neg n12, Bool.false_eq_true, if_false]
      by_cases x0 : zv mx < 0
      · simp only [if_pos x0]
        exact ⟨by first | rfl | trivial, .inl rfl, fun q => absurd (by first | rfl | trivial) q⟩
      · simp only [if_neg x0]
        by_cases x2 : zv mx ≤ zv 4643000109586448384
        · simp only [if_pos x2, if_neg (Int.not_lt.mpr x2)]
          exact ⟨by first | rfl | trivial, .inr rfl, fun q => ⟨n12, by first | rfl | trivial, by first | rfl | trivial, by omega, x2, by first | exact c4 | exact fun w => w⟩⟩
        · simp only [if_neg x2, if_pos (Int.not_le.mp x2)]
          exact ⟨by first | rfl | trivial, .inl rfl, fun q => absurd (by first | rfl | trivial) q⟩
end XAGES
