/-! Meetings forgotten; tracks that age. -/
section XAGE
theorem forget_l1 : ∀ (n k : Nat) (a : Nat → Int32), k ≤ 8 → 9 ≤ n + k → ∃ a' : Nat → Int32, f_X7_forgetMeetings_l1 n (nI k) a = some a' ∧ ∀ j, a' j = if k ≤ j ∧ j < 8 then 0 else a j := by
  intro n
  induction n with
  | zero => intro k a h1 h2; omega
  | succ n ih =>
    intro k a h1 h2
    unfold f_X7_forgetMeetings_l1
    by_cases hk : k = 8
    · subst hk
      rw [if_pos e8]
      exact ⟨a, rfl, fun j => by rw [if_neg (by omega)]⟩
    · have hk8 : k < 8 := by omega
      rw [if_neg (g8 hk8), nI_clamp (show k < 2 ^ 31 by omega), ← nI_succ, ck_eq (inI hk8 (by decide))]
      obtain ⟨a', e1, e3⟩ := ih (k + 1) (upd a k 0) (by omega) (by omega)
      refine ⟨a', e1, fun j => ?_⟩
      rw [e3, hupi]
      by_cases c : k ≤ j ∧ j < 8
      · rw [if_pos c]
        by_cases hj : j = k
        · rw [if_neg (by omega), if_pos hj]
        · rw [if_pos (by omega)]
      · rw [if_neg c, if_neg (by omega), if_neg (by omega)]
theorem forget_val (a : Nat → Int32) : ∃ a' : Nat → Int32, f_X7_forgetMeetings a = some (0, a') ∧ ∀ j, j < 8 → a' j = 0 := by
  obtain ⟨a', e1, e2⟩ := forget_l1 16 0 a (by decide) (by decide)
  refine ⟨a', ?_, fun j hj => by rw [e2, if_pos ⟨Nat.zero_le _, hj⟩]⟩
  unfold f_X7_forgetMeetings
  rw [show (0 : Int32) = nI 0 from rfl, e1]
  rfl
end XAGE
