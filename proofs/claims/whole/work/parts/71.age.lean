/-! Meetings forgotten; tracks that age. -/
section XAGE
theorem forget_l1 : ∀ (n k : Nat) (a : Nat → Int32), k ≤ 8 → 9 ≤ n + k → ∃ a' : Nat → Int32, f_X7_forgetMeetings_l1 n (nI k) a = some a' ∧ ∀ j, a' j = if k ≤ j ∧ j < 8 then 0 else a j := by
  intro n
  induction n with
  | zero => intro k a h1 h2; omega
  | succ n ih =>
    intro k a h1 h2
    unfold f_X7_forgetMeetings_l1
    by_cases hk : k = 8
    · subst hk
      rw [if_pos e8]
      exact ⟨a, rfl, fun j => by rw [if_neg (by omega)]⟩
    · have hk8 : k < 8 := by omega
      rw [if_neg (g8 hk8), nI_clamp (show k < 2 ^ 31 by omega), ← nI_succ, ck_eq (inI hk8 (by decide))]
      obtain ⟨a', e1, e3⟩ := ih (k + 1) (upd a k 0) (by omega) (by omega)
      refine ⟨a', e1, fun j => ?_⟩
      rw [e3, hupi]
      by_cases c : k ≤ j ∧ j < 8
      · rw [if_pos c]
        by_cases hj : j = k
        · rw [if_neg (by omega), if_pos hj]
        · rw [if_pos (by omega)]
      · rw [if_neg c, if_neg (by omega), if_neg (by omega)]
theorem forget_val (a : Nat → Int32) : ∃ a' : Nat → Int32, f_X7_forgetMeetings a = some (0, a') ∧ ∀ j, j < 8 → a' j = 0 := by
  obtain ⟨a', e1, e2⟩ := forget_l1 16 0 a (by decide) (by decide)
  refine ⟨a', ?_, fun j hj => by rw [e2, if_pos ⟨Nat.zero_le _, hj⟩]⟩
  unfold f_X7_forgetMeetings
  rw [show (0 : Int32) = nI 0 from rfl, e1]
  rfl
def agC (there met coast : Int32) : Int32 := if there = 0 then coast else if met = 0 then coast + 1 else coast
def agS (there met sure : Int32) : Int32 := if there = 0 then sure else if met = 0 then (if sure ≤ 1 then 1 else sure - 1) else sure
def agT (there coast : Int32) (x : UInt64) : Int32 := if 4 ≤ coast then 0 else if zv x < 0 then 0 else if zv x ≤ zv 4643000109586448384 then there else 0
theorem age_j2 {rc : Int32 → (Nat → Int32) → (Nat → Int32) → (Nat → Int32) → Option ((Nat → Int32) × (Nat → Int32) × (Nat → Int32))} {x : Nat → UInt64} {k : Nat} {a s c : Nat → Int32} (hk : k < 8) (hx : NN (x k)) :
    ∃ a' : Nat → Int32, f_X7_age_j2 rc x (nI k) a s c = rc (nI (k + 1)) a' s c ∧ ∀ j, a' j = if j = k then agT (a k) (c k) (x k) else a j := by
  have k250 : NN 4643000109586448384 := by unfold NN; decide +kernel
  unfold f_X7_age_j2
  rw [nI_clamp (show k < 2 ^ 31 by omega), ← nI_succ]
  simp only [ck_eq (inI hk (by decide)), i_lt hx nn0, i_le hx k250, zv0]
  unfold agT
  by_cases q1 : 4 ≤ c k
  · rw [if_pos q1]
    refine ⟨_, rfl, fun j => ?_⟩
    rw [hupi, if_pos q1]
  · rw [if_neg q1]
    by_cases q2 : zv (x k) < 0
    · rw [if_pos q2]
      refine ⟨_, rfl, fun j => ?_⟩
      rw [hupi, if_neg q1, if_pos q2]
    · rw [if_neg q2]
      by_cases q3 : zv (x k) ≤ zv 4643000109586448384
      · rw [if_pos q3]
        refine ⟨_, rfl, fun j => ?_⟩
        rw [if_neg q1, if_neg q2, if_pos q3]
        by_cases hj : j = k
        · rw [if_pos hj, hj]
        · rw [if_neg hj]
      · rw [if_neg q3]
        refine ⟨_, rfl, fun j => ?_⟩
        rw [hupi, if_neg q1, if_neg q2, if_neg q3]
end XAGE
