/-! Meetings forgotten; tracks that age. -/
section XAGE
theorem forget_l1 : ∀ (n k : Nat) (a : Nat → Int32), k ≤ 8 → 9 ≤ n + k → ∃ a' : Nat → Int32, f_X7_forgetMeetings_l1 n (nI k) a = some a' ∧ ∀ j, a' j = if k ≤ j ∧ j < 8 then 0 else a j := by
  intro n
  induction n with
  | zero => intro k a h1 h2; omega
  | succ n ih =>
    intro k a h1 h2
    unfold f_X7_forgetMeetings_l1
    by_cases hk : k = 8
    · subst hk
      rw [if_pos e8]
      exact ⟨a, rfl, fun j => by rw [if_neg (by omega)]⟩
    · have hk8 : k < 8 := by omega
      rw [if_neg (g8 hk8), nI_clamp (show k < 2 ^ 31 by omega), ← nI_succ, ck_eq (inI hk8 (by decide))]
      obtain ⟨a', e1, e3⟩ := ih (k + 1) (upd a k 0) (by omega) (by omega)
      refine ⟨a', e1, fun j => ?_⟩
      rw [e3, hupi]
      by_cases c : k ≤ j ∧ j < 8
      · rw [if_pos c]
        by_cases hj : j = k
        · rw [if_neg (by omega), if_pos hj]
        · rw [if_pos (by omega)]
      · rw [if_neg c, if_neg (by omega), if_neg (by omega)]
theorem forget_val (a : Nat → Int32) : ∃ a' : Nat → Int32, f_X7_forgetMeetings a = some (0, a') ∧ ∀ j, j < 8 → a' j = 0 := by
  obtain ⟨a', e1, e2⟩ := forget_l1 16 0 a (by decide) (by decide)
  refine ⟨a', ?_, fun j hj => by rw [e2, if_pos ⟨Nat.zero_le _, hj⟩]⟩
  unfold f_X7_forgetMeetings
  rw [show (0 : Int32) = nI 0 from rfl, e1]
  rfl
def agC (there met coast : Int32) : Int32 := if there = 0 then coast else if met = 0 then coast + 1 else coast
def agS (there met sure : Int32) : Int32 := if there = 0 then sure else if met = 0 then (if sure ≤ 1 then 1 else sure - 1) else sure
def agT (there coast : Int32) (x : UInt64) : Int32 := if 4 ≤ coast then 0 else if zv x < 0 then 0 else if zv x ≤ zv 4643000109586448384 then there else 0
theorem age_j2 {rc : Int32 → (Nat → Int32) → (Nat → Int32) → (Nat → Int32) → Option ((Nat → Int32) × (Nat → Int32) × (Nat → Int32))} {x : Nat → UInt64} {k : Nat} {a s c : Nat → Int32} (hk : k < 8) (hx : NN (x k)) :
    ∃ a' : Nat → Int32, f_X7_age_j2 rc x (nI k) a s c = rc (nI (k + 1)) a' s c ∧ ∀ j, a' j = if j = k then agT (a k) (c k) (x k) else a j := by
  have k250 : NN 4643000109586448384 := by unfold NN; decide +kernel
  unfold f_X7_age_j2
  rw [nI_clamp (show k < 2 ^ 31 by omega), ← nI_succ]
  simp only [ck_eq (inI hk (by decide)), i_lt hx nn0, i_le hx k250, zv0]
  unfold agT
  by_cases q1 : 4 ≤ c k
  · rw [if_pos q1]
    refine ⟨_, rfl, fun j => ?_⟩
    rw [hupi, if_pos q1]
  · rw [if_neg q1]
    by_cases q2 : zv (x k) < 0
    · rw [if_pos q2]
      refine ⟨_, rfl, fun j => ?_⟩
      rw [hupi, if_neg q1, if_pos q2]
    · rw [if_neg q2]
      by_cases q3 : zv (x k) ≤ zv 4643000109586448384
      · rw [if_pos q3]
        refine ⟨_, rfl, fun j => ?_⟩
        rw [if_neg q1, if_neg q2, if_pos q3]
        by_cases hj : j = k
        · rw [if_pos hj, hj]
        · rw [if_neg hj]
      · rw [if_neg q3]
        refine ⟨_, rfl, fun j => ?_⟩
        rw [hupi, if_neg q1, if_neg q2, if_neg q3]
theorem age_l1 {x : Nat → UInt64} {met : Nat → Int32} (hx : ∀ j, j < 8 → NN (x j)) : ∀ (n k : Nat) (a s c : Nat → Int32), k ≤ 8 → 9 ≤ n + k →
    ∃ a' s' c' : Nat → Int32, f_X7_age_l1 x met n (nI k) a s c = some (a', s', c') ∧ (∀ j, a' j = if k ≤ j ∧ j < 8 then agT (a j) (agC (a j) (met j) (c j)) (x j) else a j) ∧ (∀ j, s' j = if k ≤ j ∧ j < 8 then agS (a j) (met j) (s j) else s j) ∧ (∀ j, c' j = if k ≤ j ∧ j < 8 then agC (a j) (met j) (c j) else c j) := by
  intro n
  induction n with
  | zero => intro k a s c h1 h2; omega
  | succ n ih =>
    intro k a s c h1 h2
    unfold f_X7_age_l1
    by_cases hk : k = 8
    · subst hk
      rw [if_pos e8]
      refine ⟨a, s, c, rfl, fun j => ?_, fun j => ?_, fun j => ?_⟩ <;> rw [if_neg (by omega)]
    · have hk8 : k < 8 := by omega
      rw [if_neg (g8 hk8), nI_clamp (show k < 2 ^ 31 by omega)]
      simp only [ck_eq (inI hk8 (by decide))]
      have fin : ∀ (s1 c1 : Nat → Int32), (∀ j, s1 j = if j = k then agS (a k) (met k) (s k) else s j) → (∀ j, c1 j = if j = k then agC (a k) (met k) (c k) else c j) →
          ∃ a' s' c' : Nat → Int32, f_X7_age_j2 (f_X7_age_l1 x met n) x (nI k) a s1 c1 = some (a', s', c') ∧ (∀ j, a' j = if k ≤ j ∧ j < 8 then agT (a j) (agC (a j) (met j) (c j)) (x j) else a j) ∧ (∀ j, s' j = if k ≤ j ∧ j < 8 then agS (a j) (met j) (s j) else s j) ∧ (∀ j, c' j = if k ≤ j ∧ j < 8 then agC (a j) (met j) (c j) else c j) := by
        intro s1 c1 hs hc
        obtain ⟨a1, g1, g2⟩ := age_j2 (rc := f_X7_age_l1 x met n) (a := a) (s := s1) (c := c1) hk8 (hx k hk8)
        obtain ⟨a', s', c', e1, e2, e3, e4⟩ := ih (k + 1) a1 s1 c1 (by omega) (by omega)
        refine ⟨a', s', c', by rw [g1, e1], fun j => ?_, fun j => ?_, fun j => ?_⟩
        · rw [e2]
          by_cases hj : j = k
          · subst hj
            rw [if_neg (by omega), if_pos ⟨Nat.le_refl _, hk8⟩, g2, if_pos rfl, hc, if_pos rfl]
          · rw [g2, if_neg hj, hc, if_neg hj]
            by_cases w : k ≤ j ∧ j < 8
            · rw [if_pos w, if_pos (by omega)]
            · rw [if_neg w, if_neg (by omega)]
        · rw [e3]
          by_cases hj : j = k
          · subst hj
            rw [if_neg (by omega), if_pos ⟨Nat.le_refl _, hk8⟩, hs, if_pos rfl]
          · rw [g2, if_neg hj, hs, if_neg hj]
            by_cases w : k ≤ j ∧ j < 8
            · rw [if_pos w, if_pos (by omega)]
            · rw [if_neg w, if_neg (by omega)]
        · rw [e4]
          by_cases hj : j = k
          · subst hj
            rw [if_neg (by omega), if_pos ⟨Nat.le_refl _, hk8⟩, hc, if_pos rfl]
          · rw [g2, if_neg hj, hc, if_neg hj]
            by_cases w : k ≤ j ∧ j < 8
            · rw [if_pos w, if_pos (by omega)]
            · rw [if_neg w, if_neg (by omega)]
      by_cases t0 : a k = 0
      · rw [if_pos t0]
        refine fin s c (fun j => ?_) (fun j => ?_)
        · unfold agS; rw [if_pos t0]; split <;> rename_i h <;> first | rw [h] | rfl
        · unfold agC; rw [if_pos t0]; split <;> rename_i h <;> first | rw [h] | rfl
      · rw [if_neg t0]
        by_cases m0 : met k = 0
        · rw [if_pos m0]
          have hc : ∀ j, upd c k (c k + 1) j = if j = k then agC (a k) (met k) (c k) else c j := fun j => by
            rw [hupi]; unfold agC; rw [if_neg t0, if_pos m0]
          by_cases s1 : s k ≤ 1
          · rw [if_pos s1]
            refine fin _ _ (fun j => ?_) hc
            rw [hupi]; unfold agS; rw [if_neg t0, if_pos m0, if_pos s1]
          · rw [if_neg s1]
            refine fin _ _ (fun j => ?_) hc
            rw [hupi]; unfold agS; rw [if_neg t0, if_pos m0, if_neg s1]
        · rw [if_neg m0]
          refine fin s c (fun j => ?_) (fun j => ?_)
          · unfold agS; rw [if_neg t0, if_neg m0]; split <;> rename_i h <;> first | rw [h] | rfl
          · unfold agC; rw [if_neg t0, if_neg m0]; split <;> rename_i h <;> first | rw [h] | rfl
end XAGE
