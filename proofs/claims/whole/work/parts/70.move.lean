/-! The move of the tracks. -/
section XMOVE
theorem inI {k n : Nat} (hk : k < n) (hn : n < 2 ^ 31) : inb (nI k) n = true := by
  have h := nI_in hk hn
  unfold inb
  rw [decide_eq_false (fun q => h (.inl q)), decide_eq_false (fun q => h (.inr q))]
  rfl
theorem g8 {k : Nat} (h : k < 8) : ¬ (8 : Int32) ≤ nI k := nI_ge (a := k) (b := 8) h (by decide)
theorem e8 : (8 : Int32) ≤ nI 8 := by decide
/-- the moved place -/
def mvd (x v sp d : UInt64) : UInt64 := FP.dadd x (FP.dmul (FP.dsub v sp) d)
theorem move_l1 {there : Nat → Int32} {v : Nat → UInt64} {sp d : UInt64} : ∀ (n k : Nat) (x : Nat → UInt64), k ≤ 8 → 9 ≤ n + k → (∀ j, k ≤ j → j < 8 → ¬ there j = 0 → NN (FP.dsub (v j) sp) ∧ NN (FP.dmul (FP.dsub (v j) sp) d) ∧ NN (mvd (x j) (v j) sp d)) →
    ∃ y : Nat → UInt64, f_X7_move_l1 there v sp d n (nI k) x = some y ∧ ∀ j, y j = if k ≤ j ∧ j < 8 ∧ ¬ there j = 0 then mvd (x j) (v j) sp d else x j := by
  intro n
  induction n with
  | zero => intro k x h1 h2; omega
  | succ n ih =>
    intro k x h1 h2 h3
    unfold f_X7_move_l1
    by_cases hk : k = 8
    · subst hk
      rw [if_pos e8]
      refine ⟨x, rfl, fun j => ?_⟩
      rw [if_neg (by omega)]
    · have hk8 : k < 8 := by omega
      rw [if_neg (g8 hk8), ck_eq (inI hk8 (by decide)), nI_clamp (show k < 2 ^ 31 by omega), ← nI_succ]
      by_cases ht : there k = 0
      · rw [if_pos ht]
        obtain ⟨y, e1, e2⟩ := ih (k + 1) x (by omega) (by omega) (fun j a b c => h3 j (by omega) b c)
        refine ⟨y, e1, fun j => ?_⟩
        rw [e2]
        by_cases hj : j = k
        · subst hj
          rw [if_neg (by omega), if_neg (fun q => q.2.2 ht)]
        · by_cases c : k + 1 ≤ j ∧ j < 8 ∧ ¬ there j = 0
          · rw [if_pos c, if_pos ⟨by omega, c.2⟩]
          · rw [if_neg c, if_neg (fun q => c ⟨by omega, q.2⟩)]
      · obtain ⟨n1, n2, n3⟩ := h3 k (Nat.le_refl _) hk8 ht
        have hu : ∀ (w : UInt64) (j : Nat), vf_upd x k w j = if j = k then w else x j := fun w j => by
          unfold vf_upd; rfl
        simp only [if_neg ht, ck_eq (inI hk8 (by decide)), ck_eq (nnb_of n1), ck_eq (nnb_of n2), ck_eq (nnb_of n3)]
        rw [ck_eq (nnb_of (show NN (FP.dadd (x k) (FP.dmul (FP.dsub (v k) sp) d)) from n3))]
        obtain ⟨y, e1, e2⟩ := ih (k + 1) (vf_upd x k (mvd (x k) (v k) sp d)) (by omega) (by omega) (fun j a b c => by
          rw [hu, if_neg (by omega)]; exact h3 j (by omega) b c)
        refine ⟨y, e1, fun j => ?_⟩
        rw [e2, hu]
        by_cases hj : j = k
        · subst hj
          rw [if_neg (by omega), if_pos rfl, if_pos ⟨Nat.le_refl _, hk8, ht⟩]
        · rw [if_neg hj]
          by_cases c : k + 1 ≤ j ∧ j < 8 ∧ ¬ there j = 0
          · rw [if_pos c, if_pos ⟨by omega, c.2⟩]
          · rw [if_neg c, if_neg (fun q => c ⟨by omega, q.2⟩)]
theorem hupd {α : Type} (x : Nat → α) (k : Nat) (w : α) (j : Nat) : vf_upd x k w j = if j = k then w else x j := rfl
theorem hupi (x : Nat → Int32) (k : Nat) (w : Int32) (j : Nat) : upd x k w j = if j = k then w else x j := rfl
theorem step_l1 {now sp t : UInt64} {v : Nat → UInt64} : ∀ (n k : Nat) (x : Nat → UInt64) (a b : Nat → Int32), k ≤ 8 → 9 ≤ n + k → (∀ j, k ≤ j → j < 8 → NN (FP.dsub (v j) sp) ∧ NN (FP.dmul (FP.dsub (v j) sp) (FP.dsub t now)) ∧ NN (mvd (x j) (v j) sp (FP.dsub t now))) →
    ∃ (y : Nat → UInt64) (a' b' : Nat → Int32), f_X9_step_l1 now v sp t n (nI k) x a b = some (y, a', b') ∧ (∀ j, y j = if k ≤ j ∧ j < 8 then mvd (x j) (v j) sp (FP.dsub t now) else x j) ∧ (∀ j, a' j = if k ≤ j ∧ j < 8 then 0 else a j) ∧ (∀ j, b' j = if k ≤ j ∧ j < 8 then 0 else b j) := by
  intro n
  induction n with
  | zero => intro k x a b h1 h2; omega
  | succ n ih =>
    intro k x a b h1 h2 h3
    unfold f_X9_step_l1
    by_cases hk : k = 8
    · subst hk
      rw [if_pos e8]
      refine ⟨x, a, b, rfl, fun j => ?_, fun j => ?_, fun j => ?_⟩ <;> rw [if_neg (by omega)]
    · have hk8 : k < 8 := by omega
      obtain ⟨n1, n2, n3⟩ := h3 k (Nat.le_refl _) hk8
      rw [if_neg (g8 hk8), nI_clamp (show k < 2 ^ 31 by omega), ← nI_succ]
      simp only [ck_eq (inI hk8 (by decide)), ck_eq (nnb_of n1), ck_eq (nnb_of n2)]
      rw [ck_eq (nnb_of (show NN (FP.dadd (x k) (FP.dmul (FP.dsub (v k) sp) (FP.dsub t now))) from n3))]
      obtain ⟨y, a', b', e1, e2, e3, e4⟩ := ih (k + 1) (vf_upd x k (mvd (x k) (v k) sp (FP.dsub t now))) (upd a k 0) (upd b k 0) (by omega) (by omega) (fun j p q => by
        rw [hupd, if_neg (by omega)]; exact h3 j (by omega) q)
      refine ⟨y, a', b', e1, fun j => ?_, fun j => ?_, fun j => ?_⟩
      · rw [e2, hupd]
        by_cases hj : j = k
        · subst hj; rw [if_neg (by omega), if_pos rfl, if_pos ⟨Nat.le_refl _, hk8⟩]
        · rw [if_neg hj]
          by_cases c : k + 1 ≤ j ∧ j < 8
          · rw [if_pos c, if_pos ⟨by omega, c.2⟩]
          · rw [if_neg c, if_neg (by omega)]
      · rw [e3, hupi]
        by_cases c : k ≤ j ∧ j < 8
        · rw [if_pos c]
          by_cases hj : j = k
          · rw [if_neg (by omega), if_pos hj]
          · rw [if_pos (by omega)]
        · rw [if_neg c, if_neg (by omega), if_neg (by omega)]
      · rw [e4, hupi]
        by_cases c : k ≤ j ∧ j < 8
        · rw [if_pos c]
          by_cases hj : j = k
          · rw [if_neg (by omega), if_pos hj]
          · rw [if_pos (by omega)]
        · rw [if_neg c, if_neg (by omega), if_neg (by omega)]
end XMOVE
