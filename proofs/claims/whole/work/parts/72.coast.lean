/-! The reference's coasting, pointwise. -/
section XCOAST
def coN (there tf ts : Int32) : Prop := ¬ there = 0 ∧ tf = 0 ∧ ts = 0
def coC (u : Bool) (coast : Int32) : Int32 := if u then coast + 1 else 0
def coS (u : Bool) (sure : Int32) : Int32 := if u then (if sure ≤ 1 then 1 else sure - 1) else sure
def coU (there tf ts : Int32) : Bool := !decide (there = 0) && decide (tf = 0) && decide (ts = 0)
def coW (u : Bool) (there coast : Int32) : Int32 := if u then (if 4 ≤ coast + 1 then 0 else 1) else there
def coT (t1 : Int32) (x : UInt64) : Int32 := if t1 = 0 then 0 else if zv x < 0 then 0 else if zv 4643000109586448384 < zv x then 0 else 1
theorem coast_j4 {rc : Int32 → (Nat → Int32) → (Nat → Int32) → (Nat → Int32) → Option ((Nat → Int32) × (Nat → Int32) × (Nat → Int32))} {x : Nat → UInt64} {k : Nat} {a s c : Nat → Int32} (hk : k < 8) (hx : NN (x k)) :
    f_X9_coastAll_j4 rc x (nI k) a s c = rc (nI (k + 1)) (upd a k (coT (a k) (x k))) s c := by
  have k250 : NN 4643000109586448384 := by unfold NN; decide +kernel
  unfold f_X9_coastAll_j4 coT
  rw [nI_clamp (show k < 2 ^ 31 by omega), ← nI_succ]
  simp only [ck_eq (inI hk (by decide)), i_lt hx nn0, i_gt hx k250, zv0]
  by_cases q0 : a k = 0
  · rw [if_pos q0, if_pos q0]
  · rw [if_neg q0, if_neg q0]
    by_cases q2 : zv (x k) < 0
    · rw [if_pos q2, if_pos q2]
    · rw [if_neg q2, if_neg q2]
      by_cases q3 : zv 4643000109586448384 < zv (x k)
      · rw [if_pos q3, if_pos q3]
      · rw [if_neg q3, if_neg q3]
theorem coast_l1 {x : Nat → UInt64} {tf ts : Nat → Int32} (hx : ∀ j, j < 8 → NN (x j)) : ∀ (n k : Nat) (a s c : Nat → Int32), k ≤ 8 → 9 ≤ n + k →
    ∃ a' s' c' : Nat → Int32, f_X9_coastAll_l1 x tf ts n (nI k) a s c = some (a', s', c') ∧ (∀ j, a' j = if k ≤ j ∧ j < 8 then coT (coW (coU (a j) (tf j) (ts j)) (a j) (c j)) (x j) else a j) ∧ (∀ j, s' j = if k ≤ j ∧ j < 8 then coS (coU (a j) (tf j) (ts j)) (s j) else s j) ∧ (∀ j, c' j = if k ≤ j ∧ j < 8 then coC (coU (a j) (tf j) (ts j)) (c j) else c j) := by
  intro n
  induction n with
  | zero => intro k a s c h1 h2; omega
  | succ n ih =>
    intro k a s c h1 h2
    unfold f_X9_coastAll_l1 f_X9_coastAll_j3
    by_cases hk : k = 8
    · subst hk
      rw [if_pos e8]
      refine ⟨a, s, c, rfl, fun j => ?_, fun j => ?_, fun j => ?_⟩ <;> rw [if_neg (by omega)]
    · have hk8 : k < 8 := by omega
      rw [if_neg (g8 hk8), nI_clamp (show k < 2 ^ 31 by omega)]
      simp only [ck_eq (inI hk8 (by decide)), coast_j4 hk8 (hx k hk8), hupi, if_true]
      have fin : ∀ (u : Bool) (a1 s1 c1 : Nat → Int32), coU (a k) (tf k) (ts k) = u → (∀ j, a1 j = if j = k then coT (coW u (a k) (c k)) (x k) else a j) → (∀ j, s1 j = if j = k then coS u (s k) else s j) → (∀ j, c1 j = if j = k then coC u (c k) else c j) →
          ∃ a' s' c' : Nat → Int32, f_X9_coastAll_l1 x tf ts n (nI (k + 1)) a1 s1 c1 = some (a', s', c') ∧ (∀ j, a' j = if k ≤ j ∧ j < 8 then coT (coW (coU (a j) (tf j) (ts j)) (a j) (c j)) (x j) else a j) ∧ (∀ j, s' j = if k ≤ j ∧ j < 8 then coS (coU (a j) (tf j) (ts j)) (s j) else s j) ∧ (∀ j, c' j = if k ≤ j ∧ j < 8 then coC (coU (a j) (tf j) (ts j)) (c j) else c j) := by
        intro u a1 s1 c1 hu ha hs hc
        obtain ⟨a', s', c', e1, e2, e3, e4⟩ := ih (k + 1) a1 s1 c1 (by omega) (by omega)
        refine ⟨a', s', c', e1, fun j => ?_, fun j => ?_, fun j => ?_⟩
        · rw [e2]
          by_cases hj : j = k
          · subst hj
            rw [if_neg (by omega), if_pos ⟨Nat.le_refl _, hk8⟩, ha, if_pos rfl, hu]
          · rw [ha, if_neg hj, hc, if_neg hj]
            by_cases w : k ≤ j ∧ j < 8
            · rw [if_pos w, if_pos (by omega)]
            · rw [if_neg w, if_neg (by omega)]
        · rw [e3]
          by_cases hj : j = k
          · subst hj
            rw [if_neg (by omega), if_pos ⟨Nat.le_refl _, hk8⟩, hs, if_pos rfl, hu]
          · rw [ha, if_neg hj, hs, if_neg hj]
            by_cases w : k ≤ j ∧ j < 8
            · rw [if_pos w, if_pos (by omega)]
            · rw [if_neg w, if_neg (by omega)]
        · rw [e4]
          by_cases hj : j = k
          · subst hj
            rw [if_neg (by omega), if_pos ⟨Nat.le_refl _, hk8⟩, hc, if_pos rfl, hu]
          · rw [ha, if_neg hj, hc, if_neg hj]
            by_cases w : k ≤ j ∧ j < 8
            · rw [if_pos w, if_pos (by omega)]
            · rw [if_neg w, if_neg (by omega)]
      by_cases t0 : a k = 0
      · rw [if_pos t0]
        refine fin false _ _ _ (by unfold coU; rw [decide_eq_true t0]; rfl) (fun j => hupi _ _ _ _) (fun j => ?_) (fun j => hupi _ _ _ _)
        · unfold coS; split <;> rename_i h <;> first | (rw [h]; rfl) | rfl
      · rw [if_neg t0]
        by_cases f0 : tf k = 0
        · rw [if_pos f0]
          by_cases s0 : ts k = 0
          · rw [if_pos s0]
            have hu : coU (a k) (tf k) (ts k) = true := by unfold coU; rw [decide_eq_false t0, decide_eq_true f0, decide_eq_true s0]; rfl
            by_cases s1 : s k ≤ 1
            · rw [if_pos s1]
              by_cases c4 : 4 ≤ c k + 1
              · rw [if_pos c4]
                refine fin true _ _ _ hu (fun j => ?_) (fun j => ?_) (fun j => hupi _ _ _ _)
                · rw [hupi, hupi]; unfold coW; rw [if_pos rfl, if_pos c4]; split <;> rfl
                · rw [hupi]; unfold coS; rw [if_pos rfl, if_pos s1]
              · rw [if_neg c4]
                refine fin true _ _ _ hu (fun j => ?_) (fun j => ?_) (fun j => hupi _ _ _ _)
                · rw [hupi, hupi]; unfold coW; rw [if_pos rfl, if_neg c4]; split <;> rfl
                · rw [hupi]; unfold coS; rw [if_pos rfl, if_pos s1]
            · rw [if_neg s1]
              by_cases c4 : 4 ≤ c k + 1
              · rw [if_pos c4]
                refine fin true _ _ _ hu (fun j => ?_) (fun j => ?_) (fun j => hupi _ _ _ _)
                · rw [hupi, hupi]; unfold coW; rw [if_pos rfl, if_pos c4]; split <;> rfl
                · rw [hupi]; unfold coS; rw [if_pos rfl, if_neg s1]
              · rw [if_neg c4]
                refine fin true _ _ _ hu (fun j => ?_) (fun j => ?_) (fun j => hupi _ _ _ _)
                · rw [hupi, hupi]; unfold coW; rw [if_pos rfl, if_neg c4]; split <;> rfl
                · rw [hupi]; unfold coS; rw [if_pos rfl, if_neg s1]
          · rw [if_neg s0]
            refine fin false _ _ _ (by unfold coU; rw [decide_eq_false s0]; simp) (fun j => hupi _ _ _ _) (fun j => ?_) (fun j => hupi _ _ _ _)
            · unfold coS; split <;> rename_i h <;> first | (rw [h]; rfl) | rfl
        · rw [if_neg f0]
          refine fin false _ _ _ (by unfold coU; rw [decide_eq_false f0]; simp) (fun j => hupi _ _ _ _) (fun j => ?_) (fun j => hupi _ _ _ _)
          · unfold coS; split <;> rename_i h <;> first | (rw [h]; rfl) | rfl
end XCOAST
