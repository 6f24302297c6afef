/-! The ways to join, as numbers written with nine digits, and what one way does to the best so far. -/
section XWAYS
def dg (n w k : Nat) : Nat := w / 9 ^ (n - 1 - k) % 9
/-- no digit before m is t -/
def fr (g : Nat → Nat) (t : Nat) : Nat → Bool
  | 0 => true
  | m + 1 => fr g t m && !decide (g m = t)
def okd (may : Nat → Nat → Bool) (g : Nat → Nat) (m t : Nat) : Bool := decide (t = 8) || (may m t && fr g t m)
def vd (may : Nat → Nat → Bool) (g : Nat → Nat) : Nat → Bool
  | 0 => true
  | m + 1 => vd may g m && okd may g m (g m)
def jn (g : Nat → Nat) : Nat → Nat
  | 0 => 0
  | m + 1 => jn g m + (if g m < 8 then 1 else 0)
def sm (c : Nat → Nat → Nat) (g : Nat → Nat) : Nat → Nat
  | 0 => 0
  | m + 1 => sm c g m + (if g m < 8 then c m (g m) else 0)
/-- the best so far: how many are joined, the sum, the way -/
abbrev WB : Type := Int × Int × Nat
def lu (may : Nat → Nat → Bool) (c : Nat → Nat → Nat) (n w : Nat) (b : WB) : WB :=
  if vd may (dg n w) n = true then
    (if b.1 < (jn (dg n w) n : Int) ∨ ((jn (dg n w) n : Int) = b.1 ∧ (sm c (dg n w) n : Int) < b.2.1) then ((jn (dg n w) n : Int), (sm c (dg n w) n : Int), w) else b)
  else b
def ml (may : Nat → Nat → Bool) (c : Nat → Nat → Nat) (n : Nat) : Nat → Nat → WB → WB
  | 0, _, b => b
  | k + 1, w, b => ml may c n k (w + 1) (lu may c n w b)
theorem fr_congr {g h : Nat → Nat} {t : Nat} : ∀ m : Nat, (∀ k, k < m → g k = h k) → fr g t m = fr h t m
  | 0, _ => rfl
  | m + 1, e => by
    show (fr g t m && !decide (g m = t)) = (fr h t m && !decide (h m = t))
    rw [fr_congr m (fun k hk => e k (by omega)), e m (by omega)]
theorem vd_congr {may : Nat → Nat → Bool} {g h : Nat → Nat} : ∀ m : Nat, (∀ k, k < m → g k = h k) → vd may g m = vd may h m
  | 0, _ => rfl
  | m + 1, e => by
    show (vd may g m && okd may g m (g m)) = (vd may h m && okd may h m (h m))
    unfold okd
    rw [vd_congr m (fun k hk => e k (by omega)), e m (by omega), fr_congr m (fun k hk => e k (by omega))]
theorem jn_congr {g h : Nat → Nat} : ∀ m : Nat, (∀ k, k < m → g k = h k) → jn g m = jn h m
  | 0, _ => rfl
  | m + 1, e => by
    show jn g m + (if g m < 8 then 1 else 0) = jn h m + (if h m < 8 then 1 else 0)
    rw [jn_congr m (fun k hk => e k (by omega)), e m (by omega)]
theorem sm_congr {c : Nat → Nat → Nat} {g h : Nat → Nat} : ∀ m : Nat, (∀ k, k < m → g k = h k) → sm c g m = sm c h m
  | 0, _ => rfl
  | m + 1, e => by
    show sm c g m + (if g m < 8 then c m (g m) else 0) = sm c h m + (if h m < 8 then c m (h m) else 0)
    rw [sm_congr m (fun k hk => e k (by omega)), e m (by omega)]
theorem dg_lt (n w k : Nat) : dg n w k < 9 := Nat.mod_lt _ (by decide)
theorem dg_pre {m d w a k : Nat} (h1 : a * 9 ^ d ≤ w) (h2 : w < (a + 1) * 9 ^ d) (hk : k < m) : dg (m + d) w k = dg m a k := by
  unfold dg
  have q : w / 9 ^ d = a := Nat.div_eq_of_lt_le h1 h2
  rw [show m + d - 1 - k = d + (m - 1 - k) by omega, Nat.pow_add, ← Nat.div_div_eq_div_mul, q]
theorem dg_last {m a t : Nat} (ht : t < 9) : dg (m + 1) (9 * a + t) m = t := by
  unfold dg
  rw [show m + 1 - 1 - m = 0 by omega, Nat.pow_zero, Nat.div_one]
  omega
theorem dg_step {m a t k : Nat} (ht : t < 9) (hk : k < m) : dg (m + 1) (9 * a + t) k = dg m a k :=
  dg_pre (d := 1) (by rw [Nat.pow_one]; omega) (by rw [Nat.pow_one]; omega) hk
theorem jn_mono (g : Nat → Nat) (m : Nat) : ∀ d : Nat, jn g m ≤ jn g (m + d) ∧ jn g (m + d) ≤ jn g m + d
  | 0 => ⟨Nat.le_refl _, Nat.le_refl _⟩
  | d + 1 => by
    have h := jn_mono g m d
    show jn g m ≤ jn g (m + d) + (if g (m + d) < 8 then 1 else 0) ∧ jn g (m + d) + (if g (m + d) < 8 then 1 else 0) ≤ jn g m + (d + 1)
    split <;> omega
theorem sm_mono (c : Nat → Nat → Nat) (g : Nat → Nat) (m : Nat) : ∀ d : Nat, sm c g m ≤ sm c g (m + d)
  | 0 => Nat.le_refl _
  | d + 1 => by
    have h := sm_mono c g m d
    show sm c g m ≤ sm c g (m + d) + (if g (m + d) < 8 then c (m + d) (g (m + d)) else 0)
    omega
theorem vd_mono {may : Nat → Nat → Bool} {g : Nat → Nat} {m : Nat} : ∀ d : Nat, vd may g (m + d) = true → vd may g m = true
  | 0, h => h
  | d + 1, h => by
    have h : (vd may g (m + d) && okd may g (m + d) (g (m + d))) = true := h
    rw [Bool.and_eq_true] at h
    exact vd_mono d h.1
theorem jn_le (g : Nat → Nat) (m : Nat) : jn g m ≤ m := by
  have h := (jn_mono g 0 m).2
  rw [Nat.zero_add] at h
  have e : jn g 0 = 0 := rfl
  omega
theorem sm_le {c : Nat → Nat → Nat} {B : Nat} (hc : ∀ m t, c m t ≤ B) (g : Nat → Nat) : ∀ m : Nat, sm c g m ≤ m * B
  | 0 => Nat.zero_le _
  | m + 1 => by
    have h := sm_le hc g m
    have h2 := hc m (g m)
    show sm c g m + (if g m < 8 then c m (g m) else 0) ≤ (m + 1) * B
    rw [Nat.add_mul, Nat.one_mul]
    split <;> omega
section
variable {may : Nat → Nat → Bool} {c : Nat → Nat → Nat}
theorem lu_cut {m d n a w : Nat} {b : WB} (hn : n = m + d) (h1 : a * 9 ^ d ≤ w) (h2 : w < (a + 1) * 9 ^ d) (h : ((jn (dg m a) m + d : Nat) : Int) < b.1 ∨ ((jn (dg m a) m + d : Nat) : Int) = b.1 ∧ b.2.1 ≤ (sm c (dg m a) m : Int)) : lu may c n w b = b := by
  subst hn
  have e1 : jn (dg (m + d) w) m = jn (dg m a) m := jn_congr m (fun k hk => dg_pre h1 h2 hk)
  have e2 : sm c (dg (m + d) w) m = sm c (dg m a) m := sm_congr m (fun k hk => dg_pre h1 h2 hk)
  have j := jn_mono (dg (m + d) w) m d
  have s := sm_mono c (dg (m + d) w) m d
  unfold lu
  split
  · rw [if_neg]
    omega
  · rfl
theorem lu_bad {m d n a w : Nat} {b : WB} (hn : n = m + d) (h1 : a * 9 ^ d ≤ w) (h2 : w < (a + 1) * 9 ^ d) (h : vd may (dg m a) m = false) : lu may c n w b = b := by
  subst hn
  have e1 : vd may (dg (m + d) w) m = vd may (dg m a) m := vd_congr m (fun k hk => dg_pre h1 h2 hk)
  unfold lu
  split
  · rename_i q
    have := vd_mono d q
    rw [e1, h] at this
    cases this
  · rfl
theorem ml_add {n : Nat} : ∀ (x y w : Nat) (b : WB), ml may c n (x + y) w b = ml may c n y (w + x) (ml may c n x w b)
  | 0, y, w, b => by rw [Nat.zero_add]; rfl
  | x + 1, y, w, b => by
    rw [show x + 1 + y = (x + y) + 1 by omega]
    show ml may c n (x + y) (w + 1) (lu may c n w b) = ml may c n y (w + (x + 1)) (ml may c n x (w + 1) (lu may c n w b))
    rw [ml_add x y (w + 1) _, show w + 1 + x = w + (x + 1) by omega]
theorem ml_id {n : Nat} {b : WB} : ∀ (x w : Nat), (∀ v, w ≤ v → v < w + x → lu may c n v b = b) → ml may c n x w b = b
  | 0, w, _ => rfl
  | x + 1, w, h => by
    show ml may c n x (w + 1) (lu may c n w b) = b
    rw [h w (Nat.le_refl _) (by omega)]
    exact ml_id x (w + 1) (fun v h1 h2 => h v (by omega) (by omega))
theorem blk {a t d : Nat} : a * 9 ^ (d + 1) + t * 9 ^ d = (9 * a + t) * 9 ^ d := by
  rw [Nat.pow_succ, Nat.add_mul, Nat.mul_comm 9 a, Nat.mul_assoc, Nat.mul_comm 9]
theorem ml_cut {m d n a : Nat} {b : WB} (hn : n = m + d) (h : ((jn (dg m a) m + d : Nat) : Int) < b.1 ∨ ((jn (dg m a) m + d : Nat) : Int) = b.1 ∧ b.2.1 ≤ (sm c (dg m a) m : Int)) : ml may c n (9 ^ d) (a * 9 ^ d) b = b :=
  ml_id _ _ (fun v h1 h2 => lu_cut hn h1 (by rw [Nat.add_mul, Nat.one_mul]; exact h2) h)
theorem ml_bad {m d n a : Nat} {b : WB} (hn : n = m + d) (h : vd may (dg m a) m = false) : ml may c n (9 ^ d) (a * 9 ^ d) b = b :=
  ml_id _ _ (fun v h1 h2 => lu_bad hn h1 (by rw [Nat.add_mul, Nat.one_mul]; exact h2) h)
theorem fr_step {m a t k : Nat} (ht : t < 9) : fr (dg (m + 1) (9 * a + t)) k m = fr (dg m a) k m := fr_congr m (fun _ hk => dg_step ht hk)
theorem vd_step {m a t : Nat} (ht : t < 9) : vd may (dg (m + 1) (9 * a + t)) (m + 1) = (vd may (dg m a) m && okd may (dg m a) m t) := by
  show (vd may (dg (m + 1) (9 * a + t)) m && okd may (dg (m + 1) (9 * a + t)) m (dg (m + 1) (9 * a + t) m)) = _
  unfold okd
  rw [vd_congr m (fun _ hk => dg_step ht hk), dg_last ht, fr_step ht]
theorem jn_step {m a t : Nat} (ht : t < 9) : jn (dg (m + 1) (9 * a + t)) (m + 1) = jn (dg m a) m + (if t < 8 then 1 else 0) := by
  show jn (dg (m + 1) (9 * a + t)) m + (if dg (m + 1) (9 * a + t) m < 8 then 1 else 0) = _
  rw [jn_congr m (fun _ hk => dg_step ht hk), dg_last ht]
theorem sm_step {m a t : Nat} (ht : t < 9) : sm c (dg (m + 1) (9 * a + t)) (m + 1) = sm c (dg m a) m + (if t < 8 then c m t else 0) := by
  show sm c (dg (m + 1) (9 * a + t)) m + (if dg (m + 1) (9 * a + t) m < 8 then c m (dg (m + 1) (9 * a + t) m) else 0) = _
  rw [sm_congr m (fun _ hk => dg_step ht hk), dg_last ht]
theorem fr_last {m a t k : Nat} (ht : t < 9) : fr (dg (m + 1) (9 * a + t)) k (m + 1) = (fr (dg m a) k m && !decide (t = k)) := by
  show (fr (dg (m + 1) (9 * a + t)) k m && !decide (dg (m + 1) (9 * a + t) m = k)) = _
  rw [fr_step ht, dg_last ht]
/-- the best way is one that may be, once there is one -/
theorem lu_good {n w : Nat} {b : WB} (hw : w < 9 ^ n) (h : 0 ≤ b.1 → vd may (dg n b.2.2) n = true ∧ b.2.2 < 9 ^ n) : 0 ≤ (lu may c n w b).1 → vd may (dg n (lu may c n w b).2.2) n = true ∧ (lu may c n w b).2.2 < 9 ^ n := by
  unfold lu
  split
  · split
    · exact fun _ => ⟨by assumption, hw⟩
    · exact h
  · exact h
theorem ml_good {n : Nat} : ∀ (x w : Nat) (b : WB), w + x ≤ 9 ^ n → (0 ≤ b.1 → vd may (dg n b.2.2) n = true ∧ b.2.2 < 9 ^ n) → 0 ≤ (ml may c n x w b).1 → vd may (dg n (ml may c n x w b).2.2) n = true ∧ (ml may c n x w b).2.2 < 9 ^ n
  | 0, _, _, _, h => h
  | x + 1, w, b, hx, h => ml_good x (w + 1) _ (by omega) (lu_good (by omega) h)
theorem lu_some {n w : Nat} {b : WB} (h : 0 ≤ b.1 ∨ vd may (dg n w) n = true) : 0 ≤ (lu may c n w b).1 := by
  unfold lu
  split
  · split
    · exact Int.natCast_nonneg _
    · omega
  · rename_i q
    rcases h with h | h
    · exact h
    · exact absurd h q
theorem ml_some {n : Nat} : ∀ (x w : Nat) (b : WB), 0 ≤ b.1 → 0 ≤ (ml may c n x w b).1
  | 0, _, _, h => h
  | x + 1, w, _, h => ml_some x (w + 1) _ (lu_some (.inl h))
theorem none_digits : ∀ n, n < 5 → ∀ k, k < n → dg n (9 ^ n - 1) k = 8 := by decide +kernel
theorem none_vd {n : Nat} (hn : n < 5) : ∀ m, m ≤ n → vd may (dg n (9 ^ n - 1)) m = true
  | 0, _ => rfl
  | m + 1, h => by
    show (vd may (dg n (9 ^ n - 1)) m && okd may (dg n (9 ^ n - 1)) m (dg n (9 ^ n - 1) m)) = true
    rw [none_vd hn m (by omega), none_digits n hn m (by omega)]
    rfl
theorem ml_all {n : Nat} (hn : n < 5) (b : WB) : 0 ≤ (ml may c n (9 ^ n) 0 b).1 := by
  have hp : 0 < 9 ^ n := Nat.pow_pos (by decide)
  have e : 9 ^ n = (9 ^ n - 1) + 1 := by omega
  have h := ml_add (may := may) (c := c) (n := n) (9 ^ n - 1) 1 0 b
  rw [← e] at h
  rw [h, Nat.zero_add]
  exact lu_some (.inr (none_vd hn n (Nat.le_refl _)))
theorem ml_best {n : Nat} (hn : n < 5) (s : Int) (w : Nat) : vd may (dg n (ml may c n (9 ^ n) 0 (-1, s, w)).2.2) n = true :=
  (ml_good (9 ^ n) 0 (-1, s, w) (by omega) (fun h => absurd (show (0 : Int) ≤ -1 from h) (by decide)) (ml_all hn _)).1
/-- what a way that may be says of its digits -/
theorem vd_at {g : Nat → Nat} {n k : Nat} (h : vd may g n = true) (hk : k < n) : g k = 8 ∨ (may k (g k) = true ∧ ∀ i, i < k → g i ≠ g k) := by
  obtain ⟨d, rfl⟩ : ∃ d, n = (k + 1) + d := ⟨n - (k + 1), by omega⟩
  have h := vd_mono d h
  have h : (vd may g k && okd may g k (g k)) = true := h
  rw [Bool.and_eq_true] at h
  have h := h.2
  unfold okd at h
  rw [Bool.or_eq_true, Bool.and_eq_true] at h
  rcases h with h | ⟨h1, h2⟩
  · exact .inl (of_decide_eq_true h)
  · refine .inr ⟨h1, ?_⟩
    have key : ∀ m, fr g (g k) m = true → ∀ i, i < m → g i ≠ g k := by
      intro m
      induction m with
      | zero => intro _ i hi; omega
      | succ m ih =>
        intro hf i hi
        have hf : (fr g (g k) m && !decide (g m = g k)) = true := hf
        rw [Bool.and_eq_true] at hf
        by_cases q : i = m
        · subst q
          intro w
          rw [decide_eq_true w] at hf
          exact absurd hf.2 (by decide)
        · exact ih hf.1 i (by omega)
    exact key k h2
end
end XWAYS
