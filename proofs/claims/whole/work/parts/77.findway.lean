/-! The reference goes through all ways. -/
section XFIND
theorem fr_iff {g : Nat → Nat} {t : Nat} : ∀ m : Nat, fr g t m = true ↔ ∀ i, i < m → g i ≠ t
  | 0 => ⟨fun _ i hi => by omega, fun _ => rfl⟩
  | m + 1 => by
    have h := fr_iff (g := g) (t := t) m
    show (fr g t m && !decide (g m = t)) = true ↔ _
    rw [Bool.and_eq_true, h]
    constructor
    · rintro ⟨h1, h2⟩ i hi
      by_cases q : i = m
      · subst q
        intro w
        rw [decide_eq_true w] at h2
        exact absurd h2 (by decide)
      · exact h1 i (by omega)
    · intro h1
      refine ⟨fun i hi => h1 i (by omega), ?_⟩
      rw [decide_eq_false (h1 m (by omega))]
      rfl
theorem digits_l5 : ∀ (k f rest : Nat) (way : Nat → Int32), k < f → k ≤ 4 → rest < 2 ^ 31 → ∃ way' : Nat → Int32, f_X9_findWay_l5 f (nI rest) (nI k - 1) way = some way' ∧ ∀ j, way' j = if j < k then nI (rest / 9 ^ (k - 1 - j) % 9) else way j := by
  intro k
  induction k with
  | zero =>
    intro f rest way h1 h2 h3
    obtain ⟨f, rfl⟩ : ∃ r, f = r + 1 := ⟨f - 1, by omega⟩
    unfold f_X9_findWay_l5
    rw [if_pos (show nI 0 - 1 < 0 by decide)]
    exact ⟨way, rfl, fun j => by rw [if_neg (by omega)]⟩
  | succ k ih =>
    intro f rest way h1 h2 h3
    obtain ⟨f, rfl⟩ : ∃ r, f = r + 1 := ⟨f - 1, by omega⟩
    have hdiv : nI rest / (9 : Int32) = nI (rest / 9) := pk_div (d := 9) h3 (by decide) (by decide)
    have hrem : nI rest - nI rest / (9 : Int32) * (9 : Int32) = nI (rest % 9) := pk_rem (d := 9) h3 (by decide) (by decide)
    unfold f_X9_findWay_l5
    rw [nI_pred, if_neg (nI_pos (show k < 2 ^ 31 by omega)), ck_eq (show ¬ (9 : Int32) = 0 by decide), ck_eq (inI (show k < 4 by omega) (by decide)), ck_eq (show ¬ (9 : Int32) = 0 by decide), hrem, hdiv, nI_clamp (show k < 2 ^ 31 by omega), ← Int32.sub_eq_add_neg]
    obtain ⟨w', e1, e2⟩ := ih f (rest / 9) (upd way k (nI (rest % 9))) (by omega) (by omega) (by omega)
    refine ⟨w', e1, fun j => ?_⟩
    rw [e2, hupi]
    by_cases q : j < k
    · have hp : 9 * 9 ^ (k - 1 - j) = 9 ^ (k + 1 - 1 - j) := by rw [show k + 1 - 1 - j = (k - 1 - j) + 1 by omega, Nat.pow_succ, Nat.mul_comm]
      rw [if_pos q, if_pos (show j < k + 1 by omega), Nat.div_div_eq_div_mul, hp]
    · rw [if_neg q]
      by_cases q2 : j = k
      · rw [if_pos q2, if_pos (show j < k + 1 by omega), q2, show k + 1 - 1 - k = 0 by omega, Nat.pow_zero, Nat.div_one]
      · rw [if_neg q2, if_neg (show ¬ j < k + 1 by omega)]
theorem dist_l2 {way : Nat → Int32} {g : Nat → Nat} {k : Nat} (hk : k < 4) (hg : ∀ i, i ≤ k → way i = nI (g i)) (h9 : ∀ i, g i < 9) : ∀ (f i : Nat), i ≤ k → k < f + i → ((∀ j, i ≤ j → j < k → g j ≠ g k) ∧ f_X9_isWay_l2 way (nI k) f (nI i) = some (Sum.inr ())) ∨ ((∃ j, i ≤ j ∧ j < k ∧ g j = g k) ∧ f_X9_isWay_l2 way (nI k) f (nI i) = some (Sum.inl 0)) := by
  intro f
  induction f with
  | zero => intro i h1 h2; omega
  | succ f ih =>
    intro i h1 h2
    unfold f_X9_isWay_l2
    by_cases q : i = k
    · rw [if_pos (nI_le (by omega) (by omega))]
      exact .inl ⟨fun j a b => by omega, rfl⟩
    · have hgi := h9 i
      have hgk := h9 k
      rw [if_neg (nI_ge (show i < k by omega) (by omega)), ck_eq (inI (show i < 4 by omega) (by decide)), ck_eq (inI hk (by decide)), nI_clamp (show i < 2 ^ 31 by omega), nI_clamp (show k < 2 ^ 31 by omega), hg i h1, hg k (Nat.le_refl _), ← nI_succ]
      by_cases e : g i = g k
      · rw [if_pos (congrArg nI e)]
        exact .inr ⟨⟨i, Nat.le_refl _, by omega, e⟩, rfl⟩
      · rw [if_neg (fun w => e ((nI_eq (by omega) (by omega)).mp w))]
        rcases ih (i + 1) (by omega) (by omega) with ⟨a, b⟩ | ⟨⟨j, a1, a2, a3⟩, b⟩
        · refine .inl ⟨fun j c d => ?_, b⟩
          by_cases z : j = i
          · rw [z]; exact e
          · exact a j (by omega) d
        · exact .inr ⟨⟨j, by omega, a2, a3⟩, b⟩
theorem clampI {s : Nat} (h : s < 2) : (nI s).toNatClampNeg = s := nI_clamp (by omega)
theorem at_I (s k : Nat) : (4 : Int32) * nI s + nI k = nI (4 * s + k) := by
  rw [show (4 : Int32) = nI 4 from rfl, pk_mul, nI_add]
section
variable {may : Nat → Nat → Bool} {c : Nat → Nat → Nat} {n s : Nat} {there many : Nat → Int32} {x y mx my : Nat → UInt64}
theorem isWay_l3 (hn : n ≤ 4) (hs : s < 2) (hmany : many s = nI n) (hmay : ∀ k t, k < n → t < 8 → f_X9_may (nI (4 * s + k)) (nI t) there x y mx my = some (if may k t = true then 1 else 0)) {way : Nat → Int32} {g : Nat → Nat} (hg : ∀ i, i < n → way i = nI (g i)) (h9 : ∀ i, g i < 9) :
    ∀ (f k : Nat), k ≤ n → n < f + k → vd may g k = true → (vd may g n = true ∧ f_X9_isWay_l3 there x y many mx my way (nI s) f (nI k) = some (Sum.inr ())) ∨ (vd may g n = false ∧ f_X9_isWay_l3 there x y many mx my way (nI s) f (nI k) = some (Sum.inl 0)) := by
  intro f
  induction f with
  | zero => intro k h1 h2; omega
  | succ f ih =>
    intro k h1 h2 hv
    unfold f_X9_isWay_l3
    rw [ck_eq (inI hs (by decide)), clampI hs, hmany]
    by_cases q : k = n
    · rw [if_pos (nI_le (by omega) (by omega)), ← q]
      exact .inl ⟨hv, rfl⟩
    have hk : k < n := by omega
    have hgk := h9 k
    rw [if_neg (nI_ge hk (by omega)), ck_eq (inI (show k < 4 by omega) (by decide)), nI_clamp (show k < 2 ^ 31 by omega), hg k hk, ← nI_succ]
    have bad : okd may g k (g k) = false → vd may g n = false := by
      intro w
      refine Bool.eq_false_iff.mpr (fun z => ?_)
      obtain ⟨d, rfl⟩ : ∃ d, n = (k + 1) + d := ⟨n - (k + 1), by omega⟩
      have z := vd_mono d z
      have z : (vd may g k && okd may g k (g k)) = true := z
      rw [w, Bool.and_false] at z
      cases z
    have good : okd may g k (g k) = true → vd may g (k + 1) = true := by
      intro w
      show (vd may g k && okd may g k (g k)) = true
      rw [hv, w]; rfl
    by_cases e : g k = 8
    · rw [if_pos (show nI (g k) = 8 from congrArg nI e)]
      exact ih (k + 1) (by omega) (by omega) (good (by unfold okd; rw [decide_eq_true e]; rfl))
    · have hg8 : g k < 8 := by omega
      rw [if_neg (show ¬ nI (g k) = 8 from fun w => e ((nI_eq (a := g k) (b := 8) (by omega) (by decide)).mp w)), ck_eq (inI (show k < 4 by omega) (by decide)), at_I, hmay k (g k) hk hg8, bnd]
      by_cases qm : may k (g k) = true
      · rw [if_pos qm, if_neg n10]
        rcases dist_l2 (f := 16) (i := 0) (show k < 4 by omega) (fun i hi => hg i (by omega)) h9 (by omega) (by omega) with ⟨a, b⟩ | ⟨⟨j, a1, a2, a3⟩, b⟩
        · rw [show (0 : Int32) = nI 0 from rfl, b]
          exact ih (k + 1) (by omega) (by omega) (good (by
            unfold okd
            rw [qm, (fr_iff k).mpr (fun i hi => a i (Nat.zero_le _) hi)]
            simp))
        · rw [show (0 : Int32) = nI 0 from rfl, b]
          refine .inr ⟨bad ?_, rfl⟩
          unfold okd
          rw [decide_eq_false e, Bool.eq_false_iff.mpr (fun z => (fr_iff k).mp z j a2 a3)]
          simp
      · rw [if_neg qm, if_pos rfl]
        refine .inr ⟨bad ?_, rfl⟩
        unfold okd
        rw [decide_eq_false e, Bool.eq_false_iff.mpr qm]
        rfl
theorem isWay_val (hn : n ≤ 4) (hs : s < 2) (hmany : many s = nI n) (hmay : ∀ k t, k < n → t < 8 → f_X9_may (nI (4 * s + k)) (nI t) there x y mx my = some (if may k t = true then 1 else 0)) {way : Nat → Int32} {g : Nat → Nat} (hg : ∀ i, i < n → way i = nI (g i)) (h9 : ∀ i, g i < 9) : f_X9_isWay (nI s) there x y many mx my way = some (if vd may g n = true then 1 else 0) := by
  unfold f_X9_isWay
  rcases isWay_l3 hn hs hmany hmay hg h9 16 0 (Nat.zero_le _) (by omega) rfl with ⟨a, b⟩ | ⟨a, b⟩
  · rw [show (0 : Int32) = nI 0 from rfl, b, if_pos a]; rfl
  · rw [show (0 : Int32) = nI 0 from rfl, b, if_neg (by rw [a]; decide)]; rfl
theorem sums_l6 (hn : n ≤ 4) (hs : s < 2) (hmany : many s = nI n) (hcost : ∀ k t, k < n → t < 8 → may k t = true → f_X9_cost (nI (4 * s + k)) (nI t) x y mx my = some (nI (c k t))) {way : Nat → Int32} {g : Nat → Nat} (hg : ∀ i, i < n → way i = nI (g i)) (h9 : ∀ i, g i < 9) (hv : vd may g n = true) :
    ∀ (f k : Nat), k ≤ n → n < f + k → f_X9_findWay_l6 x y many mx my (nI s) way f (nI (jn g k)) (nI (sm c g k)) (nI k) = some (nI (jn g n), nI (sm c g n)) := by
  intro f
  induction f with
  | zero => intro k h1 h2; omega
  | succ f ih =>
    intro k h1 h2
    unfold f_X9_findWay_l6
    rw [clampI hs, hmany]
    by_cases q : k = n
    · rw [if_pos (nI_le (by omega) (by omega)), q]
    have hk : k < n := by omega
    have hgk := h9 k
    rw [if_neg (nI_ge hk (by omega)), ck_eq (inI (show k < 4 by omega) (by decide)), nI_clamp (show k < 2 ^ 31 by omega), hg k hk, ← nI_succ]
    have ih := ih (k + 1) (by omega) (by omega)
    have ej : jn g (k + 1) = jn g k + (if g k < 8 then 1 else 0) := rfl
    have es : sm c g (k + 1) = sm c g k + (if g k < 8 then c k (g k) else 0) := rfl
    rw [ej, es] at ih
    by_cases e : g k = 8
    · rw [if_pos (show (8 : Int32) ≤ nI (g k) from nI_le (a := 8) (b := g k) (by omega) (by omega))]
      rw [if_neg (by omega), if_neg (by omega)] at ih
      exact ih
    · have hg8 : g k < 8 := by omega
      rw [if_pos hg8, if_pos hg8] at ih
      have hm : may k (g k) = true := by
        rcases vd_at hv hk with w | ⟨w, -⟩
        · exact absurd w e
        · exact w
      rw [if_neg (g8 hg8), ck_eq (inI (show k < 4 by omega) (by decide)), at_I, hcost k (g k) hk hg8 hm, bnd, nI_add, ← nI_succ]
      exact ih
theorem copy_l7 (hn : n ≤ 4) (hs : s < 2) (hmany : many s = nI n) {way : Nat → Int32} : ∀ (f k : Nat) (tk : Nat → Int32), k ≤ n → n < f + k → ∃ tk' : Nat → Int32, f_X9_findWay_l7 many (nI s) way f (nI k) tk = some tk' ∧ ∀ j, tk' j = if k ≤ j ∧ j < n then way j else tk j := by
  intro f
  induction f with
  | zero => intro k _ h1 h2; omega
  | succ f ih =>
    intro k tk h1 h2
    unfold f_X9_findWay_l7
    rw [clampI hs, hmany]
    by_cases q : k = n
    · rw [if_pos (nI_le (by omega) (by omega))]
      exact ⟨tk, rfl, fun j => by rw [if_neg (by omega)]⟩
    have hk : k < n := by omega
    rw [if_neg (nI_ge hk (by omega)), ck_eq (inI (show k < 4 by omega) (by decide)), ck_eq (inI (show k < 4 by omega) (by decide)), nI_clamp (show k < 2 ^ 31 by omega), ← nI_succ]
    obtain ⟨tk', e1, e2⟩ := ih (k + 1) (upd tk k (way k)) (by omega) (by omega)
    refine ⟨tk', e1, fun j => ?_⟩
    rw [e2, hupi]
    by_cases w : k ≤ j ∧ j < n
    · rw [if_pos w]
      by_cases hj : j = k
      · rw [if_neg (by omega), if_pos hj, hj]
      · rw [if_pos (by omega)]
    · rw [if_neg w, if_neg (by omega), if_neg (by omega)]
theorem powers_l1 (hn : n ≤ 4) (hs : s < 2) (hmany : many s = nI n) : ∀ (f k : Nat), k ≤ n → n < f + k → f_X9_findWay_l1 many (nI s) f (nI (9 ^ k)) (nI k) = some (nI (9 ^ n)) := by
  intro f
  induction f with
  | zero => intro k h1 h2; omega
  | succ f ih =>
    intro k h1 h2
    unfold f_X9_findWay_l1
    rw [clampI hs, hmany]
    by_cases q : k = n
    · rw [if_pos (nI_le (by omega) (by omega)), q]
    have hk : k < n := by omega
    rw [if_neg (nI_ge hk (by omega)), ← nI_succ, show nI (9 ^ k) * (9 : Int32) = nI (9 ^ (k + 1)) by rw [show (9 : Int32) = nI 9 from rfl, pk_mul, Nat.pow_succ]]
    exact ih (k + 1) (by omega) (by omega)
def RM (n : Nat) (b : WB) (bj bs : Int32) (tk : Nat → Int32) : Prop := bj.toInt = b.1 ∧ bs.toInt = b.2.1 ∧ (0 ≤ b.1 → ∀ k, k < n → tk k = nI (dg n b.2.2 k))
theorem ways_l8 (hn : n ≤ 4) (hs : s < 2) (hmany : many s = nI n) (hc : ∀ m t, c m t ≤ 100000) (hmay : ∀ k t, k < n → t < 8 → f_X9_may (nI (4 * s + k)) (nI t) there x y mx my = some (if may k t = true then 1 else 0)) (hcost : ∀ k t, k < n → t < 8 → may k t = true → f_X9_cost (nI (4 * s + k)) (nI t) x y mx my = some (nI (c k t))) :
    ∀ (f cnt w : Nat) (b : WB) (bj bs : Int32) (tk way : Nat → Int32), w + cnt = 9 ^ n → cnt < f → RM n b bj bs tk → ∃ (bj' bs' : Int32) (tk' way' : Nat → Int32), f_X9_findWay_l8 there x y many mx my (nI s) (nI (9 ^ n)) f bj bs (nI w) tk way = some (tk', way') ∧ RM n (ml may c n cnt w b) bj' bs' tk' := by
  have h9n : 9 ^ n ≤ 9 ^ 4 := Nat.pow_le_pow_right (by decide) hn
  have h94 : (9 : Nat) ^ 4 = 6561 := by decide
  intro f
  induction f with
  | zero => intro cnt w _ _ _ _ _ h1 h2; omega
  | succ f ih =>
    intro cnt w b bj bs tk way h1 h2 hR
    unfold f_X9_findWay_l8
    by_cases q : cnt = 0
    · subst q
      rw [if_pos (nI_le (by omega) (by omega))]
      exact ⟨bj, bs, tk, way, rfl, hR⟩
    obtain ⟨cnt, rfl⟩ : ∃ r, cnt = r + 1 := ⟨cnt - 1, by omega⟩
    obtain ⟨way', e1, e2⟩ := digits_l5 n 16 w way (by omega) hn (by omega)
    have hg : ∀ i, i < n → way' i = nI (dg n w i) := fun i hi => by rw [e2, if_pos hi]; rfl
    rw [if_neg (nI_ge (show w < 9 ^ n by omega) (by omega)), clampI hs, hmany, e1, bnd, isWay_val hn hs hmany hmay hg (fun i => dg_lt n w i), bnd, ← nI_succ]
    show ∃ (bj' bs' : Int32) (tk' way' : Nat → Int32), _ ∧ RM n (ml may c n cnt (w + 1) (lu may c n w b)) bj' bs' tk'
    by_cases hv : vd may (dg n w) n = true
    · have hj := jn_le (dg n w) n
      have hsm := sm_le hc (dg n w) n
      have hs2 : n * 100000 ≤ 4 * 100000 := Nat.mul_le_mul_right _ hn
      have hjt : (nI (jn (dg n w) n)).toInt = (jn (dg n w) n : Int) := nI_toInt (by omega)
      have hst : (nI (sm c (dg n w) n)).toInt = (sm c (dg n w) n : Int) := nI_toInt (by omega)
      have hsum : f_X9_findWay_l6 x y many mx my (nI s) way' 16 0 0 0 = some (nI (jn (dg n w) n), nI (sm c (dg n w) n)) := sums_l6 (c := c) hn hs hmany hcost hg (fun i => dg_lt n w i) hv 16 0 (Nat.zero_le _) (by omega)
      obtain ⟨r1, r2, r3⟩ := hR
      have take : (b.1 < (jn (dg n w) n : Int) ∨ ((jn (dg n w) n : Int) = b.1 ∧ (sm c (dg n w) n : Int) < b.2.1)) → ∃ (bj' bs' : Int32) (tk' way'' : Nat → Int32), f_X9_findWay_j2 (f_X9_findWay_l8 there x y many mx my (nI s) (nI (9 ^ n)) f) many (nI s) (nI w) tk way' (nI (jn (dg n w) n), nI (sm c (dg n w) n)) = some (tk', way'') ∧ RM n (ml may c n cnt (w + 1) (lu may c n w b)) bj' bs' tk' := by
        intro z
        obtain ⟨tk', g1, g2⟩ := copy_l7 (way := way') hn hs hmany 16 0 tk (Nat.zero_le _) (by omega)
        unfold f_X9_findWay_j2
        rw [show (0 : Int32) = nI 0 from rfl, g1, bnd, ← nI_succ]
        refine ih cnt (w + 1) _ _ _ _ _ (by omega) (by omega) ?_
        unfold lu
        rw [if_pos hv, if_pos z]
        exact ⟨hjt, hst, fun _ k hk => by rw [g2, if_pos ⟨Nat.zero_le _, hk⟩, hg k hk]⟩
      have skip : ¬ (b.1 < (jn (dg n w) n : Int) ∨ ((jn (dg n w) n : Int) = b.1 ∧ (sm c (dg n w) n : Int) < b.2.1)) → ∃ (bj' bs' : Int32) (tk' way'' : Nat → Int32), f_X9_findWay_l8 there x y many mx my (nI s) (nI (9 ^ n)) f bj bs (nI (w + 1)) tk way' = some (tk', way'') ∧ RM n (ml may c n cnt (w + 1) (lu may c n w b)) bj' bs' tk' := by
        intro z
        refine ih cnt (w + 1) _ _ _ _ _ (by omega) (by omega) ?_
        unfold lu
        rw [if_pos hv, if_neg z]
        exact ⟨r1, r2, r3⟩
      rw [if_pos hv, if_neg n10]
      rw [hsum, bnd]
      by_cases q1 : b.1 < (jn (dg n w) n : Int)
      · rw [if_pos (show bj < nI (jn (dg n w) n) by rw [Int32.lt_iff_toInt_lt, hjt, r1]; exact q1)]
        exact take (.inl q1)
      · rw [if_neg (show ¬ bj < nI (jn (dg n w) n) by rw [Int32.lt_iff_toInt_lt, hjt, r1]; exact q1)]
        by_cases q2 : (jn (dg n w) n : Int) = b.1
        · rw [if_pos (show nI (jn (dg n w) n) = bj from Int32.toInt_inj.mp (by rw [hjt, r1]; exact q2))]
          by_cases q3 : (sm c (dg n w) n : Int) < b.2.1
          · rw [if_neg (show ¬ bs ≤ nI (sm c (dg n w) n) by rw [Int32.le_iff_toInt_le, hst, r2]; omega)]
            exact take (.inr ⟨q2, q3⟩)
          · rw [if_pos (show bs ≤ nI (sm c (dg n w) n) by rw [Int32.le_iff_toInt_le, hst, r2]; omega)]
            exact skip (by omega)
        · rw [if_neg (show ¬ nI (jn (dg n w) n) = bj from fun z => q2 (by rw [← hjt, z, r1]))]
          exact skip (by omega)
    · rw [if_neg hv, if_pos rfl]
      refine ih cnt (w + 1) _ _ _ _ _ (by omega) (by omega) ?_
      unfold lu
      rw [if_neg hv]
      exact hR
theorem findWay_val (hn : n ≤ 4) (hs : s < 2) (hmany : many s = nI n) (hc : ∀ m t, c m t ≤ 100000) (hmay : ∀ k t, k < n → t < 8 → f_X9_may (nI (4 * s + k)) (nI t) there x y mx my = some (if may k t = true then 1 else 0)) (hcost : ∀ k t, k < n → t < 8 → may k t = true → f_X9_cost (nI (4 * s + k)) (nI t) x y mx my = some (nI (c k t))) (tk way : Nat → Int32) :
    ∃ tk' way' : Nat → Int32, f_X9_findWay (nI s) there x y many mx my tk way = some (tk', way') ∧ ∀ k, k < n → tk' k = nI (dg n (ml may c n (9 ^ n) 0 (-1, 0, 0)).2.2 k) := by
  have h9n : 9 ^ n ≤ 9 ^ 4 := Nat.pow_le_pow_right (by decide) hn
  have h94 : (9 : Nat) ^ 4 = 6561 := by decide
  have p1 := powers_l1 hn hs hmany 16 0 (Nat.zero_le _) (by omega)
  obtain ⟨bj, bs, tk', way', e1, e2, e3, e4⟩ := ways_l8 hn hs hmany hc hmay hcost 6600 (9 ^ n) 0 (-1, 0, 0) (-1) 0 tk way (by omega) (by omega) ⟨rfl, rfl, fun h => absurd h (by decide)⟩
  refine ⟨tk', way', ?_, e4 (ml_all (by omega) _)⟩
  unfold f_X9_findWay
  have p1 : f_X9_findWay_l1 many (nI s) 16 1 0 = some (nI (9 ^ n)) := p1
  have e1 : f_X9_findWay_l8 there x y many mx my (nI s) (nI (9 ^ n)) 6600 (-1) 0 0 tk way = some (tk', way') := e1
  rw [ck_eq (inI hs (by decide)), p1, bnd, e1, bnd]
end
end XFIND
