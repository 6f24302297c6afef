/-! The search of the class goes through all ways. -/
section XSEARCH
/-- a digit as the class keeps it -/
def en (t : Nat) : Int32 := if t = 8 then -1 else nI t
def RB (n : Nat) (b : WB) (bj bs : Int32) (best : Nat → Int32) : Prop := bj.toInt = b.1 ∧ bs.toInt = b.2.1 ∧ (0 ≤ b.1 → ∀ k, k < n → best k = en (dg n b.2.2 k))
theorem keep_l1 {tried : Nat → Int32} : ∀ (f k : Nat) (best : Nat → Int32), k ≤ 4 → 5 ≤ f + k → ∃ b' : Nat → Int32, f_X5_keep_l1 tried f (nI k) best = some b' ∧ ∀ j, b' j = if k ≤ j ∧ j < 4 then tried j else best j := by
  intro f
  induction f with
  | zero => intro k best h1 h2; omega
  | succ f ih =>
    intro k best h1 h2
    unfold f_X5_keep_l1
    by_cases hk : k = 4
    · subst hk
      rw [if_pos (show (4 : Int32) ≤ nI 4 by decide)]
      exact ⟨best, rfl, fun j => by rw [if_neg (by omega)]⟩
    · have hk4 : k < 4 := by omega
      rw [if_neg (show ¬ (4 : Int32) ≤ nI k from nI_ge (a := k) (b := 4) hk4 (by decide)), nI_clamp (show k < 2 ^ 31 by omega), ← nI_succ, ck_eq (inI hk4 (by decide)), ck_eq (inI hk4 (by decide))]
      obtain ⟨b', e1, e2⟩ := ih (k + 1) (upd best k (tried k)) (by omega) (by omega)
      refine ⟨b', e1, fun j => ?_⟩
      rw [e2, hupi]
      by_cases c : k ≤ j ∧ j < 4
      · rw [if_pos c]
        by_cases hj : j = k
        · rw [if_neg (by omega), if_pos hj, hj]
        · rw [if_pos (by omega)]
      · rw [if_neg c, if_neg (by omega), if_neg (by omega)]
theorem keep_val (p q : Int32) (best tried : Nat → Int32) : ∃ b' : Nat → Int32, f_X5_keep p q best tried = some (p, q, b') ∧ ∀ j, j < 4 → b' j = tried j := by
  obtain ⟨b', e1, e2⟩ := keep_l1 (tried := tried) 16 0 best (by decide) (by decide)
  refine ⟨b', ?_, fun j hj => by rw [e2, if_pos ⟨Nat.zero_le _, hj⟩]⟩
  unfold f_X5_keep
  rw [show (0 : Int32) = nI 0 from rfl, e1]
  rfl
section
variable {may : Nat → Nat → Bool} {c : Nat → Nat → Nat}
theorem leaf {n a : Nat} {b : WB} {bj bs : Int32} {best tried : Nat → Int32} (hn : n ≤ 4) (hj : jn (dg n a) n < 2 ^ 31) (hs : sm c (dg n a) n < 2 ^ 31) (hv : vd may (dg n a) n = true) (hR : RB n b bj bs best) (ht : ∀ k, k < n → tried k = en (dg n a k)) (hnc : ¬ (((jn (dg n a) n : Nat) : Int) < b.1 ∨ ((jn (dg n a) n : Nat) : Int) = b.1 ∧ b.2.1 ≤ (sm c (dg n a) n : Int))) :
    ∃ best' : Nat → Int32, f_X5_keep (nI (jn (dg n a) n)) (nI (sm c (dg n a) n)) best tried = some (nI (jn (dg n a) n), nI (sm c (dg n a) n), best') ∧ RB n (ml may c n (9 ^ 0) (a * 9 ^ 0) b) (nI (jn (dg n a) n)) (nI (sm c (dg n a) n)) best' := by
  obtain ⟨b', e1, e2⟩ := keep_val (nI (jn (dg n a) n)) (nI (sm c (dg n a) n)) best tried
  refine ⟨b', e1, ?_⟩
  rw [Nat.pow_zero, Nat.mul_one]
  show RB n (lu may c n a b) _ _ _
  unfold lu
  rw [if_pos hv, if_pos (by omega)]
  exact ⟨nI_toInt hj, nI_toInt hs, fun _ k hk => by rw [e2 k (by omega), ht k hk]⟩
theorem search_ok {n : Nat} (hn : n ≤ 4) (hc : ∀ m t, c m t ≤ 100000) {costs : Nat → Int32} (hco : ∀ m t, m < n → t < 8 → costs (m * 8 + t) = if may m t = true then nI (c m t) else -1) :
    ∀ (d nr m a : Nat) (b : WB) (bj bs : Int32) (best tried taken : Nat → Int32), m + d = n → d < nr → vd may (dg m a) m = true → RB n b bj bs best → (∀ k, k < m → tried k = en (dg m a k)) → (∀ t, t < 8 → (taken t = 0 ↔ fr (dg m a) t m = true)) →
      ∃ (bj' bs' : Int32) (best' tried' taken' : Nat → Int32), f_X5_search nr (nI m) (nI (jn (dg m a) m)) (nI (sm c (dg m a) m)) (nI n) bj bs best tried costs taken = some (bj', bs', best', tried', taken') ∧ RB n (ml may c n (9 ^ d) (a * 9 ^ d) b) bj' bs' best' ∧ (∀ k, k < m → tried' k = tried k) ∧ (∀ t, t < 8 → taken' t = taken t) := by
  intro d
  induction d with
  | zero =>
    intro nr m a b bj bs best tried taken hm hnr hv hR ht hk
    obtain ⟨nr, rfl⟩ : ∃ r, nr = r + 1 := ⟨nr - 1, by omega⟩
    have hm : m = n := by omega
    subst hm
    have hj := jn_le (dg m a) m
    have hs := sm_le hc (dg m a) m
    have hs2 : m * 100000 ≤ 4 * 100000 := Nat.mul_le_mul_right _ hn
    obtain ⟨r1, r2, r3⟩ := hR
    have hjt : (nI (jn (dg m a) m)).toInt = (jn (dg m a) m : Int) := nI_toInt (by omega)
    have hst : (nI (sm c (dg m a) m)).toInt = (sm c (dg m a) m : Int) := nI_toInt (by omega)
    unfold f_X5_search
    rw [nI_add, pk_sub (show m ≤ jn (dg m a) m + m by omega), show jn (dg m a) m + m - m = jn (dg m a) m by omega]
    have cut : (((jn (dg m a) m : Nat) : Int) < b.1 ∨ ((jn (dg m a) m : Nat) : Int) = b.1 ∧ b.2.1 ≤ (sm c (dg m a) m : Int)) → RB m (ml may c m (9 ^ 0) (a * 9 ^ 0) b) bj bs best := by
      intro q
      rw [ml_cut (may := may) (c := c) (n := m) (m := m) (d := 0) (a := a) (b := b) rfl (by rw [Nat.add_zero]; exact q)]
      exact ⟨r1, r2, r3⟩
    by_cases q1 : ((jn (dg m a) m : Nat) : Int) < b.1
    · rw [if_pos (show nI (jn (dg m a) m) < bj by rw [Int32.lt_iff_toInt_lt, hjt, r1]; exact q1)]
      exact ⟨_, _, _, _, _, rfl, cut (.inl q1), fun _ _ => rfl, fun _ _ => rfl⟩
    rw [if_neg (show ¬ nI (jn (dg m a) m) < bj by rw [Int32.lt_iff_toInt_lt, hjt, r1]; exact q1)]
    have go : ¬ (((jn (dg m a) m : Nat) : Int) < b.1 ∨ ((jn (dg m a) m : Nat) : Int) = b.1 ∧ b.2.1 ≤ (sm c (dg m a) m : Int)) → ∃ (bj' bs' : Int32) (best' tried' taken' : Nat → Int32), f_X5_search_j1 (f_X5_search nr) best tried costs taken (nI m) bj bs (nI m) (nI (jn (dg m a) m)) (nI (sm c (dg m a) m)) = some (bj', bs', best', tried', taken') ∧ RB m (ml may c m (9 ^ 0) (a * 9 ^ 0) b) bj' bs' best' ∧ (∀ k, k < m → tried' k = tried k) ∧ (∀ t, t < 8 → taken' t = taken t) := by
      intro q
      obtain ⟨b', e1, e2⟩ := leaf hn (by omega) (by omega) hv ⟨r1, r2, r3⟩ ht q
      unfold f_X5_search_j1
      rw [if_neg (nI_pos (show m < 2 ^ 31 by omega)), if_neg (nI_nlt (Nat.le_refl m) (by omega))]
      simp only [e1, bnd]
      refine ⟨nI (jn (dg m a) m), nI (sm c (dg m a) m), b', tried, taken, ?_, e2, fun _ _ => rfl, fun _ _ => rfl⟩
      first | rfl | (split <;> rfl)
    by_cases q2 : ((jn (dg m a) m : Nat) : Int) = b.1
    · rw [if_pos (show nI (jn (dg m a) m) = bj from Int32.toInt_inj.mp (by rw [hjt, r1]; exact q2))]
      by_cases q3 : (sm c (dg m a) m : Int) < b.2.1
      · rw [if_pos (show nI (sm c (dg m a) m) < bs by rw [Int32.lt_iff_toInt_lt, hst, r2]; exact q3)]
        exact go (by omega)
      · rw [if_neg (show ¬ nI (sm c (dg m a) m) < bs by rw [Int32.lt_iff_toInt_lt, hst, r2]; exact q3)]
        exact ⟨_, _, _, _, _, rfl, cut (.inr ⟨q2, by omega⟩), fun _ _ => rfl, fun _ _ => rfl⟩
    · rw [if_neg (show ¬ nI (jn (dg m a) m) = bj from fun w => q2 (by rw [← hjt, w, r1]))]
      exact go (by omega)
  | succ d ih =>
    intro nr m a b bj bs best tried taken hm hnr hv hR ht hk
    obtain ⟨nr, rfl⟩ : ∃ r, nr = r + 1 := ⟨nr - 1, by omega⟩
    have hmn : m < n := by omega
    have hj := jn_le (dg m a) m
    have hs := sm_le hc (dg m a) m
    have hs2 : m * 100000 ≤ 4 * 100000 := Nat.mul_le_mul_right _ (by omega)
    obtain ⟨r1, r2, r3⟩ := hR
    have hjt : (nI (jn (dg m a) m + (d + 1))).toInt = ((jn (dg m a) m + (d + 1) : Nat) : Int) := nI_toInt (by omega)
    have hst : (nI (sm c (dg m a) m)).toInt = (sm c (dg m a) m : Int) := nI_toInt (by omega)
    unfold f_X5_search
    rw [nI_add, pk_sub (show m ≤ jn (dg m a) m + n by omega), show jn (dg m a) m + n - m = jn (dg m a) m + (d + 1) by omega]
    have cut : (((jn (dg m a) m + (d + 1) : Nat) : Int) < b.1 ∨ ((jn (dg m a) m + (d + 1) : Nat) : Int) = b.1 ∧ b.2.1 ≤ (sm c (dg m a) m : Int)) → RB n (ml may c n (9 ^ (d + 1)) (a * 9 ^ (d + 1)) b) bj bs best := by
      intro q
      rw [ml_cut hm.symm q]
      exact ⟨r1, r2, r3⟩
    by_cases q1 : ((jn (dg m a) m + (d + 1) : Nat) : Int) < b.1
    · rw [if_pos (show nI (jn (dg m a) m + (d + 1)) < bj by rw [Int32.lt_iff_toInt_lt, hjt, r1]; exact q1)]
      exact ⟨_, _, _, _, _, rfl, cut (.inl q1), fun _ _ => rfl, fun _ _ => rfl⟩
    rw [if_neg (show ¬ nI (jn (dg m a) m + (d + 1)) < bj by rw [Int32.lt_iff_toInt_lt, hjt, r1]; exact q1)]
    have loop : ∀ (f k : Nat) (bj bs : Int32) (best tried' taken' : Nat → Int32), k ≤ 8 → 9 ≤ f + k → RB n (ml may c n (k * 9 ^ d) (a * 9 ^ (d + 1)) b) bj bs best → (∀ i, i < m → tried' i = tried i) → (∀ t, t < 8 → taken' t = taken t) →
        ∃ (bj' bs' : Int32) (best' tried'' taken'' : Nat → Int32), f_X5_search_l1 (f_X5_search nr) costs (nI n) (nI m) (nI (jn (dg m a) m)) (nI (sm c (dg m a) m)) f (nI k) bj bs best tried' taken' = some (bj', bs', best', tried'', taken'') ∧ RB n (ml may c n (8 * 9 ^ d) (a * 9 ^ (d + 1)) b) bj' bs' best' ∧ (∀ i, i < m → tried'' i = tried i) ∧ (∀ t, t < 8 → taken'' t = taken t) := by
      intro f
      induction f with
      | zero => intro k _ _ _ _ _ h1 h2; omega
      | succ f ihf =>
        intro k bj bs best tried' taken' h1 h2 hR' htr htk
        unfold f_X5_search_l1
        by_cases hk8 : k = 8
        · subst hk8
          rw [if_pos e8]
          exact ⟨_, _, _, _, _, rfl, hR', htr, htk⟩
        have k8 : k < 8 := by omega
        have hix : nI m * 8 + nI k = nI (m * 8 + k) := by
          rw [show (8 : Int32) = nI 8 from rfl, pk_mul, nI_add]
        have hi32 : m * 8 + k < 32 := by omega
        have esplit : ml may c n ((k + 1) * 9 ^ d) (a * 9 ^ (d + 1)) b = ml may c n (9 ^ d) ((9 * a + k) * 9 ^ d) (ml may c n (k * 9 ^ d) (a * 9 ^ (d + 1)) b) := by
          rw [Nat.add_mul, Nat.one_mul, ml_add, blk]
        have skip : vd may (dg (m + 1) (9 * a + k)) (m + 1) = false → RB n (ml may c n ((k + 1) * 9 ^ d) (a * 9 ^ (d + 1)) b) bj bs best := by
          intro q
          rw [esplit, ml_bad (m := m + 1) (by omega) q]
          exact hR'
        rw [if_neg (g8 k8), hix, ck_eq (inI hi32 (by decide)), nI_clamp (show m * 8 + k < 2 ^ 31 by omega), nI_clamp (show k < 2 ^ 31 by omega), nI_clamp (show m < 2 ^ 31 by omega), ← nI_succ, ← nI_succ, ← nI_succ, hco m k hmn k8]
        by_cases qm : may m k = true
        · have hcb := hc m k
          rw [if_pos qm, if_neg (show ¬ nI (c m k) = -1 from fun w => by
            have := congrArg Int32.toInt w
            rw [nI_toInt (by omega)] at this
            have e : (-1 : Int32).toInt = -1 := rfl
            omega), ck_eq (inI k8 (by decide))]
          by_cases qt : taken' k = 0
          · have qf : fr (dg m a) k m = true := (hk k k8).mp (by rw [← htk k k8]; exact qt)
            have hv' : vd may (dg (m + 1) (9 * a + k)) (m + 1) = true := by
              rw [vd_step (by omega), hv]
              unfold okd
              rw [qm, qf]
              simp
            have ej : jn (dg (m + 1) (9 * a + k)) (m + 1) = jn (dg m a) m + 1 := by rw [jn_step (by omega), if_pos k8]
            have es : sm c (dg (m + 1) (9 * a + k)) (m + 1) = sm c (dg m a) m + c m k := by rw [sm_step (by omega), if_pos k8]
            rw [if_pos qt, ck_eq (inI k8 (by decide)), ck_eq (inI (show m < 4 by omega) (by decide)), nI_add, ← ej, ← es]
            obtain ⟨bj2, bs2, best2, tr2, tk2, e1, e2, e3, e4⟩ := ih nr (m + 1) (9 * a + k) (ml may c n (k * 9 ^ d) (a * 9 ^ (d + 1)) b) bj bs best (upd tried' m (nI k)) (upd taken' k 1) (by omega) (by omega) hv' hR' (fun i hi => by
                rw [hupi]
                by_cases w : i = m
                · rw [if_pos w, w, dg_last (by omega)]
                  unfold en
                  rw [if_neg (by omega)]
                · rw [if_neg w, htr i (by omega), ht i (by omega), dg_step (by omega) (by omega)]) (fun t h8 => by
                rw [hupi, fr_last (by omega)]
                by_cases w : t = k
                · rw [if_pos w, w]
                  simp
                · rw [if_neg w, htk t h8, hk t h8, decide_eq_false (fun z => w z.symm)]
                  simp)
            rw [e1, bnd, ck_eq (inI k8 (by decide))]
            refine ihf (k + 1) bj2 bs2 best2 tr2 (upd tk2 k 0) (by omega) (by omega) (by rw [esplit]; exact e2) (fun i hi => by rw [e3 i (by omega), hupi, if_neg (by omega), htr i hi]) (fun t h8 => ?_)
            rw [hupi]
            by_cases w : t = k
            · rw [if_pos w, w, ← htk k k8, qt]
            · rw [if_neg w, e4 t h8, hupi, if_neg w, htk t h8]
          · rw [if_neg qt]
            refine ihf (k + 1) bj bs best tried' taken' (by omega) (by omega) (skip ?_) htr htk
            rw [vd_step (by omega), hv]
            unfold okd
            have qf : fr (dg m a) k m = false := Bool.eq_false_iff.mpr (fun w => qt (by rw [htk k k8]; exact (hk k k8).mpr w))
            rw [qf, decide_eq_false (show ¬ k = 8 from hk8)]
            simp
        · rw [if_neg qm, if_pos rfl]
          refine ihf (k + 1) bj bs best tried' taken' (by omega) (by omega) (skip ?_) htr htk
          rw [vd_step (by omega), hv]
          unfold okd
          rw [Bool.eq_false_iff.mpr qm, decide_eq_false (show ¬ k = 8 from hk8)]
          rfl
    have go : ∃ (bj' bs' : Int32) (best' tried' taken' : Nat → Int32), f_X5_search_j1 (f_X5_search nr) best tried costs taken (nI n) bj bs (nI m) (nI (jn (dg m a) m)) (nI (sm c (dg m a) m)) = some (bj', bs', best', tried', taken') ∧ RB n (ml may c n (9 ^ (d + 1)) (a * 9 ^ (d + 1)) b) bj' bs' best' ∧ (∀ k, k < m → tried' k = tried k) ∧ (∀ t, t < 8 → taken' t = taken t) := by
      unfold f_X5_search_j1
      rw [if_neg (nI_pos (show m < 2 ^ 31 by omega)), if_neg (show ¬ (4 : Int32) ≤ nI m from nI_ge (a := m) (b := 4) (by omega) (by decide)), if_pos (nI_lt hmn (by omega)), show (0 : Int32) = nI 0 from rfl]
      obtain ⟨bj1, bs1, best1, tr1, tk1, e1, e2, e3, e4⟩ := loop 16 0 bj bs best tried taken (by decide) (by decide) (by rw [Nat.zero_mul]; exact ⟨r1, r2, r3⟩) (fun _ _ => rfl) (fun _ _ => rfl)
      rw [e1, bnd]
      dsimp only
      rw [ck_eq (inI (show m < 4 by omega) (by decide)), ← nI_succ, nI_clamp (show m < 2 ^ 31 by omega)]
      have hv' : vd may (dg (m + 1) (9 * a + 8)) (m + 1) = true := by
        rw [vd_step (by omega), hv]
        rfl
      have ej : jn (dg (m + 1) (9 * a + 8)) (m + 1) = jn (dg m a) m := by rw [jn_step (by omega)]; rfl
      have es : sm c (dg (m + 1) (9 * a + 8)) (m + 1) = sm c (dg m a) m := by rw [sm_step (by omega)]; rfl
      have esplit : ml may c n (9 ^ (d + 1)) (a * 9 ^ (d + 1)) b = ml may c n (9 ^ d) ((9 * a + 8) * 9 ^ d) (ml may c n (8 * 9 ^ d) (a * 9 ^ (d + 1)) b) := by
        rw [← blk, ← ml_add]
        congr 1
        rw [Nat.pow_succ]; omega
      obtain ⟨bj2, bs2, best2, tr2, tk2, g1, g2, g3, g4⟩ := ih nr (m + 1) (9 * a + 8) (ml may c n (8 * 9 ^ d) (a * 9 ^ (d + 1)) b) bj1 bs1 best1 (upd tr1 m (-1)) tk1 (by omega) (by omega) hv' e2 (fun i hi => by
          rw [hupi]
          by_cases w : i = m
          · rw [if_pos w, w, dg_last (by omega)]
            rfl
          · rw [if_neg w, e3 i (by omega), ht i (by omega), dg_step (by omega) (by omega)]) (fun t h8 => by
          rw [e4 t h8, hk t h8, fr_last (by omega), decide_eq_false (show ¬ 8 = t by omega)]
          simp)
      rw [ej, es] at g1
      rw [g1, bnd]
      refine ⟨_, _, _, _, _, rfl, by rw [esplit]; exact g2, fun i hi => ?_, fun t h8 => (g4 t h8).trans (e4 t h8)⟩
      show tr2 i = _
      rw [g3 i (by omega), hupi, if_neg (by omega), e3 i hi]
    by_cases q2 : ((jn (dg m a) m + (d + 1) : Nat) : Int) = b.1
    · rw [if_pos (show nI (jn (dg m a) m + (d + 1)) = bj from Int32.toInt_inj.mp (by rw [hjt, r1]; exact q2))]
      by_cases q3 : (sm c (dg m a) m : Int) < b.2.1
      · rw [if_pos (show nI (sm c (dg m a) m) < bs by rw [Int32.lt_iff_toInt_lt, hst, r2]; exact q3)]
        exact go
      · rw [if_neg (show ¬ nI (sm c (dg m a) m) < bs by rw [Int32.lt_iff_toInt_lt, hst, r2]; exact q3)]
        exact ⟨_, _, _, _, _, rfl, cut (.inr ⟨q2, by omega⟩), fun _ _ => rfl, fun _ _ => rfl⟩
    · rw [if_neg (show ¬ nI (jn (dg m a) m + (d + 1)) = bj from fun w => q2 (by rw [← hjt, w, r1]))]
      exact go
end
end XSEARCH
