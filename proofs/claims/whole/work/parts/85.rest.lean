/-! The calls object, sign, whole: class and reference alike. -/
section XREST
section
variable {p1 p2 p3 p4 now : UInt64} {n s : Nat}
theorem add_val (hn : n ≤ 4) {x y v : Nat → UInt64} : f_X4_add p1 p2 p3 (nI n) x y v = if n < 4 then some (nI (n + 1), nI (n + 1), vf_upd x n p1, vf_upd y n p2, vf_upd v n p3) else some (-4, nI n, x, y, v) := by
  unfold f_X4_add
  rw [if_neg (nI_pos (show n < 2 ^ 31 by omega))]
  by_cases q : n < 4
  · rw [if_pos q, if_pos (show nI n < (4 : Int32) from nI_lt (a := n) (b := 4) q (by decide)), ck_eq (inI q (by decide)), ck_eq (inI q (by decide)), ck_eq (inI q (by decide)), nI_clamp (by omega), ← nI_succ]
  · rw [if_neg q, if_neg (show ¬ nI n < (4 : Int32) from nI_nlt (a := n) (b := 4) (by omega) (by omega))]
theorem mobject_val (hs : s < 2) (hn : n ≤ 4) {many : Nat → Int32} {mx my mv : Nat → UInt64} (hm : many s = nI n) :
    f_X9_object (nI s) p1 p2 p3 p4 now many mx my mv = (f_X8_within p1 FP.dconst0 4641240890982006784).bind fun u3 => if u3 = 0 then some (-2, 0, many, mx, my, mv) else (f_X8_within p2 13849694754071117824 4626322717216342016).bind fun u5 => if u5 = 0 then some (-2, 0, many, mx, my, mv) else (f_X8_within p3 13845191154443747328 4634626229029306368).bind fun u7 => if u7 = 0 then some (-2, 0, many, mx, my, mv) else (f_X8_within p4 now 4681608360884174848).bind fun u9 => if u9 = 0 then some (-2, 0, many, mx, my, mv) else if n < 4 then some (nI (n + 1), 0, upd many s (nI (n + 1)), vf_upd mx (4 * s + n) p1, vf_upd my (4 * s + n) p2, vf_upd mv (4 * s + n) p3) else some (-4, 0, many, mx, my, mv) := by
  unfold f_X9_object
  simp only [in_within]
  rw [if_neg (nI_pos (show s < 2 ^ 31 by omega)), if_pos (show nI s ≤ (1 : Int32) from nI_le (a := s) (b := 1) (by omega) (by decide))]
  by_cases q : n < 4
  · have hx : 4 * s + n < 8 := by omega
    simp only [ck_eq (inI hs (by decide)), clampI hs, hm, at_I, ck_eq (inI hx (by decide)), nI_clamp (show 4 * s + n < 2 ^ 31 by omega), if_pos q, if_neg (show ¬ nI n = 4 from fun w => absurd ((nI_eq (a := n) (b := 4) (by omega) (by decide)).mp w) (by omega)), ← nI_succ, hupi, if_true]
  · have : n = 4 := by omega
    subst this
    simp only [ck_eq (inI hs (by decide)), clampI hs, hm, if_pos (show nI 4 = 4 from rfl), if_neg q]
theorem object_eq {p0 : Int32} (n1 : NN p1) (n2 : NN p2) (n3 : NN p3) (n4 : NN p4) (hn : NN now) {c0 c1 : Int32} {x0 y0 v0 x1 y1 v1 : Nat → UInt64} {many : Nat → Int32} {mx my mv : Nat → UInt64} (hS : IVS c0 x0 y0 v0 c1 x1 y1 v1 many mx my mv) :
    ∃ (r c02 : Int32) (x02 y02 v02 : Nat → UInt64) (c12 : Int32) (x12 y12 v12 : Nat → UInt64) (many2 : Nat → Int32) (mx2 my2 mv2 : Nat → UInt64), f_X8_object p0 p1 p2 p3 p4 now c0 x0 y0 v0 c1 x1 y1 v1 = some (r, c02, x02, y02, v02, c12, x12, y12, v12) ∧ f_X9_object p0 p1 p2 p3 p4 now many mx my mv = some (r, 0, many2, mx2, my2, mv2) ∧ IVS c02 x02 y02 v02 c12 x12 y12 v12 many2 mx2 my2 mv2 := by
  have keep := hS
  obtain ⟨k0, k1, ⟨l0, l1⟩, ⟨rfl, rfl, m0, m1⟩, h0, h1⟩ := hS
  have n01 : ¬ (0 : Int32) = 1 := by decide
  by_cases q0 : p0 = 0
  · subst q0
    have ex : f_X9_object 0 p1 p2 p3 p4 now many mx my mv = _ := mobject_val (p1 := p1) (p2 := p2) (p3 := p3) (p4 := p4) (now := now) (s := 0) (mx := mx) (my := my) (mv := mv) (by decide) l0 m0
    rw [ex]
    unfold f_X8_object
    simp only [if_true, add_val l0]
    rcases within_val (lo := FP.dconst0) (hi := 4641240890982006784) n1 (bits_df (by decide)).nn (bits_df (by decide)).nn with ⟨r1, e1⟩ | ⟨r1, e1⟩
    · rcases within_val (lo := 13849694754071117824) (hi := 4626322717216342016) n2 (bits_df (by decide)).nn (bits_df (by decide)).nn with ⟨r2, e2⟩ | ⟨r2, e2⟩
      · rcases within_val (lo := 13845191154443747328) (hi := 4634626229029306368) n3 (bits_df (by decide)).nn (bits_df (by decide)).nn with ⟨r3, e3⟩ | ⟨r3, e3⟩
        · rcases isTime_val n4 hn with ⟨r4, e4, e5⟩ | ⟨r4, e4, e5⟩
          · simp only [e1, e2, e3, e4, e5, bnd, if_neg n10]
            by_cases q : k0 < 4
            · simp only [if_pos q, bnd]
              have a1 : zv LX ≤ zv FP.dconst0 := by decide +kernel
              have a2 : zv 4641240890982006784 ≤ zv HX := by decide +kernel
              refine ⟨_, _, _, _, _, _, _, _, _, _, _, _, _, rfl, rfl, k0 + 1, k1, ⟨by omega, l1⟩, ⟨rfl, rfl, by rw [hupi, if_pos rfl], by rw [hupi, if_neg (by decide)]; exact m1⟩, fun k hk => ?_, fun k hk => ?_⟩
              · rw [Nat.mul_zero, Nat.zero_add]
                simp only [hupd]
                by_cases w : k = k0
                · simp only [if_pos w]
                  exact ⟨⟨⟨n1, Int.le_trans a1 r1.1, Int.le_trans r1.2 a2⟩, ⟨n2, r2⟩, ⟨n3, r3⟩⟩, trivial, trivial, trivial⟩
                · simp only [if_neg w]
                  exact h0 k (by omega)
              · rw [Nat.mul_zero, Nat.zero_add]
                simp only [hupd, if_neg (show ¬ 4 + k = k0 by omega)]
                exact h1 k hk
            · simp only [if_neg q, bnd]
              exact ⟨_, _, _, _, _, _, _, _, _, _, _, _, _, rfl, rfl, keep⟩
          · simp only [e1, e2, e3, e4, e5, bnd, if_neg n10, if_true]
            exact ⟨_, _, _, _, _, _, _, _, _, _, _, _, _, rfl, rfl, keep⟩
        · simp only [e1, e2, e3, bnd, if_neg n10, if_true]
          exact ⟨_, _, _, _, _, _, _, _, _, _, _, _, _, rfl, rfl, keep⟩
      · simp only [e1, e2, bnd, if_neg n10, if_true]
        exact ⟨_, _, _, _, _, _, _, _, _, _, _, _, _, rfl, rfl, keep⟩
    · simp only [e1, bnd, if_true]
      exact ⟨_, _, _, _, _, _, _, _, _, _, _, _, _, rfl, rfl, keep⟩
  · by_cases q1 : p0 = 1
    · subst q1
      have ex : f_X9_object 1 p1 p2 p3 p4 now many mx my mv = _ := mobject_val (p1 := p1) (p2 := p2) (p3 := p3) (p4 := p4) (now := now) (s := 1) (mx := mx) (my := my) (mv := mv) (by decide) l1 m1
      rw [ex]
      unfold f_X8_object
      simp only [if_neg n10, if_true, add_val l1]
      rcases within_val (lo := FP.dconst0) (hi := 4641240890982006784) n1 (bits_df (by decide)).nn (bits_df (by decide)).nn with ⟨r1, e1⟩ | ⟨r1, e1⟩
      · rcases within_val (lo := 13849694754071117824) (hi := 4626322717216342016) n2 (bits_df (by decide)).nn (bits_df (by decide)).nn with ⟨r2, e2⟩ | ⟨r2, e2⟩
        · rcases within_val (lo := 13845191154443747328) (hi := 4634626229029306368) n3 (bits_df (by decide)).nn (bits_df (by decide)).nn with ⟨r3, e3⟩ | ⟨r3, e3⟩
          · rcases isTime_val n4 hn with ⟨r4, e4, e5⟩ | ⟨r4, e4, e5⟩
            · simp only [e1, e2, e3, e4, e5, bnd, if_neg n10]
              by_cases q : k1 < 4
              · simp only [if_pos q, bnd]
                have a1 : zv LX ≤ zv FP.dconst0 := by decide +kernel
                have a2 : zv 4641240890982006784 ≤ zv HX := by decide +kernel
                refine ⟨_, _, _, _, _, _, _, _, _, _, _, _, _, rfl, rfl, k0, k1 + 1, ⟨l0, by omega⟩, ⟨rfl, rfl, by rw [hupi, if_neg (by decide)]; exact m0, by rw [hupi, if_pos rfl]⟩, fun k hk => ?_, fun k hk => ?_⟩
                · rw [Nat.mul_one]
                  simp only [hupd, if_neg (show ¬ k = 4 + k1 by omega)]
                  exact h0 k hk
                · rw [Nat.mul_one]
                  simp only [hupd]
                  by_cases w : k = k1
                  · simp only [if_pos w, if_pos (show 4 + k = 4 + k1 by omega)]
                    exact ⟨⟨⟨n1, Int.le_trans a1 r1.1, Int.le_trans r1.2 a2⟩, ⟨n2, r2⟩, ⟨n3, r3⟩⟩, trivial, trivial, trivial⟩
                  · simp only [if_neg w, if_neg (show ¬ 4 + k = 4 + k1 by omega)]
                    exact h1 k (by omega)
              · simp only [if_neg q, bnd]
                exact ⟨_, _, _, _, _, _, _, _, _, _, _, _, _, rfl, rfl, keep⟩
            · simp only [e1, e2, e3, e4, e5, bnd, if_neg n10, if_true]
              exact ⟨_, _, _, _, _, _, _, _, _, _, _, _, _, rfl, rfl, keep⟩
          · simp only [e1, e2, e3, bnd, if_neg n10, if_true]
            exact ⟨_, _, _, _, _, _, _, _, _, _, _, _, _, rfl, rfl, keep⟩
        · simp only [e1, e2, bnd, if_neg n10, if_true]
          exact ⟨_, _, _, _, _, _, _, _, _, _, _, _, _, rfl, rfl, keep⟩
      · simp only [e1, bnd, if_true]
        exact ⟨_, _, _, _, _, _, _, _, _, _, _, _, _, rfl, rfl, keep⟩
    · refine ⟨-1, _, _, _, _, _, _, _, _, _, _, _, _, ?_, ?_, keep⟩
      · unfold f_X8_object
        rw [if_neg q0, if_neg q1]
      · unfold f_X9_object
        by_cases w : p0 < 0
        · rw [if_pos w]
        · have w1 : ¬ p0 ≤ 1 := by
            intro z
            have a1 := Int32.le_iff_toInt_le.mp (Int32.not_lt.mp w)
            have a2 := Int32.le_iff_toInt_le.mp z
            have a3 : p0.toInt ≠ 0 := toInt_ne q0 rfl
            have a4 : p0.toInt ≠ 1 := toInt_ne q1 rfl
            have b1 : (0 : Int32).toInt = 0 := rfl
            have b2 : (1 : Int32).toInt = 1 := rfl
            omega
          rw [if_neg w, if_neg w1]
end
/-! signs -/
def ncn (q w j c : Nat) : Nat := if j = q then c + w else c - 1
section
variable {q w : Nat} {p1 : Int32}
theorem g13 {k : Nat} (h : k < 14) : ¬ (13 : Int32) < nI k := nI_nlt (a := 13) (b := k) (by omega) (by decide)
theorem see_l1 (hw : f_X6_weight p1 = some (nI w)) (hw2 : w ≤ 2) (hq : q < 14) {cs : Nat → Nat} (hc : ∀ j, cs j ≤ 3) : ∀ (f k : Nat) (flag : Int32) (a : Nat → Int32), 1 ≤ k → k ≤ 14 → 15 ≤ f + k → (∀ j, k ≤ j → j < 14 → a j = nI (cs j)) →
    ∃ (flag' : Int32) (a' : Nat → Int32), f_X6_see_l1 (nI q) p1 f flag (nI k) a = some (flag', a') ∧ (∀ j, a' j = if k ≤ j ∧ j < 14 then nI (ncn q w j (cs j)) else a j) ∧ flag' = if k ≤ q then (if 4 ≤ cs q + w then 1 else 0) else flag := by
  intro f
  induction f with
  | zero => intro k flag a h0 h1 h2; omega
  | succ f ih =>
    intro k flag a h0 h1 h2 ha
    unfold f_X6_see_l1
    by_cases e : k = 14
    · subst e
      rw [if_pos (show (13 : Int32) < nI 14 by decide)]
      exact ⟨flag, a, rfl, fun j => by rw [if_neg (by omega)], by rw [if_neg (by omega)]⟩
    have k14 : k < 14 := by omega
    have hck := hc k
    have next : ∀ (flag1 : Int32) (a1 : Nat → Int32), (∀ j, a1 j = if j = k then nI (ncn q w k (cs k)) else a j) → flag1 = (if k = q then (if 4 ≤ cs q + w then 1 else 0) else flag) → ∃ (flag' : Int32) (a' : Nat → Int32), f_X6_see_l1 (nI q) p1 f flag1 (nI (k + 1)) a1 = some (flag', a') ∧ (∀ j, a' j = if k ≤ j ∧ j < 14 then nI (ncn q w j (cs j)) else a j) ∧ flag' = if k ≤ q then (if 4 ≤ cs q + w then 1 else 0) else flag := by
      intro flag1 a1 h3 h4
      obtain ⟨fl, a', e1, e2, e3⟩ := ih (k + 1) flag1 a1 (by omega) (by omega) (by omega) (fun j b1 b2 => by rw [h3, if_neg (by omega)]; exact ha j (by omega) b2)
      refine ⟨fl, a', e1, fun j => ?_, ?_⟩
      · rw [e2, h3]
        by_cases z : j = k
        · rw [if_neg (by omega), if_pos z, if_pos (by omega), z]
        · rw [if_neg z]
          by_cases z2 : k + 1 ≤ j ∧ j < 14
          · rw [if_pos z2, if_pos (by omega)]
          · rw [if_neg z2, if_neg (by omega)]
      · rw [e3, h4]
        by_cases z : k = q
        · rw [if_neg (show ¬ k + 1 ≤ q by omega), if_pos z, if_pos (show k ≤ q by omega)]
        · rw [if_neg z]
          by_cases z2 : k + 1 ≤ q
          · rw [if_pos z2, if_pos (show k ≤ q by omega)]
          · rw [if_neg z2, if_neg (show ¬ k ≤ q by omega)]
    have hk := ha k (Nat.le_refl _) k14
    rw [if_neg (g13 k14), nI_clamp (show k < 2 ^ 31 by omega), ← nI_succ]
    simp only [ck_eq (inI k14 (by decide)), hw, bnd, hk]
    by_cases z : k = q
    · have en : ncn q w k (cs k) = cs k + w := by unfold ncn; rw [if_pos z]
      rw [if_pos (show nI k = nI q by rw [z])]
      simp only [nI_add, hupi, if_true]
      have key : ∀ j, upd a k (nI (cs k + w)) j = if j = k then nI (ncn q w k (cs k)) else a j := fun j => by rw [hupi, en]
      by_cases z4 : 4 ≤ cs k + w
      · rw [if_neg (show ¬ nI (cs k + w) < 4 from nI_nlt (a := cs k + w) (b := 4) z4 (by omega))]
        exact next 1 _ key (by rw [if_pos z, ← z, if_pos z4])
      · rw [if_pos (show nI (cs k + w) < 4 from nI_lt (a := cs k + w) (b := 4) (by omega) (by decide))]
        exact next 0 _ key (by rw [if_pos z, ← z, if_neg z4])
    · have en : ncn q w k (cs k) = cs k - 1 := by unfold ncn; rw [if_neg z]
      rw [if_neg (fun z2 => z ((nI_eq (by omega) (by omega)).mp z2))]
      by_cases z0 : cs k = 0
      · rw [if_pos (show nI (cs k) ≤ 0 by rw [z0]; decide)]
        refine next flag a (fun j => ?_) (by rw [if_neg z])
        by_cases zj : j = k
        · rw [if_pos zj, zj, hk, en, z0]
        · rw [if_neg zj]
      · rw [if_neg (nI_nle (by omega) (by omega))]
        refine next flag _ (fun j => ?_) (by rw [if_neg z])
        rw [hupi, en, show nI (cs k) - 1 = nI (cs k - 1) from by
          obtain ⟨c, hc'⟩ : ∃ c, cs k = c + 1 := ⟨cs k - 1, by omega⟩
          rw [hc', nI_pred]; rfl]
theorem msee_l1 (hw : f_X6_weight p1 = some (nI w)) (hw2 : w ≤ 2) (hq : q < 14) {cs : Nat → Nat} (hc : ∀ j, cs j ≤ 3) : ∀ (f k : Nat) (a : Nat → Int32), 1 ≤ k → k ≤ 14 → 15 ≤ f + k → (∀ j, k ≤ j → j < 14 → a j = nI (cs j)) →
    ∃ a' : Nat → Int32, f_X9_sign_l1 (nI q) p1 f (nI k) a = some a' ∧ ∀ j, a' j = if k ≤ j ∧ j < 14 then nI (ncn q w j (cs j)) else a j := by
  intro f
  induction f with
  | zero => intro k a h0 h1 h2; omega
  | succ f ih =>
    intro k a h0 h1 h2 ha
    unfold f_X9_sign_l1
    by_cases e : k = 14
    · subst e
      rw [if_pos (show (13 : Int32) < nI 14 by decide)]
      exact ⟨a, rfl, fun j => by rw [if_neg (by omega)]⟩
    have k14 : k < 14 := by omega
    have hck := hc k
    have next : ∀ (a1 : Nat → Int32), (∀ j, a1 j = if j = k then nI (ncn q w k (cs k)) else a j) → ∃ a' : Nat → Int32, f_X9_sign_l1 (nI q) p1 f (nI (k + 1)) a1 = some a' ∧ ∀ j, a' j = if k ≤ j ∧ j < 14 then nI (ncn q w j (cs j)) else a j := by
      intro a1 h3
      obtain ⟨a', e1, e2⟩ := ih (k + 1) a1 (by omega) (by omega) (by omega) (fun j b1 b2 => by rw [h3, if_neg (by omega)]; exact ha j (by omega) b2)
      refine ⟨a', e1, fun j => ?_⟩
      rw [e2, h3]
      by_cases z : j = k
      · rw [if_neg (by omega), if_pos z, if_pos (by omega), z]
      · rw [if_neg z]
        by_cases z2 : k + 1 ≤ j ∧ j < 14
        · rw [if_pos z2, if_pos (by omega)]
        · rw [if_neg z2, if_neg (by omega)]
    have hk := ha k (Nat.le_refl _) k14
    rw [if_neg (g13 k14), nI_clamp (show k < 2 ^ 31 by omega), ← nI_succ]
    simp only [ck_eq (inI k14 (by decide)), hk]
    by_cases z : k = q
    · have en : ncn q w k (cs k) = cs k + w := by unfold ncn; rw [if_pos z]
      have key : ∀ u : Nat, u = w → ∀ j, upd a k (nI (cs k) + nI u) j = if j = k then nI (ncn q w k (cs k)) else a j := fun u hu j => by rw [hupi, en, nI_add, hu]
      have wi : ∀ u : Nat, u ≤ 2 → f_X6_weight p1 = some (nI u) → u = w := fun u hu h => by
        rw [hw] at h
        exact ((nI_eq (by omega) (by omega)).mp (Option.some.inj h)).symm
      rw [if_pos (show nI k = nI q by rw [z])]
      by_cases z6 : p1 < 60
      · by_cases z3 : p1 < 30
        · rw [if_pos z6, if_pos z3]
          exact next _ (key 0 (wi 0 (by decide) (by unfold f_X6_weight; rw [if_pos z6, if_pos z3]; rfl)))
        · rw [if_pos z6, if_neg z3]
          exact next _ (key 1 (wi 1 (by decide) (by unfold f_X6_weight; rw [if_pos z6, if_neg z3]; rfl)))
      · rw [if_neg z6]
        exact next _ (key 2 (wi 2 (by decide) (by unfold f_X6_weight; rw [if_neg z6]; rfl)))
    · have en : ncn q w k (cs k) = cs k - 1 := by unfold ncn; rw [if_neg z]
      rw [if_neg (fun z2 => z ((nI_eq (by omega) (by omega)).mp z2))]
      by_cases z0 : cs k = 0
      · rw [if_pos (show nI (cs k) ≤ 0 by rw [z0]; decide)]
        refine next _ (fun j => ?_)
        rw [hupi, en, z0]
        rfl
      · rw [if_neg (nI_nle (by omega) (by omega))]
        refine next _ (fun j => ?_)
        rw [hupi, en, show nI (cs k) - 1 = nI (cs k - 1) from by
          obtain ⟨c, hc'⟩ : ∃ c, cs k = c + 1 := ⟨cs k - 1, by omega⟩
          rw [hc', nI_pred]; rfl]
theorem take_l1 : ∀ (f k : Nat) (a : Nat → Int32), 1 ≤ k → k ≤ 14 → 15 ≤ f + k → ∃ a' : Nat → Int32, f_X6_take_l1 f (nI k) a = some a' ∧ ∀ j, a' j = if k ≤ j ∧ j < 14 then 0 else a j := by
  intro f
  induction f with
  | zero => intro k a h0 h1 h2; omega
  | succ f ih =>
    intro k a h0 h1 h2
    unfold f_X6_take_l1
    by_cases e : k = 14
    · subst e
      rw [if_pos (show (13 : Int32) < nI 14 by decide)]
      exact ⟨a, rfl, fun j => by rw [if_neg (by omega)]⟩
    have k14 : k < 14 := by omega
    rw [if_neg (g13 k14), nI_clamp (show k < 2 ^ 31 by omega), ← nI_succ, ck_eq (inI k14 (by decide))]
    obtain ⟨a', e1, e2⟩ := ih (k + 1) (upd a k 0) (by omega) (by omega) (by omega)
    refine ⟨a', e1, fun j => ?_⟩
    rw [e2, hupi]
    by_cases z : j = k
    · rw [if_neg (by omega), if_pos z, if_pos (by omega)]
    · rw [if_neg z]
      by_cases z2 : k + 1 ≤ j ∧ j < 14
      · rw [if_pos z2, if_pos (by omega)]
      · rw [if_neg z2, if_neg (by omega)]
end
theorem take_same : ∀ (f : Nat) (k : Int32) (a : Nat → Int32), f_X9_sign_l2 f k a = f_X6_take_l1 f k a := by
  intro f
  induction f with
  | zero => intro k a; rfl
  | succ f ih =>
    intro k a
    unfold f_X9_sign_l2 f_X6_take_l1
    simp only [ih]
def IVG (a b : Nat → Int32) : Prop := ∃ cs : Nat → Nat, (∀ j, cs j ≤ 3) ∧ ∀ j, 1 ≤ j → j < 14 → a j = nI (cs j) ∧ b j = nI (cs j)
theorem weight_val (p1 : Int32) : ∃ w : Nat, w ≤ 2 ∧ f_X6_weight p1 = some (nI w) := by
  unfold f_X6_weight
  split
  · split
    · exact ⟨0, by decide, rfl⟩
    · exact ⟨1, by decide, rfl⟩
  · exact ⟨2, by decide, rfl⟩
theorem sign_eq {p0 p1 tk : Int32} {a b : Nat → Int32} (hG : IVG a b) : ∃ (r tk2 : Int32) (a2 b2 : Nat → Int32), f_X8_sign p0 p1 tk a = some (r, tk2, a2) ∧ f_X9_sign p0 p1 tk b = some (r, 0, tk2, b2) ∧ IVG a2 b2 := by
  unfold f_X8_sign f_X9_sign
  by_cases q1 : p0 < 1
  · rw [if_pos q1, if_pos q1]; exact ⟨_, _, _, _, rfl, rfl, hG⟩
  rw [if_neg q1, if_neg q1]
  by_cases q2 : p0 ≤ 13
  · rw [if_pos q2, if_pos q2]
    by_cases q3 : p1 < 0
    · rw [if_pos q3, if_pos q3]; exact ⟨_, _, _, _, rfl, rfl, hG⟩
    rw [if_neg q3, if_neg q3]
    by_cases q4 : p1 ≤ 100
    · rw [if_pos q4, if_pos q4]
      have h0 : ¬ p0 < 0 := by
        intro w
        have a1 := Int32.lt_iff_toInt_lt.mp w
        have a2 : ¬ p0.toInt < (1 : Int32).toInt := fun z => q1 (Int32.lt_iff_toInt_lt.mpr z)
        have b1 : (0 : Int32).toInt = 0 := rfl
        have b2 : (1 : Int32).toInt = 1 := rfl
        omega
      obtain ⟨q, hq, rfl⟩ := nI_of2 (M := 13) (n := 13) rfl h0 q2
      have hq1 : 1 ≤ q := Nat.le_of_not_lt (fun z => q1 (nI_lt (a := q) (b := 1) z (by decide)))
      obtain ⟨cs, hc, hab⟩ := hG
      obtain ⟨w, hw2, hw⟩ := weight_val p1
      obtain ⟨fl, a', e1, e2, e3⟩ := see_l1 (q := q) hw hw2 (by omega) hc 16 1 0 a (by decide) (by decide) (by decide) (fun j x1 x2 => (hab j x1 x2).1)
      obtain ⟨b', g1, g2⟩ := msee_l1 (q := q) hw hw2 (by omega) hc 16 1 b (by decide) (by decide) (by decide) (fun j x1 x2 => (hab j x1 x2).2)
      have e1 : f_X6_see_l1 (nI q) p1 16 0 1 a = some (fl, a') := e1
      have g1 : f_X9_sign_l1 (nI q) p1 16 1 b = some b' := g1
      have hcq := hc q
      have en : ncn q w q (cs q) = cs q + w := by unfold ncn; rw [if_pos rfl]
      have gq : b' q = nI (cs q + w) := by rw [g2, if_pos ⟨hq1, by omega⟩, en]
      rw [if_pos hq1] at e3
      unfold f_X6_see
      simp only [e1, g1, bnd, ck_eq (inI (show q < 14 by omega) (show 14 < 2 ^ 31 by decide)), nI_clamp (show q < 2 ^ 31 by omega), gq]
      by_cases z : 4 ≤ cs q + w
      · rw [if_pos z] at e3
        subst e3
        obtain ⟨a2, t1, t2⟩ := take_l1 16 1 a' (by decide) (by decide) (by decide)
        obtain ⟨b2, s1, s2⟩ := take_l1 16 1 b' (by decide) (by decide) (by decide)
        have t1 : f_X6_take_l1 16 1 a' = some a2 := t1
        have s1 : f_X6_take_l1 16 1 b' = some b2 := s1
        unfold f_X6_take
        simp only [if_neg (show ¬ nI (cs q + w) < 4 from nI_nlt (a := cs q + w) (b := 4) z (by omega)), if_neg n10, take_same, t1, s1, bnd]
        refine ⟨_, _, _, _, rfl, rfl, fun _ => 0, fun _ => Nat.zero_le 3, fun j x1 x2 => ?_⟩
        exact ⟨by rw [t2, if_pos ⟨x1, x2⟩]; rfl, by rw [s2, if_pos ⟨x1, x2⟩]; rfl⟩
      · rw [if_neg z] at e3
        subst e3
        simp only [if_pos (show nI (cs q + w) < 4 from nI_lt (a := cs q + w) (b := 4) (by omega) (by decide)), if_true, bnd]
        refine ⟨_, _, _, _, rfl, rfl, fun j => if j = q then cs q + w else cs j - 1, fun j => ?_, fun j x1 x2 => ?_⟩
        · have := hc j
          show (if j = q then cs q + w else cs j - 1) ≤ 3
          split <;> omega
        · have ej : ncn q w j (cs j) = if j = q then cs q + w else cs j - 1 := by
            unfold ncn
            by_cases zj : j = q
            · rw [if_pos zj, if_pos zj, zj]
            · rw [if_neg zj, if_neg zj]
          exact ⟨by rw [e2, if_pos ⟨x1, x2⟩, ej], by rw [g2, if_pos ⟨x1, x2⟩, ej]⟩
    · rw [if_neg q4, if_neg q4]; exact ⟨_, _, _, _, rfl, rfl, hG⟩
  · rw [if_neg q2, if_neg q2]; exact ⟨_, _, _, _, rfl, rfl, hG⟩
theorem whole_eq (p0 p1 : Int64) (o : Nat → Int64) : ∃ (k : Int32) (o' : Nat → Int64) (b : Int64), f_L_whole p0 p1 o = some (k, o') ∧ f_X9_whole p0 p1 = some (b, k) ∧ (k = 0 → lg_cmp (o' 0) b = 0) := by
  unfold f_L_whole f_X9_whole f_X9_whole_j1
  by_cases q : p1 = 0
  · have q2 := (lg_cmp_eq p1 0).mpr q
    rw [if_pos q, if_pos q2, if_pos q2]
    exact ⟨_, _, _, rfl, rfl, fun w => absurd w n10⟩
  · have q2 : ¬ lg_cmp p1 0 = 0 := fun w => q ((lg_cmp_eq p1 0).mp w)
    rw [if_neg q, if_neg q2, if_neg q2, ck_eq q]
    refine ⟨_, _, _, rfl, rfl, fun _ => (lg_cmp_eq _ _).mpr ?_⟩
    unfold vp_updL
    rfl
end XREST
