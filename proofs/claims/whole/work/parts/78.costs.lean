/-! What it costs to join: class and reference alike; the class's costs, filled in. -/
section XCOSTS
theorem Bd.lim {K : Nat} {a V : UInt64} (h : NN a) (hV : NN V) (h1 : (zv a).natAbs ≤ (zv V).natAbs) (hK : V.toNat % 2 ^ 63 < K * 2 ^ 52) : Bd K a := by
  have e1 := FP.Core.zmag_bits h
  have e2 := FP.Core.zmag_bits hV
  rw [← zv_abs] at e1 e2
  rw [e1, e2, FP.Core.unitsOf_le_iff] at h1
  exact Nat.lt_of_le_of_lt h1 hK
theorem Bd.top {K : Nat} {a V : UInt64} (h : Bd K a) (hn : NN a) (hV : NN V) (hK : K * 2 ^ 52 ≤ V.toNat % 2 ^ 63) : (zv a).natAbs ≤ (zv V).natAbs := by
  have e1 := FP.Core.zmag_bits hn
  have e2 := FP.Core.zmag_bits hV
  rw [← zv_abs] at e1 e2
  rw [e1, e2, FP.Core.unitsOf_le_iff]
  exact Nat.le_of_lt (Nat.lt_of_lt_of_le h hK)
theorem dmul_pos {a b : UInt64} (ha : DF a) (hb : DF b) (h1 : 0 ≤ zv a) (h2 : 0 ≤ zv b) : 0 ≤ zv (FP.dmul a b) := by
  obtain ⟨s, m, q, e⟩ := ha
  obtain ⟨t, d, r, g⟩ := hb
  have fa := FP.Core.val64_fits a
  have fb := FP.Core.val64_fits b
  rw [e] at fa
  rw [g] at fb
  obtain ⟨p1, p2, p3⟩ := FP.Core.product_units fa fb
  unfold zv at h1 h2 ⊢
  rw [e] at h1
  rw [g] at h2
  rw [show FP.Core.val64 (FP.dmul a b) = FP.Core.round FP.Core.b64 (FP.Core.exactProduct (FP.Core.val64 a) (FP.Core.val64 b)) from FP.Core.val64_dmul a b, e, g, p1]
  have hz0 : FP.Core.zval FP.Core.b64 (FP.Core.val64 FP.dconst0) = 0 := zv0
  have k := FP.Core.zval_round_ge FP.Core.good_b64 (s := s != t) (c := m * d) (q := q + r) (e0 := 2 * FP.Core.b64.qmin) (V := FP.Core.val64 FP.dconst0) (FP.Core.val64_fits _) nn0 (by decide +kernel) p2 (by
    rw [hz0, Int.zero_mul, p3]
    have h1 : 0 ≤ FP.Core.signed s (FP.Core.zmag FP.Core.b64 (.fin s m q)) := h1
    have h2 : 0 ≤ FP.Core.signed t (FP.Core.zmag FP.Core.b64 (.fin t d r)) := h2
    revert h1 h2
    generalize FP.Core.zmag FP.Core.b64 (.fin s m q) = A
    generalize FP.Core.zmag FP.Core.b64 (.fin t d r) = B
    intro h1 h2
    cases s with
    | false =>
      cases t with
      | false => show (0 : Int) ≤ ((A * B : Nat) : Int); exact Int.natCast_nonneg _
      | true =>
        have h2 : (0 : Int) ≤ -((B : Nat) : Int) := h2
        have : B = 0 := by omega
        subst this
        rw [Nat.mul_zero]; decide
    | true =>
      have h1 : (0 : Int) ≤ -((A : Nat) : Int) := h1
      have : A = 0 := by omega
      subst this
      rw [Nat.zero_mul]
      cases t <;> decide)
  rw [hz0] at k
  exact k
theorem d2i_small {a : UInt64} (h : NN a) (h0 : 0 ≤ zv a) (h1 : zv a ≤ zv 4665729213955833856) : ∃ q : Nat, q ≤ 8192 ∧ FP.d2i a = nI q := by
  have hv := FP.Core.d2i_val h
  have hz : zv a = FP.Core.signed (FP.Core.sgn (FP.Core.val64 a)) (FP.Core.zmag FP.Core.b64 (FP.Core.val64 a)) := rfl
  have hm := zv_abs a
  have hc : zv 4665729213955833856 = ((8192 * FP.Core.one64 : Nat) : Int) := by decide +kernel
  have hp := FP.Core.one64_pos
  revert hv hz hm
  generalize FP.Core.zmag FP.Core.b64 (FP.Core.val64 a) = Z
  generalize FP.Core.sgn (FP.Core.val64 a) = S
  intro hv hz hm
  have hZ : Z ≤ 8192 * FP.Core.one64 := by omega
  have hq : Z / FP.Core.one64 ≤ 8192 := by
    have := Nat.div_le_div_right (c := FP.Core.one64) hZ
    rwa [Nat.mul_div_cancel _ hp] at this
  have hs : FP.Core.signed S (Z / FP.Core.one64) = ((Z / FP.Core.one64 : Nat) : Int) := by
    cases S with
    | false => rfl
    | true =>
      have hz : zv a = -((Z : Nat) : Int) := hz
      have : Z = 0 := by omega
      subst this
      rw [Nat.zero_div]; rfl
  rw [hs] at hv
  revert hv hq
  generalize Z / FP.Core.one64 = Q
  intro hv hq
  have hv : (FP.d2i a).toInt = (Q : Int) := by
    show (FP.Core.d2i a).toInt = (Q : Int)
    omega
  refine ⟨Q, hq, Int32.toInt_inj.mp ?_⟩
  rw [nI_toInt (by omega), hv]
def mayB (there : Nat → Int32) (x y gx gy : Nat → UInt64) (k t : Nat) : Bool := !decide (there t = 0) && (decide (zv (mg (FP.dsub (gx k) (x t))) ≤ zv 4617315517961601024) && decide (zv (mg (FP.dsub (gy k) (y t))) ≤ zv 4611686018427387904))
def cosD (x y gx gy : Nat → UInt64) (k t : Nat) : UInt64 := FP.dadd (FP.dmul 4636737291354636288 (mg (FP.dsub (gx k) (x t)))) (FP.dmul 4636737291354636288 (mg (FP.dsub (gy k) (y t))))
def cosN (x y gx gy : Nat → UInt64) (k t : Nat) : Nat := min (FP.d2i (cosD x y gx gy k t)).toNatClampNeg 100000
theorem cosN_le (x y gx gy : Nat → UInt64) (k t : Nat) : cosN x y gx gy k t ≤ 100000 := Nat.min_le_right _ _
theorem mayB_iff {there : Nat → Int32} {x y gx gy : Nat → UInt64} {k t : Nat} : mayB there x y gx gy k t = true ↔ ¬ there t = 0 ∧ zv (mg (FP.dsub (gx k) (x t))) ≤ zv 4617315517961601024 ∧ zv (mg (FP.dsub (gy k) (y t))) ≤ zv 4611686018427387904 := by
  unfold mayB
  rw [Bool.and_eq_true, Bool.and_eq_true, decide_eq_true_iff, decide_eq_true_iff, Bool.not_eq_true', decide_eq_false_iff_not]
theorem k5 : NN 4617315517961601024 := by unfold NN; decide +kernel
theorem k2 : NN 4611686018427387904 := by unfold NN; decide +kernel
theorem cost_vals {a b : UInt64} (na : NN a) (nb : NN b) (ha : zv (mg a) ≤ zv 4617315517961601024) (hb : zv (mg b) ≤ zv 4611686018427387904) :
    NN (FP.dmul 4636737291354636288 (mg a)) ∧ NN (FP.dmul 4636737291354636288 (mg b)) ∧ NN (FP.dadd (FP.dmul 4636737291354636288 (mg a)) (FP.dmul 4636737291354636288 (mg b))) ∧ ∃ q : Nat, q ≤ 8192 ∧ FP.d2i (FP.dadd (FP.dmul 4636737291354636288 (mg a)) (FP.dmul 4636737291354636288 (mg b))) = nI q := by
  have pa := mg_zv (a := a)
  have pb := mg_zv (a := b)
  have b1 : Bd 1026 (mg a) := Bd.lim (mg_nn na) k5 (by omega) (by decide)
  have b2 : Bd 1026 (mg b) := Bd.lim (mg_nn nb) k5 (by
    have : zv 4611686018427387904 ≤ zv 4617315517961601024 := by decide +kernel
    omega) (by decide)
  have bh : Bd 1030 4636737291354636288 := by unfold Bd; decide
  have dh := bh.df (by decide)
  have m1 := bh.mul b1 (by decide) (by decide)
  have m2 := bh.mul b2 (by decide) (by decide)
  have s := m1.add m2 (by decide)
  have z1 : 0 ≤ zv 4636737291354636288 := by decide +kernel
  have n1 := (m1.df (by decide)).nn
  have n2 := (m2.df (by decide)).nn
  have n3 := (s.df (by decide)).nn
  refine ⟨n1, n2, n3, d2i_small n3 ?_ ?_⟩
  · have p1 := dmul_pos dh (b1.df (by decide)) z1 (by omega)
    have p2 := dmul_pos dh (b2.df (by decide)) z1 (by omega)
    have := dadd_ge (V := FP.dconst0) (m1.df (by decide)) (m2.df (by decide)) nn0 (by rw [zv0]; omega)
    rwa [zv0] at this
  · have := s.top n3 (V := 4665729213955833856) (by unfold NN; decide +kernel) (by decide)
    have hp : 0 ≤ zv 4665729213955833856 := by decide +kernel
    omega
theorem isThere_val {there : Nat → Int32} {i : Nat} (h : i < 8) : f_X7_isThere (nI i) there = some (if there i = 0 then 0 else 1) := by
  unfold f_X7_isThere
  rw [if_neg (nI_pos (by omega)), if_neg (g8 h), ck_eq (inI h (by decide)), nI_clamp (by omega)]
  split <;> rfl
section
variable {there there' : Nat → Int32} {x y gx gy x' y' mx my : Nat → UInt64} {n s : Nat}
theorem cost_eq {k t : Nat} (ht : t < 8) (h : ¬ there t = 0 → NN (FP.dsub (gx k) (x t)) ∧ NN (FP.dsub (gy k) (y t))) : f_X7_cost (nI t) (gx k) (gy k) there x y = some (if mayB there x y gx gy k t = true then nI (cosN x y gx gy k t) else -1) := by
  unfold f_X7_cost
  rw [isThere_val ht, bnd]
  by_cases q0 : there t = 0
  · rw [if_pos (show (if there t = 0 then (0 : Int32) else 1) = 0 by rw [if_pos q0]), if_neg (fun w => (mayB_iff.mp w).1 q0)]
  obtain ⟨h1, h2⟩ := h q0
  rw [if_neg (show ¬ (if there t = 0 then (0 : Int32) else 1) = 0 by rw [if_neg q0]; decide), ck_eq (inI ht (by decide)), nI_clamp (by omega), ck_eq (nnb_of h1), mag_val h1, bnd, ck_eq (inI ht (by decide)), ck_eq (nnb_of h2), mag_val h2, bnd, i_gt (mg_nn h1) k5, i_le (mg_nn h2) k2]
  by_cases q1 : zv 4617315517961601024 < zv (mg (FP.dsub (gx k) (x t)))
  · rw [if_pos q1, if_neg (fun w => by have := (mayB_iff.mp w).2.1; omega)]
  rw [if_neg q1]
  by_cases q2 : zv (mg (FP.dsub (gy k) (y t))) ≤ zv 4611686018427387904
  · obtain ⟨n1, n2, n3, q, hq, e⟩ := cost_vals h1 h2 (Int.not_lt.mp q1) q2
    rw [if_pos q2, ck_eq (nnb_of n1), ck_eq (nnb_of n2), ck_eq (nnb_of n3), if_pos (mayB_iff.mpr ⟨q0, Int.not_lt.mp q1, q2⟩)]
    unfold cosN cosD
    rw [e, nI_clamp (by omega), Nat.min_eq_left (by omega)]
  · rw [if_neg q2, if_neg (fun w => q2 (mayB_iff.mp w).2.2)]
theorem may_eq {k t : Nat} (ht : t < 8) (hk : 4 * s + k < 8) (h : ¬ there t = 0 → NN (FP.dsub (gx k) (x t)) ∧ NN (FP.dsub (gy k) (y t))) (e0 : there' t = 0 ↔ there t = 0) (e1 : ¬ there t = 0 → x' t = x t ∧ y' t = y t) (e2 : mx (4 * s + k) = gx k ∧ my (4 * s + k) = gy k) : f_X9_may (nI (4 * s + k)) (nI t) there' x' y' mx my = some (if mayB there x y gx gy k t = true then 1 else 0) := by
  obtain ⟨e2, e3⟩ := e2
  unfold f_X9_may
  rw [ck_eq (inI ht (by decide)), nI_clamp (show t < 2 ^ 31 by omega)]
  by_cases q0 : there t = 0
  · rw [if_pos (e0.mpr q0), if_neg (fun w => (mayB_iff.mp w).1 q0)]
  obtain ⟨h1, h2⟩ := h q0
  obtain ⟨ex, ey⟩ := e1 q0
  rw [if_neg (fun w => q0 (e0.mp w)), ck_eq (inI hk (by decide)), ck_eq (inI ht (by decide)), nI_clamp (show 4 * s + k < 2 ^ 31 by omega), e2, e3, ex, ey, ck_eq (nnb_of h1), size_val h1, bnd, i_gt (mg_nn h1) k5]
  by_cases q1 : zv 4617315517961601024 < zv (mg (FP.dsub (gx k) (x t)))
  · rw [if_pos q1, if_neg (fun w => by have := (mayB_iff.mp w).2.1; omega)]
  rw [if_neg q1, ck_eq (inI hk (by decide)), ck_eq (inI ht (by decide)), ck_eq (nnb_of h2), size_val h2, bnd, i_gt (mg_nn h2) k2]
  by_cases q2 : zv 4611686018427387904 < zv (mg (FP.dsub (gy k) (y t)))
  · rw [if_pos q2, if_neg (fun w => by have := (mayB_iff.mp w).2.2; omega)]
  · rw [if_neg q2, if_pos (mayB_iff.mpr ⟨q0, Int.not_lt.mp q1, Int.not_lt.mp q2⟩)]
theorem mcost_eq {k t : Nat} (ht : t < 8) (hk : 4 * s + k < 8) (hm : mayB there x y gx gy k t = true) (h : ¬ there t = 0 → NN (FP.dsub (gx k) (x t)) ∧ NN (FP.dsub (gy k) (y t))) (e1 : ¬ there t = 0 → x' t = x t ∧ y' t = y t) (e2 : mx (4 * s + k) = gx k ∧ my (4 * s + k) = gy k) : f_X9_cost (nI (4 * s + k)) (nI t) x' y' mx my = some (nI (cosN x y gx gy k t)) := by
  obtain ⟨e2, e3⟩ := e2
  obtain ⟨q0, m1, m2⟩ := mayB_iff.mp hm
  obtain ⟨h1, h2⟩ := h q0
  obtain ⟨ex, ey⟩ := e1 q0
  obtain ⟨n1, n2, n3, q, hq, e⟩ := cost_vals h1 h2 m1 m2
  unfold f_X9_cost
  rw [ck_eq (inI hk (by decide)), ck_eq (inI ht (by decide)), nI_clamp (show t < 2 ^ 31 by omega), nI_clamp (show 4 * s + k < 2 ^ 31 by omega), e2, e3, ex, ey, ck_eq (nnb_of h1), size_val h1, bnd, ck_eq (nnb_of n1), ck_eq (inI hk (by decide)), ck_eq (inI ht (by decide)), ck_eq (nnb_of h2), size_val h2, bnd, ck_eq (nnb_of n2), ck_eq (nnb_of n3)]
  unfold cosN cosD
  rw [e, nI_clamp (by omega), Nat.min_eq_left (by omega)]
theorem solve_l2 {m : Nat} (hm : m < 4) {F : Nat → Int32} (hF : ∀ t, t < 8 → f_X7_cost (nI t) (gx m) (gy m) there x y = some (F t)) : ∀ (f t : Nat) (cs : Nat → Int32), t ≤ 8 → 9 ≤ f + t → ∃ cs' : Nat → Int32, f_X5_solve_l2 gx gy there x y (nI m) f (nI t) cs = some cs' ∧ (∀ j, j < m * 8 + t ∨ m * 8 + 8 ≤ j → cs' j = cs j) ∧ ∀ u, t ≤ u → u < 8 → cs' (m * 8 + u) = F u := by
  intro f
  induction f with
  | zero => intro t _ h1 h2; omega
  | succ f ih =>
    intro t cs h1 h2
    unfold f_X5_solve_l2
    by_cases q : t = 8
    · subst q
      rw [if_pos e8]
      exact ⟨cs, rfl, fun _ _ => rfl, fun u a b => by omega⟩
    have t8 : t < 8 := by omega
    have hix : nI m * 8 + nI t = nI (m * 8 + t) := by rw [show (8 : Int32) = nI 8 from rfl, pk_mul, nI_add]
    rw [if_neg (g8 t8), ck_eq (inI hm (by decide)), ck_eq (inI hm (by decide)), nI_clamp (show m < 2 ^ 31 by omega), hF t t8, bnd, hix, ck_eq (inI (show m * 8 + t < 32 by omega) (by decide)), nI_clamp (show m * 8 + t < 2 ^ 31 by omega), ← nI_succ]
    obtain ⟨cs', e1, e2, e3⟩ := ih (t + 1) (upd cs (m * 8 + t) (F t)) (by omega) (by omega)
    refine ⟨cs', e1, fun j hj => ?_, fun u a b => ?_⟩
    · rw [e2 j (by omega), hupi, if_neg (by omega)]
    · by_cases w : u = t
      · rw [w, e2 _ (by omega), hupi, if_pos rfl]
      · exact e3 u (by omega) b
theorem solve_l3 (hn : n ≤ 4) {F : Nat → Nat → Int32} (hF : ∀ k t, k < n → t < 8 → f_X7_cost (nI t) (gx k) (gy k) there x y = some (F k t)) : ∀ (f m : Nat) (cs : Nat → Int32), m ≤ n → n < f + m → ∃ cs' : Nat → Int32, f_X5_solve_l3 gx gy (nI n) there x y f (nI m) cs = some cs' ∧ (∀ j, j < m * 8 → cs' j = cs j) ∧ ∀ k u, m ≤ k → k < n → u < 8 → cs' (k * 8 + u) = F k u := by
  intro f
  induction f with
  | zero => intro m _ h1 h2; omega
  | succ f ih =>
    intro m cs h1 h2
    unfold f_X5_solve_l3
    by_cases q : m = n
    · by_cases q4 : (4 : Int32) ≤ nI m
      · rw [if_pos q4]
        exact ⟨cs, rfl, fun _ _ => rfl, fun k u a b => by omega⟩
      · rw [if_neg q4, if_pos (nI_le (by omega) (by omega))]
        exact ⟨cs, rfl, fun _ _ => rfl, fun k u a b => by omega⟩
    have hm : m < n := by omega
    obtain ⟨c1, g1, g2, g3⟩ := solve_l2 (show m < 4 by omega) (fun t ht => hF m t hm ht) 16 0 cs (by decide) (by decide)
    obtain ⟨c2, e1, e2, e3⟩ := ih (m + 1) c1 (by omega) (by omega)
    rw [if_neg (show ¬ (4 : Int32) ≤ nI m from nI_ge (a := m) (b := 4) (by omega) (by decide)), if_neg (nI_ge hm (by omega)), show (0 : Int32) = nI 0 from rfl, g1, bnd, ← nI_succ]
    refine ⟨c2, e1, fun j hj => ?_, fun k u a b d => ?_⟩
    · rw [e2 j (by omega), g2 j (.inl (by omega))]
    · by_cases w : k = m
      · rw [w, e2 _ (by omega), g3 u (Nat.zero_le _) d]
      · exact e3 k u (by omega) b d
theorem solve_val (hn : n ≤ 4) (h : ∀ k t, k < n → t < 8 → ¬ there t = 0 → NN (FP.dsub (gx k) (x t)) ∧ NN (FP.dsub (gy k) (y t))) {best tried costs taken : Nat → Int32} (ht : ∀ t, t < 8 → taken t = 0) :
    ∃ (bj bs : Int32) (best' tried' costs' taken' : Nat → Int32), f_X5_solve best tried costs taken (nI n) gx gy there x y = some (nI n, bj, bs, best', tried', costs', taken') ∧ (∀ k, k < n → best' k = en (dg n (ml (mayB there x y gx gy) (cosN x y gx gy) n (9 ^ n) 0 (-1, 0, 0)).2.2 k)) ∧ ∀ t, t < 8 → taken' t = 0 := by
  obtain ⟨cs, e1, e2, e3⟩ := solve_l3 hn (F := fun k t => if mayB there x y gx gy k t = true then nI (cosN x y gx gy k t) else -1) (fun k t hk ht => cost_eq ht (h k t hk ht)) 16 0 costs (Nat.zero_le _) (by omega)
  obtain ⟨bj, bs, b', tr', tk', g1, g2, g3, g4⟩ := search_ok (may := mayB there x y gx gy) (c := cosN x y gx gy) hn (cosN_le x y gx gy) (costs := cs) (fun k t hk ht => e3 k t (Nat.zero_le _) hk ht) n 6 0 0 (-1, 0, 0) (-1) 0 best tried taken (by omega) (by omega) rfl ⟨rfl, rfl, fun w => absurd w (by decide)⟩ (fun k hk => by omega) (fun t h8 => ⟨fun _ => rfl, fun _ => ht t h8⟩)
  rw [Nat.zero_mul] at g2
  refine ⟨bj, bs, b', tr', cs, tk', ?_, g2.2.2 (ml_all (by omega) _), fun t h8 => by rw [g4 t h8, ht t h8]⟩
  unfold f_X5_solve
  have e1 : f_X5_solve_l3 gx gy (nI n) there x y 16 0 costs = some cs := e1
  have g1 : f_X5_search 6 0 0 0 (nI n) (-1) 0 best tried cs taken = some (bj, bs, b', tr', tk') := g1
  rw [e1, bnd, g1, bnd]
end
end XCOSTS
