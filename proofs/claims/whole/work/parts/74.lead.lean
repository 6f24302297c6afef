/-! The lead: class and reference alike. -/
section XLEAD
def mdl (x o s c : UInt64) : UInt64 := FP.dadd o (FP.dmul x (FP.dadd s (FP.dmul x c)))
/-- no NaN on the way to the middle -/
def Mid (x o s c : UInt64) : Prop := NN (FP.dmul x c) ∧ NN (FP.dadd s (FP.dmul x c)) ∧ NN (FP.dmul x (FP.dadd s (FP.dmul x c))) ∧ NN (mdl x o s c)
theorem middle_val {x o s c : UInt64} (h : Mid x o s c) : f_X2_middle x o s c = some (mdl x o s c) := by
  obtain ⟨h1, h2, h3, h4⟩ := h
  unfold f_X2_middle
  rw [ck_eq (nnb_of h1), ck_eq (nnb_of h2), ck_eq (nnb_of h3), ck_eq (nnb_of (show NN (FP.dadd o (FP.dmul x (FP.dadd s (FP.dmul x c)))) from h4))]
  rfl
/-- the lead so far -/
def LeadAt (there : Nat → Int32) (x : Nat → UInt64) (lead : Int32) (least : UInt64) : Prop := lead = -1 ∨ ∃ i, i < 8 ∧ lead = nI i ∧ ¬ there i = 0 ∧ least = x i
theorem nI_ne {i : Nat} (h : i < 8) : ¬ nI i = -1 := by
  intro q
  have := congrArg Int32.toInt q
  rw [nI_toInt (by omega)] at this
  have e : (-1 : Int32).toInt = -1 := rfl
  omega
theorem lead_l1 {there mt : Nat → Int32} {x y mx my : Nat → UInt64} {sure ms : Nat → Int32} {o s c : UInt64} (hM : ∀ j, j < 8 → (mt j = 0 ↔ there j = 0)) (hE : ∀ j, j < 8 → ¬ there j = 0 → mx j = x j ∧ my j = y j ∧ ms j = sure j) (hmid : ∀ j, j < 8 → Mid (mx j) o s c) (hy : ∀ j, j < 8 → ¬ there j = 0 → NN (FP.dsub (y j) (mdl (x j) o s c)) ∧ NN (x j)) :
    ∀ (n k : Nat) (lead : Int32) (least : UInt64), k ≤ 8 → 9 ≤ n + k → LeadAt there x lead least →
      ∃ r : Int32, f_X7_leadOn_l1 there x y sure o s c n lead least (nI k) = some r ∧ f_X9_findLead_l1 mt mx my ms o s c n (nI k) lead = some r ∧ ∃ l, LeadAt there x r l := by
  intro n
  induction n with
  | zero => intro k lead least h1 h2; omega
  | succ n ih =>
    intro k lead least h1 h2 hL
    unfold f_X7_leadOn_l1 f_X9_findLead_l1
    by_cases hk : k = 8
    · subst hk
      rw [if_pos e8, if_pos e8]
      exact ⟨lead, rfl, rfl, least, hL⟩
    · have hk8 : k < 8 := by omega
      obtain ⟨m1, m2, m3, m4⟩ := hmid k hk8
      have m4' : NN (FP.dadd o (FP.dmul (mx k) (FP.dadd s (FP.dmul (mx k) c)))) := m4
      rw [if_neg (g8 hk8), if_neg (g8 hk8), nI_clamp (show k < 2 ^ 31 by omega), ← nI_succ]
      simp only [ck_eq (inI hk8 (by decide)), ck_eq (nnb_of m1), ck_eq (nnb_of m2), ck_eq (nnb_of m3), ck_eq (nnb_of m4')]
      have no : f_X7_leadOn_j2 (f_X7_leadOn_l1 there x y sure o s c n) x lead least (nI k) 0 = f_X7_leadOn_l1 there x y sure o s c n lead least (nI (k + 1)) := by
        unfold f_X7_leadOn_j2; rw [if_pos rfl, ← nI_succ]
      by_cases t0 : there k = 0
      · rw [if_pos t0, if_pos ((hM k hk8).mpr t0), no]
        exact ih (k + 1) lead least (by omega) (by omega) hL
      obtain ⟨ex, ey, es⟩ := hE k hk8 t0
      obtain ⟨ny, nx⟩ := hy k hk8 t0
      rw [if_neg t0, if_neg (fun w => t0 ((hM k hk8).mp w)), es, ex, ey]
      by_cases s3 : sure k < 3
      · rw [if_pos s3, if_pos s3, no]
        exact ih (k + 1) lead least (by omega) (by omega) hL
      have ny' : NN (FP.dsub (y k) (FP.dadd o (FP.dmul (x k) (FP.dadd s (FP.dmul (x k) c))))) := ny
      have k175 : NN 4610560118520545280 := by unfold NN; decide +kernel
      rw [if_neg s3, if_neg s3, middle_val (ex ▸ hmid k hk8), bnd, ck_eq (nnb_of ny), ck_eq (nnb_of ny'), mag_val ny, size_val ny', bnd, bnd, i_gt (mg_nn ny) k175, i_gt (mg_nn ny') k175]
      by_cases w : zv 4610560118520545280 < zv (mg (FP.dsub (y k) (mdl (x k) o s c)))
      · rw [if_pos w, if_pos (show zv 4610560118520545280 < zv (mg (FP.dsub (y k) (FP.dadd o (FP.dmul (x k) (FP.dadd s (FP.dmul (x k) c)))))) from w), no]
        exact ih (k + 1) lead least (by omega) (by omega) hL
      rw [if_neg w, if_neg (show ¬ zv 4610560118520545280 < zv (mg (FP.dsub (y k) (FP.dadd o (FP.dmul (x k) (FP.dadd s (FP.dmul (x k) c)))))) from w)]
      unfold f_X7_leadOn_j2
      rw [if_neg n10, nI_clamp (show k < 2 ^ 31 by omega), ← nI_succ]
      simp only [ck_eq (inI hk8 (by decide))]
      rcases hL with hL | ⟨i, hi, hL, ht, hl⟩
      · rw [if_pos hL, if_pos (show lead < 0 by rw [hL]; decide)]
        exact ih (k + 1) (nI k) (x k) (by omega) (by omega) (.inr ⟨k, hk8, rfl, t0, rfl⟩)
      · obtain ⟨exi, -, -⟩ := hE i hi ht
        obtain ⟨-, nxi⟩ := hy i hi ht
        rw [if_neg (show ¬ lead = -1 by rw [hL]; exact nI_ne hi), if_neg (show ¬ lead < 0 by rw [hL]; exact nI_pos (by omega)), ck_eq (show inb lead 8 = true by rw [hL]; exact inI hi (by decide)), show lead.toNatClampNeg = i by rw [hL]; exact nI_clamp (by omega), exi, hl, i_ge nx nxi, i_ge nx nxi]
        by_cases v : zv (x i) ≤ zv (x k)
        · rw [if_pos v, if_pos v]
          exact ih (k + 1) lead (x i) (by omega) (by omega) (.inr ⟨i, hi, hL, ht, rfl⟩)
        · rw [if_neg v, if_neg v]
          exact ih (k + 1) (nI k) (x k) (by omega) (by omega) (.inr ⟨k, hk8, rfl, t0, rfl⟩)
theorem isThere_in {there : Nat → Int32} {i : Nat} (h : i < 8) (ht : ¬ there i = 0) : f_X7_isThere (nI i) there = some 1 := by
  unfold f_X7_isThere
  rw [if_neg (nI_pos (by omega)), if_neg (g8 h), ck_eq (inI h (by decide)), nI_clamp (by omega), if_neg ht]
theorem lead_eq {there mt : Nat → Int32} {x y v mx my mv : Nat → UInt64} {sure ms : Nat → Int32} {o s c sp : UInt64} (hM : ∀ j, j < 8 → (mt j = 0 ↔ there j = 0)) (hE : ∀ j, j < 8 → ¬ there j = 0 → mx j = x j ∧ my j = y j ∧ ms j = sure j ∧ mv j = v j) (hmid : ∀ j, j < 8 → Mid (mx j) o s c) (hy : ∀ j, j < 8 → ¬ there j = 0 → NN (FP.dsub (y j) (mdl (x j) o s c)) ∧ DF (x j) ∧ DF (v j) ∧ DF (FP.dsub sp (v j))) (hsp : DF sp) :
    ∃ (lead led : Int32) (left leadX : UInt64), f_X7_leadOn there x y sure o s c = some lead ∧ f_X7_isThere lead there = some led ∧ f_X7_secondsTo lead sp there x v = some left ∧ f_X9_findLead sp o s c mt mx my mv ms = some (lead, left, leadX) ∧ (led = 0 ↔ lead < 0) ∧ NN left ∧ NN leadX ∧
      ((led = 0 ∧ lead < 0 ∧ leadX = 13830554455654793216) ∨ (led = 1 ∧ ∃ i, i < 8 ∧ lead = nI i ∧ ¬ there i = 0 ∧ leadX = x i)) := by
  obtain ⟨lead, e1, e2, l, hL⟩ := lead_l1 hM (fun j a b => ⟨(hE j a b).1, (hE j a b).2.1, (hE j a b).2.2.1⟩) hmid (fun j a b => ⟨(hy j a b).1, (hy j a b).2.1.nn⟩) 16 0 (-1) FP.dconst0 (by decide) (by decide) (.inl rfl)
  have f1 : f_X7_leadOn there x y sure o s c = some lead := by
    unfold f_X7_leadOn
    rw [show (0 : Int32) = nI 0 from rfl, e1]; rfl
  have nm : NN 13830554455654793216 := by unfold NN; decide +kernel
  rcases hL with hL | ⟨i, hi, hL, ht, -⟩
  · have hlt : lead < 0 := by rw [hL]; decide
    have h0 : f_X7_isThere lead there = some 0 := by unfold f_X7_isThere; rw [if_pos hlt]
    refine ⟨lead, 0, 13830554455654793216, 13830554455654793216, f1, h0, ?_, ?_, ⟨fun _ => hlt, fun _ => rfl⟩, nm, nm, .inl ⟨rfl, hlt, rfl⟩⟩
    · unfold f_X7_secondsTo; rw [h0]; rfl
    · unfold f_X9_findLead f_X9_findLead_j1
      rw [show (0 : Int32) = nI 0 from rfl, e2, bnd, if_neg (show ¬ nI 0 ≤ lead by rw [hL]; decide)]
      rw [show nI 0 = 0 from rfl, if_pos hlt]
  · obtain ⟨hy1, dx, dv, ds⟩ := hy i hi ht
    obtain ⟨ex, ey, es, ev⟩ := hE i hi ht
    have h1 : f_X7_isThere lead there = some 1 := by rw [hL]; exact isThere_in hi ht
    have hge : ¬ lead < 0 := by rw [hL]; exact nI_pos (by omega)
    have hin : inb lead 8 = true := by rw [hL]; exact inI hi (by decide)
    have hcl : lead.toNatClampNeg = i := by rw [hL]; exact nI_clamp (by omega)
    have hd := dsub_pos hsp dv
    by_cases q : zv (FP.dsub sp (v i)) ≤ 0
    · refine ⟨lead, 1, 13830554455654793216, x i, f1, h1, ?_, ?_, ⟨fun w => absurd w n10, fun w => absurd w hge⟩, nm, dx.nn, .inr ⟨rfl, i, hi, hL, ht, rfl⟩⟩
      · unfold f_X7_secondsTo
        rw [h1, bnd, if_neg n10, ck_eq hin, hcl, ck_eq (nnb_of ds.nn), i_le ds.nn nn0, zv0, if_pos q]
      · unfold f_X9_findLead f_X9_findLead_j1
        rw [show (0 : Int32) = nI 0 from rfl, e2, bnd, if_pos (show nI 0 ≤ lead from Int32.not_lt.mp hge)]
        rw [show nI 0 = 0 from rfl, ck_eq hin, if_neg hge, ck_eq hin, hcl, ev, ex, i_le hsp.nn dv.nn, if_pos (by omega)]
    · have nq : NN (FP.ddiv (x i) (FP.dsub sp (v i))) := NN.of (FP.Core.ddiv_out dx.nn.not ds (FP.Core.dnot_zero ds.nn (fun w => by unfold zv at q; omega)))
      refine ⟨lead, 1, FP.ddiv (x i) (FP.dsub sp (v i)), x i, f1, h1, ?_, ?_, ⟨fun w => absurd w n10, fun w => absurd w hge⟩, nq, dx.nn, .inr ⟨rfl, i, hi, hL, ht, rfl⟩⟩
      · unfold f_X7_secondsTo
        rw [h1, bnd, if_neg n10, ck_eq hin, hcl, ck_eq (nnb_of ds.nn), i_le ds.nn nn0, zv0, if_neg q, ck_eq hin, ck_eq (nnb_of nq)]
      · unfold f_X9_findLead f_X9_findLead_j1
        rw [show (0 : Int32) = nI 0 from rfl, e2, bnd, if_pos (show nI 0 ≤ lead from Int32.not_lt.mp hge)]
        rw [show nI 0 = 0 from rfl, ck_eq hin, if_neg hge, ck_eq hin, hcl, ev, ex, i_le hsp.nn dv.nn, if_neg (by omega), ck_eq hin, ck_eq hin, ck_eq (nnb_of ds.nn), ck_eq (nnb_of nq)]
end XLEAD
