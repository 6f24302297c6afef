/-! Limits, and the calls that read: class and reference answer alike. -/
section XREADS
theorem four_of {k : Int32} (h0 : ¬ k < 0) (h3 : k ≤ 3) (n0 : ¬ k = 0) (n1 : ¬ k = 1) (n2 : ¬ k = 2) : k = 3 := by
  have h1 := Int32.not_lt.mp h0
  have h2 := Int32.le_iff_toInt_le.mp h1
  have h4 := Int32.le_iff_toInt_le.mp h3
  have h5 : k.toInt ≠ 0 := toInt_ne n0 rfl
  have h6 : k.toInt ≠ 1 := toInt_ne n1 rfl
  have h7 : k.toInt ≠ 2 := toInt_ne n2 rfl
  refine Int32.toInt_inj.mp ?_
  have e1 : (0 : Int32).toInt = 0 := rfl
  have e2 : (3 : Int32).toInt = 3 := rfl
  omega
theorem limit_eq {k : Int32} {v s g b p : UInt64} (hv : NN v) :
    ∃ (r : Int32) (s' g' b' p' : UInt64), f_X8_limit k v s g b p = some (r, s', g', b', p') ∧ f_X9_limit k v s g b p = some (r, 0, s', g', b', p') ∧
      (s' = s ∨ s' = v ∧ rg v FP.dconst0 4633641066610819072) ∧ (g' = g ∨ g' = v ∧ rg v 4602678819172646912 4613937818241073152) ∧ (b' = b ∨ b' = v ∧ rg v FP.dconst1 4621256167635550208) ∧ (p' = p ∨ p' = v ∧ rg v FP.dconst0 4613937818241073152) := by
  unfold f_X8_limit f_X9_limit f_X3_tell f_X3_fits
  by_cases q1 : k < 0
  · rw [if_pos q1, if_pos q1]; exact ⟨_, _, _, _, _, rfl, rfl, .inl rfl, .inl rfl, .inl rfl, .inl rfl⟩
  rw [if_neg q1, if_neg q1]
  by_cases q2 : k ≤ 3
  · rw [if_pos q2, if_pos q2]
    simp only [in_within]
    unfold f_X9_limit_j1
    by_cases k0 : k = 0
    · rw [k0]
      rcases within_val (lo := FP.dconst0) (hi := 4633641066610819072) hv (by unfold NN; decide +kernel) (by unfold NN; decide +kernel) with ⟨a0, e0⟩ | ⟨a0, e0⟩ <;> rw [e0]
      · exact ⟨_, _, _, _, _, rfl, rfl, .inr ⟨rfl, a0⟩, .inl rfl, .inl rfl, .inl rfl⟩
      · exact ⟨_, _, _, _, _, rfl, rfl, .inl rfl, .inl rfl, .inl rfl, .inl rfl⟩
    by_cases k1 : k = 1
    · rw [k1]
      rcases within_val (lo := 4602678819172646912) (hi := 4613937818241073152) hv (by unfold NN; decide +kernel) (by unfold NN; decide +kernel) with ⟨a0, e0⟩ | ⟨a0, e0⟩ <;> rw [e0]
      · exact ⟨_, _, _, _, _, rfl, rfl, .inl rfl, .inr ⟨rfl, a0⟩, .inl rfl, .inl rfl⟩
      · exact ⟨_, _, _, _, _, rfl, rfl, .inl rfl, .inl rfl, .inl rfl, .inl rfl⟩
    by_cases k2 : k = 2
    · rw [k2]
      rcases within_val (lo := FP.dconst1) (hi := 4621256167635550208) hv (by unfold NN; decide +kernel) (by unfold NN; decide +kernel) with ⟨a0, e0⟩ | ⟨a0, e0⟩ <;> rw [e0]
      · exact ⟨_, _, _, _, _, rfl, rfl, .inl rfl, .inl rfl, .inr ⟨rfl, a0⟩, .inl rfl⟩
      · exact ⟨_, _, _, _, _, rfl, rfl, .inl rfl, .inl rfl, .inl rfl, .inl rfl⟩
    · rw [four_of q1 q2 k0 k1 k2]
      rcases within_val (lo := FP.dconst0) (hi := 4613937818241073152) hv (by unfold NN; decide +kernel) (by unfold NN; decide +kernel) with ⟨a0, e0⟩ | ⟨a0, e0⟩ <;> rw [e0]
      · exact ⟨_, _, _, _, _, rfl, rfl, .inl rfl, .inl rfl, .inl rfl, .inr ⟨rfl, a0⟩⟩
      · exact ⟨_, _, _, _, _, rfl, rfl, .inl rfl, .inl rfl, .inl rfl, .inl rfl⟩
  · rw [if_neg q2, if_neg q2]; exact ⟨_, _, _, _, _, rfl, rfl, .inl rfl, .inl rfl, .inl rfl, .inl rfl⟩
/-- a zero without its sign -/
def uz (a : UInt64) : UInt64 := if zv a = 0 then FP.dconst0 else a
theorem uz_val {a : UInt64} (h : NN a) : f_X8_unsignedZero a = some (uz a) := by
  unfold f_X8_unsignedZero uz
  rw [i_eq h nn0, zv0]
  split <;> rfl
theorem uz_nn {a : UInt64} (h : NN a) : NN (uz a) := by
  unfold uz
  split
  · exact nn0
  · exact h
theorem wish_eq {k : Int32} {p t l x : UInt64} (hp : NN p) (ht : NN t) (hl : NN l) (hx : NN x) : ∃ r : UInt64, NN r ∧ f_X8_wish k p t l x = some r ∧ f_X9_wish k l x p t = some (r, 0) := by
  unfold f_X8_wish f_X9_wish
  simp only [plain_uz]
  rw [uz_val hp, uz_val ht, uz_val hl, uz_val hx]
  by_cases q0 : k = 0
  · rw [if_pos q0, if_pos q0]; exact ⟨_, uz_nn hp, rfl, rfl⟩
  rw [if_neg q0, if_neg q0]
  by_cases q1 : k = 1
  · rw [if_pos q1, if_pos q1]; exact ⟨_, uz_nn ht, rfl, rfl⟩
  rw [if_neg q1, if_neg q1]
  by_cases q2 : k = 2
  · rw [if_pos q2, if_pos q2]; exact ⟨_, uz_nn hl, rfl, rfl⟩
  rw [if_neg q2, if_neg q2]
  by_cases q3 : k = 3
  · rw [if_pos q3, if_pos q3]; exact ⟨_, uz_nn hx, rfl, rfl⟩
  rw [if_neg q3, if_neg q3]
  exact ⟨_, nn0, rfl, rfl⟩
theorem inb_of8 {k : Int32} (h0 : ¬ k < 0) (h8 : ¬ 8 ≤ k) : inb k 8 = true ∧ k.toNatClampNeg < 8 := by
  have h1 := Int32.le_iff_toInt_le.mp (Int32.not_lt.mp h0)
  have h2 := Int32.lt_iff_toInt_lt.mp (Int32.not_le.mp h8)
  have e1 : (0 : Int32).toInt = 0 := rfl
  have e2 : (8 : Int32).toInt = 8 := rfl
  have h3 : k.toNatClampNeg < 8 := by
    have : k.toNatClampNeg = k.toInt.toNat := rfl
    omega
  refine ⟨?_, h3⟩
  unfold inb
  rw [decide_eq_false h0, decide_eq_false (by omega)]
  rfl
/-- what the class and the reference know of a track that is there -/
theorem seconds_eq {there : Nat → Int32} {x v : Nat → UInt64} {sp : UInt64} {k : Int32} (hsp : DF sp) (h : ∀ i, i < 8 → ¬ there i = 0 → DF (x i) ∧ DF (v i) ∧ DF (FP.dsub sp (v i))) :
    ∃ r : UInt64, NN r ∧ f_X7_secondsTo k sp there x v = some r ∧ (∀ (mt : Nat → Int32) (mx mv : Nat → UInt64), (∀ i, i < 8 → (mt i = 0 ↔ there i = 0)) → (∀ i, i < 8 → ¬ there i = 0 → mx i = x i ∧ mv i = v i) → ∃ q : UInt64, NN q ∧ f_X8_unsignedZero r = some q ∧ f_X9_time k sp mt mx mv = some (q, 0)) := by
  have nm : NN 13830554455654793216 := by unfold NN; decide +kernel
  have um : f_X8_unsignedZero 13830554455654793216 = some 13830554455654793216 := by decide +kernel
  unfold f_X7_secondsTo f_X7_isThere
  by_cases q0 : k < 0
  · rw [if_pos q0]
    refine ⟨_, nm, rfl, fun mt mx mv e1 e2 => ⟨_, nm, um, ?_⟩⟩
    unfold f_X9_time; rw [if_pos q0]
  rw [if_neg q0]
  by_cases q8 : 8 ≤ k
  · rw [if_pos q8]
    refine ⟨_, nm, rfl, fun mt mx mv e1 e2 => ⟨_, nm, um, ?_⟩⟩
    unfold f_X9_time; rw [if_neg q0, if_pos q8]
  obtain ⟨hb, hk⟩ := inb_of8 q0 q8
  rw [if_neg q8, ck_eq hb]
  by_cases qt : there k.toNatClampNeg = 0
  · rw [if_pos qt]
    refine ⟨_, nm, rfl, fun mt mx mv e1 e2 => ⟨_, nm, um, ?_⟩⟩
    unfold f_X9_time; rw [if_neg q0, if_neg q8, ck_eq hb, if_pos ((e1 _ hk).mpr qt)]
  obtain ⟨dx, dv, ds⟩ := h _ hk qt
  rw [if_neg qt, bnd, if_neg (by decide), ck_eq hb, ck_eq (nnb_of (dsub_nn hsp dv)), i_le (dsub_nn hsp dv) nn0, zv0]
  have hd := dsub_pos hsp dv
  by_cases qc : zv (FP.dsub sp (v k.toNatClampNeg)) ≤ 0
  · rw [if_pos qc]
    refine ⟨_, nm, rfl, fun mt mx mv e1 e2 => ⟨_, nm, um, ?_⟩⟩
    obtain ⟨ex, ev⟩ := e2 _ hk qt
    unfold f_X9_time
    rw [if_neg q0, if_neg q8, ck_eq hb, if_neg (fun w => qt ((e1 _ hk).mp w)), ck_eq hb, ev, i_le hsp.nn dv.nn, if_pos (by omega)]
  · rw [if_neg qc, ck_eq hb]
    have nq : NN (FP.ddiv (x k.toNatClampNeg) (FP.dsub sp (v k.toNatClampNeg))) := by
      exact NN.of (FP.Core.ddiv_out dx.nn.not ds (FP.Core.dnot_zero (dsub_nn hsp dv) (fun w => by unfold zv at qc; omega)))
    rw [ck_eq (nnb_of nq)]
    refine ⟨_, nq, rfl, fun mt mx mv e1 e2 => ⟨_, uz_nn nq, uz_val nq, ?_⟩⟩
    obtain ⟨ex, ev⟩ := e2 _ hk qt
    unfold f_X9_time
    rw [if_neg q0, if_neg q8, ck_eq hb, if_neg (fun w => qt ((e1 _ hk).mp w)), ck_eq hb, ev, ex, i_le hsp.nn dv.nn, if_neg (by omega), ck_eq hb, ck_eq hb, ck_eq (nnb_of (dsub_nn hsp dv)), ck_eq (nnb_of nq), plain_uz, uz_val nq]
    rfl
theorem hundred_nn {a : UInt64} (h : DF a) : NN (FP.dmul a 4636737291354636288) := dmul_nn h ((FP.Core.fin_bits _).mpr (by decide))
theorem le5_of {k : Int32} (h0 : ¬ k < 0) (h3 : k ≤ 5) (n0 : ¬ k = 0) (n1 : ¬ k = 1) (n2 : ¬ k = 2) (n3 : ¬ k = 3) (n4 : ¬ k = 4) : k = 5 := by
  have h2 := Int32.le_iff_toInt_le.mp (Int32.not_lt.mp h0)
  have h4 := Int32.le_iff_toInt_le.mp h3
  have h5 : k.toInt ≠ 0 := toInt_ne n0 rfl
  have h6 : k.toInt ≠ 1 := toInt_ne n1 rfl
  have h7 : k.toInt ≠ 2 := toInt_ne n2 rfl
  have h8 : k.toInt ≠ 3 := toInt_ne n3 rfl
  have h9 : k.toInt ≠ 4 := toInt_ne n4 rfl
  refine Int32.toInt_inj.mp ?_
  have e1 : (0 : Int32).toInt = 0 := rfl
  have e2 : (5 : Int32).toInt = 5 := rfl
  omega
theorem track_eq {k w : Int32} {there : Nat → Int32} {x y v : Nat → UInt64} {sure coast : Nat → Int32} {mt : Nat → Int32} {mx my mv : Nat → UInt64} {ms mc : Nat → Int32} (h : ∀ i, i < 8 → ¬ there i = 0 → DF (x i) ∧ DF (y i) ∧ DF (v i)) (e1 : ∀ i, i < 8 → (mt i = 0 ↔ there i = 0)) (e2 : ∀ i, i < 8 → ¬ there i = 0 → mx i = x i ∧ my i = y i ∧ mv i = v i ∧ ms i = sure i ∧ mc i = coast i) :
    ∃ r : Int32, f_X8_track k w there x y v sure coast = some r ∧ f_X9_track k w mt mx my mv ms mc = some (r, 0) := by
  unfold f_X8_track f_X9_track f_X7_read f_X7_isThere
  by_cases q0 : k < 0
  · simp only [if_pos q0]; exact ⟨_, rfl, rfl⟩
  by_cases q8 : k < 8
  · by_cases w0 : w < 0
    · simp only [if_neg q0, if_pos q8, if_pos w0]; exact ⟨_, rfl, rfl⟩
    by_cases w5 : w ≤ 5
    · have q9 : ¬ 8 ≤ k := Int32.not_le.mpr q8
      obtain ⟨hb, hk⟩ := inb_of8 q0 q9
      have n1 : ¬ (1 : Int32) = 0 := by decide
      have hck : ∀ {α : Type} (z : Option α), ck (inb k 8 = true) z = z := fun z => ck_eq hb
      by_cases qt : there k.toNatClampNeg = 0
      · simp only [if_neg q0, if_pos q8, if_neg w0, if_pos w5, if_neg q9, hck, if_pos qt, if_pos ((e1 _ hk).mpr qt), bnd, if_true]; exact ⟨_, rfl, rfl⟩
      obtain ⟨dx, dy, dv⟩ := h _ hk qt
      obtain ⟨ex, ey, ev, es, ec⟩ := e2 _ hk qt
      have kx : ∀ {α : Type} (z : Option α), ck (nnb (FP.dmul (x k.toNatClampNeg) 4636737291354636288) = true) z = z := fun z => ck_eq (nnb_of (hundred_nn dx))
      have ky : ∀ {α : Type} (z : Option α), ck (nnb (FP.dmul (y k.toNatClampNeg) 4636737291354636288) = true) z = z := fun z => ck_eq (nnb_of (hundred_nn dy))
      have kv : ∀ {α : Type} (z : Option α), ck (nnb (FP.dmul (v k.toNatClampNeg) 4636737291354636288) = true) z = z := fun z => ck_eq (nnb_of (hundred_nn dv))
      have qt' : ¬ mt k.toNatClampNeg = 0 := fun z => qt ((e1 _ hk).mp z)
      simp only [if_neg q0, if_pos q8, if_neg w0, if_pos w5, if_neg q9, hck, if_neg qt, if_neg qt', bnd, if_neg n1, ex, ey, ev, es, ec, kx, ky, kv]
      by_cases a0 : w = 0
      · simp only [if_pos a0]; exact ⟨_, rfl, rfl⟩
      by_cases a1 : w = 1
      · simp only [if_neg a0, if_pos a1]; exact ⟨_, rfl, rfl⟩
      by_cases a2 : w = 2
      · simp only [if_neg a0, if_neg a1, if_pos a2]; exact ⟨_, rfl, rfl⟩
      by_cases a3 : w = 3
      · simp only [if_neg a0, if_neg a1, if_neg a2, if_pos a3]; exact ⟨_, rfl, rfl⟩
      by_cases a4 : w = 4
      · simp only [if_neg a0, if_neg a1, if_neg a2, if_neg a3, if_pos a4]; exact ⟨_, rfl, rfl⟩
      simp only [if_neg a0, if_neg a1, if_neg a2, if_neg a3, if_neg a4]
      exact ⟨_, rfl, rfl⟩
    · simp only [if_neg q0, if_pos q8, if_neg w0, if_neg w5]; exact ⟨_, rfl, rfl⟩
  · simp only [if_neg q0, if_neg q8]; exact ⟨_, rfl, rfl⟩
end XREADS
