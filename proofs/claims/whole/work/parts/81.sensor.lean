/-! One sensor's meeting: class and reference alike. -/
section XSENSOR
def RJ (P : UInt64 → Prop) (z : TS) (d' : Int32) (th' : Nat → Int32) (x' y' v' : Nat → UInt64) (su' co' tf ts : Nat → Int32) (sf : Nat → UInt64) : Prop :=
  (z01 z.1 ∧ d' = z.1) ∧ ∀ t, t < 8 → RT P (z.2.1 t) (z.2.2.1 t) (z.2.2.2.1 t) (z.2.2.2.2.1 t) (z.2.2.2.2.2.1 t) (z.2.2.2.2.2.2.1 t) (z.2.2.2.2.2.2.2.1 t) (z.2.2.2.2.2.2.2.2 t) (th' t) (x' t) (y' t) (v' t) (su' t) (co' t) (tf t) (ts t) (sf t)
def tfN (s : Nat) (tf : Nat → Int32) (t : Nat) : Nat → Int32 := if s = 0 then upd tf t 1 else tf
def tsN (s : Nat) (ts : Nat → Int32) (t : Nat) : Nat → Int32 := if s = 0 then ts else upd ts t 1
def sfN (s : Nat) (sf : Nat → UInt64) (t : Nat) (c : UInt64) : Nat → UInt64 := if s = 0 then vf_upd sf t c else sf
theorem dfN_01 {d me : Int32} {ms c : UInt64} (h : z01 d) : z01 (dfN d me ms c) := by
  unfold dfN
  split
  · exact h
  · split
    · exact h
    · exact .inr rfl
section
variable {P : UInt64 → Prop}
theorem tell_val {s t : Nat} {th su co me th' su' co' : Int32} {x y v ms x' y' v' c : UInt64} {d : Int32} {tf ts : Nat → Int32} {sf : Nat → UInt64} (hs : s < 2) (ht : t < 8) (hd : z01 d) (h : RT P th x y v su co me ms th' x' y' v' su' co' (tf t) (ts t) (sf t)) (h1 : ts t = 0) (h2 : s = 0 → tf t = 0) (hc : VW c) : f_X9_tell (nI s) (nI t) c d tf ts sf = some (dfN d me ms c, tfN s tf t, tsN s ts t, sfN s sf t c) := by
  obtain ⟨-, -, ⟨-, -, -, g4⟩, -, -, g6, -, g8_⟩ := h
  have hi : ∀ {α : Type} (o : Option α), ck (inb (nI t) 8 = true) o = o := fun o => ck_eq (inI ht (by decide))
  unfold f_X9_tell tfN tsN sfN dfN
  simp only [hi, nI_clamp (show t < 2 ^ 31 by omega)]
  rcases (show s = 0 ∨ s = 1 by omega) with rfl | rfl
  · rw [if_pos (show nI 0 = 0 from rfl), if_pos (g6.mpr ⟨h2 rfl, h1⟩), if_pos rfl, if_pos rfl, if_pos rfl]
  · rw [if_neg (show ¬ nI 1 = 0 by decide), if_neg (show ¬ (1 : Nat) = 0 by decide), if_neg (show ¬ (1 : Nat) = 0 by decide), if_neg (show ¬ (1 : Nat) = 0 by decide)]
    by_cases qm : me = 0
    · have q0 := (g6.mp qm).1
      rw [if_pos qm, if_pos q0]
      rcases hd with rfl | rfl
      · rw [if_pos rfl]
      · rw [if_neg n10]
    · have q0 : ¬ tf t = 0 := fun w => qm (g6.mpr ⟨w, h1⟩)
      have em := g8_ h1 q0
      have nd := dsub_nn (g4 qm).df hc.df
      rw [if_neg qm, if_neg q0, em, ck_eq (nnb_of nd), size_val nd, bnd, i_le (mg_nn nd) k5]
      rcases hd with rfl | rfl
      · rw [if_pos rfl]
        split <;> rfl
      · rw [if_neg n10]
        split <;> rfl
theorem RJ_J {s t : Nat} {a b c : UInt64} {z : TS} {d' : Int32} {th' : Nat → Int32} {x' y' v' : Nat → UInt64} {su' co' tf ts : Nat → Int32} {sf : Nat → UInt64} (hP : ∀ a, XW a → P a) (h : RJ P z d' th' x' y' v' su' co' tf ts sf) (ht8 : t < 8) (ht : ¬ z.2.1 t = 0) (ha : XW a) (hb : YW b) (hc : VW c) : RJ P (JT t a b c z) (dfN z.1 (z.2.2.2.2.2.2.2.1 t) (z.2.2.2.2.2.2.2.2 t) c) th' (vf_upd x' t (hf (x' t) a)) (vf_upd y' t (hf (y' t) b)) (vf_upd v' t (qf (v' t) c)) (upd su' t (suN (su' t))) co' (tfN s tf t) (tsN s ts t) (sfN s sf t c) := by
  obtain ⟨⟨h1, h2⟩, h3⟩ := h
  refine ⟨⟨dfN_01 h1, rfl⟩, fun j hj => ?_⟩
  show RT P (z.2.1 j) (vf_upd z.2.2.1 t _ j) (vf_upd z.2.2.2.1 t _ j) (vf_upd z.2.2.2.2.1 t _ j) (upd z.2.2.2.2.2.1 t _ j) (upd z.2.2.2.2.2.2.1 t 0 j) (upd z.2.2.2.2.2.2.2.1 t 1 j) (vf_upd z.2.2.2.2.2.2.2.2 t c j) (th' j) (vf_upd x' t _ j) (vf_upd y' t _ j) (vf_upd v' t _ j) (upd su' t _ j) (co' j) (tfN s tf t j) (tsN s ts t j) (sfN s sf t c j)
  unfold tfN tsN sfN
  simp only [hupd, hupi]
  have k := h3 j hj
  by_cases q : j = t
  · subst q
    simp only [if_true]
    by_cases e : s = 0
    · simp only [if_pos e, hupd, hupi, if_true]
      exact RT_J0 hP k ht ha hb hc
    · simp only [if_neg e, hupd, hupi, if_true]
      exact RT_J1 hP k ht ha hb hc
  · simp only [if_neg q]
    by_cases e : s = 0
    · simp only [if_pos e, hupd, hupi, if_neg q]
      exact k
    · simp only [if_neg e, hupd, hupi, if_neg q]
      exact k
section
variable {g : Nat → Nat} {gx gy gv mx my mv : Nat → UInt64} {n s : Nat} {many : Nat → Int32}
theorem mjoin_l1 (hP : ∀ a, XW a → P a) (hn : n ≤ 4) (hs : s < 2) (hmany : many s = nI n) {u : (Nat → Int32) × (Nat → Int32)} (hu : ∀ k, k < n → u.1 k = nI (g k)) (h9 : ∀ k, g k < 9) (hg : ∀ k, k < n → XW (gx k) ∧ YW (gy k) ∧ VW (gv k)) (hm : ∀ k, k < n → mx (4 * s + k) = gx k ∧ my (4 * s + k) = gy k ∧ mv (4 * s + k) = gv k) (hd : ∀ i k, i < k → k < n → g k < 8 → g i ≠ g k) {th' co' : Nat → Int32} :
    ∀ (r k f : Nat) (z : TS) (d' : Int32) (x' y' v' : Nat → UInt64) (su' tf ts : Nat → Int32) (sf : Nat → UInt64), k + r = n → r < f → RJ P z d' th' x' y' v' su' co' tf ts sf → (∀ i, k ≤ i → i < n → g i < 8 → ¬ z.2.1 (g i) = 0 ∧ ts (g i) = 0 ∧ (s = 0 → tf (g i) = 0)) →
      ∃ (d2 : Int32) (x2 y2 v2 : Nat → UInt64) (su2 tf2 ts2 : Nat → Int32) (sf2 : Nat → UInt64), f_X9_joinSensor_l1 many mx my mv (nI s) u f (nI k) d' x' y' v' su' tf ts sf = some (d2, x2, y2, v2, su2, tf2, ts2, sf2) ∧ RJ P (JS g gx gy gv r k z) d2 th' x2 y2 v2 su2 co' tf2 ts2 sf2 ∧ (s = 0 → ts2 = ts) := by
  intro r
  induction r with
  | zero =>
    intro k f z d' x' y' v' su' tf ts sf h1 h2 hR _
    obtain ⟨f, rfl⟩ : ∃ q, f = q + 1 := ⟨f - 1, by omega⟩
    unfold f_X9_joinSensor_l1
    rw [clampI hs, hmany, if_pos (nI_le (by omega) (by omega))]
    exact ⟨_, _, _, _, _, _, _, _, rfl, hR, fun _ => rfl⟩
  | succ r ih =>
    intro k f z d' x' y' v' su' tf ts sf h1 h2 hR ht
    obtain ⟨f, rfl⟩ : ∃ q, f = q + 1 := ⟨f - 1, by omega⟩
    have hk : k < n := by omega
    obtain ⟨ha, hb, hc⟩ := hg k hk
    obtain ⟨ea, eb, ec⟩ := hm k hk
    have hk4 : 4 * s + k < 8 := by omega
    have g9 := h9 k
    unfold f_X9_joinSensor_l1
    rw [clampI hs, hmany, if_neg (nI_ge hk (by omega)), ck_eq (inI (show k < 4 by omega) (by decide)), nI_clamp (show k < 2 ^ 31 by omega), hu k hk, ← nI_succ]
    show ∃ (d2 : Int32) (x2 y2 v2 : Nat → UInt64) (su2 tf2 ts2 : Nat → Int32) (sf2 : Nat → UInt64), _ ∧ RJ P (JS g gx gy gv r (k + 1) (if g k < 8 then JT (g k) (gx k) (gy k) (gv k) z else z)) d2 th' x2 y2 v2 su2 co' tf2 ts2 sf2 ∧ _
    by_cases q : g k < 8
    · obtain ⟨t1, t2, t3⟩ := ht k (Nat.le_refl _) hk q
      have hT := hR.2 (g k) q
      obtain ⟨-, -, ⟨r1, r2, r3, r4⟩, -, r5, -⟩ := id hT
      obtain ⟨e1, e2, e3, e4, -⟩ := r5 t1
      obtain ⟨x1, x2, x3, -⟩ := hX (e1 ▸ r1) ha
      obtain ⟨y1, y2, y3, -⟩ := hY (e2 ▸ r2) hb
      obtain ⟨v1, v2, v3, -⟩ := hV (e3 ▸ r3) hc
      have hi : ∀ {α : Type} (o : Option α), ck (inb (nI (g k)) 8 = true) o = o := fun o => ck_eq (inI q (by decide))
      have hj : ∀ {α : Type} (o : Option α), ck (inb (nI (4 * s + k)) 8 = true) o = o := fun o => ck_eq (inI hk4 (by decide))
      have tv := tell_val (P := P) (s := s) (t := g k) (d := d') (tf := tf) (ts := ts) (sf := sf) (c := gv k) hs q (by rw [hR.1.2]; exact hR.1.1) hT t2 t3 hc
      rw [hR.1.2] at tv
      rw [if_pos q, if_neg (g8 q)]
      simp only [at_I, hi, hj, nI_clamp (show g k < 2 ^ 31 by omega), nI_clamp (show 4 * s + k < 2 ^ 31 by omega), ea, eb, ec, ck_eq (nnb_of x1), ck_eq (nnb_of x2), ck_eq (nnb_of x3), ck_eq (nnb_of y1), ck_eq (nnb_of y2), ck_eq (nnb_of y3), ck_eq (nnb_of v1), ck_eq (nnb_of v2), ck_eq (nnb_of v3)]
      have next := ih (k + 1) f (JT (g k) (gx k) (gy k) (gv k) z) _ _ _ _ _ _ _ _ (by omega) (by omega) (RJ_J (s := s) hP hR q t1 ha hb hc) (fun i a1 a2 a3 => by
        obtain ⟨u1, u2, u3⟩ := ht i (by omega) a2 a3
        have hne : g i ≠ g k := fun w => hd k i (by omega) a2 a3 w.symm
        refine ⟨u1, ?_, fun e => ?_⟩
        · unfold tsN
          split
          · exact u2
          · rw [hupi, if_neg hne]; exact u2
        · unfold tfN
          rw [if_pos e, hupi, if_neg hne]; exact u3 e)
      obtain ⟨d2, w1, w2, w3, w4, w5, w6, w7, p1, p2, p3⟩ := next
      have p3 : s = 0 → w6 = ts := fun e => by rw [p3 e]; unfold tsN; rw [if_pos e]
      refine ⟨d2, w1, w2, w3, w4, w5, w6, w7, ?_, p2, p3⟩
      rw [← p1]
      have hsu : ∀ b70 : Int32, f_X9_joinSensor_j2 (f_X9_joinSensor_l1 many mx my mv (nI s) u f) mx my mv (nI s) u (nI k) d' x' y' v' su' tf ts sf b70 = f_X9_joinSensor_l1 many mx my mv (nI s) u f (nI (k + 1)) (dfN z.1 (z.2.2.2.2.2.2.2.1 (g k)) (z.2.2.2.2.2.2.2.2 (g k)) (gv k)) (vf_upd x' (g k) (hf (x' (g k)) (gx k))) (vf_upd y' (g k) (hf (y' (g k)) (gy k))) (vf_upd v' (g k) (qf (v' (g k)) (gv k))) (upd su' (g k) b70) (tfN s tf (g k)) (tsN s ts (g k)) (sfN s sf (g k) (gv k)) := by
        intro b70
        unfold f_X9_joinSensor_j2
        simp only [at_I, nI_clamp (show k < 2 ^ 31 by omega), hu k hk, hi, hj, nI_clamp (show g k < 2 ^ 31 by omega), nI_clamp (show 4 * s + k < 2 ^ 31 by omega), ea, eb, ec, hR.1.2, tv, bnd, ← nI_succ]
        rfl
      unfold suN
      by_cases w : 5 ≤ su' (g k)
      · rw [if_pos w, if_pos w, hsu]
      · rw [if_neg w, if_neg w, hsu]
    · rw [if_pos (show (8 : Int32) ≤ nI (g k) from nI_le (a := 8) (b := g k) (by omega) (by omega)), if_neg q]
      exact ih (k + 1) f z d' x' y' v' su' tf ts sf (by omega) (by omega) hR (fun i a1 a2 a3 => ht i (by omega) a2 a3)
theorem begin_l1 {th : Nat → Int32} : ∀ (f m k : Nat), k + m = 8 → m < f → f_X9_begin_l1 th f (nI k) = some (nI (ffr th m k)) := by
  intro f
  induction f with
  | zero => intro m k h1 h2; omega
  | succ f ih =>
    intro m k h1 h2
    unfold f_X9_begin_l1
    cases m with
    | zero =>
      have : k = 8 := by omega
      subst this
      rw [if_pos e8]; rfl
    | succ m =>
      have k8 : k < 8 := by omega
      have e : ffr th (m + 1) k = if th k = 0 then k else ffr th m (k + 1) := rfl
      rw [if_neg (g8 k8), ck_eq (inI k8 (by decide)), nI_clamp (show k < 2 ^ 31 by omega), e]
      by_cases q : th k = 0
      · rw [if_pos q, if_pos q]
      · rw [if_neg q, if_neg q, ← nI_succ]
        exact ih m (k + 1) (by omega) (by omega)
theorem ffr_congr {a b : Nat → Int32} (h : ∀ t, t < 8 → a t = b t) : ∀ (m k : Nat), k + m ≤ 8 → ffr a m k = ffr b m k
  | 0, _, _ => rfl
  | m + 1, k, hk => by
    show (if a k = 0 then k else ffr a m (k + 1)) = (if b k = 0 then k else ffr b m (k + 1))
    rw [h k (by omega), ffr_congr h m (k + 1) (by omega)]
theorem ffr_le {a : Nat → Int32} : ∀ (m k : Nat), ffr a m k ≤ m + k
  | 0, k => by show k ≤ 0 + k; omega
  | m + 1, k => by
    show (if a k = 0 then k else ffr a m (k + 1)) ≤ m + 1 + k
    have := ffr_le (a := a) m (k + 1)
    split <;> omega
theorem begin_val (hP : ∀ a, XW a → P a) {k : Nat} {z : TS} {d' : Int32} {th' : Nat → Int32} {x' y' v' : Nat → UInt64} {su' co' tf ts : Nat → Int32} {sf : Nat → UInt64} (hs : s < 2) (hk : 4 * s + k < 8) (hR : RJ P z d' th' x' y' v' su' co' tf ts sf) (ha : XW (mx (4 * s + k))) (hb : YW (my (4 * s + k))) (hc : VW (mv (4 * s + k))) :
    ∃ (d2 : Int32) (th2 : Nat → Int32) (x2 y2 v2 : Nat → UInt64) (su2 co2 tf2 ts2 : Nat → Int32) (sf2 : Nat → UInt64), f_X9_begin (nI s) (nI (4 * s + k)) d' th' x' y' v' su' co' mx my mv tf ts sf = some (d2, th2, x2, y2, v2, su2, co2, tf2, ts2, sf2) ∧ RJ P (KT (mx (4 * s + k)) (my (4 * s + k)) (mv (4 * s + k)) z) d2 th2 x2 y2 v2 su2 co2 tf2 ts2 sf2 ∧ (s = 0 → ts2 = ts) := by
  have eth : ∀ t, t < 8 → th' t = z.2.1 t := fun t ht => (hR.2 t ht).2.1
  have ef : ffr th' 8 0 = fre z.2.1 := ffr_congr eth 8 0 (by decide)
  have el : fre z.2.1 ≤ 8 := ffr_le 8 0
  unfold f_X9_begin KT
  rw [show (0 : Int32) = nI 0 from rfl, begin_l1 16 8 0 rfl (by decide), bnd, ef]
  by_cases q : fre z.2.1 < 8
  · have hT := hR.2 _ q
    have z0 := fre_zero q
    obtain ⟨-, -, -, -, -, r6, r7, -⟩ := id hT
    have m0 : z.2.2.2.2.2.2.2.1 (fre z.2.1) = 0 := Classical.byContradiction (fun w => r7 w z0)
    obtain ⟨f0, s0⟩ := r6.mp m0
    have hi : ∀ {α : Type} (o : Option α), ck (inb (nI (fre z.2.1)) 8 = true) o = o := fun o => ck_eq (inI q (by decide))
    have hj : ∀ {α : Type} (o : Option α), ck (inb (nI (4 * s + k)) 8 = true) o = o := fun o => ck_eq (inI hk (by decide))
    have tv := tell_val (P := P) (s := s) (t := fre z.2.1) (d := d') (tf := tf) (ts := ts) (sf := sf) (c := mv (4 * s + k)) hs q (by rw [hR.1.2]; exact hR.1.1) hT s0 (fun _ => f0) hc
    have e0 : dfN d' (z.2.2.2.2.2.2.2.1 (fre z.2.1)) (z.2.2.2.2.2.2.2.2 (fre z.2.1)) (mv (4 * s + k)) = d' := by unfold dfN; rw [if_pos m0]
    rw [e0] at tv
    rw [if_pos q, if_neg (g8 q)]
    simp only [hi, hj, nI_clamp (show 4 * s + k < 2 ^ 31 by omega), nI_clamp (show fre z.2.1 < 2 ^ 31 by omega), tv, bnd]
    refine ⟨_, _, _, _, _, _, _, _, _, _, rfl, ⟨hR.1, fun j hj8 => ?_⟩, fun e => by unfold tsN; rw [if_pos e]⟩
    show RT P (upd z.2.1 _ 1 j) (vf_upd z.2.2.1 _ _ j) (vf_upd z.2.2.2.1 _ _ j) (vf_upd z.2.2.2.2.1 _ _ j) (upd z.2.2.2.2.2.1 _ _ j) (upd z.2.2.2.2.2.2.1 _ 0 j) (upd z.2.2.2.2.2.2.2.1 _ 1 j) (vf_upd z.2.2.2.2.2.2.2.2 _ _ j) (upd th' _ 1 j) (vf_upd x' _ _ j) (vf_upd y' _ _ j) (vf_upd v' _ _ j) (upd su' _ _ j) (upd co' _ 0 j) (tfN s tf _ j) (tsN s ts _ j) (sfN s sf _ _ j)
    unfold tfN tsN sfN
    simp only [hupd, hupi]
    have kj := hR.2 j hj8
    by_cases w : j = fre z.2.1
    · simp only [if_pos w]
      by_cases e : s = 0
      · simp only [if_pos e, hupd, hupi, if_pos w]
        exact RT_K0 hP ha hb hc
      · simp only [if_neg e, hupd, hupi, if_pos w]
        exact RT_K1 hP ha hb hc
    · simp only [if_neg w]
      by_cases e : s = 0
      · simp only [if_pos e, hupd, hupi, if_neg w]
        exact kj
      · simp only [if_neg e, hupd, hupi, if_neg w]
        exact kj
  · rw [if_neg q, if_pos (show (8 : Int32) ≤ nI (fre z.2.1) from nI_le (a := 8) (b := fre z.2.1) (by omega) (by omega))]
    exact ⟨_, _, _, _, _, _, _, _, _, _, rfl, hR, fun _ => rfl⟩
theorem mmake_l2 (hP : ∀ a, XW a → P a) (hn : n ≤ 4) (hs : s < 2) (hmany : many s = nI n) {u : (Nat → Int32) × (Nat → Int32)} (hu : ∀ k, k < n → u.1 k = nI (g k)) (h9 : ∀ k, g k < 9) (hg : ∀ k, k < n → XW (gx k) ∧ YW (gy k) ∧ VW (gv k)) (hm : ∀ k, k < n → mx (4 * s + k) = gx k ∧ my (4 * s + k) = gy k ∧ mv (4 * s + k) = gv k) :
    ∀ (r k f : Nat) (z : TS) (d' : Int32) (th' : Nat → Int32) (x' y' v' : Nat → UInt64) (su' co' tf ts : Nat → Int32) (sf : Nat → UInt64), k + r = n → r < f → RJ P z d' th' x' y' v' su' co' tf ts sf →
      ∃ (d2 : Int32) (th2 : Nat → Int32) (x2 y2 v2 : Nat → UInt64) (su2 co2 tf2 ts2 : Nat → Int32) (sf2 : Nat → UInt64), f_X9_joinSensor_l2 many mx my mv (nI s) u f (nI k) d' th' x' y' v' su' co' tf ts sf = some (d2, th2, x2, y2, v2, su2, co2, tf2, ts2, sf2) ∧ RJ P (KS g gx gy gv r k z) d2 th2 x2 y2 v2 su2 co2 tf2 ts2 sf2 ∧ (s = 0 → ts2 = ts) := by
  intro r
  induction r with
  | zero =>
    intro k f z d' th' x' y' v' su' co' tf ts sf h1 h2 hR
    obtain ⟨f, rfl⟩ : ∃ q, f = q + 1 := ⟨f - 1, by omega⟩
    unfold f_X9_joinSensor_l2
    rw [clampI hs, hmany, if_pos (nI_le (by omega) (by omega))]
    exact ⟨_, _, _, _, _, _, _, _, _, _, rfl, hR, fun _ => rfl⟩
  | succ r ih =>
    intro k f z d' th' x' y' v' su' co' tf ts sf h1 h2 hR
    obtain ⟨f, rfl⟩ : ∃ q, f = q + 1 := ⟨f - 1, by omega⟩
    have hk : k < n := by omega
    obtain ⟨ha, hb, hc⟩ := hg k hk
    obtain ⟨ea, eb, ec⟩ := hm k hk
    have g9 := h9 k
    unfold f_X9_joinSensor_l2
    rw [clampI hs, hmany, if_neg (nI_ge hk (by omega)), ck_eq (inI (show k < 4 by omega) (by decide)), nI_clamp (show k < 2 ^ 31 by omega), hu k hk, ← nI_succ]
    show ∃ (d2 : Int32) (th2 : Nat → Int32) (x2 y2 v2 : Nat → UInt64) (su2 co2 tf2 ts2 : Nat → Int32) (sf2 : Nat → UInt64), _ ∧ RJ P (KS g gx gy gv r (k + 1) (if g k = 8 then KT (gx k) (gy k) (gv k) z else z)) d2 th2 x2 y2 v2 su2 co2 tf2 ts2 sf2 ∧ _
    by_cases q : g k = 8
    · obtain ⟨d1, t1, x1, y1, v1, s1, c1, f1, u1, w1, b1, b2, b3⟩ := begin_val (mx := mx) (my := my) (mv := mv) (k := k) hP hs (by omega) hR (by rw [ea]; exact ha) (by rw [eb]; exact hb) (by rw [ec]; exact hc)
      rw [if_pos (show nI (g k) = 8 from congrArg nI q), if_pos q, at_I, b1, bnd]
      rw [ea, eb, ec] at b2
      obtain ⟨d2, t2, x2, y2, v2, s2, c2, f2, u2, w2, p1, p2, p3⟩ := ih (k + 1) f _ _ _ _ _ _ _ _ _ _ _ (by omega) (by omega) b2
      exact ⟨d2, t2, x2, y2, v2, s2, c2, f2, u2, w2, p1, p2, fun e => by rw [p3 e, b3 e]⟩
    · rw [if_neg (show ¬ nI (g k) = 8 from fun w => q ((nI_eq (a := g k) (b := 8) (by omega) (by decide)).mp w)), if_neg q]
      exact ih (k + 1) f z d' th' x' y' v' su' co' tf ts sf (by omega) (by omega) hR
end
/-- one sensor, whole -/
theorem sensor_eq (hP : ∀ a, XW a → P a) {n s : Nat} (hn : n ≤ 4) (hs : s < 2) {many : Nat → Int32} {gx gy gv mx my mv : Nat → UInt64} (hmany : many s = nI n) (hg : ∀ k, k < n → XW (gx k) ∧ YW (gy k) ∧ VW (gv k)) (hm : ∀ k, k < n → mx (4 * s + k) = gx k ∧ my (4 * s + k) = gy k ∧ mv (4 * s + k) = gv k) {z : TS} {d' : Int32} {th' : Nat → Int32} {x' y' v' : Nat → UInt64} {su' co' tf ts : Nat → Int32} {sf : Nat → UInt64} (hR : RJ P z d' th' x' y' v' su' co' tf ts sf) (h1 : ∀ t, t < 8 → ts t = 0) (h2 : s = 0 → ∀ t, t < 8 → tf t = 0) {best tried costs taken tk way : Nat → Int32} (ht : ∀ t, t < 8 → taken t = 0) :
    ∃ (z2 : TS) (bj bs : Int32) (best2 tried2 costs2 taken2 : Nat → Int32) (d2 : Int32) (th2 : Nat → Int32) (x2 y2 v2 : Nat → UInt64) (su2 co2 tk2 way2 tf2 ts2 : Nat → Int32) (sf2 : Nat → UInt64),
      f_X7_meet z.1 z.2.1 z.2.2.1 z.2.2.2.1 z.2.2.2.2.1 z.2.2.2.2.2.1 z.2.2.2.2.2.2.1 z.2.2.2.2.2.2.2.1 z.2.2.2.2.2.2.2.2 best tried costs taken (nI n) gx gy gv = some (z2.1, z2.2.1, z2.2.2.1, z2.2.2.2.1, z2.2.2.2.2.1, z2.2.2.2.2.2.1, z2.2.2.2.2.2.2.1, z2.2.2.2.2.2.2.2.1, z2.2.2.2.2.2.2.2.2, nI n, bj, bs, best2, tried2, costs2, taken2) ∧
      (∀ t, t < 8 → taken2 t = 0) ∧
      f_X9_joinSensor (nI s) d' th' x' y' v' su' co' many mx my mv tk way tf ts sf = some (d2, th2, x2, y2, v2, su2, co2, upd many s 0, tk2, way2, tf2, ts2, sf2) ∧
      RJ P z2 d2 th2 x2 y2 v2 su2 co2 tf2 ts2 sf2 ∧ (s = 0 → ts2 = ts) := by
  have hCI : CI z := fun t ht => (hR.2 t ht).2.2.1
  have hnn : ∀ k t, k < n → t < 8 → NN (FP.dsub (gx k) (z.2.2.1 t)) ∧ NN (FP.dsub (gy k) (z.2.2.2.1 t)) := fun k t hk ht => ⟨dsub_nn (hg k hk).1.df (hCI t ht).1.df, dsub_nn (hg k hk).2.1.df (hCI t ht).2.1.df⟩
  obtain ⟨bj, bs, best2, tried2, costs2, taken2, a1, a2, a3⟩ := solve_val (gx := gx) (gy := gy) (there := z.2.1) (x := z.2.2.1) (y := z.2.2.2.1) (best := best) (tried := tried) (costs := costs) hn (fun k t hk ht _ => hnn k t hk ht) ht
  have hw := ml_best (may := mayB z.2.1 z.2.2.1 z.2.2.2.1 gx gy) (c := cosN z.2.2.1 z.2.2.2.1 gx gy) (show n < 5 by omega) 0 0
  obtain ⟨tk2, way2, b1, b2⟩ := findWay_val (may := mayB z.2.1 z.2.2.1 z.2.2.2.1 gx gy) (c := cosN z.2.2.1 z.2.2.2.1 gx gy) (there := th') (x := x') (y := y') (mx := mx) (my := my) hn hs hmany (cosN_le _ _ _ _)
    (fun k t hk ht => may_eq ht (by omega) (fun _ => hnn k t hk ht) (by rw [(hR.2 t ht).2.1]) (fun q => ⟨((hR.2 t ht).2.2.2.2.1 q).1, ((hR.2 t ht).2.2.2.2.1 q).2.1⟩) ⟨(hm k hk).1, (hm k hk).2.1⟩)
    (fun k t hk ht hmm => mcost_eq ht (by omega) hmm (fun _ => hnn k t hk ht) (fun q => ⟨((hR.2 t ht).2.2.2.2.1 q).1, ((hR.2 t ht).2.2.2.2.1 q).2.1⟩) ⟨(hm k hk).1, (hm k hk).2.1⟩) tk way
  revert a2 b2 hw
  generalize (ml (mayB z.2.1 z.2.2.1 z.2.2.2.1 gx gy) (cosN z.2.2.1 z.2.2.2.1 gx gy) n (9 ^ n) 0 (-1, 0, 0)).2.2 = B
  intro a2 hw b2
  have hth : ∀ i, i < n → dg n B i < 8 → ¬ z.2.1 (dg n B i) = 0 := by
    intro i hi q
    rcases vd_at hw hi with w | ⟨w, -⟩
    · omega
    · exact (mayB_iff.mp w).1
  have hdis : ∀ i k, i < k → k < n → dg n B k < 8 → dg n B i ≠ dg n B k := by
    intro i k hik hk q
    rcases vd_at hw hk with w | ⟨-, w⟩
    · omega
    · exact w i hik
  have m1 := meet_l1 (g := dg n B) (gx := gx) (gy := gy) (gv := gv) (u := (nI n, bj, bs, best2, tried2, costs2, taken2)) hn a2 (fun k => dg_lt n B k) hg n 0 16 z (by omega) (by omega) hCI (fun i _ hi q => hth i hi q)
  obtain ⟨d3, x3, y3, v3, su3, tf3, ts3, sf3, c1, c2, c3⟩ := mjoin_l1 (g := dg n B) (u := (tk2, way2)) hP hn hs hmany b2 (fun k => dg_lt n B k) hg hm hdis n 0 16 z d' x' y' v' su' tf ts sf (by omega) (by omega) hR (fun i _ hi q => ⟨hth i hi q, h1 _ q, fun e => h2 e _ q⟩)
  obtain ⟨d4, th4, x4, y4, v4, su4, co4, tf4, ts4, sf4, e1, e2, e3⟩ := mmake_l2 (g := dg n B) (u := (tk2, way2)) hP hn hs hmany b2 (fun k => dg_lt n B k) hg hm n 0 16 _ _ _ _ _ _ _ _ _ _ _ (by omega) (by omega) c2
  refine ⟨KS (dg n B) gx gy gv n 0 (JS (dg n B) gx gy gv n 0 z), bj, bs, best2, tried2, costs2, taken2, d4, th4, x4, y4, v4, su4, co4, tk2, way2, tf4, ts4, sf4, ?_, a3, ?_, e2, fun e => by rw [e3 e, c3 e]⟩
  · unfold f_X7_meet
    have m1 : f_X7_meet_l1 gx gy gv (nI n) (nI n, bj, bs, best2, tried2, costs2, taken2) 16 0 z.1 z.2.1 z.2.2.1 z.2.2.2.1 z.2.2.2.2.1 z.2.2.2.2.2.1 z.2.2.2.2.2.2.1 z.2.2.2.2.2.2.2.1 z.2.2.2.2.2.2.2.2 = _ := m1
    rw [a1, bnd, m1, bnd]
  · unfold f_X9_joinSensor
    have c1 : f_X9_joinSensor_l1 many mx my mv (nI s) (tk2, way2) 16 0 d' x' y' v' su' tf ts sf = _ := c1
    have e1 : f_X9_joinSensor_l2 many mx my mv (nI s) (tk2, way2) 16 0 d3 th' x3 y3 v3 su3 co' tf3 ts3 sf3 = _ := e1
    rw [b1, bnd, ck_eq (inI hs (by decide)), c1, bnd, e1, bnd, ck_eq (inI hs (by decide)), clampI hs]
end
end XSENSOR
