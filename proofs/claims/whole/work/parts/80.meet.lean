/-! The class's meeting of one sensor: first what is joined, then what is made. -/
section XMEET
abbrev TS : Type := Int32 × (Nat → Int32) × (Nat → UInt64) × (Nat → UInt64) × (Nat → UInt64) × (Nat → Int32) × (Nat → Int32) × (Nat → Int32) × (Nat → UInt64)
def dfN (d me : Int32) (ms c : UInt64) : Int32 := if me = 0 then d else if zv (mg (FP.dsub ms c)) ≤ zv 4617315517961601024 then d else 1
def JT (t : Nat) (a b c : UInt64) (z : TS) : TS :=
  (dfN z.1 (z.2.2.2.2.2.2.2.1 t) (z.2.2.2.2.2.2.2.2 t) c, z.2.1, vf_upd z.2.2.1 t (hf (z.2.2.1 t) a), vf_upd z.2.2.2.1 t (hf (z.2.2.2.1 t) b), vf_upd z.2.2.2.2.1 t (qf (z.2.2.2.2.1 t) c), upd z.2.2.2.2.2.1 t (suN (z.2.2.2.2.2.1 t)), upd z.2.2.2.2.2.2.1 t 0, upd z.2.2.2.2.2.2.2.1 t 1, vf_upd z.2.2.2.2.2.2.2.2 t c)
/-- the first track that is free, from k on -/
def ffr (there : Nat → Int32) : Nat → Nat → Nat
  | 0, k => k
  | n + 1, k => if there k = 0 then k else ffr there n (k + 1)
def fre (there : Nat → Int32) : Nat := ffr there 8 0
def KT (a b c : UInt64) (z : TS) : TS :=
  if fre z.2.1 < 8 then (z.1, upd z.2.1 (fre z.2.1) 1, vf_upd z.2.2.1 (fre z.2.1) a, vf_upd z.2.2.2.1 (fre z.2.1) b, vf_upd z.2.2.2.2.1 (fre z.2.1) c, upd z.2.2.2.2.2.1 (fre z.2.1) 1, upd z.2.2.2.2.2.2.1 (fre z.2.1) 0, upd z.2.2.2.2.2.2.2.1 (fre z.2.1) 1, vf_upd z.2.2.2.2.2.2.2.2 (fre z.2.1) c) else z
theorem ffr_zero {there : Nat → Int32} : ∀ (n k : Nat), ffr there n k < n + k → there (ffr there n k) = 0
  | 0, k, h => by
    have h : k < 0 + k := h
    omega
  | n + 1, k, h => by
    have e : ffr there (n + 1) k = if there k = 0 then k else ffr there n (k + 1) := rfl
    rw [e] at h ⊢
    by_cases q : there k = 0
    · rw [if_pos q]; exact q
    · rw [if_neg q] at h ⊢
      exact ffr_zero n (k + 1) (by omega)
theorem fre_zero {there : Nat → Int32} (h : fre there < 8) : there (fre there) = 0 := ffr_zero 8 0 h
theorem vfc {x : Nat → UInt64} {f t : Nat} {a b : UInt64} (h : f ≠ t) : vf_upd (vf_upd x f a) t b = vf_upd (vf_upd x t b) f a := by
  funext j
  rw [hupd, hupd, hupd, hupd]
  by_cases q : j = t
  · rw [if_pos q, if_neg (by omega), if_pos q]
  · rw [if_neg q, if_neg q]
theorem vfn {x : Nat → UInt64} {f t : Nat} {a : UInt64} (h : f ≠ t) : vf_upd x f a t = x t := by
  rw [hupd, if_neg (by omega)]
theorem ufc {x : Nat → Int32} {f t : Nat} {a b : Int32} (h : f ≠ t) : upd (upd x f a) t b = upd (upd x t b) f a := by
  funext j
  rw [hupi, hupi, hupi, hupi]
  by_cases q : j = t
  · rw [if_pos q, if_neg (by omega), if_pos q]
  · rw [if_neg q, if_neg q]
theorem ufn {x : Nat → Int32} {f t : Nat} {a : Int32} (h : f ≠ t) : upd x f a t = x t := by
  rw [hupi, if_neg (by omega)]
theorem JK {t : Nat} {a b c a' b' c' : UInt64} {z : TS} (h : ¬ z.2.1 t = 0) : JT t a b c (KT a' b' c' z) = KT a' b' c' (JT t a b c z) := by
  obtain ⟨d, th, x, y, v, su, co, me, ms⟩ := z
  unfold KT
  have e : (JT t a b c (d, th, x, y, v, su, co, me, ms)).2.1 = th := rfl
  rw [e]
  show JT t a b c (if fre th < 8 then _ else _) = _
  by_cases q : fre th < 8
  · have hn : fre th ≠ t := fun w => h (by rw [← w]; exact fre_zero q)
    rw [if_pos q, if_pos q]
    unfold JT
    simp only [vfn hn, ufn hn, vfc hn, ufc hn]
  · rw [if_neg q, if_neg q]
section
variable (g : Nat → Nat) (gx gy gv : Nat → UInt64)
def JS : Nat → Nat → TS → TS
  | 0, _, z => z
  | r + 1, k, z => JS r (k + 1) (if g k < 8 then JT (g k) (gx k) (gy k) (gv k) z else z)
def KS : Nat → Nat → TS → TS
  | 0, _, z => z
  | r + 1, k, z => KS r (k + 1) (if g k = 8 then KT (gx k) (gy k) (gv k) z else z)
end
section
variable {g : Nat → Nat} {gx gy gv : Nat → UInt64}
theorem JT_there {t : Nat} {a b c : UInt64} {z : TS} : (JT t a b c z).2.1 = z.2.1 := rfl
theorem KT_there {t : Nat} {a b c : UInt64} {z : TS} (h : ¬ z.2.1 t = 0) : ¬ (KT a b c z).2.1 t = 0 := by
  unfold KT
  by_cases q : fre z.2.1 < 8
  · rw [if_pos q]
    show ¬ upd z.2.1 (fre z.2.1) 1 t = 0
    rw [hupi]
    split
    · exact n10
    · exact h
  · rw [if_neg q]; exact h
theorem JSK {a b c : UInt64} : ∀ (r k : Nat) (z : TS), (∀ i, k ≤ i → i < k + r → g i < 8 → ¬ z.2.1 (g i) = 0) → JS g gx gy gv r k (KT a b c z) = KT a b c (JS g gx gy gv r k z)
  | 0, _, _, _ => rfl
  | r + 1, k, z, h => by
    show JS g gx gy gv r (k + 1) (if g k < 8 then JT (g k) (gx k) (gy k) (gv k) (KT a b c z) else KT a b c z) = KT a b c (JS g gx gy gv r (k + 1) (if g k < 8 then JT (g k) (gx k) (gy k) (gv k) z else z))
    by_cases q : g k < 8
    · rw [if_pos q, if_pos q, JK (h k (Nat.le_refl _) (by omega) q)]
      exact JSK r (k + 1) _ (fun i h1 h2 h3 => by rw [JT_there]; exact h i (by omega) (by omega) h3)
    · rw [if_neg q, if_neg q]
      exact JSK r (k + 1) z (fun i h1 h2 h3 => h i (by omega) (by omega) h3)
/-- what the class's numbers keep to -/
def CI (z : TS) : Prop := ∀ t, t < 8 → XW (z.2.2.1 t) ∧ YW (z.2.2.2.1 t) ∧ VW (z.2.2.2.2.1 t) ∧ (¬ z.2.2.2.2.2.2.2.1 t = 0 → VW (z.2.2.2.2.2.2.2.2 t))
theorem CI_J {t : Nat} {a b c : UInt64} {z : TS} (h : CI z) (ha : XW a) (hb : YW b) (hc : VW c) : CI (JT t a b c z) := by
  intro j hj
  obtain ⟨h1, h2, h3, h4⟩ := h j hj
  show XW (vf_upd z.2.2.1 t _ j) ∧ YW (vf_upd z.2.2.2.1 t _ j) ∧ VW (vf_upd z.2.2.2.2.1 t _ j) ∧ (¬ upd z.2.2.2.2.2.2.2.1 t 1 j = 0 → VW (vf_upd z.2.2.2.2.2.2.2.2 t c j))
  rw [hupd, hupd, hupd, hupd, hupi]
  by_cases q : j = t
  · rw [if_pos q, if_pos q, if_pos q, if_pos q, if_pos q, ← q]
    exact ⟨(hX h1 ha).2.2.2, (hY h2 hb).2.2.2, (hV h3 hc).2.2.2, fun _ => hc⟩
  · rw [if_neg q, if_neg q, if_neg q, if_neg q, if_neg q]
    exact ⟨h1, h2, h3, h4⟩
theorem CI_K {a b c : UInt64} {z : TS} (h : CI z) (ha : XW a) (hb : YW b) (hc : VW c) : CI (KT a b c z) := by
  unfold KT
  by_cases q : fre z.2.1 < 8
  · rw [if_pos q]
    intro j hj
    obtain ⟨h1, h2, h3, h4⟩ := h j hj
    show XW (vf_upd z.2.2.1 (fre z.2.1) a j) ∧ YW (vf_upd z.2.2.2.1 (fre z.2.1) b j) ∧ VW (vf_upd z.2.2.2.2.1 (fre z.2.1) c j) ∧ (¬ upd z.2.2.2.2.2.2.2.1 (fre z.2.1) 1 j = 0 → VW (vf_upd z.2.2.2.2.2.2.2.2 (fre z.2.1) c j))
    rw [hupd, hupd, hupd, hupd, hupi]
    by_cases w : j = fre z.2.1
    · rw [if_pos w, if_pos w, if_pos w, if_pos w, if_pos w]
      exact ⟨ha, hb, hc, fun _ => hc⟩
    · rw [if_neg w, if_neg w, if_neg w, if_neg w, if_neg w]
      exact ⟨h1, h2, h3, h4⟩
  · rw [if_neg q]; exact h
theorem meeting_val {t : Nat} (ht : t < 8) {c : UInt64} {co me : Nat → Int32} {ms : Nat → UInt64} : f_X7_meeting (nI t) c co me ms = some (upd co t 0, upd me t 1, vf_upd ms t c) := by
  unfold f_X7_meeting
  rw [ck_eq (inI ht (by decide)), ck_eq (inI ht (by decide)), ck_eq (inI ht (by decide)), nI_clamp (by omega)]
theorem join_j1 {t : Nat} (ht : t < 8) {a b c : UInt64} {z : TS} (h : CI z) (ha : XW a) (hb : YW b) (hc : VW c) (d : Int32) : f_X7_join_j1 z.2.2.1 z.2.2.2.1 z.2.2.2.2.1 z.2.2.2.2.2.1 z.2.2.2.2.2.2.1 z.2.2.2.2.2.2.2.1 z.2.2.2.2.2.2.2.2 (nI t) a b c d = some (d, (JT t a b c z).2.2) := by
  obtain ⟨h1, h2, h3, h4⟩ := h t ht
  obtain ⟨x1, x2, x3, -⟩ := hX h1 ha
  obtain ⟨y1, y2, y3, -⟩ := hY h2 hb
  obtain ⟨v1, v2, v3, -⟩ := hV h3 hc
  have hc8 : (nI t).toNatClampNeg = t := nI_clamp (by omega)
  have hi : ∀ {α : Type} (o : Option α), ck (inb (nI t) 8 = true) o = o := fun o => ck_eq (inI ht (by decide))
  unfold f_X7_join_j1
  simp only [hi, hc8, ck_eq (nnb_of x1), ck_eq (nnb_of x2), ck_eq (nnb_of x3), ck_eq (nnb_of y1), ck_eq (nnb_of y2), ck_eq (nnb_of y3), ck_eq (nnb_of v1), ck_eq (nnb_of v2), ck_eq (nnb_of v3), meeting_val ht, bnd]
  unfold JT suN
  by_cases q : 5 ≤ z.2.2.2.2.2.1 t
  · rw [if_pos q, if_pos q]; rfl
  · rw [if_neg q, if_neg q]; rfl
theorem join_val {t : Nat} (ht : t < 8) {a b c : UInt64} {z : TS} (h : CI z) (ha : XW a) (hb : YW b) (hc : VW c) : f_X7_join (nI t) a b c z.1 z.2.2.1 z.2.2.2.1 z.2.2.2.2.1 z.2.2.2.2.2.1 z.2.2.2.2.2.2.1 z.2.2.2.2.2.2.2.1 z.2.2.2.2.2.2.2.2 = some ((JT t a b c z).1, (JT t a b c z).2.2) := by
  unfold f_X7_join
  rw [ck_eq (inI ht (by decide)), nI_clamp (show t < 2 ^ 31 by omega)]
  show _ = some (dfN z.1 (z.2.2.2.2.2.2.2.1 t) (z.2.2.2.2.2.2.2.2 t) c, (JT t a b c z).2.2)
  unfold dfN
  by_cases q : z.2.2.2.2.2.2.2.1 t = 0
  · rw [if_pos q, if_pos q, join_j1 ht h ha hb hc]
  · have hm := (h t ht).2.2.2 q
    have nd := dsub_nn hm.df hc.df
    rw [if_neg q, if_neg q, ck_eq (inI ht (by decide)), ck_eq (nnb_of nd), mag_val nd, bnd, i_le (mg_nn nd) k5]
    by_cases w : zv (mg (FP.dsub (z.2.2.2.2.2.2.2.2 t) c)) ≤ zv 4617315517961601024
    · rw [if_pos w, if_pos w, join_j1 ht h ha hb hc]
    · rw [if_neg w, if_neg w, join_j1 ht h ha hb hc]
theorem make_l1 {a b c : UInt64} {z : TS} : ∀ (f n k : Nat), k + n = 8 → n < f → f_X7_make_l1 z.2.1 z.2.2.1 z.2.2.2.1 z.2.2.2.2.1 z.2.2.2.2.2.1 z.2.2.2.2.2.2.1 z.2.2.2.2.2.2.2.1 z.2.2.2.2.2.2.2.2 a b c f (nI k) = some (if ffr z.2.1 n k < 8 then Sum.inl (upd z.2.1 (ffr z.2.1 n k) 1, vf_upd z.2.2.1 (ffr z.2.1 n k) a, vf_upd z.2.2.2.1 (ffr z.2.1 n k) b, vf_upd z.2.2.2.2.1 (ffr z.2.1 n k) c, upd z.2.2.2.2.2.1 (ffr z.2.1 n k) 1, upd z.2.2.2.2.2.2.1 (ffr z.2.1 n k) 0, upd z.2.2.2.2.2.2.2.1 (ffr z.2.1 n k) 1, vf_upd z.2.2.2.2.2.2.2.2 (ffr z.2.1 n k) c) else Sum.inr ()) := by
  intro f
  induction f with
  | zero => intro n k h1 h2; omega
  | succ f ih =>
    intro n k h1 h2
    unfold f_X7_make_l1
    cases n with
    | zero =>
      have : k = 8 := by omega
      subst this
      rw [if_pos e8]
      rfl
    | succ n =>
      have k8 : k < 8 := by omega
      have e : ffr z.2.1 (n + 1) k = if z.2.1 k = 0 then k else ffr z.2.1 n (k + 1) := rfl
      rw [if_neg (g8 k8), ck_eq (inI k8 (by decide)), nI_clamp (show k < 2 ^ 31 by omega), e]
      by_cases q : z.2.1 k = 0
      · rw [if_pos q, if_pos q, if_pos k8, ck_eq (inI k8 (by decide)), ck_eq (inI k8 (by decide)), ck_eq (inI k8 (by decide)), ck_eq (inI k8 (by decide)), ck_eq (inI k8 (by decide)), meeting_val k8]
        rfl
      · rw [if_neg q, if_neg q, ← nI_succ]
        exact ih n (k + 1) (by omega) (by omega)
theorem make_val {a b c : UInt64} {z : TS} : f_X7_make a b c z.2.1 z.2.2.1 z.2.2.2.1 z.2.2.2.2.1 z.2.2.2.2.2.1 z.2.2.2.2.2.2.1 z.2.2.2.2.2.2.2.1 z.2.2.2.2.2.2.2.2 = some (KT a b c z).2 := by
  unfold f_X7_make KT
  have e := make_l1 (a := a) (b := b) (c := c) (z := z) 16 8 0 rfl (by decide)
  have e : f_X7_make_l1 z.2.1 z.2.2.1 z.2.2.2.1 z.2.2.2.2.1 z.2.2.2.2.2.1 z.2.2.2.2.2.2.1 z.2.2.2.2.2.2.2.1 z.2.2.2.2.2.2.2.2 a b c 16 0 = _ := e
  rw [e, bnd]
  show rl (if fre z.2.1 < 8 then _ else _) _ _ = _
  by_cases q : fre z.2.1 < 8
  · rw [if_pos q, if_pos q]; rfl
  · rw [if_neg q, if_neg q]; rfl
theorem meet_l1 {n : Nat} (hn : n ≤ 4) {u : Int32 × Int32 × Int32 × (Nat → Int32) × (Nat → Int32) × (Nat → Int32) × (Nat → Int32)} (hu : ∀ k, k < n → u.2.2.2.1 k = en (g k)) (h9 : ∀ k, g k < 9) (hg : ∀ k, k < n → XW (gx k) ∧ YW (gy k) ∧ VW (gv k)) :
    ∀ (r k f : Nat) (z : TS), k + r = n → r < f → CI z → (∀ i, k ≤ i → i < n → g i < 8 → ¬ z.2.1 (g i) = 0) →
      f_X7_meet_l1 gx gy gv (nI n) u f (nI k) z.1 z.2.1 z.2.2.1 z.2.2.2.1 z.2.2.2.2.1 z.2.2.2.2.2.1 z.2.2.2.2.2.2.1 z.2.2.2.2.2.2.2.1 z.2.2.2.2.2.2.2.2 = some (KS g gx gy gv r k (JS g gx gy gv r k z)) := by
  intro r
  induction r with
  | zero =>
    intro k f z h1 h2 _ _
    obtain ⟨f, rfl⟩ : ∃ q, f = q + 1 := ⟨f - 1, by omega⟩
    unfold f_X7_meet_l1
    by_cases q4 : (4 : Int32) ≤ nI k
    · rw [if_pos q4]; rfl
    · rw [if_neg q4, if_pos (nI_le (by omega) (by omega))]; rfl
  | succ r ih =>
    intro k f z h1 h2 hz ht
    obtain ⟨f, rfl⟩ : ∃ q, f = q + 1 := ⟨f - 1, by omega⟩
    have hk : k < n := by omega
    obtain ⟨ha, hb, hc⟩ := hg k hk
    unfold f_X7_meet_l1
    rw [if_neg (show ¬ (4 : Int32) ≤ nI k from nI_ge (a := k) (b := 4) (by omega) (by decide)), if_neg (nI_ge hk (by omega)), ck_eq (inI (show k < 4 by omega) (by decide)), nI_clamp (show k < 2 ^ 31 by omega), hu k hk, ← nI_succ]
    show _ = some (KS g gx gy gv r (k + 1) (if g k = 8 then KT (gx k) (gy k) (gv k) (JS g gx gy gv r (k + 1) (if g k < 8 then JT (g k) (gx k) (gy k) (gv k) z else z)) else (JS g gx gy gv r (k + 1) (if g k < 8 then JT (g k) (gx k) (gy k) (gv k) z else z))))
    have g9 := h9 k
    by_cases q : g k = 8
    · rw [if_pos q, if_neg (show ¬ g k < 8 by omega)]
      unfold en
      rw [if_pos q, show f_X7_isThere (-1) z.2.1 = some 0 by unfold f_X7_isThere; rw [if_pos (by decide)], bnd, if_pos rfl, ck_eq (inI (show k < 4 by omega) (by decide)), ck_eq (inI (show k < 4 by omega) (by decide)), ck_eq (inI (show k < 4 by omega) (by decide)), make_val, bnd, ← JSK r (k + 1) z (fun i a1 a2 a3 => ht i (by omega) (by omega) a3)]
      have e1 : (KT (gx k) (gy k) (gv k) z).1 = z.1 := by unfold KT; split <;> rfl
      rw [← e1]
      exact ih (k + 1) f (KT (gx k) (gy k) (gv k) z) (by omega) (by omega) (CI_K hz ha hb hc) (fun i a1 a2 a3 => KT_there (ht i (by omega) a2 a3))
    · have q8 : g k < 8 := by omega
      rw [if_neg q, if_pos q8]
      unfold en
      rw [if_neg q, isThere_in q8 (ht k (Nat.le_refl _) hk q8), bnd, if_neg n10, ck_eq (inI (show k < 4 by omega) (by decide)), ck_eq (inI (show k < 4 by omega) (by decide)), ck_eq (inI (show k < 4 by omega) (by decide)), join_val q8 hz ha hb hc, bnd]
      exact ih (k + 1) f (JT (g k) (gx k) (gy k) (gv k) z) (by omega) (by omega) (CI_J hz ha hb hc) (fun i a1 a2 a3 => ht i (by omega) a2 a3)
end
end XMEET
