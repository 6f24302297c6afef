/-! Both sensors' measures met. -/
section XJOINS
/-- the tracks between steps -/
def IVT (N : Nat) (th : Nat → Int32) (x y v : Nat → UInt64) (su co : Nat → Int32) (th' : Nat → Int32) (x' y' v' : Nat → UInt64) (su' co' : Nat → Int32) : Prop :=
  ∀ t, t < 8 → IT N (th t) (x t) (y t) (v t) (su t) (co t) (th' t) (x' t) (y' t) (v' t) (su' t) (co' t)
/-- the measures that wait -/
def IVS (c0 : Int32) (x0 y0 v0 : Nat → UInt64) (c1 : Int32) (x1 y1 v1 : Nat → UInt64) (many : Nat → Int32) (mx my mv : Nat → UInt64) : Prop :=
  ∃ n0 n1 : Nat, (n0 ≤ 4 ∧ n1 ≤ 4) ∧ (c0 = nI n0 ∧ c1 = nI n1 ∧ many 0 = nI n0 ∧ many 1 = nI n1) ∧ (∀ k, k < n0 → (XW (x0 k) ∧ YW (y0 k) ∧ VW (v0 k)) ∧ mx k = x0 k ∧ my k = y0 k ∧ mv k = v0 k) ∧ (∀ k, k < n1 → (XW (x1 k) ∧ YW (y1 k) ∧ VW (v1 k)) ∧ mx (4 + k) = x1 k ∧ my (4 + k) = y1 k ∧ mv (4 + k) = v1 k)
theorem joins_eq {N : Nat} (hN : 1133 ≤ N) (hM : N ≤ 1740) {sp t now : UInt64} (hs : SP sp) (ht : TI t) (hn : TI now) {th : Nat → Int32} {x y v : Nat → UInt64} {su co : Nat → Int32} {th' : Nat → Int32} {x' y' v' : Nat → UInt64} {su' co' : Nat → Int32} (hT : IVT N th x y v su co th' x' y' v' su' co')
    {c0 c1 : Int32} {x0 y0 v0 x1 y1 v1 : Nat → UInt64} {many : Nat → Int32} {mx my mv : Nat → UInt64} (hS : IVS c0 x0 y0 v0 c1 x1 y1 v1 many mx my mv) {taken : Nat → Int32} (hP : ∀ j, j < 8 → taken j = 0) (df : Int32) (met : Nat → Int32) (ms : Nat → UInt64) (best tried costs : Nat → Int32) (tk way tf ts : Nat → Int32) (sf : Nat → UInt64) :
    ∃ (yx : Nat → UInt64) (z : TS) (cn bj bs : Int32) (b2 t2 cs2 k2_ : Nat → Int32) (xr : Nat → UInt64) (f0 s0 : Nat → Int32) (d3 : Int32) (th3 : Nat → Int32) (x3 y3 v3 : Nat → UInt64) (su3 co3 tk3 way3 f3 s3 : Nat → Int32) (w3 : Nat → UInt64) (th4 : Nat → Int32) (x4 y4 v4 : Nat → UInt64) (su4 co4 tk4 way4 f4 s4 : Nat → Int32) (w4 : Nat → UInt64),
      f_X7_move sp (FP.dsub t now) th x v = some yx ∧
      f_X8_joinMeasures df c0 x0 y0 v0 c1 x1 y1 v1 th yx y v su co met ms best tried costs taken = some (if z.1 = 0 then 0 else df + 1, 0, 0, z.1, z.2.1, z.2.2.1, z.2.2.2.1, z.2.2.2.2.1, z.2.2.2.2.2.1, z.2.2.2.2.2.2.1, z.2.2.2.2.2.2.2.1, z.2.2.2.2.2.2.2.2, cn, bj, bs, b2, t2, cs2, k2_) ∧
      (∀ j, j < 8 → k2_ j = 0) ∧
      f_X9_step_l1 now v' sp t 16 0 x' tf ts = some (xr, f0, s0) ∧
      f_X9_joinSensor 0 0 th' xr y' v' su' co' many mx my mv tk way f0 s0 sf = some (d3, th3, x3, y3, v3, su3, co3, upd many 0 0, tk3, way3, f3, s3, w3) ∧
      f_X9_joinSensor 1 d3 th3 x3 y3 v3 su3 co3 (upd many 0 0) mx my mv tk3 way3 f3 s3 w3 = some (z.1, th4, x4, y4, v4, su4, co4, upd (upd many 0 0) 1 0, tk4, way4, f4, s4, w4) ∧
      RJ (XN (N + 1)) z z.1 th4 x4 y4 v4 su4 co4 f4 s4 w4 := by
  obtain ⟨n0, n1, ⟨hn0, hn1⟩, ⟨rfl, rfl, m0, m1⟩, h0, h1⟩ := hS
  have hXP : ∀ a, XW a → XN (N + 1) a := fun a h => h.xn (by omega)
  have g1 : ∀ j, j < 8 → NN (FP.dsub (v j) sp) ∧ NN (FP.dmul (FP.dsub (v j) sp) (FP.dsub t now)) := fun j hj => by
    obtain ⟨a1, a2, a3, -⟩ := go_bound (hT j hj).2.2.1.2.2 hs ht hn
    exact ⟨a1, a3⟩
  obtain ⟨yx, e1, e2⟩ := move_l1 (there := th) (v := v) (sp := sp) (d := FP.dsub t now) 16 0 x (by decide) (by decide) (fun j _ hj q => ⟨(g1 j hj).1, (g1 j hj).2, (go_class (hT j hj).2.2.1.1 ((hT j hj).2.2.2.2 q).2.2.2.2.2 (hT j hj).2.2.1.2.2 hs ht hn).1⟩)
  have g2 : ∀ j, j < 8 → NN (FP.dsub (v' j) sp) ∧ NN (FP.dmul (FP.dsub (v' j) sp) (FP.dsub t now)) := fun j hj => by
    obtain ⟨a1, a2, a3, -⟩ := go_bound (hT j hj).2.2.2.1.2 hs ht hn
    exact ⟨a1, a3⟩
  obtain ⟨xr, f0, s0, e3, e4, e5, e6⟩ := step_l1 (now := now) (sp := sp) (t := t) (v := v') 16 0 x' tf ts (by decide) (by decide) (fun j _ hj => ⟨(g2 j hj).1, (g2 j hj).2, (go_ref (hT j hj).2.2.2.1.1 hN hM (hT j hj).2.2.2.1.2 hs ht hn).1⟩)
  obtain ⟨met', q1, q2⟩ := forget_val met
  have hR : RJ (XN (N + 1)) (0, th, yx, y, v, su, co, met', ms) 0 th' xr y' v' su' co' f0 s0 sf := by
    refine ⟨⟨.inl rfl, rfl⟩, fun j hj => ?_⟩
    refine IT.go (hT j hj) hN hM hs ht hn ?_ ?_ (q2 j hj) ?_ ?_
    · show yx j = _
      rw [e2]
      by_cases q : th j = 0
      · rw [if_neg (fun w => w.2.2 q), if_pos q]
      · rw [if_pos ⟨Nat.zero_le _, hj, q⟩, if_neg q]
    · rw [e4, if_pos ⟨Nat.zero_le _, hj⟩]
    · rw [e5, if_pos ⟨Nat.zero_le _, hj⟩]
    · rw [e6, if_pos ⟨Nat.zero_le _, hj⟩]
  obtain ⟨z1, bj1, bs1, b1, t1, cs1, k1, d3, th3, x3, y3, v3, su3, co3, tk3, way3, f3, s3, w3, a1, a2, a3, a4, a5⟩ := sensor_eq (s := 0) (many := many) (gx := x0) (gy := y0) (gv := v0) (mx := mx) (my := my) (mv := mv) hXP hn0 (by decide) m0 (fun k hk => (h0 k hk).1) (fun k hk => by rw [Nat.mul_zero, Nat.zero_add]; exact (h0 k hk).2) hR (fun j hj => by rw [e6, if_pos ⟨Nat.zero_le _, hj⟩]) (fun _ j hj => by rw [e5, if_pos ⟨Nat.zero_le _, hj⟩]) (best := best) (tried := tried) (costs := costs) (tk := tk) (way := way) hP
  have a5 := a5 rfl
  obtain ⟨z2, bj2, bs2, b2, t2, cs2, k2_, d4, th4, x4, y4, v4, su4, co4, tk4, way4, f4, s4, w4, c1, c2, c3, c4, -⟩ := sensor_eq (s := 1) (many := upd many 0 0) (gx := x1) (gy := y1) (gv := v1) (mx := mx) (my := my) (mv := mv) hXP hn1 (by decide) (by rw [hupi, if_neg (by decide)]; exact m1) (fun k hk => (h1 k hk).1) (fun k hk => by rw [Nat.mul_one]; exact (h1 k hk).2) a4 (fun j hj => by rw [a5, e6, if_pos ⟨Nat.zero_le _, hj⟩]) (fun e => absurd e (by decide)) (best := b1) (tried := t1) (costs := cs1) (tk := tk3) (way := way3) a2
  have ed := c4.1.2
  subst ed
  refine ⟨yx, z2, nI n1, bj2, bs2, b2, t2, cs2, k2_, xr, f0, s0, d3, th3, x3, y3, v3, su3, co3, tk3, way3, f3, s3, w3, th4, x4, y4, v4, su4, co4, tk4, way4, f4, s4, w4, ?_, ?_, c2, e3, a3, c3, c4⟩
  · unfold f_X7_move
    rw [show (0 : Int32) = nI 0 from rfl, e1, bnd]
  · unfold f_X8_joinMeasures
    have a1 : f_X7_meet 0 th yx y v su co met' ms best tried costs taken (nI n0) x0 y0 v0 = _ := a1
    rw [q1, bnd]
    dsimp only
    rw [a1, bnd]
    dsimp only
    rw [c1, bnd]
    dsimp only
    by_cases q : z2.1 = 0
    · rw [if_pos q, if_pos q]
    · rw [if_neg q, if_neg q]
end XJOINS
