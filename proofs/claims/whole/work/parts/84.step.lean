/-! A step: class and reference alike. -/
section XSTEP
theorem age_eq {M : Nat} (hM : M ≤ 1774) {z : TS} {d' : Int32} {th' : Nat → Int32} {x' y' v' : Nat → UInt64} {su' co' tf ts : Nat → Int32} {sf : Nat → UInt64} (hR : RJ (XN M) z d' th' x' y' v' su' co' tf ts sf) :
    ∃ a s c a' s' c' : Nat → Int32, f_X7_age z.2.1 z.2.2.1 z.2.2.2.2.2.1 z.2.2.2.2.2.2.1 z.2.2.2.2.2.2.2.1 = some (a, s, c) ∧ f_X9_coastAll th' x' su' co' tf ts = some (a', s', c') ∧ IVT M a z.2.2.1 z.2.2.2.1 z.2.2.2.2.1 s c a' x' y' v' s' c' := by
  obtain ⟨a, s, c, e1, e2, e3, e4⟩ := age_l1 (x := z.2.2.1) (met := z.2.2.2.2.2.2.2.1) (fun j hj => (hR.2 j hj).2.2.1.1.1) 16 0 z.2.1 z.2.2.2.2.2.1 z.2.2.2.2.2.2.1 (by decide) (by decide)
  obtain ⟨a', s', c', g1, g2, g3, g4⟩ := coast_l1 (x := x') (tf := tf) (ts := ts) (fun j hj => (hR.2 j hj).2.2.2.1.1.1) 16 0 th' su' co' (by decide) (by decide)
  refine ⟨a, s, c, a', s', c', ?_, ?_, fun j hj => ?_⟩
  · unfold f_X7_age
    rw [show (0 : Int32) = nI 0 from rfl, e1, bnd]
  · unfold f_X9_coastAll
    rw [show (0 : Int32) = nI 0 from rfl, g1, bnd]
  · rw [e2, e3, e4, g2, g3, g4, if_pos ⟨Nat.zero_le _, hj⟩, if_pos ⟨Nat.zero_le _, hj⟩, if_pos ⟨Nat.zero_le _, hj⟩, if_pos ⟨Nat.zero_le _, hj⟩, if_pos ⟨Nat.zero_le _, hj⟩, if_pos ⟨Nat.zero_le _, hj⟩]
    exact RT.age (hR.2 j hj)
theorem leads {M : Nat} (hM : M ≤ 1774) {th : Nat → Int32} {x y v : Nat → UInt64} {su co : Nat → Int32} {th' : Nat → Int32} {x' y' v' : Nat → UInt64} {su' co' : Nat → Int32} (hT : IVT M th x y v su co th' x' y' v' su' co') {o s c sp : UInt64} (ho : OW o) (hs : SW s) (hc : CW c) (hsp : SP sp) :
    ∃ (lead led : Int32) (left leadX : UInt64), f_X7_leadOn th x y su o s c = some lead ∧ f_X7_isThere lead th = some led ∧ f_X7_secondsTo lead sp th x v = some left ∧ f_X9_findLead sp o s c th' x' y' v' su' = some (lead, left, leadX) ∧ (led = 0 ↔ lead < 0) ∧ NN left ∧ NN leadX ∧
      ((led = 0 ∧ lead < 0 ∧ leadX = 13830554455654793216) ∨ (led = 1 ∧ ¬ lead < 0 ∧ inb lead 8 = true ∧ leadX = x lead.toNatClampNeg ∧ x' lead.toNatClampNeg = x lead.toNatClampNeg ∧ v' lead.toNatClampNeg = v lead.toNatClampNeg ∧ Bd 1084 (x lead.toNatClampNeg) ∧ Bd 1084 (v lead.toNatClampNeg))) := by
  obtain ⟨lead, led, left, leadX, e1, e2, e3, e4, e5, e6, e7, e8⟩ := lead_eq (there := th) (mt := th') (x := x) (y := y) (v := v) (mx := x') (my := y') (mv := v') (sure := su) (ms := su') (o := o) (s := s) (c := c) (sp := sp) (fun j hj => by rw [(hT j hj).2.1])
    (fun j hj q => by
      obtain ⟨r1, r2, r3, r4, -⟩ := (hT j hj).2.2.2.2 q
      exact ⟨r1, r2, r4, r3⟩)
    (fun j hj => mid_far (hT j hj).2.2.2.1.1 hM ho hs hc)
    (fun j hj q => by
      obtain ⟨r1, r2, r3⟩ := (hT j hj).2.2.1
      exact ⟨mid_near r1.1 ((hT j hj).2.2.2.2 q).2.2.2.2.2 r2 ho hs hc, r1.df, r3.df, ((hsp.bd).sub r3.bd (by decide)).df (by decide)⟩) hsp.df
  refine ⟨lead, led, left, leadX, e1, e2, e3, e4, e5, e6, e7, ?_⟩
  rcases e8 with ⟨h1, h2, h3⟩ | ⟨h1, i, hi, h2, h3, h4⟩
  · exact .inl ⟨h1, h2, h3⟩
  · have hcl : lead.toNatClampNeg = i := by rw [h2]; exact nI_clamp (by omega)
    obtain ⟨r1, -, r3, -⟩ := (hT i hi).2.2.2.2 h3
    refine .inr ⟨h1, by rw [h2]; exact nI_pos (by omega), by rw [h2]; exact inI hi (by decide), ?_⟩
    rw [hcl]
    exact ⟨h4, r1, r3, RN.bd (hT i hi).2.2.1.1 hi_df (by decide +kernel) (by decide +kernel) (by decide), (hT i hi).2.2.1.2.2.bd⟩
section
variable {o s c pe bk st wi gp br pl ca aa turn sp t left lx lx' : UInt64} {on asked stopping stage lead led due stage' asked' stopping' mode' u df : Int32} {pull' turn' : UInt64}
theorem step_j1_val {u7 : Int32 × Int32 × Int32 × Int32 × (Nat → Int32) × (Nat → UInt64) × (Nat → UInt64) × (Nat → UInt64) × (Nat → Int32) × (Nat → Int32) × (Nat → Int32) × (Nat → UInt64) × Int32 × Int32 × Int32 × (Nat → Int32) × (Nat → Int32) × (Nat → Int32) × (Nat → Int32)} {u8 : (Nat → Int32) × (Nat → Int32) × (Nat → Int32)}
    (h1 : f_X8_dueStage left st = some due) (h2 : f_X8_nextStage stage due = some stage') (h3 : f_X1_pass t sp on asked stopping ca aa = some (asked', stopping')) (h4 : f_X8_chosenMode led t u7.1 stage' pe bk on asked' stopping' ca = some mode') (h5 : f_X8_limitedPull lead sp stage' mode' u8.1 u7.2.2.2.2.2.1 u7.2.2.2.2.2.2.2.1 pe bk wi gp br pl stopping' = some pull') (h6 : f_X0_steers 4587366580439587226 st = some u) (h7 : u = 0 → ∃ g, f_X2_straightening o s = some g ∧ f_X8_turned turn g = some turn') (h8 : ¬ u = 0 → f_X8_turned turn FP.dconst0 = some turn') :
    f_X8_step_j1 o s pe bk st wi gp br pl on asked stopping ca aa stage turn sp t u7 u8 lead led left lx = some (mode', t, sp, u7.1, stage', mode', pull', turn', left, lx, u7.2.1, u7.2.2.1, u7.2.2.2.1, u8.1, u7.2.2.2.2.2.1, u7.2.2.2.2.2.2.1, u7.2.2.2.2.2.2.2.1, u8.2.1, u8.2.2, u7.2.2.2.2.2.2.2.2.2.2.1, u7.2.2.2.2.2.2.2.2.2.2.2.1, u7.2.2.2.2.2.2.2.2.2.2.2.2.1, u7.2.2.2.2.2.2.2.2.2.2.2.2.2.1, u7.2.2.2.2.2.2.2.2.2.2.2.2.2.2.1, u7.2.2.2.2.2.2.2.2.2.2.2.2.2.2.2.1, u7.2.2.2.2.2.2.2.2.2.2.2.2.2.2.2.2.1, u7.2.2.2.2.2.2.2.2.2.2.2.2.2.2.2.2.2.1, u7.2.2.2.2.2.2.2.2.2.2.2.2.2.2.2.2.2.2, asked', stopping') := by
  unfold f_X8_step_j1
  simp only [h1, h2, h3, h4, h5, h6, bnd]
  by_cases q : u = 0
  · obtain ⟨g, g1, g2⟩ := h7 q
    rw [if_pos q, g1, bnd, g2, bnd]
  · rw [if_neg q, h8 q, bnd]
theorem mstep_j1_val {u30 : Int32 × (Nat → Int32) × (Nat → UInt64) × (Nat → UInt64) × (Nat → UInt64) × (Nat → Int32) × (Nat → Int32) × (Nat → Int32) × (Nat → Int32) × (Nat → Int32) × (Nat → Int32) × (Nat → Int32) × (Nat → UInt64)} {a1 a2 a3 : Nat → Int32}
    (h0 : f_X9_coastAll u30.2.1 u30.2.2.1 u30.2.2.2.2.2.1 u30.2.2.2.2.2.2.1 u30.2.2.2.2.2.2.2.2.2.2.1 u30.2.2.2.2.2.2.2.2.2.2.2.1 = some (a1, a2, a3)) (h1 : f_X9_findLead sp o s c a1 u30.2.2.1 u30.2.2.2.1 u30.2.2.2.2.1 a2 = some (lead, left, lx)) (h2 : f_X9_rise st left stage = some stage') (h3 : f_X9_lookAtHands t sp on ca asked aa stopping = some (asked', stopping')) (h4 : f_X9_findMode t df pe bk on ca asked' stopping' lead stage' = some mode') (h5 : f_X9_findForce sp pe bk stopping' wi gp br pl lead stage' mode' u30.2.2.1 u30.2.2.2.2.1 = some pull') (h6 : f_X9_turn o s st turn = some turn') :
    f_X9_step_j1 o s c pe bk st on ca asked aa stopping wi gp br pl stage turn sp t u30 df = some (mode', 0, t, sp, u30.1, df, asked', stopping', lead, left, lx, stage', mode', pull', turn', a1, u30.2.2.1, u30.2.2.2.1, u30.2.2.2.2.1, a2, a3, u30.2.2.2.2.2.2.2.1, u30.2.2.2.2.2.2.2.2.1, u30.2.2.2.2.2.2.2.2.2.1, u30.2.2.2.2.2.2.2.2.2.2.1, u30.2.2.2.2.2.2.2.2.2.2.2.1, u30.2.2.2.2.2.2.2.2.2.2.2.2) := by
  unfold f_X9_step_j1
  simp only [h0, h1, h2, h3, h4, h5, h6, bnd]
end
abbrev UW (a : UInt64) : Prop := RN FP.dconst0 FP.dconst1 a
abbrev ZW (a : UInt64) : Prop := RN 13822447976325526323 4599075939470750515 a
theorem UW.df {a : UInt64} (h : UW a) : DF a := RN.df h (bits_df (by decide)) (bits_df (by decide))
/-- lane, driver, limits -/
def IVC (o s c pe bk st wi gp br pl : UInt64) : Prop :=
  (OW o ∧ SW s ∧ CW c) ∧ (UW pe ∧ UW bk ∧ SW st) ∧ (RN FP.dconst0 4633641066610819072 wi ∧ RN 4602678819172646912 4613937818241073152 gp ∧ RN FP.dconst1 4621256167635550208 br ∧ RN FP.dconst0 4613937818241073152 pl)
/-- the hands -/
def IVH (on asked stopping : Int32) (ca aa : UInt64) : Prop := (z01 on ∧ z01 asked ∧ z01 stopping ∧ (asked = 0 ∨ stopping = 0)) ∧ TI ca ∧ TI aa
/-- what the last step left -/
def IVW (now speed pull turn left leadX : UInt64) : Prop := (TI now ∧ SP speed) ∧ NN pull ∧ ZW turn ∧ NN left ∧ NN leadX
theorem step_eq {N : Nat} (hN : 1133 ≤ N) (hM : N ≤ 1740) {sp t : UInt64} (nsp : NN sp) (nt : NN t)
    {now speed pull turn left leadX : UInt64} (hW : IVW now speed pull turn left leadX)
    {o s c pe bk st wi gp br pl : UInt64} (hC : IVC o s c pe bk st wi gp br pl)
    {on asked stopping : Int32} {ca aa : UInt64} (hH : IVH on asked stopping ca aa)
    {th : Nat → Int32} {x y v : Nat → UInt64} {su co : Nat → Int32} {th' : Nat → Int32} {x' y' v' : Nat → UInt64} {su' co' : Nat → Int32} (hT : IVT N th x y v su co th' x' y' v' su' co')
    {c0 c1 : Int32} {x0 y0 v0 x1 y1 v1 : Nat → UInt64} {many : Nat → Int32} {mx my mv : Nat → UInt64} (hS : IVS c0 x0 y0 v0 c1 x1 y1 v1 many mx my mv) {taken : Nat → Int32} (hP : ∀ j, j < 8 → taken j = 0)
    (df stage mode d0 : Int32) (met : Nat → Int32) (ms : Nat → UInt64) (cn bj bs : Int32) (best tried costs : Nat → Int32) (d0' lead : Int32) (tk way tf ts : Nat → Int32) (sf : Nat → UInt64) :
    ∃ (r : Int32) (now2 speed2 : UInt64) (df2 stage2 mode2 : Int32) (pull2 turn2 left2 leadX2 : UInt64) (c02 c12 d2 : Int32) (th2 : Nat → Int32) (x2 y2 v2 : Nat → UInt64) (su2 co2 met2 : Nat → Int32) (ms2 : Nat → UInt64) (cn2 bj2 bs2 : Int32) (best2 tried2 costs2 taken2 : Nat → Int32) (asked2 stopping2 : Int32)
      (d2' lead2 : Int32) (th2' : Nat → Int32) (x2' y2' v2' : Nat → UInt64) (su2' co2' many2 tk2 way2 tf2 ts2 : Nat → Int32) (sf2 : Nat → UInt64),
      f_X8_step sp t now speed df stage mode pull turn left leadX c0 x0 y0 v0 c1 x1 y1 v1 d0 th x y v su co met ms cn bj bs best tried costs taken o s c pe bk st wi gp br pl on asked stopping ca aa = some (r, now2, speed2, df2, stage2, mode2, pull2, turn2, left2, leadX2, c02, c12, d2, th2, x2, y2, v2, su2, co2, met2, ms2, cn2, bj2, bs2, best2, tried2, costs2, taken2, asked2, stopping2) ∧
      f_X9_step sp t now speed d0' df o s c pe bk st on ca asked aa stopping wi gp br pl lead left leadX stage mode pull turn th' x' y' v' su' co' many mx my mv tk way tf ts sf = some (r, 0, now2, speed2, d2', df2, asked2, stopping2, lead2, left2, leadX2, stage2, mode2, pull2, turn2, th2', x2', y2', v2', su2', co2', many2, tk2, way2, tf2, ts2, sf2) ∧
      IVW now2 speed2 pull2 turn2 left2 leadX2 ∧ IVH on asked2 stopping2 ca aa ∧ IVT (N + 1) th2 x2 y2 v2 su2 co2 th2' x2' y2' v2' su2' co2' ∧ IVS c02 x0 y0 v0 c12 x1 y1 v1 many2 mx my mv ∧ (∀ j, j < 8 → taken2 j = 0) := by
  obtain ⟨⟨hnow, hspeed⟩, hpull, hturn, hleft, hleadX⟩ := id hW
  rcases within_val (lo := FP.dconst0) (hi := 4634626229029306368) nsp nn0 (bits_df (by decide)).nn with ⟨r1, e1⟩ | ⟨r1, e1⟩
  · rcases isTime_val nt hnow.1 with ⟨r2, e2, e3⟩ | ⟨r2, e2, e3⟩
    · have hsp : SP sp := ⟨nsp, r1⟩
      have ht : TI t := ⟨nt, Int.le_trans hnow.2.1 r2.1, r2.2⟩
      obtain ⟨⟨ho, hs, hc⟩, ⟨hpe, hbk, hst⟩, hwi, hgp, hbr, hpl⟩ := hC
      obtain ⟨⟨h01, h02, h03, h04⟩, hca, haa⟩ := id hH
      obtain ⟨yx, z, cn2, bj2, bs2, b2, t2, cs2, k2_, xr, f0, s0, d3, th3, x3, y3, v3, su3, co3, tk3, way3, f3, s3, w3, th4, x4, y4, v4, su4, co4, tk4, way4, f4, s4, w4, j1, j2, j3, j4, j5, j6, j7⟩ := joins_eq hN hM hsp ht hnow hT hS hP df met ms best tried costs tk way tf ts sf
      obtain ⟨a, a2, a3, b, b2', b3, g1, g2, g3⟩ := age_eq (by omega) j7
      obtain ⟨ld, led, lf, lx, l1, l2, l3, l4, l5, l6, l7, l8⟩ := leads (by omega) g3 ho hs hc hsp
      obtain ⟨due, stage', p1, p2, p3⟩ := stage_eq (stage := stage) l6 hst.1
      obtain ⟨asked', stopping', p4, p5, p6, p7, p8⟩ := look_eq hsp.1 ht.df hca.df haa.df h01 h02 h03 h04
      obtain ⟨mode', p9, p10⟩ := mode_eq (now := t) (pe := pe) (br := bk) (ca := ca) (df := if z.1 = 0 then 0 else df + 1) (st := stage') (on := on) (asked := asked') (stopping := stopping') (led := led) (lead := ld) ht.df hca.df hpe.1 hbk.1 l5
      have bwi : Bd 1084 wi := RN.bd hwi hi_df (by decide +kernel) (by decide +kernel) (by decide)
      have bgp : Bd 1084 gp := RN.bd hgp hi_df (by decide +kernel) (by decide +kernel) (by decide)
      obtain ⟨pull', np, p11, p12⟩ := pull_eq (br := br) (pl := pl) (sp := sp) (bk := bk) (pe := pe) (wi := wi) (gp := gp) (st := stage') (stopping := stopping') (mode := mode') (lead := ld) (there := a) (x := z.2.2.1) (v := z.2.2.2.2.1) (mx := x4) (mv := v4) hsp.bd bwi bgp hpe.df hbk.df hbr.1 hpl.1 hbr.2 hpl.2 (by
        rcases l8 with ⟨q1, q2, -⟩ | ⟨q1, q2, q3, -, q5, q6, q7, q8⟩
        · exact .inl ⟨q2, by rw [l2, q1]⟩
        · exact .inr ⟨q2, q3, by rw [l2, q1], q5, q6, q7, q8⟩)
      obtain ⟨u, turn', p13, p14, p15, p16, p17, p18⟩ := turn_eq (o := o) (s := s) (st := st) (w := turn) ho.1 hs.1 hst.1 hturn.1 ho.2 hs.2 hturn.2
      have nd := (go_bound (v := FP.dconst0) ⟨nn0, by decide +kernel, by decide +kernel⟩ hsp ht hnow).2.1
      have e6 : f_X9_in sp FP.dconst0 4634626229029306368 = some 1 := e1
      have e7 : f_X9_in t now 4681608360884174848 = some 1 := e3
      have hW2 : IVW t sp pull' turn' lf lx := ⟨⟨ht, hsp⟩, np, ⟨p14, p15⟩, l6, l7⟩
      have hH2 : IVH on asked' stopping' ca aa := ⟨⟨h01, p6, p7, p8⟩, hca, haa⟩
      have hS2 : IVS 0 x0 y0 v0 0 x1 y1 v1 (upd (upd many 0 0) 1 0) mx my mv := ⟨0, 0, ⟨by decide, by decide⟩, ⟨rfl, rfl, rfl, rfl⟩, fun k hk => by omega, fun k hk => by omega⟩
      have X8 : f_X8_step sp t now speed df stage mode pull turn left leadX c0 x0 y0 v0 c1 x1 y1 v1 d0 th x y v su co met ms cn bj bs best tried costs taken o s c pe bk st wi gp br pl on asked stopping ca aa = some (mode', t, sp, if z.1 = 0 then 0 else df + 1, stage', mode', pull', turn', lf, lx, 0, 0, z.1, a, z.2.2.1, z.2.2.2.1, z.2.2.2.2.1, a2, a3, z.2.2.2.2.2.2.2.1, z.2.2.2.2.2.2.2.2, cn2, bj2, bs2, b2, t2, cs2, k2_, asked', stopping') := by
        unfold f_X8_step
        simp only [e1, e2, bnd, if_neg n10, ck_eq (nnb_of nd), j1, j2, g1, l1, l2, l3]
        rcases l8 with ⟨q1, q2, q3⟩ | ⟨q1, q2, q3, q4, q5, q6, q7, q8⟩
        · rw [if_pos q1, q3]
          exact step_j1_val (u7 := (if z.1 = 0 then 0 else df + 1, 0, 0, z.1, z.2.1, z.2.2.1, z.2.2.2.1, z.2.2.2.2.1, z.2.2.2.2.2.1, z.2.2.2.2.2.2.1, z.2.2.2.2.2.2.2.1, z.2.2.2.2.2.2.2.2, cn2, bj2, bs2, b2, t2, cs2, k2_)) (u8 := (a, a2, a3)) p1 p2 p4 p9 p11 p13 p17 p18
        · rw [if_neg (by rw [q1]; exact n10), ck_eq q3, ← q4]
          exact step_j1_val (u7 := (if z.1 = 0 then 0 else df + 1, 0, 0, z.1, z.2.1, z.2.2.1, z.2.2.2.1, z.2.2.2.2.1, z.2.2.2.2.2.1, z.2.2.2.2.2.2.1, z.2.2.2.2.2.2.2.1, z.2.2.2.2.2.2.2.2, cn2, bj2, bs2, b2, t2, cs2, k2_)) (u8 := (a, a2, a3)) p1 p2 p4 p9 p11 p13 p17 p18
      have X9 : f_X9_step sp t now speed d0' df o s c pe bk st on ca asked aa stopping wi gp br pl lead left leadX stage mode pull turn th' x' y' v' su' co' many mx my mv tk way tf ts sf = some (mode', 0, t, sp, z.1, if z.1 = 0 then 0 else df + 1, asked', stopping', ld, lf, lx, stage', mode', pull', turn', b, x4, y4, v4, b2', b3, upd (upd many 0 0) 1 0, tk4, way4, f4, s4, w4) := by
        unfold f_X9_step
        simp only [e6, e7, bnd, if_neg n10, ck_eq (nnb_of nd), j4, j5, j6]
        by_cases q : z.1 = 0
        · rw [if_pos q] at p10
          rw [if_pos q, if_pos q]
          exact mstep_j1_val (u30 := (z.1, th4, x4, y4, v4, su4, co4, upd (upd many 0 0) 1 0, tk4, way4, f4, s4, w4)) g2 l4 p3 p5 p10 p12 p16
        · rw [if_neg q] at p10
          rw [if_neg q, if_neg q]
          exact mstep_j1_val (u30 := (z.1, th4, x4, y4, v4, su4, co4, upd (upd many 0 0) 1 0, tk4, way4, f4, s4, w4)) g2 l4 p3 p5 p10 p12 p16
      exact ⟨_, _, _, _, _, _, _, _, _, _, _, _, _, _, _, _, _, _, _, _, _, _, _, _, _, _, _, _, _, _, _, _, _, _, _, _, _, _, _, _, _, _, _, _, X8, X9, hW2, hH2, g3, hS2, j3⟩
    · refine ⟨-2, now, speed, df, stage, mode, pull, turn, left, leadX, c0, c1, d0, th, x, y, v, su, co, met, ms, cn, bj, bs, best, tried, costs, taken, asked, stopping, d0', lead, th', x', y', v', su', co', many, tk, way, tf, ts, sf, ?_, ?_, hW, hH, fun j hj => (hT j hj).mono (Nat.le_succ _), hS, hP⟩
      · unfold f_X8_step
        rw [e1, bnd, if_neg n10, e2, bnd, if_pos rfl]
      · unfold f_X9_step
        have e6 : f_X9_in sp FP.dconst0 4634626229029306368 = some 1 := e1
        have e7 : f_X9_in t now 4681608360884174848 = some 0 := e3
        rw [e6, bnd, if_neg n10, e7, bnd, if_pos rfl]
  · refine ⟨-2, now, speed, df, stage, mode, pull, turn, left, leadX, c0, c1, d0, th, x, y, v, su, co, met, ms, cn, bj, bs, best, tried, costs, taken, asked, stopping, d0', lead, th', x', y', v', su', co', many, tk, way, tf, ts, sf, ?_, ?_, hW, hH, fun j hj => (hT j hj).mono (Nat.le_succ _), hS, hP⟩
    · unfold f_X8_step
      rw [e1, bnd, if_pos rfl]
    · unfold f_X9_step
      have e6 : f_X9_in sp FP.dconst0 4634626229029306368 = some 0 := e1
      rw [e6, bnd, if_pos rfl]
end XSTEP
