/-! The law's loop: every call is answered alike. -/
section XLAWALL
theorem ck_go {α : Type} {b : Prop} [Decidable b] {k : Option α} {r : Option α} (hb : b) (h : k = r) : ck b k = r := by rw [ck_eq hb]; exact h
theorem if_go {α : Type} {b : Prop} [Decidable b] {x y r : α} (hb : b) (h : x = r) : (if b then x else y) = r := by rw [if_pos hb]; exact h
theorem ie_go {α : Type} {b : Prop} [Decidable b] {x y r : α} (hb : ¬ b) (h : y = r) : (if b then x else y) = r := by rw [if_neg hb]; exact h
theorem bd_go {α β : Type} {o : Option α} {u : α} {k : α → Option β} {r : Option β} (ho : o = some u) (h : k u = r) : o.bind k = r := by rw [ho]; exact h
theorem or_rn {lo hi p p' v : UInt64} (h : RN lo hi p) (hv : NN v) (k : p' = p ∨ p' = v ∧ rg v lo hi) : RN lo hi p' := by
  rcases k with k | ⟨k, r⟩
  · rw [k]; exact h
  · rw [k]; exact ⟨hv, r⟩
theorem tellD (a : Int32) : NN (FP.dmul (FP.i2d a) 4593671619917905920) := dmul_nn (FP.Core.i2d_fin a) (bits_df (by decide))
theorem seconds_ok {N : Nat} {th : Nat → Int32} {x y v : Nat → UInt64} {su co : Nat → Int32} {th' : Nat → Int32} {x' y' v' : Nat → UInt64} {su' co' : Nat → Int32} {sp : UInt64} (hT : IVT N th x y v su co th' x' y' v' su' co') (hs : SP sp) (k : Int32) : ∃ r : UInt64, NN r ∧ f_X8_time k sp th x v = some r ∧ f_X9_time k sp th' x' v' = some (r, 0) := by
  obtain ⟨r, h1, h2, h3⟩ := seconds_eq (there := th) (x := x) (v := v) (sp := sp) (k := k) hs.df (fun i hi _ => by
    obtain ⟨a1, -, a3⟩ := (hT i hi).2.2.1
    exact ⟨a1.df, a3.df, (hs.bd.sub a3.bd (by decide)).df (by decide)⟩)
  obtain ⟨q, h4, h5, h6⟩ := h3 th' x' v' (fun i hi => by rw [(hT i hi).2.1]) (fun i hi z => by
    obtain ⟨b1, -, b3, -⟩ := (hT i hi).2.2.2.2 z
    exact ⟨b1, b3⟩)
  refine ⟨q, h4, ?_, h6⟩
  unfold f_X8_time
  rw [h2, bnd, h5, bnd]
theorem track_ok {N : Nat} {th : Nat → Int32} {x y v : Nat → UInt64} {su co : Nat → Int32} {th' : Nat → Int32} {x' y' v' : Nat → UInt64} {su' co' : Nat → Int32} (hT : IVT N th x y v su co th' x' y' v' su' co') (k w : Int32) : ∃ r : Int32, f_X8_track k w th x y v su co = some r ∧ f_X9_track k w th' x' y' v' su' co' = some (r, 0) :=
  track_eq (fun i hi _ => by
    obtain ⟨a1, a2, a3⟩ := (hT i hi).2.2.1
    exact ⟨a1.df, a2.df, a3.df⟩) (fun i hi => by rw [(hT i hi).2.1]) (fun i hi z => by
    obtain ⟨b1, b2, b3, b4, b5, -⟩ := (hT i hi).2.2.2.2 z
    exact ⟨b1, b2, b3, b4, b5⟩)
theorem lane_ok {p0 p1 p2 o s c pe bk st wi gp br pl : UInt64} (hC : IVC o s c pe bk st wi gp br pl) (h0 : NN p0) (h1 : NN p1) (h2 : NN p2) : ∃ (r : Int32) (o2 s2 c2 : UInt64), f_X8_lane p0 p1 p2 o s c = some (r, o2, s2, c2) ∧ f_X9_lane p0 p1 p2 o s c = some (r, 0, o2, s2, c2) ∧ IVC o2 s2 c2 pe bk st wi gp br pl := by
  rcases lane_eq (o := o) (s := s) (q := c) h0 h1 h2 with ⟨r0, r1, r2, e1, e2⟩ | ⟨e1, e2⟩
  · exact ⟨_, _, _, _, e1, e2, ⟨⟨h0, r0⟩, ⟨h1, r1⟩, ⟨h2, r2⟩⟩, hC.2⟩
  · exact ⟨_, _, _, _, e1, e2, hC⟩
theorem driver_ok {k : Int32} {v o s c pe bk st wi gp br pl : UInt64} (hC : IVC o s c pe bk st wi gp br pl) (hv : NN v) : ∃ (r : Int32) (a b d : UInt64), f_X8_driver k v pe bk st = some (r, a, b, d) ∧ f_X9_driver k v pe bk st = some (r, 0, a, b, d) ∧ IVC o s c a b d wi gp br pl := by
  obtain ⟨r, a, b, d, e1, e2, k1, k2, k3⟩ := driver_eq (k := k) (p := pe) (b := bk) (s := st) hv
  obtain ⟨c1, ⟨c2, c3, c4⟩, c5⟩ := hC
  exact ⟨r, a, b, d, e1, e2, c1, ⟨or_rn c2 hv k1, or_rn c3 hv k2, or_rn c4 hv k3⟩, c5⟩
theorem limit_ok {k : Int32} {v o s c pe bk st wi gp br pl : UInt64} (hC : IVC o s c pe bk st wi gp br pl) (hv : NN v) : ∃ (r : Int32) (a b d e : UInt64), f_X8_limit k v wi gp br pl = some (r, a, b, d, e) ∧ f_X9_limit k v wi gp br pl = some (r, 0, a, b, d, e) ∧ IVC o s c pe bk st a b d e := by
  obtain ⟨r, a, b, d, e, e1, e2, k1, k2, k3, k4⟩ := limit_eq (k := k) (s := wi) (g := gp) (b := br) (p := pl) hv
  obtain ⟨c1, c5, c2, c3, c4, c6⟩ := hC
  exact ⟨r, a, b, d, e, e1, e2, c1, c5, or_rn c2 hv k1, or_rn c3 hv k2, or_rn c4 hv k3, or_rn c6 hv k4⟩
theorem hands_ok {on x asked stopping : Int32} {t now c aa : UInt64} (hH : IVH x asked stopping c aa) (hn : TI now) (ht : NN t) (hz : zb on = true) (h01 : z01 on) : ∃ (r x2 : Int32) (c2 : UInt64), f_X8_hands on t now x c = some (r, x2, c2) ∧ f_X9_hands on t now x c = some (r, 0, x2, c2) ∧ IVH x2 asked stopping c2 aa := by
  obtain ⟨⟨g1, g2, g3, g4⟩, g5, g6⟩ := id hH
  rcases hands_eq (on := on) (x := x) (c := c) ht hn.1 hz with ⟨r, e1, e2⟩ | ⟨r, e1, e2⟩
  · exact ⟨_, _, _, e1, e2, ⟨h01, g2, g3, g4⟩, ⟨ht, Int.le_trans hn.2.1 r.1, r.2⟩, g6⟩
  · exact ⟨_, _, _, e1, e2, hH⟩
theorem handOver_ok {on asked stopping : Int32} {t now ca c : UInt64} (hH : IVH on asked stopping ca c) (hn : TI now) (ht : NN t) : ∃ (r a2 : Int32) (c2 : UInt64), f_X8_handOver t now on asked stopping c = some (r, a2, c2) ∧ f_X9_handOver t now on asked c stopping = some (r, 0, a2, c2) ∧ IVH on a2 stopping ca c2 := by
  obtain ⟨⟨g1, g2, g3, g4⟩, g5, g6⟩ := id hH
  rcases handOver_eq (on := on) (asked := asked) (stopping := stopping) (c := c) ht hn.1 with ⟨r, -, -, q3, e1, e2⟩ | ⟨r, e1, e2⟩
  · exact ⟨_, _, _, e1, e2, ⟨g1, .inr rfl, g3, .inr q3⟩, g5, ⟨ht, Int.le_trans hn.2.1 r.1, r.2⟩⟩
  · exact ⟨_, _, _, e1, e2, hH⟩
theorem wish_ok {now speed pull turn left leadX : UInt64} (hW : IVW now speed pull turn left leadX) (k : Int32) : ∃ r : UInt64, NN r ∧ f_X8_wish k pull turn left leadX = some r ∧ f_X9_wish k left leadX pull turn = some (r, 0) := wish_eq hW.2.1 hW.2.2.1.1 hW.2.2.2.1 hW.2.2.2.2
set_option maxHeartbeats 40000000 in
set_option maxRecDepth 100000 in
theorem law_all {L : Nat} {xs : Nat → Int32} (hL : L ≤ 3072) : ∀ (n q : Nat) (i0 : Int32) (x_now : UInt64) (x_speed : UInt64) (x_differing : Int32) (x_stage : Int32) (x_mode : Int32) (x_pull : UInt64) (x_turn : UInt64) (x_left : UInt64) (x_leadX : UInt64) (x_sensor0_count : Int32) (x_sensor0_x : (Nat → UInt64)) (x_sensor0_y : (Nat → UInt64)) (x_sensor0_speed : (Nat → UInt64)) (x_sensor1_count : Int32) (x_sensor1_x : (Nat → UInt64)) (x_sensor1_y : (Nat → UInt64)) (x_sensor1_speed : (Nat → UInt64)) (x_tracks_differ : Int32) (x_tracks_there : (Nat → Int32)) (x_tracks_x : (Nat → UInt64)) (x_tracks_y : (Nat → UInt64)) (x_tracks_speed : (Nat → UInt64)) (x_tracks_sure : (Nat → Int32)) (x_tracks_coast : (Nat → Int32)) (x_tracks_met : (Nat → Int32)) (x_tracks_metSpeed : (Nat → UInt64)) (x_tracks_pairing_count : Int32) (x_tracks_pairing_bestJoined : Int32) (x_tracks_pairing_bestSum : Int32) (x_tracks_pairing_best : (Nat → Int32)) (x_tracks_pairing_tried : (Nat → Int32)) (x_tracks_pairing_costs : (Nat → Int32)) (x_tracks_pairing_taken : (Nat → Int32)) (x_lane_offset : UInt64) (x_lane_slope : UInt64) (x_lane_curve : UInt64) (x_driver_pedal : UInt64) (x_driver_brake : UInt64) (x_driver_steer : UInt64) (x_limits_speed : UInt64) (x_limits_gap : UInt64) (x_limits_braking : UInt64) (x_limits_pull : UInt64) (x_hands_on : Int32) (x_hands_asked : Int32) (x_hands_stopping : Int32) (x_hands_changedAt : UInt64) (x_hands_askedAt : UInt64) (x_signs_taken : Int32) (x_signs_counts : (Nat → Int32)) (m_fault : Int32) (m_differs : Int32) (m_lead : Int32) (m_isThere : (Nat → Int32)) (m_x : (Nat → UInt64)) (m_y : (Nat → UInt64)) (m_v : (Nat → UInt64)) (m_sure : (Nat → Int32)) (m_coast : (Nat → Int32)) (m_many : (Nat → Int32)) (m_mx : (Nat → UInt64)) (m_my : (Nat → UInt64)) (m_mv : (Nat → UInt64)) (m_taken : (Nat → Int32)) (m_way : (Nat → Int32)) (m_toldFirst : (Nat → Int32)) (m_toldSecond : (Nat → Int32)) (m_speedFirst : (Nat → UInt64)) (m_counts : (Nat → Int32)) (o : (Nat → Int64)), i0 = nI (6 * q) → q + n = 600 → 6 * q ≤ L + 5 → IVW x_now x_speed x_pull x_turn x_left x_leadX → IVC x_lane_offset x_lane_slope x_lane_curve x_driver_pedal x_driver_brake x_driver_steer x_limits_speed x_limits_gap x_limits_braking x_limits_pull → IVH x_hands_on x_hands_asked x_hands_stopping x_hands_changedAt x_hands_askedAt → IVT (1133 + q) x_tracks_there x_tracks_x x_tracks_y x_tracks_speed x_tracks_sure x_tracks_coast m_isThere m_x m_y m_v m_sure m_coast → IVS x_sensor0_count x_sensor0_x x_sensor0_y x_sensor0_speed x_sensor1_count x_sensor1_x x_sensor1_y x_sensor1_speed m_many m_mx m_my m_mv → (∀ j, j < 8 → x_tracks_pairing_taken j = 0) → IVG x_signs_counts m_counts → f_L_law_l1 xs L n i0 x_now x_speed x_differing x_stage x_mode x_pull x_turn x_left x_leadX x_sensor0_count x_sensor0_x x_sensor0_y x_sensor0_speed x_sensor1_count x_sensor1_x x_sensor1_y x_sensor1_speed x_tracks_differ x_tracks_there x_tracks_x x_tracks_y x_tracks_speed x_tracks_sure x_tracks_coast x_tracks_met x_tracks_metSpeed x_tracks_pairing_count x_tracks_pairing_bestJoined x_tracks_pairing_bestSum x_tracks_pairing_best x_tracks_pairing_tried x_tracks_pairing_costs x_tracks_pairing_taken x_lane_offset x_lane_slope x_lane_curve x_driver_pedal x_driver_brake x_driver_steer x_limits_speed x_limits_gap x_limits_braking x_limits_pull x_hands_on x_hands_asked x_hands_stopping x_hands_changedAt x_hands_askedAt x_signs_taken x_signs_counts m_fault x_now x_speed m_differs x_differing x_lane_offset x_lane_slope x_lane_curve x_driver_pedal x_driver_brake x_driver_steer x_hands_on x_hands_changedAt x_hands_asked x_hands_askedAt x_hands_stopping x_limits_speed x_limits_gap x_limits_braking x_limits_pull m_lead x_left x_leadX x_stage x_mode x_pull x_turn x_signs_taken m_isThere m_x m_y m_v m_sure m_coast m_many m_mx m_my m_mv m_taken m_way m_toldFirst m_toldSecond m_speedFirst m_counts o = some (Sum.inr ()) := by
  intro n
  induction n with
  | zero =>
    intro q i0 x_now x_speed x_differing x_stage x_mode x_pull x_turn x_left x_leadX x_sensor0_count x_sensor0_x x_sensor0_y x_sensor0_speed x_sensor1_count x_sensor1_x x_sensor1_y x_sensor1_speed x_tracks_differ x_tracks_there x_tracks_x x_tracks_y x_tracks_speed x_tracks_sure x_tracks_coast x_tracks_met x_tracks_metSpeed x_tracks_pairing_count x_tracks_pairing_bestJoined x_tracks_pairing_bestSum x_tracks_pairing_best x_tracks_pairing_tried x_tracks_pairing_costs x_tracks_pairing_taken x_lane_offset x_lane_slope x_lane_curve x_driver_pedal x_driver_brake x_driver_steer x_limits_speed x_limits_gap x_limits_braking x_limits_pull x_hands_on x_hands_asked x_hands_stopping x_hands_changedAt x_hands_askedAt x_signs_taken x_signs_counts m_fault m_differs m_lead m_isThere m_x m_y m_v m_sure m_coast m_many m_mx m_my m_mv m_taken m_way m_toldFirst m_toldSecond m_speedFirst m_counts o hi hq hb
    omega
  | succ n ih =>
    intro q i0 x_now x_speed x_differing x_stage x_mode x_pull x_turn x_left x_leadX x_sensor0_count x_sensor0_x x_sensor0_y x_sensor0_speed x_sensor1_count x_sensor1_x x_sensor1_y x_sensor1_speed x_tracks_differ x_tracks_there x_tracks_x x_tracks_y x_tracks_speed x_tracks_sure x_tracks_coast x_tracks_met x_tracks_metSpeed x_tracks_pairing_count x_tracks_pairing_bestJoined x_tracks_pairing_bestSum x_tracks_pairing_best x_tracks_pairing_tried x_tracks_pairing_costs x_tracks_pairing_taken x_lane_offset x_lane_slope x_lane_curve x_driver_pedal x_driver_brake x_driver_steer x_limits_speed x_limits_gap x_limits_braking x_limits_pull x_hands_on x_hands_asked x_hands_stopping x_hands_changedAt x_hands_askedAt x_signs_taken x_signs_counts m_fault m_differs m_lead m_isThere m_x m_y m_v m_sure m_coast m_many m_mx m_my m_mv m_taken m_way m_toldFirst m_toldSecond m_speedFirst m_counts o hi hq hb hW hC hH hT hS hP hG
    have hn0 := hW.1.1
    have next : i0 + 6 = nI (6 * (q + 1)) := by rw [hi, show (6 : Int32) = nI 6 from rfl, nI_add, show 6 * q + 6 = 6 * (q + 1) by omega]
    have hT2 := fun (j : Nat) (hj : j < 8) => (hT j hj).mono (show 1133 + q ≤ 1133 + (q + 1) by omega)
    rewrite [f_L_law_l1]
    by_cases hend : ((Int32.ofNat L) - (6 : Int32)) < i0
    · exact if_go hend rfl
    refine ie_go hend ?_
    have hlt : 6 * q + 6 ≤ L := by
      have a1 : (nI L - nI 6).toInt = (L : Int) - 6 := pk_sub_toInt (by omega) (by decide)
      have a2 : ¬ (nI L - nI 6).toInt < (nI (6 * q)).toInt := fun w => hend (by rw [hi]; exact Int32.lt_iff_toInt_lt.mpr w)
      rw [a1, nI_toInt (by omega)] at a2
      omega
    have h0 : inb i0 L = true := by rw [hi]; exact inI (by omega) (by omega)
    have h1 : inb (i0 + (1 : Int32)) L = true := by rw [hi, show (1 : Int32) = nI 1 from rfl, nI_add]; exact inI (by omega) (by omega)
    have h2 : inb (i0 + (2 : Int32)) L = true := by rw [hi, show (2 : Int32) = nI 2 from rfl, nI_add]; exact inI (by omega) (by omega)
    have h3 : inb (i0 + (3 : Int32)) L = true := by rw [hi, show (3 : Int32) = nI 3 from rfl, nI_add]; exact inI (by omega) (by omega)
    have h4 : inb (i0 + (4 : Int32)) L = true := by rw [hi, show (4 : Int32) = nI 4 from rfl, nI_add]; exact inI (by omega) (by omega)
    have h5 : inb (i0 + (5 : Int32)) L = true := by rw [hi, show (5 : Int32) = nI 5 from rfl, nI_add]; exact inI (by omega) (by omega)
    have hd : ∀ a : Int32, nnb (FP.dmul (FP.i2d a) 4593671619917905920) = true := fun a => nnb_of (tellD a)
    refine ck_go h0 ?_
    by_cases c0 : ((xs i0.toNatClampNeg) &&& (15 : Int32)) = (0 : Int32)
    · refine if_go c0 ?_
      obtain ⟨r, a1, a2, a3, a4, a5, a6, a7, a8, w1, w2, w3, w4, e8, e9, hS2⟩ := object_eq (p0 := (xs (i0 + (1 : Int32)).toNatClampNeg)) (tellD (xs (i0 + (2 : Int32)).toNatClampNeg)) (tellD (xs (i0 + (3 : Int32)).toNatClampNeg)) (tellD (xs (i0 + (4 : Int32)).toNatClampNeg)) (tellD (xs (i0 + (5 : Int32)).toNatClampNeg)) hn0.1 hS
      refine ck_go h1 ?_
      refine ck_go h2 ?_
      refine ck_go (hd _) ?_
      refine ck_go h3 ?_
      refine ck_go (hd _) ?_
      refine ck_go h4 ?_
      refine ck_go (hd _) ?_
      refine ck_go h5 ?_
      refine ck_go (hd _) ?_
      refine bd_go e8 ?_
      refine ck_go h1 ?_
      refine ck_go h2 ?_
      refine ck_go (hd _) ?_
      refine ck_go h3 ?_
      refine ck_go (hd _) ?_
      refine ck_go h4 ?_
      refine ck_go (hd _) ?_
      refine ck_go h5 ?_
      refine ck_go (hd _) ?_
      refine bd_go e9 ?_
      refine if_go rfl ?_
      exact ih (q + 1) _ _ _ _ _ _ _ _ _ _ _ _ _ _ _ _ _ _ _ _ _ _ _ _ _ _ _ _ _ _ _ _ _ _ _ _ _ _ _ _ _ _ _ _ _ _ _ _ _ _ _ _ _ _ _ _ _ _ _ _ _ _ _ _ _ _ _ _ _ _ _ next (by omega) (by omega) hW hC hH hT2 hS2 hP hG
    refine ie_go c0 ?_
    by_cases c1 : ((xs i0.toNatClampNeg) &&& (15 : Int32)) = (1 : Int32)
    · refine if_go c1 ?_
      obtain ⟨r, a1, a2, a3, e8, e9, hC2⟩ := lane_ok hC (tellD (xs (i0 + (1 : Int32)).toNatClampNeg)) (tellD (xs (i0 + (2 : Int32)).toNatClampNeg)) (tellD (xs (i0 + (3 : Int32)).toNatClampNeg))
      refine ck_go h1 ?_
      refine ck_go (hd _) ?_
      refine ck_go h2 ?_
      refine ck_go (hd _) ?_
      refine ck_go h3 ?_
      refine ck_go (hd _) ?_
      refine bd_go e8 ?_
      refine ck_go h1 ?_
      refine ck_go (hd _) ?_
      refine ck_go h2 ?_
      refine ck_go (hd _) ?_
      refine ck_go h3 ?_
      refine ck_go (hd _) ?_
      refine bd_go e9 ?_
      refine if_go rfl ?_
      exact ih (q + 1) _ _ _ _ _ _ _ _ _ _ _ _ _ _ _ _ _ _ _ _ _ _ _ _ _ _ _ _ _ _ _ _ _ _ _ _ _ _ _ _ _ _ _ _ _ _ _ _ _ _ _ _ _ _ _ _ _ _ _ _ _ _ _ _ _ _ _ _ _ _ _ next (by omega) (by omega) hW hC2 hH hT2 hS hP hG
    refine ie_go c1 ?_
    by_cases c2 : ((xs i0.toNatClampNeg) &&& (15 : Int32)) = (2 : Int32)
    · refine if_go c2 ?_
      obtain ⟨r, now2, speed2, df2, stage2, mode2, pull2, turn2, left2, leadX2, c02, c12, d2, th2, x2, y2, v2, su2, co2, met2, ms2, cn2, bj2, bs2, best2, tried2, costs2, taken2, asked2, stopping2, d2', lead2, th2', x2', y2', v2', su2', co2', many2, tk2, way2, tf2, ts2, sf2, e8, e9, hW2, hH2, hT3, hS2, hP2⟩ := step_eq (N := 1133 + q) (by omega) (by omega) (tellD (xs (i0 + (1 : Int32)).toNatClampNeg)) (tellD (xs (i0 + (2 : Int32)).toNatClampNeg)) hW hC hH hT hS hP x_differing x_stage x_mode x_tracks_differ x_tracks_met x_tracks_metSpeed x_tracks_pairing_count x_tracks_pairing_bestJoined x_tracks_pairing_bestSum x_tracks_pairing_best x_tracks_pairing_tried x_tracks_pairing_costs m_differs m_lead m_taken m_way m_toldFirst m_toldSecond m_speedFirst
      refine ck_go h1 ?_
      refine ck_go (hd _) ?_
      refine ck_go h2 ?_
      refine ck_go (hd _) ?_
      refine bd_go e8 ?_
      refine ck_go h1 ?_
      refine ck_go (hd _) ?_
      refine ck_go h2 ?_
      refine ck_go (hd _) ?_
      refine bd_go e9 ?_
      refine if_go rfl ?_
      exact ih (q + 1) _ _ _ _ _ _ _ _ _ _ _ _ _ _ _ _ _ _ _ _ _ _ _ _ _ _ _ _ _ _ _ _ _ _ _ _ _ _ _ _ _ _ _ _ _ _ _ _ _ _ _ _ _ _ _ _ _ _ _ _ _ _ _ _ _ _ _ _ _ _ _ next (by omega) (by omega) hW2 hC hH2 hT3 hS2 hP2 hG
    refine ie_go c2 ?_
    by_cases c3 : ((xs i0.toNatClampNeg) &&& (15 : Int32)) = (3 : Int32)
    · refine if_go c3 ?_
      obtain ⟨r, nr, e8, e9⟩ := wish_ok hW (xs (i0 + (1 : Int32)).toNatClampNeg)
      refine ck_go h1 ?_
      refine bd_go e8 ?_
      refine ck_go h1 ?_
      refine bd_go e9 ?_
      refine if_go (Eq.mpr (cv_eq nr nr) rfl) ?_
      exact ih (q + 1) _ _ _ _ _ _ _ _ _ _ _ _ _ _ _ _ _ _ _ _ _ _ _ _ _ _ _ _ _ _ _ _ _ _ _ _ _ _ _ _ _ _ _ _ _ _ _ _ _ _ _ _ _ _ _ _ _ _ _ _ _ _ _ _ _ _ _ _ _ _ _ next (by omega) (by omega) hW hC hH hT2 hS hP hG
    refine ie_go c3 ?_
    by_cases c4 : ((xs i0.toNatClampNeg) &&& (15 : Int32)) = (4 : Int32)
    · refine if_go c4 ?_
      refine bd_go (u := x_stage) rfl ?_
      refine bd_go (u := (x_stage, 0)) rfl ?_
      refine if_go rfl ?_
      exact ih (q + 1) _ _ _ _ _ _ _ _ _ _ _ _ _ _ _ _ _ _ _ _ _ _ _ _ _ _ _ _ _ _ _ _ _ _ _ _ _ _ _ _ _ _ _ _ _ _ _ _ _ _ _ _ _ _ _ _ _ _ _ _ _ _ _ _ _ _ _ _ _ _ _ next (by omega) (by omega) hW hC hH hT2 hS hP hG
    refine ie_go c4 ?_
    by_cases c5 : ((xs i0.toNatClampNeg) &&& (15 : Int32)) = (5 : Int32)
    · refine if_go c5 ?_
      obtain ⟨r, nr, e8, e9⟩ := seconds_ok hT hW.1.2 (xs (i0 + (1 : Int32)).toNatClampNeg)
      refine ck_go h1 ?_
      refine bd_go e8 ?_
      refine ck_go h1 ?_
      refine bd_go e9 ?_
      refine if_go (Eq.mpr (cv_eq nr nr) rfl) ?_
      exact ih (q + 1) _ _ _ _ _ _ _ _ _ _ _ _ _ _ _ _ _ _ _ _ _ _ _ _ _ _ _ _ _ _ _ _ _ _ _ _ _ _ _ _ _ _ _ _ _ _ _ _ _ _ _ _ _ _ _ _ _ _ _ _ _ _ _ _ _ _ _ _ _ _ _ next (by omega) (by omega) hW hC hH hT2 hS hP hG
    refine ie_go c5 ?_
    by_cases c6 : ((xs i0.toNatClampNeg) &&& (15 : Int32)) = (6 : Int32)
    · refine if_go c6 ?_
      obtain ⟨k, o', b, e8, e9, e10⟩ := whole_eq (((xs (i0 + (1 : Int32)).toNatClampNeg).toInt64 <<< ((32 : Int32).toInt64 &&& 63)) ||| ((xs (i0 + (2 : Int32)).toNatClampNeg).toInt64 &&& (4294967295 : Int64))) (((xs (i0 + (3 : Int32)).toNatClampNeg).toInt64 <<< ((32 : Int32).toInt64 &&& 63)) ||| ((xs (i0 + (4 : Int32)).toNatClampNeg).toInt64 &&& (4294967295 : Int64))) o
      refine ck_go h1 ?_
      refine ck_go h2 ?_
      refine ck_go h3 ?_
      refine ck_go h4 ?_
      refine bd_go e8 ?_
      refine ck_go h1 ?_
      refine ck_go h2 ?_
      refine ck_go h3 ?_
      refine ck_go h4 ?_
      refine bd_go e9 ?_
      refine bd_go (u := k) rfl ?_
      refine if_go rfl ?_
      by_cases k0 : k = 0
      · refine if_go k0 ?_
        refine ck_go (by decide) ?_
        refine if_go (e10 k0) ?_
        exact ih (q + 1) _ _ _ _ _ _ _ _ _ _ _ _ _ _ _ _ _ _ _ _ _ _ _ _ _ _ _ _ _ _ _ _ _ _ _ _ _ _ _ _ _ _ _ _ _ _ _ _ _ _ _ _ _ _ _ _ _ _ _ _ _ _ _ _ _ _ _ _ _ _ _ next (by omega) (by omega) hW hC hH hT2 hS hP hG
      · refine ie_go k0 ?_
        exact ih (q + 1) _ _ _ _ _ _ _ _ _ _ _ _ _ _ _ _ _ _ _ _ _ _ _ _ _ _ _ _ _ _ _ _ _ _ _ _ _ _ _ _ _ _ _ _ _ _ _ _ _ _ _ _ _ _ _ _ _ _ _ _ _ _ _ _ _ _ _ _ _ _ _ next (by omega) (by omega) hW hC hH hT2 hS hP hG
    refine ie_go c6 ?_
    by_cases c7 : ((xs i0.toNatClampNeg) &&& (15 : Int32)) = (7 : Int32)
    · refine if_go c7 ?_
      obtain ⟨r, a1, a2, a3, e8, e9, hC2⟩ := driver_ok (k := (xs (i0 + (1 : Int32)).toNatClampNeg)) hC (tellD (xs (i0 + (2 : Int32)).toNatClampNeg))
      refine ck_go h1 ?_
      refine ck_go h2 ?_
      refine ck_go (hd _) ?_
      refine bd_go e8 ?_
      refine ck_go h1 ?_
      refine ck_go h2 ?_
      refine ck_go (hd _) ?_
      refine bd_go e9 ?_
      refine if_go rfl ?_
      exact ih (q + 1) _ _ _ _ _ _ _ _ _ _ _ _ _ _ _ _ _ _ _ _ _ _ _ _ _ _ _ _ _ _ _ _ _ _ _ _ _ _ _ _ _ _ _ _ _ _ _ _ _ _ _ _ _ _ _ _ _ _ _ _ _ _ _ _ _ _ _ _ _ _ _ next (by omega) (by omega) hW hC2 hH hT2 hS hP hG
    refine ie_go c7 ?_
    by_cases c8 : ((xs i0.toNatClampNeg) &&& (15 : Int32)) = (8 : Int32)
    · refine if_go c8 ?_
      obtain ⟨r, a1, a2, a3, a4, e8, e9, hC2⟩ := limit_ok (k := (xs (i0 + (1 : Int32)).toNatClampNeg)) hC (tellD (xs (i0 + (2 : Int32)).toNatClampNeg))
      refine ck_go h1 ?_
      refine ck_go h2 ?_
      refine ck_go (hd _) ?_
      refine bd_go e8 ?_
      refine ck_go h1 ?_
      refine ck_go h2 ?_
      refine ck_go (hd _) ?_
      refine bd_go e9 ?_
      refine if_go rfl ?_
      exact ih (q + 1) _ _ _ _ _ _ _ _ _ _ _ _ _ _ _ _ _ _ _ _ _ _ _ _ _ _ _ _ _ _ _ _ _ _ _ _ _ _ _ _ _ _ _ _ _ _ _ _ _ _ _ _ _ _ _ _ _ _ _ _ _ _ _ _ _ _ _ _ _ _ _ next (by omega) (by omega) hW hC2 hH hT2 hS hP hG
    refine ie_go c8 ?_
    by_cases c9 : ((xs i0.toNatClampNeg) &&& (15 : Int32)) = (9 : Int32)
    · refine if_go c9 ?_
      obtain ⟨r, e8, e9⟩ := track_ok hT (xs (i0 + (1 : Int32)).toNatClampNeg) (xs (i0 + (2 : Int32)).toNatClampNeg)
      refine ck_go h1 ?_
      refine ck_go h2 ?_
      refine bd_go e8 ?_
      refine ck_go h1 ?_
      refine ck_go h2 ?_
      refine bd_go e9 ?_
      refine if_go rfl ?_
      exact ih (q + 1) _ _ _ _ _ _ _ _ _ _ _ _ _ _ _ _ _ _ _ _ _ _ _ _ _ _ _ _ _ _ _ _ _ _ _ _ _ _ _ _ _ _ _ _ _ _ _ _ _ _ _ _ _ _ _ _ _ _ _ _ _ _ _ _ _ _ _ _ _ _ _ next (by omega) (by omega) hW hC hH hT2 hS hP hG
    refine ie_go c9 ?_
    by_cases c10 : ((xs i0.toNatClampNeg) &&& (15 : Int32)) = (10 : Int32)
    · refine if_go c10 ?_
      obtain ⟨r, t2, a2, b2, e8, e9, hG2⟩ := sign_eq (p0 := (xs (i0 + (1 : Int32)).toNatClampNeg)) (p1 := (xs (i0 + (2 : Int32)).toNatClampNeg)) (tk := x_signs_taken) hG
      refine ck_go h1 ?_
      refine ck_go h2 ?_
      refine bd_go e8 ?_
      refine ck_go h1 ?_
      refine ck_go h2 ?_
      refine bd_go e9 ?_
      refine if_go rfl ?_
      exact ih (q + 1) _ _ _ _ _ _ _ _ _ _ _ _ _ _ _ _ _ _ _ _ _ _ _ _ _ _ _ _ _ _ _ _ _ _ _ _ _ _ _ _ _ _ _ _ _ _ _ _ _ _ _ _ _ _ _ _ _ _ _ _ _ _ _ _ _ _ _ _ _ _ _ next (by omega) (by omega) hW hC hH hT2 hS hP hG2
    refine ie_go c10 ?_
    by_cases c11 : ((xs i0.toNatClampNeg) &&& (15 : Int32)) = (11 : Int32)
    · refine if_go c11 ?_
      refine ck_go h1 ?_
      by_cases z : (xs (i0 + (1 : Int32)).toNatClampNeg) = 0
      · obtain ⟨r, a1, a2, e8, e9, hH2⟩ := hands_ok (on := 0) hH hn0 (tellD (xs (i0 + (2 : Int32)).toNatClampNeg)) (by decide) (.inl rfl)
        refine if_go z ?_
        refine ck_go h2 ?_
        refine ck_go (hd _) ?_
        refine bd_go e8 ?_
        refine ck_go h1 ?_
        refine if_go z ?_
        refine ck_go h2 ?_
        refine ck_go (hd _) ?_
        refine bd_go e9 ?_
        refine if_go rfl ?_
        exact ih (q + 1) _ _ _ _ _ _ _ _ _ _ _ _ _ _ _ _ _ _ _ _ _ _ _ _ _ _ _ _ _ _ _ _ _ _ _ _ _ _ _ _ _ _ _ _ _ _ _ _ _ _ _ _ _ _ _ _ _ _ _ _ _ _ _ _ _ _ _ _ _ _ _ next (by omega) (by omega) hW hC hH2 hT2 hS hP hG
      · obtain ⟨r, a1, a2, e8, e9, hH2⟩ := hands_ok (on := 1) hH hn0 (tellD (xs (i0 + (2 : Int32)).toNatClampNeg)) (by decide) (.inr rfl)
        refine ie_go z ?_
        refine ck_go h2 ?_
        refine ck_go (hd _) ?_
        refine bd_go e8 ?_
        refine ck_go h1 ?_
        refine ie_go z ?_
        refine ck_go h2 ?_
        refine ck_go (hd _) ?_
        refine bd_go e9 ?_
        refine if_go rfl ?_
        exact ih (q + 1) _ _ _ _ _ _ _ _ _ _ _ _ _ _ _ _ _ _ _ _ _ _ _ _ _ _ _ _ _ _ _ _ _ _ _ _ _ _ _ _ _ _ _ _ _ _ _ _ _ _ _ _ _ _ _ _ _ _ _ _ _ _ _ _ _ _ _ _ _ _ _ next (by omega) (by omega) hW hC hH2 hT2 hS hP hG
    refine ie_go c11 ?_
    by_cases c12 : ((xs i0.toNatClampNeg) &&& (15 : Int32)) = (12 : Int32)
    · refine if_go c12 ?_
      obtain ⟨r, a1, a2, e8, e9, hH2⟩ := handOver_ok hH hn0 (tellD (xs (i0 + (1 : Int32)).toNatClampNeg))
      refine ck_go h1 ?_
      refine ck_go (hd _) ?_
      refine bd_go e8 ?_
      refine ck_go h1 ?_
      refine ck_go (hd _) ?_
      refine bd_go e9 ?_
      refine if_go rfl ?_
      exact ih (q + 1) _ _ _ _ _ _ _ _ _ _ _ _ _ _ _ _ _ _ _ _ _ _ _ _ _ _ _ _ _ _ _ _ _ _ _ _ _ _ _ _ _ _ _ _ _ _ _ _ _ _ _ _ _ _ _ _ _ _ _ _ _ _ _ _ _ _ _ _ _ _ _ next (by omega) (by omega) hW hC hH2 hT2 hS hP hG
    refine ie_go c12 ?_
    by_cases c13 : ((xs i0.toNatClampNeg) &&& (15 : Int32)) = (13 : Int32)
    · refine if_go c13 ?_
      refine bd_go (u := x_mode) rfl ?_
      refine bd_go (u := (x_mode, 0)) rfl ?_
      refine if_go rfl ?_
      exact ih (q + 1) _ _ _ _ _ _ _ _ _ _ _ _ _ _ _ _ _ _ _ _ _ _ _ _ _ _ _ _ _ _ _ _ _ _ _ _ _ _ _ _ _ _ _ _ _ _ _ _ _ _ _ _ _ _ _ _ _ _ _ _ _ _ _ _ _ _ _ _ _ _ _ next (by omega) (by omega) hW hC hH hT2 hS hP hG
    refine ie_go c13 ?_
    exact ih (q + 1) _ _ _ _ _ _ _ _ _ _ _ _ _ _ _ _ _ _ _ _ _ _ _ _ _ _ _ _ _ _ _ _ _ _ _ _ _ _ _ _ _ _ _ _ _ _ _ _ _ _ _ _ _ _ _ _ _ _ _ _ _ _ _ _ _ _ _ _ _ _ _ next (by omega) (by omega) hW hC hH hT2 hS hP hG
end XLAWALL
