/-! The small calls: class and reference answer alike. -/
section XCALLS
theorem bnd {α β : Type} (u : α) (k : α → Option β) : (some u).bind k = k u := rfl
theorem i01 : ((1 : Int32) = 0) = False := by decide
theorem lane_eq {p0 p1 p2 o s q : UInt64} (h0 : NN p0) (h1 : NN p1) (h2 : NN p2) :
    (rg p0 13840687554816376832 4617315517961601024 ∧ rg p1 13830554455654793216 FP.dconst1 ∧ rg p2 13800290266158863483 4576918229304087675 ∧ f_X8_lane p0 p1 p2 o s q = some (1, p0, p1, p2) ∧ f_X9_lane p0 p1 p2 o s q = some (1, 0, p0, p1, p2)) ∨
    (f_X8_lane p0 p1 p2 o s q = some (-2, o, s, q) ∧ f_X9_lane p0 p1 p2 o s q = some (-2, 0, o, s, q)) := by
  unfold f_X8_lane f_X9_lane
  simp only [in_within]
  rcases within_val (lo := 13840687554816376832) (hi := 4617315517961601024) h0 (by unfold NN; decide +kernel) (by unfold NN; decide +kernel) with ⟨a0, e0⟩ | ⟨a0, e0⟩ <;> rw [e0]
  · rcases within_val (lo := 13830554455654793216) (hi := FP.dconst1) h1 (by unfold NN; decide +kernel) (by unfold NN; decide +kernel) with ⟨a1, e1⟩ | ⟨a1, e1⟩ <;> rw [e1]
    · rcases within_val (lo := 13800290266158863483) (hi := 4576918229304087675) h2 (by unfold NN; decide +kernel) (by unfold NN; decide +kernel) with ⟨a2, e2⟩ | ⟨a2, e2⟩ <;> rw [e2]
      · exact .inl ⟨a0, a1, a2, rfl, rfl⟩
      · exact .inr ⟨rfl, rfl⟩
    · exact .inr ⟨rfl, rfl⟩
  · exact .inr ⟨rfl, rfl⟩
theorem isTime_val {t now : UInt64} (ht : NN t) (hn : NN now) : (rg t now 4681608360884174848 ∧ f_X8_isTime t now = some 1 ∧ f_X8_within t now 4681608360884174848 = some 1) ∨ (¬ rg t now 4681608360884174848 ∧ f_X8_isTime t now = some 0 ∧ f_X8_within t now 4681608360884174848 = some 0) := by
  unfold f_X8_isTime
  rcases within_val (lo := now) (hi := 4681608360884174848) ht hn (by unfold NN; decide +kernel) with ⟨a0, e0⟩ | ⟨a0, e0⟩ <;> rw [e0]
  · exact .inl ⟨a0, rfl, rfl⟩
  · exact .inr ⟨a0, rfl, rfl⟩
theorem hands_eq {on : Int32} {t now : UInt64} {x : Int32} {c : UInt64} (ht : NN t) (hn : NN now) (hz : zb on = true) :
    (rg t now 4681608360884174848 ∧ f_X8_hands on t now x c = some (1, on, t) ∧ f_X9_hands on t now x c = some (1, 0, on, t)) ∨
    (∃ r : Int32, f_X8_hands on t now x c = some (r, x, c) ∧ f_X9_hands on t now x c = some (r, 0, x, c)) := by
  unfold f_X8_hands f_X9_hands f_X1_tell
  simp only [in_within]
  rcases isTime_val ht hn with ⟨a0, e0, e1⟩ | ⟨a0, e0, e1⟩ <;> rw [e0, e1]
  · by_cases q : on = x
    · refine .inr ⟨0, ?_, ?_⟩
      · rw [bnd, if_neg (by decide), if_pos q]; rfl
      · rw [bnd, if_neg (by decide), if_pos q]
    · refine .inl ⟨a0, ?_, ?_⟩
      · rw [bnd, if_neg (by decide), if_neg q, ck_eq hz]; rfl
      · rw [bnd, if_neg (by decide), if_neg q, ck_eq hz]
  · exact .inr ⟨-2, rfl, rfl⟩
theorem handOver_eq {t now : UInt64} {on asked stopping : Int32} {c : UInt64} (ht : NN t) (hn : NN now) :
    (rg t now 4681608360884174848 ∧ asked = 0 ∧ on = 0 ∧ stopping = 0 ∧ f_X8_handOver t now on asked stopping c = some (1, 1, t) ∧ f_X9_handOver t now on asked c stopping = some (1, 0, 1, t)) ∨
    (∃ r : Int32, f_X8_handOver t now on asked stopping c = some (r, asked, c) ∧ f_X9_handOver t now on asked c stopping = some (r, 0, asked, c)) := by
  unfold f_X8_handOver f_X9_handOver f_X1_ask
  simp only [in_within]
  rcases isTime_val ht hn with ⟨a0, e0, e1⟩ | ⟨a0, e0, e1⟩ <;> rw [e0, e1]
  · by_cases q1 : asked = 0
    · by_cases q2 : on = 0
      · by_cases q3 : stopping = 0
        · refine .inl ⟨a0, q1, q2, q3, ?_, ?_⟩
          · rw [bnd, if_neg (by decide), if_pos q1, if_pos q2, if_pos q3]; rfl
          · rw [bnd, if_neg (by decide), if_pos q1, if_pos q2, if_pos q3]
        · refine .inr ⟨-3, ?_, ?_⟩
          · rw [bnd, if_neg (by decide), if_pos q1, if_pos q2, if_neg q3]; rfl
          · rw [bnd, if_neg (by decide), if_pos q1, if_pos q2, if_neg q3]
      · refine .inr ⟨-3, ?_, ?_⟩
        · rw [bnd, if_neg (by decide), if_pos q1, if_neg q2]; rfl
        · rw [bnd, if_neg (by decide), if_pos q1, if_neg q2]
    · refine .inr ⟨-3, ?_, ?_⟩
      · rw [bnd, if_neg (by decide), if_neg q1]; rfl
      · rw [bnd, if_neg (by decide), if_neg q1]
  · exact .inr ⟨-2, rfl, rfl⟩
/-- the driver's ranges -/
theorem driver_eq {k : Int32} {v p b s : UInt64} (hv : NN v) :
    ∃ (r : Int32) (p' b' s' : UInt64), f_X8_driver k v p b s = some (r, p', b', s') ∧ f_X9_driver k v p b s = some (r, 0, p', b', s') ∧
      (p' = p ∨ p' = v ∧ rg v FP.dconst0 FP.dconst1) ∧ (b' = b ∨ b' = v ∧ rg v FP.dconst0 FP.dconst1) ∧ (s' = s ∨ s' = v ∧ rg v 13830554455654793216 FP.dconst1) := by
  unfold f_X8_driver f_X9_driver f_X0_tell
  by_cases q1 : k < 0
  · rw [if_pos q1, if_pos q1]; exact ⟨_, _, _, _, rfl, rfl, .inl rfl, .inl rfl, .inl rfl⟩
  rw [if_neg q1, if_neg q1]
  by_cases q2 : k ≤ 2
  · rw [if_pos q2, if_pos q2]
    by_cases q3 : k = 2
    · rw [if_pos q3, if_pos q3]
      unfold f_X0_tell_j1 f_X9_driver_j1
      simp only [in_within]
      rcases within_val (lo := 13830554455654793216) (hi := FP.dconst1) hv (by unfold NN; decide +kernel) (by unfold NN; decide +kernel) with ⟨a0, e0⟩ | ⟨a0, e0⟩ <;> rw [e0]
      · rw [q3]; exact ⟨_, _, _, _, rfl, rfl, .inl rfl, .inl rfl, .inr ⟨rfl, a0⟩⟩
      · exact ⟨_, _, _, _, rfl, rfl, .inl rfl, .inl rfl, .inl rfl⟩
    · rw [if_neg q3, if_neg q3]
      unfold f_X0_tell_j1 f_X9_driver_j1
      simp only [in_within]
      rcases within_val (lo := FP.dconst0) (hi := FP.dconst1) hv (by unfold NN; decide +kernel) (by unfold NN; decide +kernel) with ⟨a0, e0⟩ | ⟨a0, e0⟩ <;> rw [e0]
      · by_cases q4 : k = 0
        · rw [q4]; exact ⟨_, _, _, _, rfl, rfl, .inr ⟨rfl, a0⟩, .inl rfl, .inl rfl⟩
        · have q5 : k = 1 := by
            have h1 := Int32.not_lt.mp q1
            have h2 := Int32.le_iff_toInt_le.mp h1
            have h3 := Int32.le_iff_toInt_le.mp q2
            have h4 : k.toInt ≠ 0 := toInt_ne q4 rfl
            have h5 : k.toInt ≠ 2 := toInt_ne q3 rfl
            refine Int32.toInt_inj.mp ?_
            have e1 : (0 : Int32).toInt = 0 := rfl
            have e2 : (2 : Int32).toInt = 2 := rfl
            have e3 : (1 : Int32).toInt = 1 := rfl
            omega
          rw [q5]; exact ⟨_, _, _, _, rfl, rfl, .inl rfl, .inr ⟨rfl, a0⟩, .inl rfl⟩
      · exact ⟨_, _, _, _, rfl, rfl, .inl rfl, .inl rfl, .inl rfl⟩
  · rw [if_neg q2, if_neg q2]; exact ⟨_, _, _, _, rfl, rfl, .inl rfl, .inl rfl, .inl rfl⟩
end XCALLS
