def f_X8_within (p0 : UInt64) (p1 : UInt64) (p2 : UInt64) : Option Int32 :=
  if (Op.cmpValue (FP.dcmp p0 p1) .l) < 0 then (
  some (0 : Int32)) else
  if 0 < (Op.cmpValue (FP.dcmp p0 p2) .g) then (
  some (0 : Int32)) else
  some (1 : Int32)
set_option maxHeartbeats 4000000 in
set_option maxRecDepth 100000 in
theorem c_X8_within (l : Launch) (D : va_G) (sz : Nat) (p0 : UInt64) (p1 : UInt64) (p2 : UInt64) (r0 : Int32) (hf : f_X8_within p0 p1 p2 = some r0) : Met l yX8_within wsX8_within { frames := 0, cells := 0, slots := 0, locals := 0 } (va_Pc [.double p0, .double p1, .double p2] (xPre D [] [] sz)) (va_Qi (fun (x : Int32) (_ : Unit) => x = r0) (fun _ => xB D (va_A [] sz) []) (va_A [] sz)) 0 0 (va_A [] sz) := by
  refine xOfW (l := l) (y := yX8_within) (ws := wsX8_within) (D := D) (cells := []) (tys := []) (sz := sz) (av := [.double p0, .double p1, .double p2]) (cc := cX8_within) (maxL := 6) (ret := (some .boolean)) (fun A => va_Qi (fun (x : Int32) (_ : Unit) => x = r0) (fun _ => xB D A []) A) (by decide) rfl (Nat.le_of_ble_eq_true rfl) ?_
  intro p e s m below meth c A H ls hx hb hr hml hown hlk hts hP hK hD hS hA hN hl
  have hl : lv_has ls 6 [(0, .double p0), (2, .double p1), (4, .double p2)] := hl
  have hown : s.vm.findClass RX8 = some m.cls := hown
  have ef0 : f_X8_within p0 p1 p2 = some r0 := hf
  rewrite [f_X8_within] at ef0
  refine lv_dload_n hx hb dX8_within_0 rfl (lv_at hl 0 rfl) ?_
  refine lv_dload_n hx hb dX8_within_1 rfl (lv_at hl 1 rfl) ?_
  refine lv_dcmp hx hb dX8_within_2 ?_
  refine lv_if_lt (tgt := 17) hx hb dX8_within_3 (by decide) (fun c1 => ?_) (fun c1 => ?_)
  · have ef0 := ift ef0 c1
    refine lv_iconst (v := (0 : Int32)) hx hb dX8_within_17 (by decide) ?_
    have q0 := Option.some.inj ef0
    exact xZret q0 rfl hx hb hr (rfl) hlk hP hD hS dX8_within_18
  · have ef0 := iff_ ef0 c1
    refine lv_dload_n hx hb dX8_within_6 rfl (lv_at hl 0 rfl) ?_
    refine lv_dload hx hb dX8_within_7 (lv_at hl 2 rfl) ?_
    refine lv_dcmp hx hb dX8_within_9 ?_
    refine lv_if_gt (tgt := 17) hx hb dX8_within_10 (by decide) (fun c2 => ?_) (fun c2 => ?_)
    · have ef0 := ift ef0 c2
      refine lv_iconst (v := (0 : Int32)) hx hb dX8_within_17 (by decide) ?_
      have q0 := Option.some.inj ef0
      exact xZret q0 rfl hx hb hr (rfl) hlk hP hD hS dX8_within_18
    · have ef0 := iff_ ef0 c2
      refine lv_iconst (v := (1 : Int32)) hx hb dX8_within_13 (by decide) ?_
      refine lv_goto (tgt := 18) hx hb dX8_within_14 (by decide) ?_
      have q0 := Option.some.inj ef0
      exact xZret q0 rfl hx hb hr (rfl) hlk hP hD hS dX8_within_18

def f_X8_magnitude (p0 : UInt64) : Option UInt64 :=
  if 0 ≤ (Op.cmpValue (FP.dcmp p0 FP.dconst0) .g) then (
  some p0) else
  some (FP.dneg p0)
set_option maxHeartbeats 4000000 in
set_option maxRecDepth 100000 in
theorem c_X8_magnitude (l : Launch) (D : va_G) (sz : Nat) (p0 : UInt64) (r0 : UInt64) (hf : f_X8_magnitude p0 = some r0) : Met l yX8_magnitude wsX8_magnitude { frames := 0, cells := 0, slots := 0, locals := 0 } (va_Pc [.double p0] (xPre D [] [] sz)) (va_Qd (fun (x : UInt64) (_ : Unit) => x = r0) (fun _ => xB D (va_A [] sz) []) (va_A [] sz)) 0 0 (va_A [] sz) := by
  refine xOfW (l := l) (y := yX8_magnitude) (ws := wsX8_magnitude) (D := D) (cells := []) (tys := []) (sz := sz) (av := [.double p0]) (cc := cX8_magnitude) (maxL := 2) (ret := (some .double)) (fun A => va_Qd (fun (x : UInt64) (_ : Unit) => x = r0) (fun _ => xB D A []) A) (by decide) rfl (Nat.le_of_ble_eq_true rfl) ?_
  intro p e s m below meth c A H ls hx hb hr hml hown hlk hts hP hK hD hS hA hN hl
  have hl : lv_has ls 2 [(0, .double p0)] := hl
  have hown : s.vm.findClass RX8 = some m.cls := hown
  have ef0 : f_X8_magnitude p0 = some r0 := hf
  rewrite [f_X8_magnitude] at ef0
  refine lv_dload_n hx hb dX8_magnitude_0 rfl (lv_at hl 0 rfl) ?_
  refine lv_dconst0 hx hb dX8_magnitude_1 ?_
  refine lv_dcmp hx hb dX8_magnitude_2 ?_
  refine lv_if_ge (tgt := 11) hx hb dX8_magnitude_3 (by decide) (fun c1 => ?_) (fun c1 => ?_)
  · have ef0 := ift ef0 c1
    refine lv_dload_n hx hb dX8_magnitude_11 rfl (lv_at hl 0 rfl) ?_
    have q0 := Option.some.inj ef0
    exact xDret q0 rfl hx hb hr hlk hP hD hS dX8_magnitude_12
  · have ef0 := iff_ ef0 c1
    refine lv_dload_n hx hb dX8_magnitude_6 rfl (lv_at hl 0 rfl) ?_
    refine lv_dneg hx hb dX8_magnitude_7 ?_
    refine lv_goto (tgt := 12) hx hb dX8_magnitude_8 (by decide) ?_
    have q0 := Option.some.inj ef0
    exact xDret q0 rfl hx hb hr hlk hP hD hS dX8_magnitude_12

def f_X8_lesser (p0 : UInt64) (p1 : UInt64) : Option UInt64 :=
  if 0 < (Op.cmpValue (FP.dcmp p0 p1) .g) then (
  some p1) else
  some p0
set_option maxHeartbeats 4000000 in
set_option maxRecDepth 100000 in
theorem c_X8_lesser (l : Launch) (D : va_G) (sz : Nat) (p0 : UInt64) (p1 : UInt64) (r0 : UInt64) (hf : f_X8_lesser p0 p1 = some r0) : Met l yX8_lesser wsX8_lesser { frames := 0, cells := 0, slots := 0, locals := 0 } (va_Pc [.double p0, .double p1] (xPre D [] [] sz)) (va_Qd (fun (x : UInt64) (_ : Unit) => x = r0) (fun _ => xB D (va_A [] sz) []) (va_A [] sz)) 0 0 (va_A [] sz) := by
  refine xOfW (l := l) (y := yX8_lesser) (ws := wsX8_lesser) (D := D) (cells := []) (tys := []) (sz := sz) (av := [.double p0, .double p1]) (cc := cX8_lesser) (maxL := 4) (ret := (some .double)) (fun A => va_Qd (fun (x : UInt64) (_ : Unit) => x = r0) (fun _ => xB D A []) A) (by decide) rfl (Nat.le_of_ble_eq_true rfl) ?_
  intro p e s m below meth c A H ls hx hb hr hml hown hlk hts hP hK hD hS hA hN hl
  have hl : lv_has ls 4 [(0, .double p0), (2, .double p1)] := hl
  have hown : s.vm.findClass RX8 = some m.cls := hown
  have ef0 : f_X8_lesser p0 p1 = some r0 := hf
  rewrite [f_X8_lesser] at ef0
  refine lv_dload_n hx hb dX8_lesser_0 rfl (lv_at hl 0 rfl) ?_
  refine lv_dload_n hx hb dX8_lesser_1 rfl (lv_at hl 1 rfl) ?_
  refine lv_dcmp hx hb dX8_lesser_2 ?_
  refine lv_if_gt (tgt := 10) hx hb dX8_lesser_3 (by decide) (fun c1 => ?_) (fun c1 => ?_)
  · have ef0 := ift ef0 c1
    refine lv_dload_n hx hb dX8_lesser_10 rfl (lv_at hl 1 rfl) ?_
    have q0 := Option.some.inj ef0
    exact xDret q0 rfl hx hb hr hlk hP hD hS dX8_lesser_11
  · have ef0 := iff_ ef0 c1
    refine lv_dload_n hx hb dX8_lesser_6 rfl (lv_at hl 0 rfl) ?_
    refine lv_goto (tgt := 11) hx hb dX8_lesser_7 (by decide) ?_
    have q0 := Option.some.inj ef0
    exact xDret q0 rfl hx hb hr hlk hP hD hS dX8_lesser_11

def f_X8_greater (p0 : UInt64) (p1 : UInt64) : Option UInt64 :=
  if (Op.cmpValue (FP.dcmp p0 p1) .l) < 0 then (
  some p1) else
  some p0
set_option maxHeartbeats 4000000 in
set_option maxRecDepth 100000 in
theorem c_X8_greater (l : Launch) (D : va_G) (sz : Nat) (p0 : UInt64) (p1 : UInt64) (r0 : UInt64) (hf : f_X8_greater p0 p1 = some r0) : Met l yX8_greater wsX8_greater { frames := 0, cells := 0, slots := 0, locals := 0 } (va_Pc [.double p0, .double p1] (xPre D [] [] sz)) (va_Qd (fun (x : UInt64) (_ : Unit) => x = r0) (fun _ => xB D (va_A [] sz) []) (va_A [] sz)) 0 0 (va_A [] sz) := by
  refine xOfW (l := l) (y := yX8_greater) (ws := wsX8_greater) (D := D) (cells := []) (tys := []) (sz := sz) (av := [.double p0, .double p1]) (cc := cX8_greater) (maxL := 4) (ret := (some .double)) (fun A => va_Qd (fun (x : UInt64) (_ : Unit) => x = r0) (fun _ => xB D A []) A) (by decide) rfl (Nat.le_of_ble_eq_true rfl) ?_
  intro p e s m below meth c A H ls hx hb hr hml hown hlk hts hP hK hD hS hA hN hl
  have hl : lv_has ls 4 [(0, .double p0), (2, .double p1)] := hl
  have hown : s.vm.findClass RX8 = some m.cls := hown
  have ef0 : f_X8_greater p0 p1 = some r0 := hf
  rewrite [f_X8_greater] at ef0
  refine lv_dload_n hx hb dX8_greater_0 rfl (lv_at hl 0 rfl) ?_
  refine lv_dload_n hx hb dX8_greater_1 rfl (lv_at hl 1 rfl) ?_
  refine lv_dcmp hx hb dX8_greater_2 ?_
  refine lv_if_lt (tgt := 10) hx hb dX8_greater_3 (by decide) (fun c1 => ?_) (fun c1 => ?_)
  · have ef0 := ift ef0 c1
    refine lv_dload_n hx hb dX8_greater_10 rfl (lv_at hl 1 rfl) ?_
    have q0 := Option.some.inj ef0
    exact xDret q0 rfl hx hb hr hlk hP hD hS dX8_greater_11
  · have ef0 := iff_ ef0 c1
    refine lv_dload_n hx hb dX8_greater_6 rfl (lv_at hl 0 rfl) ?_
    refine lv_goto (tgt := 11) hx hb dX8_greater_7 (by decide) ?_
    have q0 := Option.some.inj ef0
    exact xDret q0 rfl hx hb hr hlk hP hD hS dX8_greater_11

def f_X8_between (p0 : UInt64) (p1 : UInt64) (p2 : UInt64) : Option UInt64 :=
  (f_X8_lesser p0 p2).bind fun u1 =>
  (f_X8_greater p1 u1).bind fun u2 =>
  some u2
set_option maxHeartbeats 4000000 in
set_option maxRecDepth 100000 in
theorem c_X8_between (l : Launch) (D : va_G) (sz : Nat) (p0 : UInt64) (p1 : UInt64) (p2 : UInt64) (r0 : UInt64) (hf : f_X8_between p0 p1 p2 = some r0) : Met l yX8_between wsX8_between { frames := 1, cells := 0, slots := 0, locals := 23 } (va_Pc [.double p0, .double p1, .double p2] (xPre D [] [] sz)) (va_Qd (fun (x : UInt64) (_ : Unit) => x = r0) (fun _ => xB D (va_A [] sz) []) (va_A [] sz)) 0 0 (va_A [] sz) := by
  refine xOfW (l := l) (y := yX8_between) (ws := wsX8_between) (D := D) (cells := []) (tys := []) (sz := sz) (av := [.double p0, .double p1, .double p2]) (cc := cX8_between) (maxL := 6) (ret := (some .double)) (fun A => va_Qd (fun (x : UInt64) (_ : Unit) => x = r0) (fun _ => xB D A []) A) (by decide) rfl (Nat.le_of_ble_eq_true rfl) ?_
  intro p e s m below meth c A H ls hx hb hr hml hown hlk hts hP hK hD hS hA hN hl
  have hl : lv_has ls 6 [(0, .double p0), (2, .double p1), (4, .double p2)] := hl
  have hown : s.vm.findClass RX8 = some m.cls := hown
  have ef0 : f_X8_between p0 p1 p2 = some r0 := hf
  rewrite [f_X8_between] at ef0
  refine lv_dload_n hx hb dX8_between_0 rfl (lv_at hl 1 rfl) ?_
  refine lv_dload_n hx hb dX8_between_1 rfl (lv_at hl 0 rfl) ?_
  refine lv_dload hx hb dX8_between_2 (lv_at hl 2 rfl) ?_
  obtain ⟨u1, hu1, ef0⟩ := bd_of ef0
  refine xCalld (wr := []) (wn := []) [] [] [] (va_runS (As := [.double p0, .double p2]) (rest := [.double p1]) ⟨hx, hb, hml, hown, hts⟩ (c_X8_lesser l D H.size p0 p2 u1 hu1) (va_cwS 2 hts gX8_between_X8_lesser rfl rfl rfl (by decide +kernel) ⟨Nat.le_of_ble_eq_true rfl, Nat.le_of_ble_eq_true rfl⟩) (xPreS hP hD hK hN [] rfl rfl [] rfl) rfl rfl hl.1 rfl (lv_room (Nat.le_of_ble_eq_true rfl)) dX8_between_4 ⟨Nat.zero_le _, Nat.zero_le _⟩) hP hD hS hA rfl rfl rfl (by decide) rfl rfl (fun H locs hP hD hS => ?_)
  obtain ⟨u2, hu2, ef0⟩ := bd_of ef0
  refine xCalld (wr := []) (wn := []) [] [] [] (va_runS (As := [.double p1, .double u1]) (rest := []) ⟨hx, hb, hml, hown, hts⟩ (c_X8_greater l D H.size p1 u1 u2 hu2) (va_cwS 2 hts gX8_between_X8_greater rfl rfl rfl (by decide +kernel) ⟨Nat.le_of_ble_eq_true rfl, Nat.le_of_ble_eq_true rfl⟩) (xPreS hP hD hK hN [] rfl rfl [] rfl) rfl rfl hl.1 rfl (lv_room (Nat.le_of_ble_eq_true rfl)) dX8_between_7 ⟨Nat.zero_le _, Nat.zero_le _⟩) hP hD hS hA rfl rfl rfl (by decide) rfl rfl (fun H locs hP hD hS => ?_)
  have q0 := Option.some.inj ef0
  exact xDret q0 rfl hx hb hr hlk hP hD hS dX8_between_10

def f_X8_unsignedZero (p0 : UInt64) : Option UInt64 :=
  if (Op.cmpValue (FP.dcmp p0 FP.dconst0) .l) = 0 then (
  some FP.dconst0) else
  some p0
set_option maxHeartbeats 4000000 in
set_option maxRecDepth 100000 in
theorem c_X8_unsignedZero (l : Launch) (D : va_G) (sz : Nat) (p0 : UInt64) (r0 : UInt64) (hf : f_X8_unsignedZero p0 = some r0) : Met l yX8_unsignedZero wsX8_unsignedZero { frames := 0, cells := 0, slots := 0, locals := 0 } (va_Pc [.double p0] (xPre D [] [] sz)) (va_Qd (fun (x : UInt64) (_ : Unit) => x = r0) (fun _ => xB D (va_A [] sz) []) (va_A [] sz)) 0 0 (va_A [] sz) := by
  refine xOfW (l := l) (y := yX8_unsignedZero) (ws := wsX8_unsignedZero) (D := D) (cells := []) (tys := []) (sz := sz) (av := [.double p0]) (cc := cX8_unsignedZero) (maxL := 2) (ret := (some .double)) (fun A => va_Qd (fun (x : UInt64) (_ : Unit) => x = r0) (fun _ => xB D A []) A) (by decide) rfl (Nat.le_of_ble_eq_true rfl) ?_
  intro p e s m below meth c A H ls hx hb hr hml hown hlk hts hP hK hD hS hA hN hl
  have hl : lv_has ls 2 [(0, .double p0)] := hl
  have hown : s.vm.findClass RX8 = some m.cls := hown
  have ef0 : f_X8_unsignedZero p0 = some r0 := hf
  rewrite [f_X8_unsignedZero] at ef0
  refine lv_dload_n hx hb dX8_unsignedZero_0 rfl (lv_at hl 0 rfl) ?_
  refine lv_dconst0 hx hb dX8_unsignedZero_1 ?_
  refine lv_dcmp hx hb dX8_unsignedZero_2 ?_
  refine lv_if_ne (tgt := 10) hx hb dX8_unsignedZero_3 (by decide) (fun c1 => ?_) (fun c1 => ?_)
  · have ef0 := iff_ ef0 c1
    refine lv_dload_n hx hb dX8_unsignedZero_10 rfl (lv_at hl 0 rfl) ?_
    have q0 := Option.some.inj ef0
    exact xDret q0 rfl hx hb hr hlk hP hD hS dX8_unsignedZero_11
  · have ef0 := ift ef0 c1
    refine lv_dconst0 hx hb dX8_unsignedZero_6 ?_
    refine lv_goto (tgt := 11) hx hb dX8_unsignedZero_7 (by decide) ?_
    have q0 := Option.some.inj ef0
    exact xDret q0 rfl hx hb hr hlk hP hD hS dX8_unsignedZero_11

def f_X8_nextStage (p0 : Int32) (p1 : Int32) : Option Int32 :=
  if p1 ≤ p0 then (
  some p1) else
  some (p0 + (1 : Int32))
set_option maxHeartbeats 4000000 in
set_option maxRecDepth 100000 in
theorem c_X8_nextStage (l : Launch) (D : va_G) (sz : Nat) (p0 : Int32) (p1 : Int32) (r0 : Int32) (hf : f_X8_nextStage p0 p1 = some r0) : Met l yX8_nextStage wsX8_nextStage { frames := 0, cells := 0, slots := 0, locals := 0 } (va_Pc [.int p0, .int p1] (xPre D [] [] sz)) (va_Qi (fun (x : Int32) (_ : Unit) => x = r0) (fun _ => xB D (va_A [] sz) []) (va_A [] sz)) 0 0 (va_A [] sz) := by
  refine xOfW (l := l) (y := yX8_nextStage) (ws := wsX8_nextStage) (D := D) (cells := []) (tys := []) (sz := sz) (av := [.int p0, .int p1]) (cc := cX8_nextStage) (maxL := 2) (ret := (some .int)) (fun A => va_Qi (fun (x : Int32) (_ : Unit) => x = r0) (fun _ => xB D A []) A) (by decide) rfl (Nat.le_of_ble_eq_true rfl) ?_
  intro p e s m below meth c A H ls hx hb hr hml hown hlk hts hP hK hD hS hA hN hl
  have hl : lv_has ls 2 [(0, .int p0), (1, .int p1)] := hl
  have hown : s.vm.findClass RX8 = some m.cls := hown
  have ef0 : f_X8_nextStage p0 p1 = some r0 := hf
  rewrite [f_X8_nextStage] at ef0
  refine lv_iload_n hx hb dX8_nextStage_0 rfl (lv_at hl 1 rfl) ?_
  refine lv_iload_n hx hb dX8_nextStage_1 rfl (lv_at hl 0 rfl) ?_
  refine lv_icmp_le (tgt := 11) hx hb dX8_nextStage_2 (by decide) (fun c1 => ?_) (fun c1 => ?_)
  · have ef0 := ift ef0 c1
    refine lv_iload_n hx hb dX8_nextStage_11 rfl (lv_at hl 1 rfl) ?_
    have q0 := Option.some.inj ef0
    exact xIret q0 rfl hx hb hr hlk hP hD hS dX8_nextStage_12
  · have ef0 := iff_ ef0 c1
    refine lv_iload_n hx hb dX8_nextStage_5 rfl (lv_at hl 0 rfl) ?_
    refine lv_iconst (v := (1 : Int32)) hx hb dX8_nextStage_6 (by decide) ?_
    refine lv_iadd hx hb dX8_nextStage_7 ?_
    refine lv_goto (tgt := 12) hx hb dX8_nextStage_8 (by decide) ?_
    have q0 := Option.some.inj ef0
    exact xIret q0 rfl hx hb hr hlk hP hD hS dX8_nextStage_12

def f_X8_turned (p0 : UInt64) (p1 : UInt64) : Option UInt64 :=
  ck (nnb (FP.dsub p1 p0) = true) <|
  (f_X8_magnitude (FP.dsub p1 p0)).bind fun u2 =>
  if 0 < (Op.cmpValue (FP.dcmp u2 (4587366580439587226 : UInt64)) .g) then (
  if (Op.cmpValue (FP.dcmp p1 p0) .l) ≤ 0 then (
  ck (nnb (FP.dsub p0 (4587366580439587226 : UInt64)) = true) <|
  some (FP.dsub p0 (4587366580439587226 : UInt64))) else
  ck (nnb (FP.dadd p0 (4587366580439587226 : UInt64)) = true) <|
  some (FP.dadd p0 (4587366580439587226 : UInt64))) else
  some p1
set_option maxHeartbeats 4000000 in
set_option maxRecDepth 100000 in
theorem c_X8_turned (l : Launch) (D : va_G) (sz : Nat) (p0 : UInt64) (p1 : UInt64) (r0 : UInt64) (hf : f_X8_turned p0 p1 = some r0) : Met l yX8_turned wsX8_turned { frames := 1, cells := 0, slots := 0, locals := 21 } (va_Pc [.double p0, .double p1] (xPre D [] [] sz)) (va_Qd (fun (x : UInt64) (_ : Unit) => x = r0) (fun _ => xB D (va_A [] sz) []) (va_A [] sz)) 0 0 (va_A [] sz) := by
  refine xOfW (l := l) (y := yX8_turned) (ws := wsX8_turned) (D := D) (cells := []) (tys := []) (sz := sz) (av := [.double p0, .double p1]) (cc := cX8_turned) (maxL := 4) (ret := (some .double)) (fun A => va_Qd (fun (x : UInt64) (_ : Unit) => x = r0) (fun _ => xB D A []) A) (by decide) rfl (Nat.le_of_ble_eq_true rfl) ?_
  intro p e s m below meth c A H ls hx hb hr hml hown hlk hts hP hK hD hS hA hN hl
  have hl : lv_has ls 4 [(0, .double p0), (2, .double p1)] := hl
  have hown : s.vm.findClass RX8 = some m.cls := hown
  have ef0 : f_X8_turned p0 p1 = some r0 := hf
  rewrite [f_X8_turned] at ef0
  refine lv_dload_n hx hb dX8_turned_0 rfl (lv_at hl 1 rfl) ?_
  refine lv_dload_n hx hb dX8_turned_1 rfl (lv_at hl 0 rfl) ?_
  obtain ⟨h1, ef0⟩ := ck_of ef0
  refine lv_dsub hx hb dX8_turned_2 (nn_of h1) ?_
  obtain ⟨u2, hu2, ef0⟩ := bd_of ef0
  refine xCalld (wr := []) (wn := []) [] [] [] (va_runS (As := [.double (FP.dsub p1 p0)]) (rest := []) ⟨hx, hb, hml, hown, hts⟩ (c_X8_magnitude l D H.size (FP.dsub p1 p0) u2 hu2) (va_cwS 1 hts gX8_turned_X8_magnitude rfl rfl rfl (by decide +kernel) ⟨Nat.le_of_ble_eq_true rfl, Nat.le_of_ble_eq_true rfl⟩) (xPreS hP hD hK hN [] rfl rfl [] rfl) rfl rfl hl.1 rfl (lv_room (Nat.le_of_ble_eq_true rfl)) dX8_turned_3 ⟨Nat.zero_le _, Nat.zero_le _⟩) hP hD hS hA rfl rfl rfl (by decide) rfl rfl (fun H locs hP hD hS => ?_)
  refine lv_ldc2d hx hb hown (hts (.constantDouble RX8 173 (4587366580439587226)) (List.mem_of_getElem? (i := 1) rfl)) dX8_turned_6 ?_
  refine lv_dcmp hx hb dX8_turned_9 ?_
  refine lv_if_gt (tgt := 15) hx hb dX8_turned_10 (by decide) (fun c3 => ?_) (fun c3 => ?_)
  · have ef0 := ift ef0 c3
    refine lv_dload_n hx hb dX8_turned_15 rfl (lv_at hl 1 rfl) ?_
    refine lv_dload_n hx hb dX8_turned_16 rfl (lv_at hl 0 rfl) ?_
    refine lv_dcmp hx hb dX8_turned_17 ?_
    refine lv_if_le (tgt := 29) hx hb dX8_turned_18 (by decide) (fun c4 => ?_) (fun c4 => ?_)
    · have ef0 := ift ef0 c4
      refine lv_dload_n hx hb dX8_turned_29 rfl (lv_at hl 0 rfl) ?_
      refine lv_ldc2d hx hb hown (hts (.constantDouble RX8 173 (4587366580439587226)) (List.mem_of_getElem? (i := 1) rfl)) dX8_turned_30 ?_
      obtain ⟨h5, ef0⟩ := ck_of ef0
      refine lv_dsub hx hb dX8_turned_33 (nn_of h5) ?_
      have q0 := Option.some.inj ef0
      exact xDret q0 rfl hx hb hr hlk hP hD hS dX8_turned_34
    · have ef0 := iff_ ef0 c4
      refine lv_dload_n hx hb dX8_turned_21 rfl (lv_at hl 0 rfl) ?_
      refine lv_ldc2d hx hb hown (hts (.constantDouble RX8 173 (4587366580439587226)) (List.mem_of_getElem? (i := 1) rfl)) dX8_turned_22 ?_
      obtain ⟨h6, ef0⟩ := ck_of ef0
      refine lv_dadd hx hb dX8_turned_25 (nn_of h6) ?_
      refine lv_goto (tgt := 34) hx hb dX8_turned_26 (by decide) ?_
      have q0 := Option.some.inj ef0
      exact xDret q0 rfl hx hb hr hlk hP hD hS dX8_turned_34
  · have ef0 := iff_ ef0 c3
    refine lv_dload_n hx hb dX8_turned_13 rfl (lv_at hl 1 rfl) ?_
    have q0 := Option.some.inj ef0
    exact xDret q0 rfl hx hb hr hlk hP hD hS dX8_turned_14

theorem in_wsX0_tell_X0 : ∀ w ∈ wsX00, w ∈ wsX0_tell := fun _ h => List.mem_cons_of_mem _ (List.mem_append_right _ h)
def f_X0_tell_j1 (h_pedal : UInt64) (h_brake : UInt64) (h_steer : UInt64) (p0 : Int32) (p1 : UInt64) (b2 : UInt64) : Option (Int32 × UInt64 × UInt64 × UInt64) :=
  (f_X8_within p1 b2 FP.dconst1).bind fun u3 =>
  if u3 = 0 then (
  some ((0 : Int32), h_pedal, h_brake, h_steer)) else
  if p0 = (0 : Int32) then (
  some ((1 : Int32), p1, h_brake, h_steer)) else
  if p0 = (1 : Int32) then (
  some ((1 : Int32), h_pedal, p1, h_steer)) else
  some ((1 : Int32), h_pedal, h_brake, p1)
def f_X0_tell (p0 : Int32) (p1 : UInt64) (h_pedal : UInt64) (h_brake : UInt64) (h_steer : UInt64) : Option (Int32 × UInt64 × UInt64 × UInt64) :=
  if p0 = (2 : Int32) then (
  f_X0_tell_j1 h_pedal h_brake h_steer p0 p1 (13830554455654793216 : UInt64)) else
  f_X0_tell_j1 h_pedal h_brake h_steer p0 p1 FP.dconst0
set_option maxHeartbeats 4000000 in
set_option maxRecDepth 100000 in
theorem c_X0_tell (l : Launch) (D : va_G) (sz : Nat) (h_a : Nat) (p0 : Int32) (p1 : UInt64) (h_pedal : UInt64) (h_brake : UInt64) (h_steer : UInt64) (r0 : Int32) (r1 : UInt64) (r2 : UInt64) (r3 : UInt64) (hf : f_X0_tell p0 p1 h_pedal h_brake h_steer = some (r0, r1, r2, r3)) : Met l yX0_tell wsX0_tell { frames := 1, cells := 0, slots := 0, locals := 25 } (va_Pc [.ref h_a, .int p0, .double p1] (xPre D [(h_a, .inr (0, [.double h_pedal, .double h_brake, .double h_steer]))] [] sz)) (va_Qi (fun (x : Int32) (_ : Unit) => x = r0) (fun _ => xB D (va_A [(h_a, .inr (0, [.double h_pedal, .double h_brake, .double h_steer]))] sz) [(h_a, .inr (0, [.double r1, .double r2, .double r3]))]) (va_A [(h_a, .inr (0, [.double h_pedal, .double h_brake, .double h_steer]))] sz)) 0 0 (va_A [(h_a, .inr (0, [.double h_pedal, .double h_brake, .double h_steer]))] sz) := by
  refine xOfW (l := l) (y := yX0_tell) (ws := wsX0_tell) (D := D) (cells := [(h_a, .inr (0, [.double h_pedal, .double h_brake, .double h_steer]))]) (tys := []) (sz := sz) (av := [.ref h_a, .int p0, .double p1]) (cc := cX0_tell) (maxL := 4) (ret := (some .boolean)) (fun A => va_Qi (fun (x : Int32) (_ : Unit) => x = r0) (fun _ => xB D A [(h_a, .inr (0, [.double r1, .double r2, .double r3]))]) A) (by decide) rfl (Nat.le_of_ble_eq_true rfl) ?_
  intro p e s m below meth c A H ls hx hb hr hml hown hlk hts hP hK hD hS hA hN hl
  have hl : lv_has ls 4 [(0, .ref h_a), (1, .int p0), (2, .double p1)] := hl
  have hown : s.vm.findClass RX0 = some m.cls := hown
  have ef0 : f_X0_tell p0 p1 h_pedal h_brake h_steer = some (r0, r1, r2, r3) := hf
  rewrite [f_X0_tell] at ef0
  refine lv_dload_n hx hb dX0_tell_0 rfl (lv_at hl 2 rfl) ?_
  refine lv_iload_n hx hb dX0_tell_1 rfl (lv_at hl 1 rfl) ?_
  refine lv_iconst (v := (2 : Int32)) hx hb dX0_tell_2 (by decide) ?_
  refine xCut (ι := UInt64) (fun z H locs ls => f_X0_tell_j1 h_pedal h_brake h_steer p0 p1 z = some (r0, r1, r2, r3) ∧ va_P D vwCl [(h_a, .inr (0, [.double h_pedal, .double h_brake, .double h_steer]))] H ∧ va_D A [(h_a, .inr (0, [.double h_pedal, .double h_brake, .double h_steer]))] ∧ va_S A s.heap H locs ∧ lv_has ls 4 [(0, .ref h_a), (1, .int p0), (2, .double p1)]) 13 (fun z => [.double z, .double p1]) ?_ (fun K1 => ?_)
  · intro z H locs ls hz
    obtain ⟨b2, rfl⟩ : ∃ q, q = z := ⟨z, rfl⟩
    obtain ⟨ef0, hP, hD, hS, hl⟩ := hz
    have ef0 : f_X0_tell_j1 h_pedal h_brake h_steer p0 p1 b2 = some (r0, r1, r2, r3) := ef0
    have hP : va_P D vwCl [(h_a, .inr (0, [.double h_pedal, .double h_brake, .double h_steer]))] H := hP
    have hD : va_D A [(h_a, .inr (0, [.double h_pedal, .double h_brake, .double h_steer]))] := hD
    have hl : lv_has ls 4 [(0, .ref h_a), (1, .int p0), (2, .double p1)] := hl
    rewrite [f_X0_tell_j1] at ef0
    refine W.eq (g2 := F0 m 13 ls [.double b2, .double p1]) rfl ?_
    refine lv_dconst1 hx hb dX0_tell_13 ?_
    obtain ⟨u3, hu3, ef0⟩ := bd_of ef0
    refine xCalli (wr := [(h_a, .inr (0, [.double h_pedal, .double h_brake, .double h_steer]))]) (wn := [(h_a, .inr (0, [.double h_pedal, .double h_brake, .double h_steer]))]) [] [0] [0] (va_runSN (As := [.double p1, .double b2, .double FP.dconst1]) (rest := []) ⟨hx, hb, hml, hown, hts⟩ (c_X8_within l D H.size p1 b2 FP.dconst1 u3 hu3) ⟨va_cnB 3 hts gX0_tell_X8_within_n9 rfl rfl rfl hN.1 (hts (.initialized RX8) (List.mem_of_getElem? (i := 6) rfl)) (by decide +kernel) ⟨Nat.le_of_ble_eq_true rfl, Nat.le_of_ble_eq_true rfl⟩, (hts (.static yX8_within) (List.mem_of_getElem? (i := 5) rfl)), trivial⟩ (xPreS hP hD hK hN [] rfl rfl [] rfl) rfl rfl hl.1 rfl (lv_room (Nat.le_of_ble_eq_true rfl)) dX0_tell_14 ⟨Nat.zero_le _, Nat.zero_le _⟩) hP hD hS hA rfl rfl rfl (by decide) rfl rfl (fun H locs hP hD hS => ?_)
    refine lv_if_ne (tgt := 22) hx hb dX0_tell_17 (by decide) (fun c4 => ?_) (fun c4 => ?_)
    · have ef0 := iff_ ef0 c4
      refine lv_iload_n hx hb dX0_tell_22 rfl (lv_at hl 1 rfl) ?_
      by_cases c5 : p0 = (0 : Int32)
      · have ef0 := ift ef0 c5
        refine lv_lookup (off := 25) (tgt := 48) hx hb dX0_tell_23 (by decide) (by rw [c5]; rfl) (by decide) ?_
        refine lv_aload_n hx hb dX0_tell_48 rfl (lv_at hl 0 rfl) ?_
        refine lv_dload_n hx hb dX0_tell_49 rfl (lv_at hl 2 rfl) ?_
        refine va_put (D := D) (ci := 0) (v := .double p1) (ty := .double) (C := RX0) (T := TX0) (N := 3) hx hb hts in_wsX0_tell_X0 tyX0 tyX0_ok nmX0 hown hK hP hD hS 0 rfl rfl 0 (by decide) (hts (.fieldLink RX0 15 "AssistRows$Driver" "pedal" "D") (List.mem_of_getElem? (i := 2) rfl)) (fun _ h9 => h9) rfl (by decide +kernel) rfl rfl (Nat.le_of_ble_eq_true rfl) dX0_tell_50 (fun H locs hP hD hS => ?_)
        have hP : va_P D vwCl [(h_a, .inr (0, [.double p1, .double h_brake, .double h_steer]))] H := hP
        have hD : va_D A [(h_a, .inr (0, [.double p1, .double h_brake, .double h_steer]))] := hD
        refine lv_goto (tgt := 69) hx hb dX0_tell_53 (by decide) ?_
        refine lv_iconst (v := (1 : Int32)) hx hb dX0_tell_69 (by decide) ?_
        have q0 := Option.some.inj ef0
        obtain ⟨t0, q1⟩ := Prod.mk.inj q0
        obtain ⟨t1, q2⟩ := Prod.mk.inj q1
        obtain ⟨t2, q3⟩ := Prod.mk.inj q2
        exact xZret t0 (by rw [← t1, ← t2, ← q3]) hx hb hr (rfl) hlk hP hD hS dX0_tell_70
      · have ef0 := iff_ ef0 c5
        by_cases c6 : p0 = (1 : Int32)
        · have ef0 := ift ef0 c6
          refine lv_lookup (off := 33) (tgt := 56) hx hb dX0_tell_23 (by decide) (by rw [c6]; rfl) (by decide) ?_
          refine lv_aload_n hx hb dX0_tell_56 rfl (lv_at hl 0 rfl) ?_
          refine lv_dload_n hx hb dX0_tell_57 rfl (lv_at hl 2 rfl) ?_
          refine va_put (D := D) (ci := 0) (v := .double p1) (ty := .double) (C := RX0) (T := TX0) (N := 3) hx hb hts in_wsX0_tell_X0 tyX0 tyX0_ok nmX0 hown hK hP hD hS 0 rfl rfl 1 (by decide) (hts (.fieldLink RX0 21 "AssistRows$Driver" "brake" "D") (List.mem_of_getElem? (i := 3) rfl)) (fun _ h9 => h9) rfl (by decide +kernel) rfl rfl (Nat.le_of_ble_eq_true rfl) dX0_tell_58 (fun H locs hP hD hS => ?_)
          have hP : va_P D vwCl [(h_a, .inr (0, [.double h_pedal, .double p1, .double h_steer]))] H := hP
          have hD : va_D A [(h_a, .inr (0, [.double h_pedal, .double p1, .double h_steer]))] := hD
          refine lv_goto (tgt := 69) hx hb dX0_tell_61 (by decide) ?_
          refine lv_iconst (v := (1 : Int32)) hx hb dX0_tell_69 (by decide) ?_
          have q0 := Option.some.inj ef0
          obtain ⟨t0, q1⟩ := Prod.mk.inj q0
          obtain ⟨t1, q2⟩ := Prod.mk.inj q1
          obtain ⟨t2, q3⟩ := Prod.mk.inj q2
          exact xZret t0 (by rw [← t1, ← t2, ← q3]) hx hb hr (rfl) hlk hP hD hS dX0_tell_70
        · have ef0 := iff_ ef0 c6
          have qc5 := toInt_ne c5 (z := 0) (by decide)
          have qc6 := toInt_ne c6 (z := 1) (by decide)
          refine lv_lookup (off := 41) (tgt := 64) hx hb dX0_tell_23 (by decide) (by simp [Op.lookupswitch.offset, qc5, qc6, Ne.symm qc5, Ne.symm qc6]) (by decide) ?_
          refine lv_aload_n hx hb dX0_tell_64 rfl (lv_at hl 0 rfl) ?_
          refine lv_dload_n hx hb dX0_tell_65 rfl (lv_at hl 2 rfl) ?_
          refine va_put (D := D) (ci := 0) (v := .double p1) (ty := .double) (C := RX0) (T := TX0) (N := 3) hx hb hts in_wsX0_tell_X0 tyX0 tyX0_ok nmX0 hown hK hP hD hS 0 rfl rfl 2 (by decide) (hts (.fieldLink RX0 24 "AssistRows$Driver" "steer" "D") (List.mem_of_getElem? (i := 4) rfl)) (fun _ h9 => h9) rfl (by decide +kernel) rfl rfl (Nat.le_of_ble_eq_true rfl) dX0_tell_66 (fun H locs hP hD hS => ?_)
          have hP : va_P D vwCl [(h_a, .inr (0, [.double h_pedal, .double h_brake, .double p1]))] H := hP
          have hD : va_D A [(h_a, .inr (0, [.double h_pedal, .double h_brake, .double p1]))] := hD
          refine lv_iconst (v := (1 : Int32)) hx hb dX0_tell_69 (by decide) ?_
          have q0 := Option.some.inj ef0
          obtain ⟨t0, q1⟩ := Prod.mk.inj q0
          obtain ⟨t1, q2⟩ := Prod.mk.inj q1
          obtain ⟨t2, q3⟩ := Prod.mk.inj q2
          exact xZret t0 (by rw [← t1, ← t2, ← q3]) hx hb hr (rfl) hlk hP hD hS dX0_tell_70
    · have ef0 := ift ef0 c4
      refine lv_iconst (v := (0 : Int32)) hx hb dX0_tell_20 (by decide) ?_
      have q0 := Option.some.inj ef0
      obtain ⟨t0, q1⟩ := Prod.mk.inj q0
      obtain ⟨t1, q2⟩ := Prod.mk.inj q1
      obtain ⟨t2, q3⟩ := Prod.mk.inj q2
      exact xZret t0 (by rw [← t1, ← t2, ← q3]) hx hb hr (rfl) hlk hP hD hS dX0_tell_21
  refine lv_icmp_ne (tgt := 12) hx hb dX0_tell_3 (by decide) (fun c1 => ?_) (fun c1 => ?_)
  · have ef0 := iff_ ef0 c1
    refine lv_dconst0 hx hb dX0_tell_12 ?_
    exact K1 FP.dconst0 _ _ _ ⟨ef0, hP, hD, hS, lv_sub hl [0, 1, 2] rfl⟩
  · have ef0 := ift ef0 c1
    refine lv_ldc2d hx hb hown (hts (.constantDouble RX0 7 (13830554455654793216)) (List.mem_of_getElem? (i := 1) rfl)) dX0_tell_6 ?_
    refine lv_goto (tgt := 13) hx hb dX0_tell_9 (by decide) ?_
    exact K1 (13830554455654793216 : UInt64) _ _ _ ⟨ef0, hP, hD, hS, lv_sub hl [0, 1, 2] rfl⟩

theorem in_wsX0_steers_X0 : ∀ w ∈ wsX00, w ∈ wsX0_steers := fun _ h => List.mem_cons_of_mem _ (List.mem_append_right _ h)
def f_X0_steers (p0 : UInt64) (h_steer : UInt64) : Option Int32 :=
  (f_X8_magnitude h_steer).bind fun u1 =>
  if (Op.cmpValue (FP.dcmp u1 p0) .l) ≤ 0 then (
  some (0 : Int32)) else
  some (1 : Int32)
set_option maxHeartbeats 4000000 in
set_option maxRecDepth 100000 in
theorem c_X0_steers (l : Launch) (D : va_G) (sz : Nat) (h_a : Nat) (p0 : UInt64) (h_pedal : UInt64) (h_brake : UInt64) (h_steer : UInt64) (r0 : Int32) (hf : f_X0_steers p0 h_steer = some r0) : Met l yX0_steers wsX0_steers { frames := 1, cells := 0, slots := 0, locals := 21 } (va_Pc [.ref h_a, .double p0] (xPre D [(h_a, .inr (0, [.double h_pedal, .double h_brake, .double h_steer]))] [] sz)) (va_Qi (fun (x : Int32) (_ : Unit) => x = r0) (fun _ => xB D (va_A [(h_a, .inr (0, [.double h_pedal, .double h_brake, .double h_steer]))] sz) [(h_a, .inr (0, [.double h_pedal, .double h_brake, .double h_steer]))]) (va_A [(h_a, .inr (0, [.double h_pedal, .double h_brake, .double h_steer]))] sz)) 0 0 (va_A [(h_a, .inr (0, [.double h_pedal, .double h_brake, .double h_steer]))] sz) := by
  refine xOfW (l := l) (y := yX0_steers) (ws := wsX0_steers) (D := D) (cells := [(h_a, .inr (0, [.double h_pedal, .double h_brake, .double h_steer]))]) (tys := []) (sz := sz) (av := [.ref h_a, .double p0]) (cc := cX0_steers) (maxL := 3) (ret := (some .boolean)) (fun A => va_Qi (fun (x : Int32) (_ : Unit) => x = r0) (fun _ => xB D A [(h_a, .inr (0, [.double h_pedal, .double h_brake, .double h_steer]))]) A) (by decide) rfl (Nat.le_of_ble_eq_true rfl) ?_
  intro p e s m below meth c A H ls hx hb hr hml hown hlk hts hP hK hD hS hA hN hl
  have hl : lv_has ls 3 [(0, .ref h_a), (1, .double p0)] := hl
  have hown : s.vm.findClass RX0 = some m.cls := hown
  have ef0 : f_X0_steers p0 h_steer = some r0 := hf
  rewrite [f_X0_steers] at ef0
  refine lv_aload_n hx hb dX0_steers_0 rfl (lv_at hl 0 rfl) ?_
  refine va_get (D := D) (ci := 0) (v := .double h_steer) (C := RX0) (T := TX0) (N := 3) hx hb hts in_wsX0_steers_X0 hown hK hP 0 rfl rfl 2 (by decide) (hts (.fieldLink RX0 24 "AssistRows$Driver" "steer" "D") (List.mem_of_getElem? (i := 1) rfl)) (fun _ h9 => h9) rfl dX0_steers_1 ?_
  obtain ⟨u1, hu1, ef0⟩ := bd_of ef0
  refine xCalld (wr := [(h_a, .inr (0, [.double h_pedal, .double h_brake, .double h_steer]))]) (wn := [(h_a, .inr (0, [.double h_pedal, .double h_brake, .double h_steer]))]) [] [0] [0] (va_runSN (As := [.double h_steer]) (rest := []) ⟨hx, hb, hml, hown, hts⟩ (c_X8_magnitude l D H.size h_steer u1 hu1) ⟨va_cnB 1 hts gX0_steers_X8_magnitude_n27 rfl rfl rfl hN.2.1 (hts (.initialized RX8) (List.mem_of_getElem? (i := 3) rfl)) (by decide +kernel) ⟨Nat.le_of_ble_eq_true rfl, Nat.le_of_ble_eq_true rfl⟩, (hts (.static yX8_magnitude) (List.mem_of_getElem? (i := 2) rfl)), trivial⟩ (xPreS hP hD hK hN [] rfl rfl [] rfl) rfl rfl hl.1 rfl (lv_room (Nat.le_of_ble_eq_true rfl)) dX0_steers_4 ⟨Nat.zero_le _, Nat.zero_le _⟩) hP hD hS hA rfl rfl rfl (by decide) rfl rfl (fun H locs hP hD hS => ?_)
  refine lv_dload_n hx hb dX0_steers_7 rfl (lv_at hl 1 rfl) ?_
  refine lv_dcmp hx hb dX0_steers_8 ?_
  refine lv_if_le (tgt := 16) hx hb dX0_steers_9 (by decide) (fun c2 => ?_) (fun c2 => ?_)
  · have ef0 := ift ef0 c2
    refine lv_iconst (v := (0 : Int32)) hx hb dX0_steers_16 (by decide) ?_
    have q0 := Option.some.inj ef0
    exact xZret q0 rfl hx hb hr (rfl) hlk hP hD hS dX0_steers_17
  · have ef0 := iff_ ef0 c2
    refine lv_iconst (v := (1 : Int32)) hx hb dX0_steers_12 (by decide) ?_
    refine lv_goto (tgt := 17) hx hb dX0_steers_13 (by decide) ?_
    have q0 := Option.some.inj ef0
    exact xZret q0 rfl hx hb hr (rfl) hlk hP hD hS dX0_steers_17

theorem in_wsX1_tell_X1 : ∀ w ∈ wsX10, w ∈ wsX1_tell := fun _ h => List.mem_cons_of_mem _ (List.mem_append_right _ h)
def f_X1_tell (p0 : Int32) (p1 : UInt64) (h_on : Int32) (h_changedAt : UInt64) : Option (Int32 × Int32 × UInt64) :=
  if p0 = h_on then (
  some ((0 : Int32), h_on, h_changedAt)) else
  ck (zb p0 = true) <|
  some ((1 : Int32), p0, p1)
set_option maxHeartbeats 4000000 in
set_option maxRecDepth 100000 in
theorem c_X1_tell (l : Launch) (D : va_G) (sz : Nat) (h_a : Nat) (p0 : Int32) (p1 : UInt64) (h_on : Int32) (h_asked : Int32) (h_stopping : Int32) (h_changedAt : UInt64) (h_askedAt : UInt64) (r0 : Int32) (r1 : Int32) (r2 : UInt64) (hf : f_X1_tell p0 p1 h_on h_changedAt = some (r0, r1, r2)) : Met l yX1_tell wsX1_tell { frames := 0, cells := 0, slots := 0, locals := 0 } (va_Pc [.ref h_a, .int p0, .double p1] (xPre D [(h_a, .inr (1, [.int h_on, .int h_asked, .int h_stopping, .double h_changedAt, .double h_askedAt]))] [] sz)) (va_Qi (fun (x : Int32) (_ : Unit) => x = r0) (fun _ => xB D (va_A [(h_a, .inr (1, [.int h_on, .int h_asked, .int h_stopping, .double h_changedAt, .double h_askedAt]))] sz) [(h_a, .inr (1, [.int r1, .int h_asked, .int h_stopping, .double r2, .double h_askedAt]))]) (va_A [(h_a, .inr (1, [.int h_on, .int h_asked, .int h_stopping, .double h_changedAt, .double h_askedAt]))] sz)) 0 0 (va_A [(h_a, .inr (1, [.int h_on, .int h_asked, .int h_stopping, .double h_changedAt, .double h_askedAt]))] sz) := by
  refine xOfW (l := l) (y := yX1_tell) (ws := wsX1_tell) (D := D) (cells := [(h_a, .inr (1, [.int h_on, .int h_asked, .int h_stopping, .double h_changedAt, .double h_askedAt]))]) (tys := []) (sz := sz) (av := [.ref h_a, .int p0, .double p1]) (cc := cX1_tell) (maxL := 4) (ret := (some .boolean)) (fun A => va_Qi (fun (x : Int32) (_ : Unit) => x = r0) (fun _ => xB D A [(h_a, .inr (1, [.int r1, .int h_asked, .int h_stopping, .double r2, .double h_askedAt]))]) A) (by decide) rfl (Nat.le_of_ble_eq_true rfl) ?_
  intro p e s m below meth c A H ls hx hb hr hml hown hlk hts hP hK hD hS hA hN hl
  have hl : lv_has ls 4 [(0, .ref h_a), (1, .int p0), (2, .double p1)] := hl
  have hown : s.vm.findClass RX1 = some m.cls := hown
  have ef0 : f_X1_tell p0 p1 h_on h_changedAt = some (r0, r1, r2) := hf
  rewrite [f_X1_tell] at ef0
  refine lv_iload_n hx hb dX1_tell_0 rfl (lv_at hl 1 rfl) ?_
  refine lv_aload_n hx hb dX1_tell_1 rfl (lv_at hl 0 rfl) ?_
  refine va_get (D := D) (ci := 1) (v := .int h_on) (C := RX1) (T := TX1) (N := 5) hx hb hts in_wsX1_tell_X1 hown hK hP 0 rfl rfl 0 (by decide) (hts (.fieldLink RX1 7 "AssistRows$Hands" "on" "Z") (List.mem_of_getElem? (i := 1) rfl)) (fun _ h9 => h9) rfl dX1_tell_2 ?_
  refine lv_icmp_ne (tgt := 10) hx hb dX1_tell_5 (by decide) (fun c1 => ?_) (fun c1 => ?_)
  · have ef0 := iff_ ef0 c1
    refine lv_aload_n hx hb dX1_tell_10 rfl (lv_at hl 0 rfl) ?_
    refine lv_iload_n hx hb dX1_tell_11 rfl (lv_at hl 1 rfl) ?_
    obtain ⟨h2, ef0⟩ := ck_of ef0
    refine va_put (D := D) (ci := 1) (v := .int p0) (ty := .boolean) (C := RX1) (T := TX1) (N := 5) hx hb hts in_wsX1_tell_X1 tyX1 tyX1_ok nmX1 hown hK hP hD hS 0 rfl rfl 0 (by decide) (hts (.fieldLink RX1 7 "AssistRows$Hands" "on" "Z") (List.mem_of_getElem? (i := 1) rfl)) (fun _ h9 => h9) rfl (by decide +kernel) (zb_nar h2) (zb_fit h2) (Nat.le_of_ble_eq_true rfl) dX1_tell_12 (fun H locs hP hD hS => ?_)
    have hP : va_P D vwCl [(h_a, .inr (1, [.int p0, .int h_asked, .int h_stopping, .double h_changedAt, .double h_askedAt]))] H := hP
    have hD : va_D A [(h_a, .inr (1, [.int p0, .int h_asked, .int h_stopping, .double h_changedAt, .double h_askedAt]))] := hD
    refine lv_aload_n hx hb dX1_tell_15 rfl (lv_at hl 0 rfl) ?_
    refine lv_dload_n hx hb dX1_tell_16 rfl (lv_at hl 2 rfl) ?_
    refine va_put (D := D) (ci := 1) (v := .double p1) (ty := .double) (C := RX1) (T := TX1) (N := 5) hx hb hts in_wsX1_tell_X1 tyX1 tyX1_ok nmX1 hown hK hP hD hS 0 rfl rfl 3 (by decide) (hts (.fieldLink RX1 13 "AssistRows$Hands" "changedAt" "D") (List.mem_of_getElem? (i := 2) rfl)) (fun _ h9 => h9) rfl (by decide +kernel) rfl rfl (Nat.le_of_ble_eq_true rfl) dX1_tell_17 (fun H locs hP hD hS => ?_)
    have hP : va_P D vwCl [(h_a, .inr (1, [.int p0, .int h_asked, .int h_stopping, .double p1, .double h_askedAt]))] H := hP
    have hD : va_D A [(h_a, .inr (1, [.int p0, .int h_asked, .int h_stopping, .double p1, .double h_askedAt]))] := hD
    refine lv_iconst (v := (1 : Int32)) hx hb dX1_tell_20 (by decide) ?_
    have q0 := Option.some.inj ef0
    obtain ⟨t0, q1⟩ := Prod.mk.inj q0
    obtain ⟨t1, q2⟩ := Prod.mk.inj q1
    exact xZret t0 (by rw [← t1, ← q2]) hx hb hr (rfl) hlk hP hD hS dX1_tell_21
  · have ef0 := ift ef0 c1
    refine lv_iconst (v := (0 : Int32)) hx hb dX1_tell_8 (by decide) ?_
    have q0 := Option.some.inj ef0
    obtain ⟨t0, q1⟩ := Prod.mk.inj q0
    obtain ⟨t1, q2⟩ := Prod.mk.inj q1
    exact xZret t0 (by rw [← t1, ← q2]) hx hb hr (rfl) hlk hP hD hS dX1_tell_9

theorem in_wsX1_ask_X1 : ∀ w ∈ wsX10, w ∈ wsX1_ask := fun _ h => List.mem_cons_of_mem _ (List.mem_append_right _ h)
def f_X1_ask (p0 : UInt64) (h_on : Int32) (h_asked : Int32) (h_stopping : Int32) (h_askedAt : UInt64) : Option (Int32 × Int32 × UInt64) :=
  if h_asked = 0 then (
  if h_on = 0 then (
  if h_stopping = 0 then (
  some ((1 : Int32), (1 : Int32), p0)) else
  some ((0 : Int32), h_asked, h_askedAt)) else
  some ((0 : Int32), h_asked, h_askedAt)) else
  some ((0 : Int32), h_asked, h_askedAt)
set_option maxHeartbeats 4000000 in
set_option maxRecDepth 100000 in
theorem c_X1_ask (l : Launch) (D : va_G) (sz : Nat) (h_a : Nat) (p0 : UInt64) (h_on : Int32) (h_asked : Int32) (h_stopping : Int32) (h_changedAt : UInt64) (h_askedAt : UInt64) (r0 : Int32) (r1 : Int32) (r2 : UInt64) (hf : f_X1_ask p0 h_on h_asked h_stopping h_askedAt = some (r0, r1, r2)) : Met l yX1_ask wsX1_ask { frames := 0, cells := 0, slots := 0, locals := 0 } (va_Pc [.ref h_a, .double p0] (xPre D [(h_a, .inr (1, [.int h_on, .int h_asked, .int h_stopping, .double h_changedAt, .double h_askedAt]))] [] sz)) (va_Qi (fun (x : Int32) (_ : Unit) => x = r0) (fun _ => xB D (va_A [(h_a, .inr (1, [.int h_on, .int h_asked, .int h_stopping, .double h_changedAt, .double h_askedAt]))] sz) [(h_a, .inr (1, [.int h_on, .int r1, .int h_stopping, .double h_changedAt, .double r2]))]) (va_A [(h_a, .inr (1, [.int h_on, .int h_asked, .int h_stopping, .double h_changedAt, .double h_askedAt]))] sz)) 0 0 (va_A [(h_a, .inr (1, [.int h_on, .int h_asked, .int h_stopping, .double h_changedAt, .double h_askedAt]))] sz) := by
  refine xOfW (l := l) (y := yX1_ask) (ws := wsX1_ask) (D := D) (cells := [(h_a, .inr (1, [.int h_on, .int h_asked, .int h_stopping, .double h_changedAt, .double h_askedAt]))]) (tys := []) (sz := sz) (av := [.ref h_a, .double p0]) (cc := cX1_ask) (maxL := 3) (ret := (some .boolean)) (fun A => va_Qi (fun (x : Int32) (_ : Unit) => x = r0) (fun _ => xB D A [(h_a, .inr (1, [.int h_on, .int r1, .int h_stopping, .double h_changedAt, .double r2]))]) A) (by decide) rfl (Nat.le_of_ble_eq_true rfl) ?_
  intro p e s m below meth c A H ls hx hb hr hml hown hlk hts hP hK hD hS hA hN hl
  have hl : lv_has ls 3 [(0, .ref h_a), (1, .double p0)] := hl
  have hown : s.vm.findClass RX1 = some m.cls := hown
  have ef0 : f_X1_ask p0 h_on h_asked h_stopping h_askedAt = some (r0, r1, r2) := hf
  rewrite [f_X1_ask] at ef0
  refine lv_aload_n hx hb dX1_ask_0 rfl (lv_at hl 0 rfl) ?_
  refine va_get (D := D) (ci := 1) (v := .int h_asked) (C := RX1) (T := TX1) (N := 5) hx hb hts in_wsX1_ask_X1 hown hK hP 0 rfl rfl 1 (by decide) (hts (.fieldLink RX1 17 "AssistRows$Hands" "asked" "Z") (List.mem_of_getElem? (i := 1) rfl)) (fun _ h9 => h9) rfl dX1_ask_1 ?_
  refine lv_if_ne (tgt := 21) hx hb dX1_ask_4 (by decide) (fun c1 => ?_) (fun c1 => ?_)
  · have ef0 := iff_ ef0 c1
    refine lv_iconst (v := (0 : Int32)) hx hb dX1_ask_21 (by decide) ?_
    have q0 := Option.some.inj ef0
    obtain ⟨t0, q1⟩ := Prod.mk.inj q0
    obtain ⟨t1, q2⟩ := Prod.mk.inj q1
    exact xZret t0 (by rw [← t1, ← q2]) hx hb hr (rfl) hlk hP hD hS dX1_ask_22
  · have ef0 := ift ef0 c1
    refine lv_aload_n hx hb dX1_ask_7 rfl (lv_at hl 0 rfl) ?_
    refine va_get (D := D) (ci := 1) (v := .int h_on) (C := RX1) (T := TX1) (N := 5) hx hb hts in_wsX1_ask_X1 hown hK hP 0 rfl rfl 0 (by decide) (hts (.fieldLink RX1 7 "AssistRows$Hands" "on" "Z") (List.mem_of_getElem? (i := 2) rfl)) (fun _ h9 => h9) rfl dX1_ask_8 ?_
    refine lv_if_ne (tgt := 21) hx hb dX1_ask_11 (by decide) (fun c2 => ?_) (fun c2 => ?_)
    · have ef0 := iff_ ef0 c2
      refine lv_iconst (v := (0 : Int32)) hx hb dX1_ask_21 (by decide) ?_
      have q0 := Option.some.inj ef0
      obtain ⟨t0, q1⟩ := Prod.mk.inj q0
      obtain ⟨t1, q2⟩ := Prod.mk.inj q1
      exact xZret t0 (by rw [← t1, ← q2]) hx hb hr (rfl) hlk hP hD hS dX1_ask_22
    · have ef0 := ift ef0 c2
      refine lv_aload_n hx hb dX1_ask_14 rfl (lv_at hl 0 rfl) ?_
      refine va_get (D := D) (ci := 1) (v := .int h_stopping) (C := RX1) (T := TX1) (N := 5) hx hb hts in_wsX1_ask_X1 hown hK hP 0 rfl rfl 2 (by decide) (hts (.fieldLink RX1 20 "AssistRows$Hands" "stopping" "Z") (List.mem_of_getElem? (i := 3) rfl)) (fun _ h9 => h9) rfl dX1_ask_15 ?_
      refine lv_if_eq (tgt := 23) hx hb dX1_ask_18 (by decide) (fun c3 => ?_) (fun c3 => ?_)
      · have ef0 := ift ef0 c3
        refine lv_aload_n hx hb dX1_ask_23 rfl (lv_at hl 0 rfl) ?_
        refine lv_iconst (v := (1 : Int32)) hx hb dX1_ask_24 (by decide) ?_
        refine va_put (D := D) (ci := 1) (v := .int (1 : Int32)) (ty := .boolean) (C := RX1) (T := TX1) (N := 5) hx hb hts in_wsX1_ask_X1 tyX1 tyX1_ok nmX1 hown hK hP hD hS 0 rfl rfl 1 (by decide) (hts (.fieldLink RX1 17 "AssistRows$Hands" "asked" "Z") (List.mem_of_getElem? (i := 1) rfl)) (fun _ h9 => h9) rfl (by decide +kernel) rfl rfl (Nat.le_of_ble_eq_true rfl) dX1_ask_25 (fun H locs hP hD hS => ?_)
        have hP : va_P D vwCl [(h_a, .inr (1, [.int h_on, .int (1 : Int32), .int h_stopping, .double h_changedAt, .double h_askedAt]))] H := hP
        have hD : va_D A [(h_a, .inr (1, [.int h_on, .int (1 : Int32), .int h_stopping, .double h_changedAt, .double h_askedAt]))] := hD
        refine lv_aload_n hx hb dX1_ask_28 rfl (lv_at hl 0 rfl) ?_
        refine lv_dload_n hx hb dX1_ask_29 rfl (lv_at hl 1 rfl) ?_
        refine va_put (D := D) (ci := 1) (v := .double p0) (ty := .double) (C := RX1) (T := TX1) (N := 5) hx hb hts in_wsX1_ask_X1 tyX1 tyX1_ok nmX1 hown hK hP hD hS 0 rfl rfl 4 (by decide) (hts (.fieldLink RX1 23 "AssistRows$Hands" "askedAt" "D") (List.mem_of_getElem? (i := 4) rfl)) (fun _ h9 => h9) rfl (by decide +kernel) rfl rfl (Nat.le_of_ble_eq_true rfl) dX1_ask_30 (fun H locs hP hD hS => ?_)
        have hP : va_P D vwCl [(h_a, .inr (1, [.int h_on, .int (1 : Int32), .int h_stopping, .double h_changedAt, .double p0]))] H := hP
        have hD : va_D A [(h_a, .inr (1, [.int h_on, .int (1 : Int32), .int h_stopping, .double h_changedAt, .double p0]))] := hD
        refine lv_iconst (v := (1 : Int32)) hx hb dX1_ask_33 (by decide) ?_
        have q0 := Option.some.inj ef0
        obtain ⟨t0, q1⟩ := Prod.mk.inj q0
        obtain ⟨t1, q2⟩ := Prod.mk.inj q1
        exact xZret t0 (by rw [← t1, ← q2]) hx hb hr (rfl) hlk hP hD hS dX1_ask_34
      · have ef0 := iff_ ef0 c3
        refine lv_iconst (v := (0 : Int32)) hx hb dX1_ask_21 (by decide) ?_
        have q0 := Option.some.inj ef0
        obtain ⟨t0, q1⟩ := Prod.mk.inj q0
        obtain ⟨t1, q2⟩ := Prod.mk.inj q1
        exact xZret t0 (by rw [← t1, ← q2]) hx hb hr (rfl) hlk hP hD hS dX1_ask_22

theorem in_wsX1_off_X1 : ∀ w ∈ wsX10, w ∈ wsX1_off := fun _ h => List.mem_cons_of_mem _ (List.mem_append_right _ h)
def f_X1_off (p0 : UInt64) (h_on : Int32) (h_changedAt : UInt64) : Option UInt64 :=
  if h_on = 0 then (
  ck (nnb (FP.dsub p0 h_changedAt) = true) <|
  some (FP.dsub p0 h_changedAt)) else
  some FP.dconst0
set_option maxHeartbeats 4000000 in
set_option maxRecDepth 100000 in
theorem c_X1_off (l : Launch) (D : va_G) (sz : Nat) (h_a : Nat) (p0 : UInt64) (h_on : Int32) (h_asked : Int32) (h_stopping : Int32) (h_changedAt : UInt64) (h_askedAt : UInt64) (r0 : UInt64) (hf : f_X1_off p0 h_on h_changedAt = some r0) : Met l yX1_off wsX1_off { frames := 0, cells := 0, slots := 0, locals := 0 } (va_Pc [.ref h_a, .double p0] (xPre D [(h_a, .inr (1, [.int h_on, .int h_asked, .int h_stopping, .double h_changedAt, .double h_askedAt]))] [] sz)) (va_Qd (fun (x : UInt64) (_ : Unit) => x = r0) (fun _ => xB D (va_A [(h_a, .inr (1, [.int h_on, .int h_asked, .int h_stopping, .double h_changedAt, .double h_askedAt]))] sz) [(h_a, .inr (1, [.int h_on, .int h_asked, .int h_stopping, .double h_changedAt, .double h_askedAt]))]) (va_A [(h_a, .inr (1, [.int h_on, .int h_asked, .int h_stopping, .double h_changedAt, .double h_askedAt]))] sz)) 0 0 (va_A [(h_a, .inr (1, [.int h_on, .int h_asked, .int h_stopping, .double h_changedAt, .double h_askedAt]))] sz) := by
  refine xOfW (l := l) (y := yX1_off) (ws := wsX1_off) (D := D) (cells := [(h_a, .inr (1, [.int h_on, .int h_asked, .int h_stopping, .double h_changedAt, .double h_askedAt]))]) (tys := []) (sz := sz) (av := [.ref h_a, .double p0]) (cc := cX1_off) (maxL := 3) (ret := (some .double)) (fun A => va_Qd (fun (x : UInt64) (_ : Unit) => x = r0) (fun _ => xB D A [(h_a, .inr (1, [.int h_on, .int h_asked, .int h_stopping, .double h_changedAt, .double h_askedAt]))]) A) (by decide) rfl (Nat.le_of_ble_eq_true rfl) ?_
  intro p e s m below meth c A H ls hx hb hr hml hown hlk hts hP hK hD hS hA hN hl
  have hl : lv_has ls 3 [(0, .ref h_a), (1, .double p0)] := hl
  have hown : s.vm.findClass RX1 = some m.cls := hown
  have ef0 : f_X1_off p0 h_on h_changedAt = some r0 := hf
  rewrite [f_X1_off] at ef0
  refine lv_aload_n hx hb dX1_off_0 rfl (lv_at hl 0 rfl) ?_
  refine va_get (D := D) (ci := 1) (v := .int h_on) (C := RX1) (T := TX1) (N := 5) hx hb hts in_wsX1_off_X1 hown hK hP 0 rfl rfl 0 (by decide) (hts (.fieldLink RX1 7 "AssistRows$Hands" "on" "Z") (List.mem_of_getElem? (i := 1) rfl)) (fun _ h9 => h9) rfl dX1_off_1 ?_
  refine lv_if_eq (tgt := 11) hx hb dX1_off_4 (by decide) (fun c1 => ?_) (fun c1 => ?_)
  · have ef0 := ift ef0 c1
    refine lv_dload_n hx hb dX1_off_11 rfl (lv_at hl 1 rfl) ?_
    refine lv_aload_n hx hb dX1_off_12 rfl (lv_at hl 0 rfl) ?_
    refine va_get (D := D) (ci := 1) (v := .double h_changedAt) (C := RX1) (T := TX1) (N := 5) hx hb hts in_wsX1_off_X1 hown hK hP 0 rfl rfl 3 (by decide) (hts (.fieldLink RX1 13 "AssistRows$Hands" "changedAt" "D") (List.mem_of_getElem? (i := 2) rfl)) (fun _ h9 => h9) rfl dX1_off_13 ?_
    obtain ⟨h2, ef0⟩ := ck_of ef0
    refine lv_dsub hx hb dX1_off_16 (nn_of h2) ?_
    have q0 := Option.some.inj ef0
    exact xDret q0 rfl hx hb hr hlk hP hD hS dX1_off_17
  · have ef0 := iff_ ef0 c1
    refine lv_dconst0 hx hb dX1_off_7 ?_
    refine lv_goto (tgt := 17) hx hb dX1_off_8 (by decide) ?_
    have q0 := Option.some.inj ef0
    exact xDret q0 rfl hx hb hr hlk hP hD hS dX1_off_17

theorem in_wsX1_pass_X1 : ∀ w ∈ wsX10, w ∈ wsX1_pass := fun _ h => List.mem_cons_of_mem _ (List.mem_append_right _ h)
def f_X1_pass (p0 : UInt64) (p1 : UInt64) (h_on : Int32) (h_asked : Int32) (h_stopping : Int32) (h_changedAt : UInt64) (h_askedAt : UInt64) : Option (Int32 × Int32) :=
  if h_on = 0 then (
  (f_X1_off p0 h_on h_changedAt).bind fun u2 =>
  if 0 ≤ (Op.cmpValue (FP.dcmp u2 (4630826316843712512 : UInt64)) .l) then (
  some ((0 : Int32), (1 : Int32))) else
  if h_asked = 0 then (
  some (h_asked, h_stopping)) else
  ck (nnb (FP.dsub p0 h_askedAt) = true) <|
  if (Op.cmpValue (FP.dcmp (FP.dsub p0 h_askedAt) (4621819117588971520 : UInt64)) .l) < 0 then (
  some (h_asked, h_stopping)) else
  some ((0 : Int32), (1 : Int32))) else
  if h_stopping = 0 then (
  some ((0 : Int32), (0 : Int32))) else
  if (Op.cmpValue (FP.dcmp p1 FP.dconst0) .l) = 0 then (
  some ((0 : Int32), (0 : Int32))) else
  some ((0 : Int32), (1 : Int32))
set_option maxHeartbeats 4000000 in
set_option maxRecDepth 100000 in
theorem c_X1_pass (l : Launch) (D : va_G) (sz : Nat) (h_a : Nat) (p0 : UInt64) (p1 : UInt64) (h_on : Int32) (h_asked : Int32) (h_stopping : Int32) (h_changedAt : UInt64) (h_askedAt : UInt64) (r0 : Int32) (r1 : Int32) (hf : f_X1_pass p0 p1 h_on h_asked h_stopping h_changedAt h_askedAt = some (r0, r1)) : Met l yX1_pass wsX1_pass { frames := 1, cells := 0, slots := 0, locals := 22 } (va_Pc [.ref h_a, .double p0, .double p1] (xPre D [(h_a, .inr (1, [.int h_on, .int h_asked, .int h_stopping, .double h_changedAt, .double h_askedAt]))] [] sz)) (va_Qv (fun (_ : Unit) => True) (fun _ => xB D (va_A [(h_a, .inr (1, [.int h_on, .int h_asked, .int h_stopping, .double h_changedAt, .double h_askedAt]))] sz) [(h_a, .inr (1, [.int h_on, .int r0, .int r1, .double h_changedAt, .double h_askedAt]))]) (va_A [(h_a, .inr (1, [.int h_on, .int h_asked, .int h_stopping, .double h_changedAt, .double h_askedAt]))] sz)) 0 0 (va_A [(h_a, .inr (1, [.int h_on, .int h_asked, .int h_stopping, .double h_changedAt, .double h_askedAt]))] sz) := by
  refine xOfW (l := l) (y := yX1_pass) (ws := wsX1_pass) (D := D) (cells := [(h_a, .inr (1, [.int h_on, .int h_asked, .int h_stopping, .double h_changedAt, .double h_askedAt]))]) (tys := []) (sz := sz) (av := [.ref h_a, .double p0, .double p1]) (cc := cX1_pass) (maxL := 5) (ret := none) (fun A => va_Qv (fun (_ : Unit) => True) (fun _ => xB D A [(h_a, .inr (1, [.int h_on, .int r0, .int r1, .double h_changedAt, .double h_askedAt]))]) A) (by decide) rfl (Nat.le_of_ble_eq_true rfl) ?_
  intro p e s m below meth c A H ls hx hb hr hml hown hlk hts hP hK hD hS hA hN hl
  have hl : lv_has ls 5 [(0, .ref h_a), (1, .double p0), (3, .double p1)] := hl
  have hown : s.vm.findClass RX1 = some m.cls := hown
  have ef0 : f_X1_pass p0 p1 h_on h_asked h_stopping h_changedAt h_askedAt = some (r0, r1) := hf
  rewrite [f_X1_pass] at ef0
  refine lv_aload_n hx hb dX1_pass_0 rfl (lv_at hl 0 rfl) ?_
  refine va_get (D := D) (ci := 1) (v := .int h_on) (C := RX1) (T := TX1) (N := 5) hx hb hts in_wsX1_pass_X1 hown hK hP 0 rfl rfl 0 (by decide) (hts (.fieldLink RX1 7 "AssistRows$Hands" "on" "Z") (List.mem_of_getElem? (i := 1) rfl)) (fun _ h9 => h9) rfl dX1_pass_1 ?_
  refine lv_if_eq (tgt := 37) hx hb dX1_pass_4 (by decide) (fun c1 => ?_) (fun c1 => ?_)
  · have ef0 := ift ef0 c1
    refine lv_aload_n hx hb dX1_pass_37 rfl (lv_at hl 0 rfl) ?_
    refine lv_dload_n hx hb dX1_pass_38 rfl (lv_at hl 1 rfl) ?_
    obtain ⟨u2, hu2, ef0⟩ := bd_of ef0
    refine xCalld (wr := []) (wn := [(h_a, .inr (1, [.int h_on, .int h_asked, .int h_stopping, .double h_changedAt, .double h_askedAt]))]) [0] [] [0] (va_runV (As := [.double p0]) (rest := []) ⟨hx, hb, hml, hown, hts⟩ (c_X1_off l D H.size h_a p0 h_on h_asked h_stopping h_changedAt h_askedAt u2 hu2) (cwV 1 hts gX1_pass_X1_off rfl rfl rfl (by decide +kernel) ⟨Nat.le_of_ble_eq_true rfl, Nat.le_of_ble_eq_true rfl⟩) (xPreV (ci := 1) (q0 := 0) hP hD hK hN rfl rfl [0] rfl rfl [] rfl) rfl rfl hl.1 rfl (lv_room (Nat.le_of_ble_eq_true rfl)) dX1_pass_39 ⟨Nat.zero_le _, Nat.zero_le _⟩) hP hD hS hA rfl rfl rfl (by decide) rfl rfl (fun H locs hP hD hS => ?_)
    refine lv_ldc2d hx hb hown (hts (.constantDouble RX1 30 (4630826316843712512)) (List.mem_of_getElem? (i := 4) rfl)) dX1_pass_42 ?_
    refine lv_dcmp hx hb dX1_pass_45 ?_
    refine lv_if_ge (tgt := 69) hx hb dX1_pass_46 (by decide) (fun c3 => ?_) (fun c3 => ?_)
    · have ef0 := ift ef0 c3
      refine lv_aload_n hx hb dX1_pass_69 rfl (lv_at hl 0 rfl) ?_
      refine lv_iconst (v := (0 : Int32)) hx hb dX1_pass_70 (by decide) ?_
      refine va_put (D := D) (ci := 1) (v := .int (0 : Int32)) (ty := .boolean) (C := RX1) (T := TX1) (N := 5) hx hb hts in_wsX1_pass_X1 tyX1 tyX1_ok nmX1 hown hK hP hD hS 0 rfl rfl 1 (by decide) (hts (.fieldLink RX1 17 "AssistRows$Hands" "asked" "Z") (List.mem_of_getElem? (i := 2) rfl)) (fun _ h9 => h9) rfl (by decide +kernel) rfl rfl (Nat.le_of_ble_eq_true rfl) dX1_pass_71 (fun H locs hP hD hS => ?_)
      have hP : va_P D vwCl [(h_a, .inr (1, [.int h_on, .int (0 : Int32), .int h_stopping, .double h_changedAt, .double h_askedAt]))] H := hP
      have hD : va_D A [(h_a, .inr (1, [.int h_on, .int (0 : Int32), .int h_stopping, .double h_changedAt, .double h_askedAt]))] := hD
      refine lv_aload_n hx hb dX1_pass_74 rfl (lv_at hl 0 rfl) ?_
      refine lv_iconst (v := (1 : Int32)) hx hb dX1_pass_75 (by decide) ?_
      refine va_put (D := D) (ci := 1) (v := .int (1 : Int32)) (ty := .boolean) (C := RX1) (T := TX1) (N := 5) hx hb hts in_wsX1_pass_X1 tyX1 tyX1_ok nmX1 hown hK hP hD hS 0 rfl rfl 2 (by decide) (hts (.fieldLink RX1 20 "AssistRows$Hands" "stopping" "Z") (List.mem_of_getElem? (i := 3) rfl)) (fun _ h9 => h9) rfl (by decide +kernel) rfl rfl (Nat.le_of_ble_eq_true rfl) dX1_pass_76 (fun H locs hP hD hS => ?_)
      have hP : va_P D vwCl [(h_a, .inr (1, [.int h_on, .int (0 : Int32), .int (1 : Int32), .double h_changedAt, .double h_askedAt]))] H := hP
      have hD : va_D A [(h_a, .inr (1, [.int h_on, .int (0 : Int32), .int (1 : Int32), .double h_changedAt, .double h_askedAt]))] := hD
      have q0 := Option.some.inj ef0
      obtain ⟨t0, q1⟩ := Prod.mk.inj q0
      exact xVret (by rw [← t0, ← q1]) hx hb hr hlk hP hD hS dX1_pass_79
    · have ef0 := iff_ ef0 c3
      refine lv_aload_n hx hb dX1_pass_49 rfl (lv_at hl 0 rfl) ?_
      refine va_get (D := D) (ci := 1) (v := .int h_asked) (C := RX1) (T := TX1) (N := 5) hx hb hts in_wsX1_pass_X1 hown hK hP 0 rfl rfl 1 (by decide) (hts (.fieldLink RX1 17 "AssistRows$Hands" "asked" "Z") (List.mem_of_getElem? (i := 2) rfl)) (fun _ h9 => h9) rfl dX1_pass_50 ?_
      refine lv_if_eq (tgt := 79) hx hb dX1_pass_53 (by decide) (fun c4 => ?_) (fun c4 => ?_)
      · have ef0 := ift ef0 c4
        have q0 := Option.some.inj ef0
        obtain ⟨t0, q1⟩ := Prod.mk.inj q0
        exact xVret (by rw [← t0, ← q1]) hx hb hr hlk hP hD hS dX1_pass_79
      · have ef0 := iff_ ef0 c4
        refine lv_dload_n hx hb dX1_pass_56 rfl (lv_at hl 1 rfl) ?_
        refine lv_aload_n hx hb dX1_pass_57 rfl (lv_at hl 0 rfl) ?_
        refine va_get (D := D) (ci := 1) (v := .double h_askedAt) (C := RX1) (T := TX1) (N := 5) hx hb hts in_wsX1_pass_X1 hown hK hP 0 rfl rfl 4 (by decide) (hts (.fieldLink RX1 23 "AssistRows$Hands" "askedAt" "D") (List.mem_of_getElem? (i := 5) rfl)) (fun _ h9 => h9) rfl dX1_pass_58 ?_
        obtain ⟨h5, ef0⟩ := ck_of ef0
        refine lv_dsub hx hb dX1_pass_61 (nn_of h5) ?_
        refine lv_ldc2d hx hb hown (hts (.constantDouble RX1 32 (4621819117588971520)) (List.mem_of_getElem? (i := 6) rfl)) dX1_pass_62 ?_
        refine lv_dcmp hx hb dX1_pass_65 ?_
        refine lv_if_lt (tgt := 79) hx hb dX1_pass_66 (by decide) (fun c6 => ?_) (fun c6 => ?_)
        · have ef0 := ift ef0 c6
          have q0 := Option.some.inj ef0
          obtain ⟨t0, q1⟩ := Prod.mk.inj q0
          exact xVret (by rw [← t0, ← q1]) hx hb hr hlk hP hD hS dX1_pass_79
        · have ef0 := iff_ ef0 c6
          refine lv_aload_n hx hb dX1_pass_69 rfl (lv_at hl 0 rfl) ?_
          refine lv_iconst (v := (0 : Int32)) hx hb dX1_pass_70 (by decide) ?_
          refine va_put (D := D) (ci := 1) (v := .int (0 : Int32)) (ty := .boolean) (C := RX1) (T := TX1) (N := 5) hx hb hts in_wsX1_pass_X1 tyX1 tyX1_ok nmX1 hown hK hP hD hS 0 rfl rfl 1 (by decide) (hts (.fieldLink RX1 17 "AssistRows$Hands" "asked" "Z") (List.mem_of_getElem? (i := 2) rfl)) (fun _ h9 => h9) rfl (by decide +kernel) rfl rfl (Nat.le_of_ble_eq_true rfl) dX1_pass_71 (fun H locs hP hD hS => ?_)
          have hP : va_P D vwCl [(h_a, .inr (1, [.int h_on, .int (0 : Int32), .int h_stopping, .double h_changedAt, .double h_askedAt]))] H := hP
          have hD : va_D A [(h_a, .inr (1, [.int h_on, .int (0 : Int32), .int h_stopping, .double h_changedAt, .double h_askedAt]))] := hD
          refine lv_aload_n hx hb dX1_pass_74 rfl (lv_at hl 0 rfl) ?_
          refine lv_iconst (v := (1 : Int32)) hx hb dX1_pass_75 (by decide) ?_
          refine va_put (D := D) (ci := 1) (v := .int (1 : Int32)) (ty := .boolean) (C := RX1) (T := TX1) (N := 5) hx hb hts in_wsX1_pass_X1 tyX1 tyX1_ok nmX1 hown hK hP hD hS 0 rfl rfl 2 (by decide) (hts (.fieldLink RX1 20 "AssistRows$Hands" "stopping" "Z") (List.mem_of_getElem? (i := 3) rfl)) (fun _ h9 => h9) rfl (by decide +kernel) rfl rfl (Nat.le_of_ble_eq_true rfl) dX1_pass_76 (fun H locs hP hD hS => ?_)
          have hP : va_P D vwCl [(h_a, .inr (1, [.int h_on, .int (0 : Int32), .int (1 : Int32), .double h_changedAt, .double h_askedAt]))] H := hP
          have hD : va_D A [(h_a, .inr (1, [.int h_on, .int (0 : Int32), .int (1 : Int32), .double h_changedAt, .double h_askedAt]))] := hD
          have q0 := Option.some.inj ef0
          obtain ⟨t0, q1⟩ := Prod.mk.inj q0
          exact xVret (by rw [← t0, ← q1]) hx hb hr hlk hP hD hS dX1_pass_79
  · have ef0 := iff_ ef0 c1
    refine lv_aload_n hx hb dX1_pass_7 rfl (lv_at hl 0 rfl) ?_
    refine lv_iconst (v := (0 : Int32)) hx hb dX1_pass_8 (by decide) ?_
    refine va_put (D := D) (ci := 1) (v := .int (0 : Int32)) (ty := .boolean) (C := RX1) (T := TX1) (N := 5) hx hb hts in_wsX1_pass_X1 tyX1 tyX1_ok nmX1 hown hK hP hD hS 0 rfl rfl 1 (by decide) (hts (.fieldLink RX1 17 "AssistRows$Hands" "asked" "Z") (List.mem_of_getElem? (i := 2) rfl)) (fun _ h9 => h9) rfl (by decide +kernel) rfl rfl (Nat.le_of_ble_eq_true rfl) dX1_pass_9 (fun H locs hP hD hS => ?_)
    have hP : va_P D vwCl [(h_a, .inr (1, [.int h_on, .int (0 : Int32), .int h_stopping, .double h_changedAt, .double h_askedAt]))] H := hP
    have hD : va_D A [(h_a, .inr (1, [.int h_on, .int (0 : Int32), .int h_stopping, .double h_changedAt, .double h_askedAt]))] := hD
    refine lv_aload_n hx hb dX1_pass_12 rfl (lv_at hl 0 rfl) ?_
    refine lv_aload_n hx hb dX1_pass_13 rfl (lv_at hl 0 rfl) ?_
    refine va_get (D := D) (ci := 1) (v := .int h_stopping) (C := RX1) (T := TX1) (N := 5) hx hb hts in_wsX1_pass_X1 hown hK hP 0 rfl rfl 2 (by decide) (hts (.fieldLink RX1 20 "AssistRows$Hands" "stopping" "Z") (List.mem_of_getElem? (i := 3) rfl)) (fun _ h9 => h9) rfl dX1_pass_14 ?_
    refine lv_if_eq (tgt := 30) hx hb dX1_pass_17 (by decide) (fun c7 => ?_) (fun c7 => ?_)
    · have ef0 := ift ef0 c7
      refine lv_iconst (v := (0 : Int32)) hx hb dX1_pass_30 (by decide) ?_
      refine va_put (D := D) (ci := 1) (v := .int (0 : Int32)) (ty := .boolean) (C := RX1) (T := TX1) (N := 5) hx hb hts in_wsX1_pass_X1 tyX1 tyX1_ok nmX1 hown hK hP hD hS 0 rfl rfl 2 (by decide) (hts (.fieldLink RX1 20 "AssistRows$Hands" "stopping" "Z") (List.mem_of_getElem? (i := 3) rfl)) (fun _ h9 => h9) rfl (by decide +kernel) rfl rfl (Nat.le_of_ble_eq_true rfl) dX1_pass_31 (fun H locs hP hD hS => ?_)
      have hP : va_P D vwCl [(h_a, .inr (1, [.int h_on, .int (0 : Int32), .int (0 : Int32), .double h_changedAt, .double h_askedAt]))] H := hP
      have hD : va_D A [(h_a, .inr (1, [.int h_on, .int (0 : Int32), .int (0 : Int32), .double h_changedAt, .double h_askedAt]))] := hD
      refine lv_goto (tgt := 79) hx hb dX1_pass_34 (by decide) ?_
      have q0 := Option.some.inj ef0
      obtain ⟨t0, q1⟩ := Prod.mk.inj q0
      exact xVret (by rw [← t0, ← q1]) hx hb hr hlk hP hD hS dX1_pass_79
    · have ef0 := iff_ ef0 c7
      refine lv_dload_n hx hb dX1_pass_20 rfl (lv_at hl 2 rfl) ?_
      refine lv_dconst0 hx hb dX1_pass_21 ?_
      refine lv_dcmp hx hb dX1_pass_22 ?_
      refine lv_if_eq (tgt := 30) hx hb dX1_pass_23 (by decide) (fun c8 => ?_) (fun c8 => ?_)
      · have ef0 := ift ef0 c8
        refine lv_iconst (v := (0 : Int32)) hx hb dX1_pass_30 (by decide) ?_
        refine va_put (D := D) (ci := 1) (v := .int (0 : Int32)) (ty := .boolean) (C := RX1) (T := TX1) (N := 5) hx hb hts in_wsX1_pass_X1 tyX1 tyX1_ok nmX1 hown hK hP hD hS 0 rfl rfl 2 (by decide) (hts (.fieldLink RX1 20 "AssistRows$Hands" "stopping" "Z") (List.mem_of_getElem? (i := 3) rfl)) (fun _ h9 => h9) rfl (by decide +kernel) rfl rfl (Nat.le_of_ble_eq_true rfl) dX1_pass_31 (fun H locs hP hD hS => ?_)
        have hP : va_P D vwCl [(h_a, .inr (1, [.int h_on, .int (0 : Int32), .int (0 : Int32), .double h_changedAt, .double h_askedAt]))] H := hP
        have hD : va_D A [(h_a, .inr (1, [.int h_on, .int (0 : Int32), .int (0 : Int32), .double h_changedAt, .double h_askedAt]))] := hD
        refine lv_goto (tgt := 79) hx hb dX1_pass_34 (by decide) ?_
        have q0 := Option.some.inj ef0
        obtain ⟨t0, q1⟩ := Prod.mk.inj q0
        exact xVret (by rw [← t0, ← q1]) hx hb hr hlk hP hD hS dX1_pass_79
      · have ef0 := iff_ ef0 c8
        refine lv_iconst (v := (1 : Int32)) hx hb dX1_pass_26 (by decide) ?_
        refine lv_goto (tgt := 31) hx hb dX1_pass_27 (by decide) ?_
        refine va_put (D := D) (ci := 1) (v := .int (1 : Int32)) (ty := .boolean) (C := RX1) (T := TX1) (N := 5) hx hb hts in_wsX1_pass_X1 tyX1 tyX1_ok nmX1 hown hK hP hD hS 0 rfl rfl 2 (by decide) (hts (.fieldLink RX1 20 "AssistRows$Hands" "stopping" "Z") (List.mem_of_getElem? (i := 3) rfl)) (fun _ h9 => h9) rfl (by decide +kernel) rfl rfl (Nat.le_of_ble_eq_true rfl) dX1_pass_31 (fun H locs hP hD hS => ?_)
        have hP : va_P D vwCl [(h_a, .inr (1, [.int h_on, .int (0 : Int32), .int (1 : Int32), .double h_changedAt, .double h_askedAt]))] H := hP
        have hD : va_D A [(h_a, .inr (1, [.int h_on, .int (0 : Int32), .int (1 : Int32), .double h_changedAt, .double h_askedAt]))] := hD
        refine lv_goto (tgt := 79) hx hb dX1_pass_34 (by decide) ?_
        have q0 := Option.some.inj ef0
        obtain ⟨t0, q1⟩ := Prod.mk.inj q0
        exact xVret (by rw [← t0, ← q1]) hx hb hr hlk hP hD hS dX1_pass_79

theorem in_wsX2_middle_X2 : ∀ w ∈ wsX20, w ∈ wsX2_middle := fun _ h => List.mem_cons_of_mem _ (List.mem_append_right _ h)
def f_X2_middle (p0 : UInt64) (h_offset : UInt64) (h_slope : UInt64) (h_curve : UInt64) : Option UInt64 :=
  ck (nnb (FP.dmul p0 h_curve) = true) <|
  ck (nnb (FP.dadd h_slope (FP.dmul p0 h_curve)) = true) <|
  ck (nnb (FP.dmul p0 (FP.dadd h_slope (FP.dmul p0 h_curve))) = true) <|
  ck (nnb (FP.dadd h_offset (FP.dmul p0 (FP.dadd h_slope (FP.dmul p0 h_curve)))) = true) <|
  some (FP.dadd h_offset (FP.dmul p0 (FP.dadd h_slope (FP.dmul p0 h_curve))))
set_option maxHeartbeats 4000000 in
set_option maxRecDepth 100000 in
theorem c_X2_middle (l : Launch) (D : va_G) (sz : Nat) (h_a : Nat) (p0 : UInt64) (h_offset : UInt64) (h_slope : UInt64) (h_curve : UInt64) (r0 : UInt64) (hf : f_X2_middle p0 h_offset h_slope h_curve = some r0) : Met l yX2_middle wsX2_middle { frames := 0, cells := 0, slots := 0, locals := 0 } (va_Pc [.ref h_a, .double p0] (xPre D [(h_a, .inr (2, [.double h_offset, .double h_slope, .double h_curve]))] [] sz)) (va_Qd (fun (x : UInt64) (_ : Unit) => x = r0) (fun _ => xB D (va_A [(h_a, .inr (2, [.double h_offset, .double h_slope, .double h_curve]))] sz) [(h_a, .inr (2, [.double h_offset, .double h_slope, .double h_curve]))]) (va_A [(h_a, .inr (2, [.double h_offset, .double h_slope, .double h_curve]))] sz)) 0 0 (va_A [(h_a, .inr (2, [.double h_offset, .double h_slope, .double h_curve]))] sz) := by
  refine xOfW (l := l) (y := yX2_middle) (ws := wsX2_middle) (D := D) (cells := [(h_a, .inr (2, [.double h_offset, .double h_slope, .double h_curve]))]) (tys := []) (sz := sz) (av := [.ref h_a, .double p0]) (cc := cX2_middle) (maxL := 3) (ret := (some .double)) (fun A => va_Qd (fun (x : UInt64) (_ : Unit) => x = r0) (fun _ => xB D A [(h_a, .inr (2, [.double h_offset, .double h_slope, .double h_curve]))]) A) (by decide) rfl (Nat.le_of_ble_eq_true rfl) ?_
  intro p e s m below meth c A H ls hx hb hr hml hown hlk hts hP hK hD hS hA hN hl
  have hl : lv_has ls 3 [(0, .ref h_a), (1, .double p0)] := hl
  have hown : s.vm.findClass RX2 = some m.cls := hown
  have ef0 : f_X2_middle p0 h_offset h_slope h_curve = some r0 := hf
  rewrite [f_X2_middle] at ef0
  refine lv_aload_n hx hb dX2_middle_0 rfl (lv_at hl 0 rfl) ?_
  refine va_get (D := D) (ci := 2) (v := .double h_offset) (C := RX2) (T := TX2) (N := 3) hx hb hts in_wsX2_middle_X2 hown hK hP 0 rfl rfl 0 (by decide) (hts (.fieldLink RX2 7 "AssistRows$Lane" "offset" "D") (List.mem_of_getElem? (i := 1) rfl)) (fun _ h9 => h9) rfl dX2_middle_1 ?_
  refine lv_dload_n hx hb dX2_middle_4 rfl (lv_at hl 1 rfl) ?_
  refine lv_aload_n hx hb dX2_middle_5 rfl (lv_at hl 0 rfl) ?_
  refine va_get (D := D) (ci := 2) (v := .double h_slope) (C := RX2) (T := TX2) (N := 3) hx hb hts in_wsX2_middle_X2 hown hK hP 0 rfl rfl 1 (by decide) (hts (.fieldLink RX2 13 "AssistRows$Lane" "slope" "D") (List.mem_of_getElem? (i := 2) rfl)) (fun _ h9 => h9) rfl dX2_middle_6 ?_
  refine lv_dload_n hx hb dX2_middle_9 rfl (lv_at hl 1 rfl) ?_
  refine lv_aload_n hx hb dX2_middle_10 rfl (lv_at hl 0 rfl) ?_
  refine va_get (D := D) (ci := 2) (v := .double h_curve) (C := RX2) (T := TX2) (N := 3) hx hb hts in_wsX2_middle_X2 hown hK hP 0 rfl rfl 2 (by decide) (hts (.fieldLink RX2 16 "AssistRows$Lane" "curve" "D") (List.mem_of_getElem? (i := 3) rfl)) (fun _ h9 => h9) rfl dX2_middle_11 ?_
  obtain ⟨h1, ef0⟩ := ck_of ef0
  refine lv_dmul hx hb dX2_middle_14 (nn_of h1) ?_
  obtain ⟨h2, ef0⟩ := ck_of ef0
  refine lv_dadd hx hb dX2_middle_15 (nn_of h2) ?_
  obtain ⟨h3, ef0⟩ := ck_of ef0
  refine lv_dmul hx hb dX2_middle_16 (nn_of h3) ?_
  obtain ⟨h4, ef0⟩ := ck_of ef0
  refine lv_dadd hx hb dX2_middle_17 (nn_of h4) ?_
  have q0 := Option.some.inj ef0
  exact xDret q0 rfl hx hb hr hlk hP hD hS dX2_middle_18

theorem in_wsX2_straightening_X2 : ∀ w ∈ wsX20, w ∈ wsX2_straightening := fun _ h => List.mem_cons_of_mem _ (List.mem_append_right _ h)
def f_X2_straightening (h_offset : UInt64) (h_slope : UInt64) : Option UInt64 :=
  ck (nnb (FP.dmul (4591870180066957722 : UInt64) h_offset) = true) <|
  ck (nnb (FP.dmul (4602678819172646912 : UInt64) h_slope) = true) <|
  ck (nnb (FP.dadd (FP.dmul (4591870180066957722 : UInt64) h_offset) (FP.dmul (4602678819172646912 : UInt64) h_slope)) = true) <|
  ck (nnb (FP.dsub FP.dconst0 (FP.dadd (FP.dmul (4591870180066957722 : UInt64) h_offset) (FP.dmul (4602678819172646912 : UInt64) h_slope))) = true) <|
  (f_X8_between (FP.dsub FP.dconst0 (FP.dadd (FP.dmul (4591870180066957722 : UInt64) h_offset) (FP.dmul (4602678819172646912 : UInt64) h_slope))) (13822447976325526323 : UInt64) (4599075939470750515 : UInt64)).bind fun u5 =>
  some u5
set_option maxHeartbeats 4000000 in
set_option maxRecDepth 100000 in
theorem c_X2_straightening (l : Launch) (D : va_G) (sz : Nat) (h_a : Nat) (h_offset : UInt64) (h_slope : UInt64) (h_curve : UInt64) (r0 : UInt64) (hf : f_X2_straightening h_offset h_slope = some r0) : Met l yX2_straightening wsX2_straightening { frames := 2, cells := 0, slots := 0, locals := 48 } (va_Pc [.ref h_a] (xPre D [(h_a, .inr (2, [.double h_offset, .double h_slope, .double h_curve]))] [] sz)) (va_Qd (fun (x : UInt64) (_ : Unit) => x = r0) (fun _ => xB D (va_A [(h_a, .inr (2, [.double h_offset, .double h_slope, .double h_curve]))] sz) [(h_a, .inr (2, [.double h_offset, .double h_slope, .double h_curve]))]) (va_A [(h_a, .inr (2, [.double h_offset, .double h_slope, .double h_curve]))] sz)) 0 0 (va_A [(h_a, .inr (2, [.double h_offset, .double h_slope, .double h_curve]))] sz) := by
  refine xOfW (l := l) (y := yX2_straightening) (ws := wsX2_straightening) (D := D) (cells := [(h_a, .inr (2, [.double h_offset, .double h_slope, .double h_curve]))]) (tys := []) (sz := sz) (av := [.ref h_a]) (cc := cX2_straightening) (maxL := 1) (ret := (some .double)) (fun A => va_Qd (fun (x : UInt64) (_ : Unit) => x = r0) (fun _ => xB D A [(h_a, .inr (2, [.double h_offset, .double h_slope, .double h_curve]))]) A) (by decide) rfl (Nat.le_of_ble_eq_true rfl) ?_
  intro p e s m below meth c A H ls hx hb hr hml hown hlk hts hP hK hD hS hA hN hl
  have hl : lv_has ls 1 [(0, .ref h_a)] := hl
  have hown : s.vm.findClass RX2 = some m.cls := hown
  have ef0 : f_X2_straightening h_offset h_slope = some r0 := hf
  rewrite [f_X2_straightening] at ef0
  refine lv_dconst0 hx hb dX2_straightening_0 ?_
  refine lv_ldc2d hx hb hown (hts (.constantDouble RX2 19 (4591870180066957722)) (List.mem_of_getElem? (i := 1) rfl)) dX2_straightening_1 ?_
  refine lv_aload_n hx hb dX2_straightening_4 rfl (lv_at hl 0 rfl) ?_
  refine va_get (D := D) (ci := 2) (v := .double h_offset) (C := RX2) (T := TX2) (N := 3) hx hb hts in_wsX2_straightening_X2 hown hK hP 0 rfl rfl 0 (by decide) (hts (.fieldLink RX2 7 "AssistRows$Lane" "offset" "D") (List.mem_of_getElem? (i := 2) rfl)) (fun _ h9 => h9) rfl dX2_straightening_5 ?_
  obtain ⟨h1, ef0⟩ := ck_of ef0
  refine lv_dmul hx hb dX2_straightening_8 (nn_of h1) ?_
  refine lv_ldc2d hx hb hown (hts (.constantDouble RX2 21 (4602678819172646912)) (List.mem_of_getElem? (i := 3) rfl)) dX2_straightening_9 ?_
  refine lv_aload_n hx hb dX2_straightening_12 rfl (lv_at hl 0 rfl) ?_
  refine va_get (D := D) (ci := 2) (v := .double h_slope) (C := RX2) (T := TX2) (N := 3) hx hb hts in_wsX2_straightening_X2 hown hK hP 0 rfl rfl 1 (by decide) (hts (.fieldLink RX2 13 "AssistRows$Lane" "slope" "D") (List.mem_of_getElem? (i := 4) rfl)) (fun _ h9 => h9) rfl dX2_straightening_13 ?_
  obtain ⟨h2, ef0⟩ := ck_of ef0
  refine lv_dmul hx hb dX2_straightening_16 (nn_of h2) ?_
  obtain ⟨h3, ef0⟩ := ck_of ef0
  refine lv_dadd hx hb dX2_straightening_17 (nn_of h3) ?_
  obtain ⟨h4, ef0⟩ := ck_of ef0
  refine lv_dsub hx hb dX2_straightening_18 (nn_of h4) ?_
  refine lv_ldc2d hx hb hown (hts (.constantDouble RX2 23 (13822447976325526323)) (List.mem_of_getElem? (i := 5) rfl)) dX2_straightening_19 ?_
  refine lv_ldc2d hx hb hown (hts (.constantDouble RX2 25 (4599075939470750515)) (List.mem_of_getElem? (i := 6) rfl)) dX2_straightening_22 ?_
  obtain ⟨u5, hu5, ef0⟩ := bd_of ef0
  refine xCalld (wr := [(h_a, .inr (2, [.double h_offset, .double h_slope, .double h_curve]))]) (wn := [(h_a, .inr (2, [.double h_offset, .double h_slope, .double h_curve]))]) [] [0] [0] (va_runSN (As := [.double (FP.dsub FP.dconst0 (FP.dadd (FP.dmul (4591870180066957722 : UInt64) h_offset) (FP.dmul (4602678819172646912 : UInt64) h_slope))), .double (13822447976325526323 : UInt64), .double (4599075939470750515 : UInt64)]) (rest := []) ⟨hx, hb, hml, hown, hts⟩ (c_X8_between l D H.size (FP.dsub FP.dconst0 (FP.dadd (FP.dmul (4591870180066957722 : UInt64) h_offset) (FP.dmul (4602678819172646912 : UInt64) h_slope))) (13822447976325526323 : UInt64) (4599075939470750515 : UInt64) u5 hu5) ⟨va_cnB 3 hts gX2_straightening_X8_between_n27 rfl rfl rfl hN.2.2.1 (hts (.initialized RX8) (List.mem_of_getElem? (i := 8) rfl)) (by decide +kernel) ⟨Nat.le_of_ble_eq_true rfl, Nat.le_of_ble_eq_true rfl⟩, (hts (.static yX8_between) (List.mem_of_getElem? (i := 7) rfl)), trivial⟩ (xPreS hP hD hK hN [] rfl rfl [] rfl) rfl rfl hl.1 rfl (lv_room (Nat.le_of_ble_eq_true rfl)) dX2_straightening_25 ⟨Nat.zero_le _, Nat.zero_le _⟩) hP hD hS hA rfl rfl rfl (by decide) rfl rfl (fun H locs hP hD hS => ?_)
  have q0 := Option.some.inj ef0
  exact xDret q0 rfl hx hb hr hlk hP hD hS dX2_straightening_28

def f_X3_fits (p0 : Int32) (p1 : UInt64) : Option Int32 :=
  if p0 = (0 : Int32) then (
  (f_X8_within p1 FP.dconst0 (4633641066610819072 : UInt64)).bind fun u2 =>
  ck (zb u2 = true) <|
  some u2) else
  if p0 = (1 : Int32) then (
  (f_X8_within p1 (4602678819172646912 : UInt64) (4613937818241073152 : UInt64)).bind fun u5 =>
  ck (zb u5 = true) <|
  some u5) else
  if p0 = (2 : Int32) then (
  (f_X8_within p1 FP.dconst1 (4621256167635550208 : UInt64)).bind fun u8 =>
  ck (zb u8 = true) <|
  some u8) else
  (f_X8_within p1 FP.dconst0 (4613937818241073152 : UInt64)).bind fun u10 =>
  ck (zb u10 = true) <|
  some u10
set_option maxHeartbeats 4000000 in
set_option maxRecDepth 100000 in
theorem c_X3_fits (l : Launch) (D : va_G) (sz : Nat) (p0 : Int32) (p1 : UInt64) (r0 : Int32) (hf : f_X3_fits p0 p1 = some r0) : Met l yX3_fits wsX3_fits { frames := 1, cells := 0, slots := 0, locals := 25 } (va_Pc [.int p0, .double p1] (xPre D [] [] sz)) (va_Qi (fun (x : Int32) (_ : Unit) => x = r0) (fun _ => xB D (va_A [] sz) []) (va_A [] sz)) 0 0 (va_A [] sz) := by
  refine xOfW (l := l) (y := yX3_fits) (ws := wsX3_fits) (D := D) (cells := []) (tys := []) (sz := sz) (av := [.int p0, .double p1]) (cc := cX3_fits) (maxL := 3) (ret := (some .boolean)) (fun A => va_Qi (fun (x : Int32) (_ : Unit) => x = r0) (fun _ => xB D A []) A) (by decide) rfl (Nat.le_of_ble_eq_true rfl) ?_
  intro p e s m below meth c A H ls hx hb hr hml hown hlk hts hP hK hD hS hA hN hl
  have hl : lv_has ls 3 [(0, .int p0), (1, .double p1)] := hl
  have hown : s.vm.findClass RX3 = some m.cls := hown
  have ef0 : f_X3_fits p0 p1 = some r0 := hf
  rewrite [f_X3_fits] at ef0
  refine lv_iload_n hx hb dX3_fits_0 rfl (lv_at hl 0 rfl) ?_
  by_cases c1 : p0 = (0 : Int32)
  · have ef0 := ift ef0 c1
    refine lv_tableIn (tgt := 28) hx hb dX3_fits_1 (by rw [c1]; decide) (by rw [c1]; decide) (by rw [c1]; rfl) (by decide) ?_
    refine lv_dload_n hx hb dX3_fits_28 rfl (lv_at hl 1 rfl) ?_
    refine lv_dconst0 hx hb dX3_fits_29 ?_
    refine lv_ldc2d hx hb hown (hts (.constantDouble RX3 32 (4633641066610819072)) (List.mem_of_getElem? (i := 1) rfl)) dX3_fits_30 ?_
    obtain ⟨u2, hu2, ef0⟩ := bd_of ef0
    refine xCalli (wr := []) (wn := []) [] [] [] (va_runSN (As := [.double p1, .double FP.dconst0, .double (4633641066610819072 : UInt64)]) (rest := []) ⟨hx, hb, hml, hown, hts⟩ (c_X8_within l D H.size p1 FP.dconst0 (4633641066610819072 : UInt64) u2 hu2) ⟨va_cnB 3 hts gX3_fits_X8_within_n34 rfl rfl rfl hN.2.2.2.1 (hts (.initialized RX8) (List.mem_of_getElem? (i := 6) rfl)) (by decide +kernel) ⟨Nat.le_of_ble_eq_true rfl, Nat.le_of_ble_eq_true rfl⟩, (hts (.static yX8_within) (List.mem_of_getElem? (i := 5) rfl)), trivial⟩ (xPreS hP hD hK hN [] rfl rfl [] rfl) rfl rfl hl.1 rfl (lv_room (Nat.le_of_ble_eq_true rfl)) dX3_fits_33 ⟨Nat.zero_le _, Nat.zero_le _⟩) hP hD hS hA rfl rfl rfl (by decide) rfl rfl (fun H locs hP hD hS => ?_)
    obtain ⟨h3, ef0⟩ := ck_of ef0
    have q0 := Option.some.inj ef0
    exact xZret q0 rfl hx hb hr (h3) hlk hP hD hS dX3_fits_36
  · have ef0 := iff_ ef0 c1
    by_cases c4 : p0 = (1 : Int32)
    · have ef0 := ift ef0 c4
      refine lv_tableIn (tgt := 37) hx hb dX3_fits_1 (by rw [c4]; decide) (by rw [c4]; decide) (by rw [c4]; rfl) (by decide) ?_
      refine lv_dload_n hx hb dX3_fits_37 rfl (lv_at hl 1 rfl) ?_
      refine lv_ldc2d hx hb hown (hts (.constantDouble RX3 40 (4602678819172646912)) (List.mem_of_getElem? (i := 2) rfl)) dX3_fits_38 ?_
      refine lv_ldc2d hx hb hown (hts (.constantDouble RX3 42 (4613937818241073152)) (List.mem_of_getElem? (i := 3) rfl)) dX3_fits_41 ?_
      obtain ⟨u5, hu5, ef0⟩ := bd_of ef0
      refine xCalli (wr := []) (wn := []) [] [] [] (va_runSN (As := [.double p1, .double (4602678819172646912 : UInt64), .double (4613937818241073152 : UInt64)]) (rest := []) ⟨hx, hb, hml, hown, hts⟩ (c_X8_within l D H.size p1 (4602678819172646912 : UInt64) (4613937818241073152 : UInt64) u5 hu5) ⟨va_cnB 3 hts gX3_fits_X8_within_n34 rfl rfl rfl hN.2.2.2.1 (hts (.initialized RX8) (List.mem_of_getElem? (i := 6) rfl)) (by decide +kernel) ⟨Nat.le_of_ble_eq_true rfl, Nat.le_of_ble_eq_true rfl⟩, (hts (.static yX8_within) (List.mem_of_getElem? (i := 5) rfl)), trivial⟩ (xPreS hP hD hK hN [] rfl rfl [] rfl) rfl rfl hl.1 rfl (lv_room (Nat.le_of_ble_eq_true rfl)) dX3_fits_44 ⟨Nat.zero_le _, Nat.zero_le _⟩) hP hD hS hA rfl rfl rfl (by decide) rfl rfl (fun H locs hP hD hS => ?_)
      obtain ⟨h6, ef0⟩ := ck_of ef0
      have q0 := Option.some.inj ef0
      exact xZret q0 rfl hx hb hr (h6) hlk hP hD hS dX3_fits_47
    · have ef0 := iff_ ef0 c4
      by_cases c7 : p0 = (2 : Int32)
      · have ef0 := ift ef0 c7
        refine lv_tableIn (tgt := 48) hx hb dX3_fits_1 (by rw [c7]; decide) (by rw [c7]; decide) (by rw [c7]; rfl) (by decide) ?_
        refine lv_dload_n hx hb dX3_fits_48 rfl (lv_at hl 1 rfl) ?_
        refine lv_dconst1 hx hb dX3_fits_49 ?_
        refine lv_ldc2d hx hb hown (hts (.constantDouble RX3 18 (4621256167635550208)) (List.mem_of_getElem? (i := 4) rfl)) dX3_fits_50 ?_
        obtain ⟨u8, hu8, ef0⟩ := bd_of ef0
        refine xCalli (wr := []) (wn := []) [] [] [] (va_runSN (As := [.double p1, .double FP.dconst1, .double (4621256167635550208 : UInt64)]) (rest := []) ⟨hx, hb, hml, hown, hts⟩ (c_X8_within l D H.size p1 FP.dconst1 (4621256167635550208 : UInt64) u8 hu8) ⟨va_cnB 3 hts gX3_fits_X8_within_n34 rfl rfl rfl hN.2.2.2.1 (hts (.initialized RX8) (List.mem_of_getElem? (i := 6) rfl)) (by decide +kernel) ⟨Nat.le_of_ble_eq_true rfl, Nat.le_of_ble_eq_true rfl⟩, (hts (.static yX8_within) (List.mem_of_getElem? (i := 5) rfl)), trivial⟩ (xPreS hP hD hK hN [] rfl rfl [] rfl) rfl rfl hl.1 rfl (lv_room (Nat.le_of_ble_eq_true rfl)) dX3_fits_53 ⟨Nat.zero_le _, Nat.zero_le _⟩) hP hD hS hA rfl rfl rfl (by decide) rfl rfl (fun H locs hP hD hS => ?_)
        obtain ⟨h9, ef0⟩ := ck_of ef0
        have q0 := Option.some.inj ef0
        exact xZret q0 rfl hx hb hr (h9) hlk hP hD hS dX3_fits_56
      · have ef0 := iff_ ef0 c7
        have qc1 := toInt_ne c1 (z := 0) (by decide)
        have qc4 := toInt_ne c4 (z := 1) (by decide)
        have qc7 := toInt_ne c7 (z := 2) (by decide)
        refine lv_tableOut (tgt := 57) hx hb dX3_fits_1 (by omega) (by decide) ?_
        refine lv_dload_n hx hb dX3_fits_57 rfl (lv_at hl 1 rfl) ?_
        refine lv_dconst0 hx hb dX3_fits_58 ?_
        refine lv_ldc2d hx hb hown (hts (.constantDouble RX3 42 (4613937818241073152)) (List.mem_of_getElem? (i := 3) rfl)) dX3_fits_59 ?_
        obtain ⟨u10, hu10, ef0⟩ := bd_of ef0
        refine xCalli (wr := []) (wn := []) [] [] [] (va_runSN (As := [.double p1, .double FP.dconst0, .double (4613937818241073152 : UInt64)]) (rest := []) ⟨hx, hb, hml, hown, hts⟩ (c_X8_within l D H.size p1 FP.dconst0 (4613937818241073152 : UInt64) u10 hu10) ⟨va_cnB 3 hts gX3_fits_X8_within_n34 rfl rfl rfl hN.2.2.2.1 (hts (.initialized RX8) (List.mem_of_getElem? (i := 6) rfl)) (by decide +kernel) ⟨Nat.le_of_ble_eq_true rfl, Nat.le_of_ble_eq_true rfl⟩, (hts (.static yX8_within) (List.mem_of_getElem? (i := 5) rfl)), trivial⟩ (xPreS hP hD hK hN [] rfl rfl [] rfl) rfl rfl hl.1 rfl (lv_room (Nat.le_of_ble_eq_true rfl)) dX3_fits_62 ⟨Nat.zero_le _, Nat.zero_le _⟩) hP hD hS hA rfl rfl rfl (by decide) rfl rfl (fun H locs hP hD hS => ?_)
        obtain ⟨h11, ef0⟩ := ck_of ef0
        have q0 := Option.some.inj ef0
        exact xZret q0 rfl hx hb hr (h11) hlk hP hD hS dX3_fits_65

theorem in_wsX3_tell_X3 : ∀ w ∈ wsX30, w ∈ wsX3_tell := fun _ h => List.mem_cons_of_mem _ (List.mem_append_right _ h)
def f_X3_tell (p0 : Int32) (p1 : UInt64) (h_speed : UInt64) (h_gap : UInt64) (h_braking : UInt64) (h_pull : UInt64) : Option (Int32 × UInt64 × UInt64 × UInt64 × UInt64) :=
  (f_X3_fits p0 p1).bind fun u1 =>
  if u1 = 0 then (
  some ((0 : Int32), h_speed, h_gap, h_braking, h_pull)) else
  if p0 = (0 : Int32) then (
  some ((1 : Int32), p1, h_gap, h_braking, h_pull)) else
  if p0 = (1 : Int32) then (
  some ((1 : Int32), h_speed, p1, h_braking, h_pull)) else
  if p0 = (2 : Int32) then (
  some ((1 : Int32), h_speed, h_gap, p1, h_pull)) else
  some ((1 : Int32), h_speed, h_gap, h_braking, p1)
set_option maxHeartbeats 4000000 in
set_option maxRecDepth 100000 in
theorem c_X3_tell (l : Launch) (D : va_G) (sz : Nat) (h_a : Nat) (p0 : Int32) (p1 : UInt64) (h_speed : UInt64) (h_gap : UInt64) (h_braking : UInt64) (h_pull : UInt64) (r0 : Int32) (r1 : UInt64) (r2 : UInt64) (r3 : UInt64) (r4 : UInt64) (hf : f_X3_tell p0 p1 h_speed h_gap h_braking h_pull = some (r0, r1, r2, r3, r4)) : Met l yX3_tell wsX3_tell { frames := 2, cells := 0, slots := 0, locals := 47 } (va_Pc [.ref h_a, .int p0, .double p1] (xPre D [(h_a, .inr (3, [.double h_speed, .double h_gap, .double h_braking, .double h_pull]))] [] sz)) (va_Qi (fun (x : Int32) (_ : Unit) => x = r0) (fun _ => xB D (va_A [(h_a, .inr (3, [.double h_speed, .double h_gap, .double h_braking, .double h_pull]))] sz) [(h_a, .inr (3, [.double r1, .double r2, .double r3, .double r4]))]) (va_A [(h_a, .inr (3, [.double h_speed, .double h_gap, .double h_braking, .double h_pull]))] sz)) 0 0 (va_A [(h_a, .inr (3, [.double h_speed, .double h_gap, .double h_braking, .double h_pull]))] sz) := by
  refine xOfW (l := l) (y := yX3_tell) (ws := wsX3_tell) (D := D) (cells := [(h_a, .inr (3, [.double h_speed, .double h_gap, .double h_braking, .double h_pull]))]) (tys := []) (sz := sz) (av := [.ref h_a, .int p0, .double p1]) (cc := cX3_tell) (maxL := 4) (ret := (some .boolean)) (fun A => va_Qi (fun (x : Int32) (_ : Unit) => x = r0) (fun _ => xB D A [(h_a, .inr (3, [.double r1, .double r2, .double r3, .double r4]))]) A) (by decide) rfl (Nat.le_of_ble_eq_true rfl) ?_
  intro p e s m below meth c A H ls hx hb hr hml hown hlk hts hP hK hD hS hA hN hl
  have hl : lv_has ls 4 [(0, .ref h_a), (1, .int p0), (2, .double p1)] := hl
  have hown : s.vm.findClass RX3 = some m.cls := hown
  have ef0 : f_X3_tell p0 p1 h_speed h_gap h_braking h_pull = some (r0, r1, r2, r3, r4) := hf
  rewrite [f_X3_tell] at ef0
  refine lv_iload_n hx hb dX3_tell_0 rfl (lv_at hl 1 rfl) ?_
  refine lv_dload_n hx hb dX3_tell_1 rfl (lv_at hl 2 rfl) ?_
  obtain ⟨u1, hu1, ef0⟩ := bd_of ef0
  refine xCalli (wr := [(h_a, .inr (3, [.double h_speed, .double h_gap, .double h_braking, .double h_pull]))]) (wn := [(h_a, .inr (3, [.double h_speed, .double h_gap, .double h_braking, .double h_pull]))]) [] [0] [0] (va_runS (As := [.int p0, .double p1]) (rest := []) ⟨hx, hb, hml, hown, hts⟩ (c_X3_fits l D H.size p0 p1 u1 hu1) (va_cwS 2 hts gX3_tell_X3_fits rfl rfl rfl (by decide +kernel) ⟨Nat.le_of_ble_eq_true rfl, Nat.le_of_ble_eq_true rfl⟩) (xPreS hP hD hK hN [] rfl rfl [] rfl) rfl rfl hl.1 rfl (lv_room (Nat.le_of_ble_eq_true rfl)) dX3_tell_2 ⟨Nat.zero_le _, Nat.zero_le _⟩) hP hD hS hA rfl rfl rfl (by decide) rfl rfl (fun H locs hP hD hS => ?_)
  refine lv_if_ne (tgt := 10) hx hb dX3_tell_5 (by decide) (fun c2 => ?_) (fun c2 => ?_)
  · have ef0 := iff_ ef0 c2
    refine lv_iload_n hx hb dX3_tell_10 rfl (lv_at hl 1 rfl) ?_
    by_cases c3 : p0 = (0 : Int32)
    · have ef0 := ift ef0 c3
      refine lv_tableIn (tgt := 36) hx hb dX3_tell_11 (by rw [c3]; decide) (by rw [c3]; decide) (by rw [c3]; rfl) (by decide) ?_
      refine lv_aload_n hx hb dX3_tell_36 rfl (lv_at hl 0 rfl) ?_
      refine lv_dload_n hx hb dX3_tell_37 rfl (lv_at hl 2 rfl) ?_
      refine va_put (D := D) (ci := 3) (v := .double p1) (ty := .double) (C := RX3) (T := TX3) (N := 4) hx hb hts in_wsX3_tell_X3 tyX3 tyX3_ok nmX3 hown hK hP hD hS 0 rfl rfl 0 (by decide) (hts (.fieldLink RX3 7 "AssistRows$Limits" "speed" "D") (List.mem_of_getElem? (i := 1) rfl)) (fun _ h9 => h9) rfl (by decide +kernel) rfl rfl (Nat.le_of_ble_eq_true rfl) dX3_tell_38 (fun H locs hP hD hS => ?_)
      have hP : va_P D vwCl [(h_a, .inr (3, [.double p1, .double h_gap, .double h_braking, .double h_pull]))] H := hP
      have hD : va_D A [(h_a, .inr (3, [.double p1, .double h_gap, .double h_braking, .double h_pull]))] := hD
      refine lv_goto (tgt := 65) hx hb dX3_tell_41 (by decide) ?_
      refine lv_iconst (v := (1 : Int32)) hx hb dX3_tell_65 (by decide) ?_
      have q0 := Option.some.inj ef0
      obtain ⟨t0, q1⟩ := Prod.mk.inj q0
      obtain ⟨t1, q2⟩ := Prod.mk.inj q1
      obtain ⟨t2, q3⟩ := Prod.mk.inj q2
      obtain ⟨t3, q4⟩ := Prod.mk.inj q3
      exact xZret t0 (by rw [← t1, ← t2, ← t3, ← q4]) hx hb hr (rfl) hlk hP hD hS dX3_tell_66
    · have ef0 := iff_ ef0 c3
      by_cases c4 : p0 = (1 : Int32)
      · have ef0 := ift ef0 c4
        refine lv_tableIn (tgt := 44) hx hb dX3_tell_11 (by rw [c4]; decide) (by rw [c4]; decide) (by rw [c4]; rfl) (by decide) ?_
        refine lv_aload_n hx hb dX3_tell_44 rfl (lv_at hl 0 rfl) ?_
        refine lv_dload_n hx hb dX3_tell_45 rfl (lv_at hl 2 rfl) ?_
        refine va_put (D := D) (ci := 3) (v := .double p1) (ty := .double) (C := RX3) (T := TX3) (N := 4) hx hb hts in_wsX3_tell_X3 tyX3 tyX3_ok nmX3 hown hK hP hD hS 0 rfl rfl 1 (by decide) (hts (.fieldLink RX3 15 "AssistRows$Limits" "gap" "D") (List.mem_of_getElem? (i := 2) rfl)) (fun _ h9 => h9) rfl (by decide +kernel) rfl rfl (Nat.le_of_ble_eq_true rfl) dX3_tell_46 (fun H locs hP hD hS => ?_)
        have hP : va_P D vwCl [(h_a, .inr (3, [.double h_speed, .double p1, .double h_braking, .double h_pull]))] H := hP
        have hD : va_D A [(h_a, .inr (3, [.double h_speed, .double p1, .double h_braking, .double h_pull]))] := hD
        refine lv_goto (tgt := 65) hx hb dX3_tell_49 (by decide) ?_
        refine lv_iconst (v := (1 : Int32)) hx hb dX3_tell_65 (by decide) ?_
        have q0 := Option.some.inj ef0
        obtain ⟨t0, q1⟩ := Prod.mk.inj q0
        obtain ⟨t1, q2⟩ := Prod.mk.inj q1
        obtain ⟨t2, q3⟩ := Prod.mk.inj q2
        obtain ⟨t3, q4⟩ := Prod.mk.inj q3
        exact xZret t0 (by rw [← t1, ← t2, ← t3, ← q4]) hx hb hr (rfl) hlk hP hD hS dX3_tell_66
      · have ef0 := iff_ ef0 c4
        by_cases c5 : p0 = (2 : Int32)
        · have ef0 := ift ef0 c5
          refine lv_tableIn (tgt := 52) hx hb dX3_tell_11 (by rw [c5]; decide) (by rw [c5]; decide) (by rw [c5]; rfl) (by decide) ?_
          refine lv_aload_n hx hb dX3_tell_52 rfl (lv_at hl 0 rfl) ?_
          refine lv_dload_n hx hb dX3_tell_53 rfl (lv_at hl 2 rfl) ?_
          refine va_put (D := D) (ci := 3) (v := .double p1) (ty := .double) (C := RX3) (T := TX3) (N := 4) hx hb hts in_wsX3_tell_X3 tyX3 tyX3_ok nmX3 hown hK hP hD hS 0 rfl rfl 2 (by decide) (hts (.fieldLink RX3 20 "AssistRows$Limits" "braking" "D") (List.mem_of_getElem? (i := 3) rfl)) (fun _ h9 => h9) rfl (by decide +kernel) rfl rfl (Nat.le_of_ble_eq_true rfl) dX3_tell_54 (fun H locs hP hD hS => ?_)
          have hP : va_P D vwCl [(h_a, .inr (3, [.double h_speed, .double h_gap, .double p1, .double h_pull]))] H := hP
          have hD : va_D A [(h_a, .inr (3, [.double h_speed, .double h_gap, .double p1, .double h_pull]))] := hD
          refine lv_goto (tgt := 65) hx hb dX3_tell_57 (by decide) ?_
          refine lv_iconst (v := (1 : Int32)) hx hb dX3_tell_65 (by decide) ?_
          have q0 := Option.some.inj ef0
          obtain ⟨t0, q1⟩ := Prod.mk.inj q0
          obtain ⟨t1, q2⟩ := Prod.mk.inj q1
          obtain ⟨t2, q3⟩ := Prod.mk.inj q2
          obtain ⟨t3, q4⟩ := Prod.mk.inj q3
          exact xZret t0 (by rw [← t1, ← t2, ← t3, ← q4]) hx hb hr (rfl) hlk hP hD hS dX3_tell_66
        · have ef0 := iff_ ef0 c5
          have qc3 := toInt_ne c3 (z := 0) (by decide)
          have qc4 := toInt_ne c4 (z := 1) (by decide)
          have qc5 := toInt_ne c5 (z := 2) (by decide)
          refine lv_tableOut (tgt := 60) hx hb dX3_tell_11 (by omega) (by decide) ?_
          refine lv_aload_n hx hb dX3_tell_60 rfl (lv_at hl 0 rfl) ?_
          refine lv_dload_n hx hb dX3_tell_61 rfl (lv_at hl 2 rfl) ?_
          refine va_put (D := D) (ci := 3) (v := .double p1) (ty := .double) (C := RX3) (T := TX3) (N := 4) hx hb hts in_wsX3_tell_X3 tyX3 tyX3_ok nmX3 hown hK hP hD hS 0 rfl rfl 3 (by decide) (hts (.fieldLink RX3 25 "AssistRows$Limits" "pull" "D") (List.mem_of_getElem? (i := 4) rfl)) (fun _ h9 => h9) rfl (by decide +kernel) rfl rfl (Nat.le_of_ble_eq_true rfl) dX3_tell_62 (fun H locs hP hD hS => ?_)
          have hP : va_P D vwCl [(h_a, .inr (3, [.double h_speed, .double h_gap, .double h_braking, .double p1]))] H := hP
          have hD : va_D A [(h_a, .inr (3, [.double h_speed, .double h_gap, .double h_braking, .double p1]))] := hD
          refine lv_iconst (v := (1 : Int32)) hx hb dX3_tell_65 (by decide) ?_
          have q0 := Option.some.inj ef0
          obtain ⟨t0, q1⟩ := Prod.mk.inj q0
          obtain ⟨t1, q2⟩ := Prod.mk.inj q1
          obtain ⟨t2, q3⟩ := Prod.mk.inj q2
          obtain ⟨t3, q4⟩ := Prod.mk.inj q3
          exact xZret t0 (by rw [← t1, ← t2, ← t3, ← q4]) hx hb hr (rfl) hlk hP hD hS dX3_tell_66
  · have ef0 := ift ef0 c2
    refine lv_iconst (v := (0 : Int32)) hx hb dX3_tell_8 (by decide) ?_
    have q0 := Option.some.inj ef0
    obtain ⟨t0, q1⟩ := Prod.mk.inj q0
    obtain ⟨t1, q2⟩ := Prod.mk.inj q1
    obtain ⟨t2, q3⟩ := Prod.mk.inj q2
    obtain ⟨t3, q4⟩ := Prod.mk.inj q3
    exact xZret t0 (by rw [← t1, ← t2, ← t3, ← q4]) hx hb hr (rfl) hlk hP hD hS dX3_tell_9

theorem in_wsX4_add_X4 : ∀ w ∈ wsX40, w ∈ wsX4_add := fun _ h => List.mem_cons_of_mem _ (List.mem_append_right _ h)
def f_X4_add (p0 : UInt64) (p1 : UInt64) (p2 : UInt64) (h_count : Int32) (h_x : Nat → UInt64) (h_y : Nat → UInt64) (h_speed : Nat → UInt64) : Option (Int32 × Int32 × (Nat → UInt64) × (Nat → UInt64) × (Nat → UInt64)) :=
  if h_count < 0 then (
  some ((-4 : Int32), h_count, h_x, h_y, h_speed)) else
  if h_count < (4 : Int32) then (
  ck (inb h_count 4 = true) <|
  ck (inb h_count 4 = true) <|
  ck (inb h_count 4 = true) <|
  some ((h_count + (1 : Int32)), (h_count + (1 : Int32)), (vf_upd h_x h_count.toNatClampNeg p0), (vf_upd h_y h_count.toNatClampNeg p1), (vf_upd h_speed h_count.toNatClampNeg p2))) else
  some ((-4 : Int32), h_count, h_x, h_y, h_speed)
set_option maxHeartbeats 4000000 in
set_option maxRecDepth 100000 in
theorem c_X4_add (l : Launch) (D : va_G) (sz : Nat) (h_a : Nat) (h_x_a : Nat) (h_y_a : Nat) (h_speed_a : Nat) (h_x_k : ClassId) (h_y_k : ClassId) (h_speed_k : ClassId) (p0 : UInt64) (p1 : UInt64) (p2 : UInt64) (h_count : Int32) (h_x : Nat → UInt64) (h_y : Nat → UInt64) (h_speed : Nat → UInt64) (r0 : Int32) (r1 : Int32) (r2 : Nat → UInt64) (r3 : Nat → UInt64) (r4 : Nat → UInt64) (hf : f_X4_add p0 p1 p2 h_count h_x h_y h_speed = some (r0, r1, r2, r3, r4)) : Met l yX4_add wsX4_add { frames := 0, cells := 0, slots := 0, locals := 0 } (va_Pc [.ref h_a, .double p0, .double p1, .double p2] (xPre D [(h_a, .inr (4, [.ref h_x_a, .ref h_y_a, .ref h_speed_a, .int h_count])), (h_x_a, .inl (h_x_k, 4, .inr (.inr (.inr (.inl h_x))))), (h_y_a, .inl (h_y_k, 4, .inr (.inr (.inr (.inl h_y))))), (h_speed_a, .inl (h_speed_k, 4, .inr (.inr (.inr (.inl h_speed)))))] [(h_x_k, .double), (h_y_k, .double), (h_speed_k, .double)] sz)) (va_Qi (fun (x : Int32) (_ : Unit) => x = r0) (fun _ => xB D (va_A [(h_a, .inr (4, [.ref h_x_a, .ref h_y_a, .ref h_speed_a, .int h_count])), (h_x_a, .inl (h_x_k, 4, .inr (.inr (.inr (.inl h_x))))), (h_y_a, .inl (h_y_k, 4, .inr (.inr (.inr (.inl h_y))))), (h_speed_a, .inl (h_speed_k, 4, .inr (.inr (.inr (.inl h_speed)))))] sz) [(h_a, .inr (4, [.ref h_x_a, .ref h_y_a, .ref h_speed_a, .int r1])), (h_x_a, .inl (h_x_k, 4, .inr (.inr (.inr (.inl r2))))), (h_y_a, .inl (h_y_k, 4, .inr (.inr (.inr (.inl r3))))), (h_speed_a, .inl (h_speed_k, 4, .inr (.inr (.inr (.inl r4)))))]) (va_A [(h_a, .inr (4, [.ref h_x_a, .ref h_y_a, .ref h_speed_a, .int h_count])), (h_x_a, .inl (h_x_k, 4, .inr (.inr (.inr (.inl h_x))))), (h_y_a, .inl (h_y_k, 4, .inr (.inr (.inr (.inl h_y))))), (h_speed_a, .inl (h_speed_k, 4, .inr (.inr (.inr (.inl h_speed)))))] sz)) 0 0 (va_A [(h_a, .inr (4, [.ref h_x_a, .ref h_y_a, .ref h_speed_a, .int h_count])), (h_x_a, .inl (h_x_k, 4, .inr (.inr (.inr (.inl h_x))))), (h_y_a, .inl (h_y_k, 4, .inr (.inr (.inr (.inl h_y))))), (h_speed_a, .inl (h_speed_k, 4, .inr (.inr (.inr (.inl h_speed)))))] sz) := by
  refine xOfW (l := l) (y := yX4_add) (ws := wsX4_add) (D := D) (cells := [(h_a, .inr (4, [.ref h_x_a, .ref h_y_a, .ref h_speed_a, .int h_count])), (h_x_a, .inl (h_x_k, 4, .inr (.inr (.inr (.inl h_x))))), (h_y_a, .inl (h_y_k, 4, .inr (.inr (.inr (.inl h_y))))), (h_speed_a, .inl (h_speed_k, 4, .inr (.inr (.inr (.inl h_speed)))))]) (tys := [(h_x_k, .double), (h_y_k, .double), (h_speed_k, .double)]) (sz := sz) (av := [.ref h_a, .double p0, .double p1, .double p2]) (cc := cX4_add) (maxL := 7) (ret := (some .int)) (fun A => va_Qi (fun (x : Int32) (_ : Unit) => x = r0) (fun _ => xB D A [(h_a, .inr (4, [.ref h_x_a, .ref h_y_a, .ref h_speed_a, .int r1])), (h_x_a, .inl (h_x_k, 4, .inr (.inr (.inr (.inl r2))))), (h_y_a, .inl (h_y_k, 4, .inr (.inr (.inr (.inl r3))))), (h_speed_a, .inl (h_speed_k, 4, .inr (.inr (.inr (.inl r4)))))]) A) (by decide) rfl (Nat.le_of_ble_eq_true rfl) ?_
  intro p e s m below meth c A H ls hx hb hr hml hown hlk hts hP hK hD hS hA hN hl
  have hl : lv_has ls 7 [(0, .ref h_a), (1, .double p0), (3, .double p1), (5, .double p2)] := hl
  have hown : s.vm.findClass RX4 = some m.cls := hown
  have ef0 : f_X4_add p0 p1 p2 h_count h_x h_y h_speed = some (r0, r1, r2, r3, r4) := hf
  rewrite [f_X4_add] at ef0
  refine lv_aload_n hx hb dX4_add_0 rfl (lv_at hl 0 rfl) ?_
  refine va_get (D := D) (ci := 4) (v := .int h_count) (C := RX4) (T := TX4) (N := 4) hx hb hts in_wsX4_add_X4 hown hK hP 0 rfl rfl 3 (by decide) (hts (.fieldLink RX4 21 "AssistRows$Measures" "count" "I") (List.mem_of_getElem? (i := 1) rfl)) (fun _ h9 => h9) rfl dX4_add_1 ?_
  refine lv_if_lt (tgt := 15) hx hb dX4_add_4 (by decide) (fun c1 => ?_) (fun c1 => ?_)
  · have ef0 := ift ef0 c1
    refine lv_bipush (v := (-4 : Int32)) hx hb dX4_add_15 (by decide) ?_
    have q0 := Option.some.inj ef0
    obtain ⟨t0, q1⟩ := Prod.mk.inj q0
    obtain ⟨t1, q2⟩ := Prod.mk.inj q1
    obtain ⟨t2, q3⟩ := Prod.mk.inj q2
    obtain ⟨t3, q4⟩ := Prod.mk.inj q3
    exact xIret t0 (by rw [← t1, ← t2, ← t3, ← q4]) hx hb hr hlk hP hD hS dX4_add_17
  · have ef0 := iff_ ef0 c1
    refine lv_aload_n hx hb dX4_add_7 rfl (lv_at hl 0 rfl) ?_
    refine va_get (D := D) (ci := 4) (v := .int h_count) (C := RX4) (T := TX4) (N := 4) hx hb hts in_wsX4_add_X4 hown hK hP 0 rfl rfl 3 (by decide) (hts (.fieldLink RX4 21 "AssistRows$Measures" "count" "I") (List.mem_of_getElem? (i := 1) rfl)) (fun _ h9 => h9) rfl dX4_add_8 ?_
    refine lv_iconst (v := (4 : Int32)) hx hb dX4_add_11 (by decide) ?_
    refine lv_icmp_lt (tgt := 18) hx hb dX4_add_12 (by decide) (fun c2 => ?_) (fun c2 => ?_)
    · have ef0 := ift ef0 c2
      refine lv_aload_n hx hb dX4_add_18 rfl (lv_at hl 0 rfl) ?_
      refine va_get (D := D) (ci := 4) (v := .ref h_x_a) (C := RX4) (T := TX4) (N := 4) hx hb hts in_wsX4_add_X4 hown hK hP 0 rfl rfl 0 (by decide) (hts (.fieldLink RX4 9 "AssistRows$Measures" "x" "[D") (List.mem_of_getElem? (i := 2) rfl)) (fun _ h9 => h9) rfl dX4_add_19 ?_
      refine lv_aload_n hx hb dX4_add_22 rfl (lv_at hl 0 rfl) ?_
      refine va_get (D := D) (ci := 4) (v := .int h_count) (C := RX4) (T := TX4) (N := 4) hx hb hts in_wsX4_add_X4 hown hK hP 0 rfl rfl 3 (by decide) (hts (.fieldLink RX4 21 "AssistRows$Measures" "count" "I") (List.mem_of_getElem? (i := 1) rfl)) (fun _ h9 => h9) rfl dX4_add_23 ?_
      refine lv_dload_n hx hb dX4_add_26 rfl (lv_at hl 1 rfl) ?_
      obtain ⟨h3, ef0⟩ := ck_of ef0
      refine va_dast hx hb hK hP hD hS 1 0 rfl rfl (inb_of h3) dX4_add_27 (fun H locs hP hD hS => ?_)
      have hP : va_P D vwCl [(h_a, .inr (4, [.ref h_x_a, .ref h_y_a, .ref h_speed_a, .int h_count])), (h_x_a, .inl (h_x_k, 4, .inr (.inr (.inr (.inl (vf_upd h_x h_count.toNatClampNeg p0)))))), (h_y_a, .inl (h_y_k, 4, .inr (.inr (.inr (.inl h_y))))), (h_speed_a, .inl (h_speed_k, 4, .inr (.inr (.inr (.inl h_speed)))))] H := hP
      have hD : va_D A [(h_a, .inr (4, [.ref h_x_a, .ref h_y_a, .ref h_speed_a, .int h_count])), (h_x_a, .inl (h_x_k, 4, .inr (.inr (.inr (.inl (vf_upd h_x h_count.toNatClampNeg p0)))))), (h_y_a, .inl (h_y_k, 4, .inr (.inr (.inr (.inl h_y))))), (h_speed_a, .inl (h_speed_k, 4, .inr (.inr (.inr (.inl h_speed)))))] := hD
      refine lv_aload_n hx hb dX4_add_28 rfl (lv_at hl 0 rfl) ?_
      refine va_get (D := D) (ci := 4) (v := .ref h_y_a) (C := RX4) (T := TX4) (N := 4) hx hb hts in_wsX4_add_X4 hown hK hP 0 rfl rfl 1 (by decide) (hts (.fieldLink RX4 15 "AssistRows$Measures" "y" "[D") (List.mem_of_getElem? (i := 3) rfl)) (fun _ h9 => h9) rfl dX4_add_29 ?_
      refine lv_aload_n hx hb dX4_add_32 rfl (lv_at hl 0 rfl) ?_
      refine va_get (D := D) (ci := 4) (v := .int h_count) (C := RX4) (T := TX4) (N := 4) hx hb hts in_wsX4_add_X4 hown hK hP 0 rfl rfl 3 (by decide) (hts (.fieldLink RX4 21 "AssistRows$Measures" "count" "I") (List.mem_of_getElem? (i := 1) rfl)) (fun _ h9 => h9) rfl dX4_add_33 ?_
      refine lv_dload_n hx hb dX4_add_36 rfl (lv_at hl 2 rfl) ?_
      obtain ⟨h4, ef0⟩ := ck_of ef0
      refine va_dast hx hb hK hP hD hS 2 1 rfl rfl (inb_of h4) dX4_add_37 (fun H locs hP hD hS => ?_)
      have hP : va_P D vwCl [(h_a, .inr (4, [.ref h_x_a, .ref h_y_a, .ref h_speed_a, .int h_count])), (h_x_a, .inl (h_x_k, 4, .inr (.inr (.inr (.inl (vf_upd h_x h_count.toNatClampNeg p0)))))), (h_y_a, .inl (h_y_k, 4, .inr (.inr (.inr (.inl (vf_upd h_y h_count.toNatClampNeg p1)))))), (h_speed_a, .inl (h_speed_k, 4, .inr (.inr (.inr (.inl h_speed)))))] H := hP
      have hD : va_D A [(h_a, .inr (4, [.ref h_x_a, .ref h_y_a, .ref h_speed_a, .int h_count])), (h_x_a, .inl (h_x_k, 4, .inr (.inr (.inr (.inl (vf_upd h_x h_count.toNatClampNeg p0)))))), (h_y_a, .inl (h_y_k, 4, .inr (.inr (.inr (.inl (vf_upd h_y h_count.toNatClampNeg p1)))))), (h_speed_a, .inl (h_speed_k, 4, .inr (.inr (.inr (.inl h_speed)))))] := hD
      refine lv_aload_n hx hb dX4_add_38 rfl (lv_at hl 0 rfl) ?_
      refine va_get (D := D) (ci := 4) (v := .ref h_speed_a) (C := RX4) (T := TX4) (N := 4) hx hb hts in_wsX4_add_X4 hown hK hP 0 rfl rfl 2 (by decide) (hts (.fieldLink RX4 18 "AssistRows$Measures" "speed" "[D") (List.mem_of_getElem? (i := 4) rfl)) (fun _ h9 => h9) rfl dX4_add_39 ?_
      refine lv_aload_n hx hb dX4_add_42 rfl (lv_at hl 0 rfl) ?_
      refine va_get (D := D) (ci := 4) (v := .int h_count) (C := RX4) (T := TX4) (N := 4) hx hb hts in_wsX4_add_X4 hown hK hP 0 rfl rfl 3 (by decide) (hts (.fieldLink RX4 21 "AssistRows$Measures" "count" "I") (List.mem_of_getElem? (i := 1) rfl)) (fun _ h9 => h9) rfl dX4_add_43 ?_
      refine lv_dload hx hb dX4_add_46 (lv_at hl 3 rfl) ?_
      obtain ⟨h5, ef0⟩ := ck_of ef0
      refine va_dast hx hb hK hP hD hS 3 2 rfl rfl (inb_of h5) dX4_add_48 (fun H locs hP hD hS => ?_)
      have hP : va_P D vwCl [(h_a, .inr (4, [.ref h_x_a, .ref h_y_a, .ref h_speed_a, .int h_count])), (h_x_a, .inl (h_x_k, 4, .inr (.inr (.inr (.inl (vf_upd h_x h_count.toNatClampNeg p0)))))), (h_y_a, .inl (h_y_k, 4, .inr (.inr (.inr (.inl (vf_upd h_y h_count.toNatClampNeg p1)))))), (h_speed_a, .inl (h_speed_k, 4, .inr (.inr (.inr (.inl (vf_upd h_speed h_count.toNatClampNeg p2))))))] H := hP
      have hD : va_D A [(h_a, .inr (4, [.ref h_x_a, .ref h_y_a, .ref h_speed_a, .int h_count])), (h_x_a, .inl (h_x_k, 4, .inr (.inr (.inr (.inl (vf_upd h_x h_count.toNatClampNeg p0)))))), (h_y_a, .inl (h_y_k, 4, .inr (.inr (.inr (.inl (vf_upd h_y h_count.toNatClampNeg p1)))))), (h_speed_a, .inl (h_speed_k, 4, .inr (.inr (.inr (.inl (vf_upd h_speed h_count.toNatClampNeg p2))))))] := hD
      refine lv_aload_n hx hb dX4_add_49 rfl (lv_at hl 0 rfl) ?_
      refine lv_dup hx hb dX4_add_50 rfl ?_
      refine va_get (D := D) (ci := 4) (v := .int h_count) (C := RX4) (T := TX4) (N := 4) hx hb hts in_wsX4_add_X4 hown hK hP 0 rfl rfl 3 (by decide) (hts (.fieldLink RX4 21 "AssistRows$Measures" "count" "I") (List.mem_of_getElem? (i := 1) rfl)) (fun _ h9 => h9) rfl dX4_add_51 ?_
      refine lv_iconst (v := (1 : Int32)) hx hb dX4_add_54 (by decide) ?_
      refine lv_iadd hx hb dX4_add_55 ?_
      refine va_put (D := D) (ci := 4) (v := .int (h_count + (1 : Int32))) (ty := .int) (C := RX4) (T := TX4) (N := 4) hx hb hts in_wsX4_add_X4 tyX4 tyX4_ok nmX4 hown hK hP hD hS 0 rfl rfl 3 (by decide) (hts (.fieldLink RX4 21 "AssistRows$Measures" "count" "I") (List.mem_of_getElem? (i := 1) rfl)) (fun _ h9 => h9) rfl (by decide +kernel) rfl rfl (Nat.le_of_ble_eq_true rfl) dX4_add_56 (fun H locs hP hD hS => ?_)
      have hP : va_P D vwCl [(h_a, .inr (4, [.ref h_x_a, .ref h_y_a, .ref h_speed_a, .int (h_count + (1 : Int32))])), (h_x_a, .inl (h_x_k, 4, .inr (.inr (.inr (.inl (vf_upd h_x h_count.toNatClampNeg p0)))))), (h_y_a, .inl (h_y_k, 4, .inr (.inr (.inr (.inl (vf_upd h_y h_count.toNatClampNeg p1)))))), (h_speed_a, .inl (h_speed_k, 4, .inr (.inr (.inr (.inl (vf_upd h_speed h_count.toNatClampNeg p2))))))] H := hP
      have hD : va_D A [(h_a, .inr (4, [.ref h_x_a, .ref h_y_a, .ref h_speed_a, .int (h_count + (1 : Int32))])), (h_x_a, .inl (h_x_k, 4, .inr (.inr (.inr (.inl (vf_upd h_x h_count.toNatClampNeg p0)))))), (h_y_a, .inl (h_y_k, 4, .inr (.inr (.inr (.inl (vf_upd h_y h_count.toNatClampNeg p1)))))), (h_speed_a, .inl (h_speed_k, 4, .inr (.inr (.inr (.inl (vf_upd h_speed h_count.toNatClampNeg p2))))))] := hD
      refine lv_aload_n hx hb dX4_add_59 rfl (lv_at hl 0 rfl) ?_
      refine va_get (D := D) (ci := 4) (v := .int (h_count + (1 : Int32))) (C := RX4) (T := TX4) (N := 4) hx hb hts in_wsX4_add_X4 hown hK hP 0 rfl rfl 3 (by decide) (hts (.fieldLink RX4 21 "AssistRows$Measures" "count" "I") (List.mem_of_getElem? (i := 1) rfl)) (fun _ h9 => h9) rfl dX4_add_60 ?_
      have q0 := Option.some.inj ef0
      obtain ⟨t0, q1⟩ := Prod.mk.inj q0
      obtain ⟨t1, q2⟩ := Prod.mk.inj q1
      obtain ⟨t2, q3⟩ := Prod.mk.inj q2
      obtain ⟨t3, q4⟩ := Prod.mk.inj q3
      exact xIret t0 (by rw [← t1, ← t2, ← t3, ← q4]) hx hb hr hlk hP hD hS dX4_add_63
    · have ef0 := iff_ ef0 c2
      refine lv_bipush (v := (-4 : Int32)) hx hb dX4_add_15 (by decide) ?_
      have q0 := Option.some.inj ef0
      obtain ⟨t0, q1⟩ := Prod.mk.inj q0
      obtain ⟨t1, q2⟩ := Prod.mk.inj q1
      obtain ⟨t2, q3⟩ := Prod.mk.inj q2
      obtain ⟨t3, q4⟩ := Prod.mk.inj q3
      exact xIret t0 (by rw [← t1, ← t2, ← t3, ← q4]) hx hb hr hlk hP hD hS dX4_add_17

def f_X6_weight (p0 : Int32) : Option Int32 :=
  if p0 < (60 : Int32) then (
  if p0 < (30 : Int32) then (
  some (0 : Int32)) else
  some (1 : Int32)) else
  some (2 : Int32)
set_option maxHeartbeats 4000000 in
set_option maxRecDepth 100000 in
theorem c_X6_weight (l : Launch) (D : va_G) (sz : Nat) (p0 : Int32) (r0 : Int32) (hf : f_X6_weight p0 = some r0) : Met l yX6_weight wsX6_weight { frames := 0, cells := 0, slots := 0, locals := 0 } (va_Pc [.int p0] (xPre D [] [] sz)) (va_Qi (fun (x : Int32) (_ : Unit) => x = r0) (fun _ => xB D (va_A [] sz) []) (va_A [] sz)) 0 0 (va_A [] sz) := by
  refine xOfW (l := l) (y := yX6_weight) (ws := wsX6_weight) (D := D) (cells := []) (tys := []) (sz := sz) (av := [.int p0]) (cc := cX6_weight) (maxL := 1) (ret := (some .int)) (fun A => va_Qi (fun (x : Int32) (_ : Unit) => x = r0) (fun _ => xB D A []) A) (by decide) rfl (Nat.le_of_ble_eq_true rfl) ?_
  intro p e s m below meth c A H ls hx hb hr hml hown hlk hts hP hK hD hS hA hN hl
  have hl : lv_has ls 1 [(0, .int p0)] := hl
  have hown : s.vm.findClass RX6 = some m.cls := hown
  have ef0 : f_X6_weight p0 = some r0 := hf
  rewrite [f_X6_weight] at ef0
  refine lv_iload_n hx hb dX6_weight_0 rfl (lv_at hl 0 rfl) ?_
  refine lv_bipush (v := (60 : Int32)) hx hb dX6_weight_1 (by decide) ?_
  refine lv_icmp_lt (tgt := 8) hx hb dX6_weight_3 (by decide) (fun c1 => ?_) (fun c1 => ?_)
  · have ef0 := ift ef0 c1
    refine lv_iload_n hx hb dX6_weight_8 rfl (lv_at hl 0 rfl) ?_
    refine lv_bipush (v := (30 : Int32)) hx hb dX6_weight_9 (by decide) ?_
    refine lv_icmp_lt (tgt := 18) hx hb dX6_weight_11 (by decide) (fun c2 => ?_) (fun c2 => ?_)
    · have ef0 := ift ef0 c2
      refine lv_iconst (v := (0 : Int32)) hx hb dX6_weight_18 (by decide) ?_
      have q0 := Option.some.inj ef0
      exact xIret q0 rfl hx hb hr hlk hP hD hS dX6_weight_19
    · have ef0 := iff_ ef0 c2
      refine lv_iconst (v := (1 : Int32)) hx hb dX6_weight_14 (by decide) ?_
      refine lv_goto (tgt := 19) hx hb dX6_weight_15 (by decide) ?_
      have q0 := Option.some.inj ef0
      exact xIret q0 rfl hx hb hr hlk hP hD hS dX6_weight_19
  · have ef0 := iff_ ef0 c1
    refine lv_iconst (v := (2 : Int32)) hx hb dX6_weight_6 (by decide) ?_
    have q0 := Option.some.inj ef0
    exact xIret q0 rfl hx hb hr hlk hP hD hS dX6_weight_7

theorem in_wsX6_take_X6 : ∀ w ∈ wsX60, w ∈ wsX6_take := fun _ h => List.mem_cons_of_mem _ (List.mem_append_right _ h)
def f_X6_take_l1 : Nat → Int32 → (Nat → Int32) → Option ((Nat → Int32))
  | 0, _, _ => none
  | n + 1, a3, a4 =>
  if (13 : Int32) < a3 then (
  some a4) else
  ck (inb a3 14 = true) <|
  (f_X6_take_l1 n) (a3 + 1) (upd a4 a3.toNatClampNeg (0 : Int32))
def f_X6_take (p0 : Int32) (h_counts : Nat → Int32) : Option (Int32 × (Nat → Int32)) :=
  (f_X6_take_l1 16 (1 : Int32) h_counts).bind fun w7 =>
  some (p0, w7)
set_option maxHeartbeats 4000000 in
set_option maxRecDepth 100000 in
theorem c_X6_take (l : Launch) (D : va_G) (sz : Nat) (h_a : Nat) (h_counts_a : Nat) (h_counts_k : ClassId) (p0 : Int32) (h_taken : Int32) (h_counts : Nat → Int32) (r0 : Int32) (r1 : Nat → Int32) (hf : f_X6_take p0 h_counts = some (r0, r1)) : Met l yX6_take wsX6_take { frames := 0, cells := 0, slots := 0, locals := 0 } (va_Pc [.ref h_a, .int p0] (xPre D [(h_a, .inr (6, [.ref h_counts_a, .int h_taken])), (h_counts_a, .inl (h_counts_k, 14, .inl h_counts))] [(h_counts_k, .int)] sz)) (va_Qv (fun (_ : Unit) => True) (fun _ => xB D (va_A [(h_a, .inr (6, [.ref h_counts_a, .int h_taken])), (h_counts_a, .inl (h_counts_k, 14, .inl h_counts))] sz) [(h_a, .inr (6, [.ref h_counts_a, .int r0])), (h_counts_a, .inl (h_counts_k, 14, .inl r1))]) (va_A [(h_a, .inr (6, [.ref h_counts_a, .int h_taken])), (h_counts_a, .inl (h_counts_k, 14, .inl h_counts))] sz)) 0 0 (va_A [(h_a, .inr (6, [.ref h_counts_a, .int h_taken])), (h_counts_a, .inl (h_counts_k, 14, .inl h_counts))] sz) := by
  refine xOfW (l := l) (y := yX6_take) (ws := wsX6_take) (D := D) (cells := [(h_a, .inr (6, [.ref h_counts_a, .int h_taken])), (h_counts_a, .inl (h_counts_k, 14, .inl h_counts))]) (tys := [(h_counts_k, .int)]) (sz := sz) (av := [.ref h_a, .int p0]) (cc := cX6_take) (maxL := 3) (ret := none) (fun A => va_Qv (fun (_ : Unit) => True) (fun _ => xB D A [(h_a, .inr (6, [.ref h_counts_a, .int r0])), (h_counts_a, .inl (h_counts_k, 14, .inl r1))]) A) (by decide) rfl (Nat.le_of_ble_eq_true rfl) ?_
  intro p e s m below meth c A H ls hx hb hr hml hown hlk hts hP hK hD hS hA hN hl
  have hl : lv_has ls 3 [(0, .ref h_a), (1, .int p0)] := hl
  have hown : s.vm.findClass RX6 = some m.cls := hown
  have ef0 : f_X6_take p0 h_counts = some (r0, r1) := hf
  rewrite [f_X6_take] at ef0
  refine lv_aload_n hx hb dX6_take_0 rfl (lv_at hl 0 rfl) ?_
  refine lv_iload_n hx hb dX6_take_1 rfl (lv_at hl 1 rfl) ?_
  refine va_put (D := D) (ci := 6) (v := .int p0) (ty := .int) (C := RX6) (T := TX6) (N := 2) hx hb hts in_wsX6_take_X6 tyX6 tyX6_ok nmX6 hown hK hP hD hS 0 rfl rfl 1 (by decide) (hts (.fieldLink RX6 23 "AssistRows$Signs" "taken" "I") (List.mem_of_getElem? (i := 1) rfl)) (fun _ h9 => h9) rfl (by decide +kernel) rfl rfl (Nat.le_of_ble_eq_true rfl) dX6_take_2 (fun H locs hP hD hS => ?_)
  have hP : va_P D vwCl [(h_a, .inr (6, [.ref h_counts_a, .int p0])), (h_counts_a, .inl (h_counts_k, 14, .inl h_counts))] H := hP
  have hD : va_D A [(h_a, .inr (6, [.ref h_counts_a, .int p0])), (h_counts_a, .inl (h_counts_k, 14, .inl h_counts))] := hD
  refine lv_iconst (v := (1 : Int32)) hx hb dX6_take_5 (by decide) ?_
  refine lv_istore_n (lv' := [(2, .int (1 : Int32)), (0, .ref h_a), (1, .int p0)]) hx hb dX6_take_6 rfl hl (by decide) rfl (fun ls hl => ?_)
  obtain ⟨zw7, hw7, ef0⟩ := bd_of ef0
  refine xCut (ι := (Nat → Int32)) (fun z H locs ls => z = zw7 ∧ va_P D vwCl [(h_a, .inr (6, [.ref h_counts_a, .int p0])), (h_counts_a, .inl (h_counts_k, 14, .inl z))] H ∧ va_D A [(h_a, .inr (6, [.ref h_counts_a, .int p0])), (h_counts_a, .inl (h_counts_k, 14, .inl z))] ∧ va_S A s.heap H locs ∧ lv_has ls 3 []) 26 (fun _ => []) ?_ (fun E1 => ?_)
  · intro w7 H locs ls hz
    obtain ⟨hz, hP, hD, hS, hl⟩ := hz
    subst hz
    have q0 := Option.some.inj ef0
    obtain ⟨t0, q1⟩ := Prod.mk.inj q0
    exact xVret (by rw [← t0, ← q1]) hx hb hr hlk hP hD hS dX6_take_26
  · refine xLoop (ι := Int32 × (Nat → Int32)) (fun n z H locs ls => f_X6_take_l1 n z.1 z.2 = some zw7 ∧ va_P D vwCl [(h_a, .inr (6, [.ref h_counts_a, .int p0])), (h_counts_a, .inl (h_counts_k, 14, .inl z.2))] H ∧ va_D A [(h_a, .inr (6, [.ref h_counts_a, .int p0])), (h_counts_a, .inl (h_counts_k, 14, .inl z.2))] ∧ va_S A s.heap H locs ∧ lv_has ls 3 [(0, .ref h_a), (2, .int z.1)]) 7 (fun _ => []) (fun z _ _ _ h => absurd (show (none : Option ((Nat → Int32))) = some _ from h.1) (fun h => nomatch h)) ?_ (fun L1 => ?_)
    · intro n L1 z H locs ls hz
      obtain ⟨a3, a4⟩ := z
      obtain ⟨ef1, hP, hD, hS, hl⟩ := hz
      have ef1 : f_X6_take_l1 (n + 1) a3 a4 = some zw7 := ef1
      have hP : va_P D vwCl [(h_a, .inr (6, [.ref h_counts_a, .int p0])), (h_counts_a, .inl (h_counts_k, 14, .inl a4))] H := hP
      have hD : va_D A [(h_a, .inr (6, [.ref h_counts_a, .int p0])), (h_counts_a, .inl (h_counts_k, 14, .inl a4))] := hD
      have hl : lv_has ls 3 [(0, .ref h_a), (2, .int a3)] := hl
      rewrite [f_X6_take_l1] at ef1
      refine lv_iload_n hx hb dX6_take_7 rfl (lv_at hl 1 rfl) ?_
      refine lv_bipush (v := (13 : Int32)) hx hb dX6_take_8 (by decide) ?_
      refine lv_icmp_gt (tgt := 26) hx hb dX6_take_10 (by decide) (fun c5 => ?_) (fun c5 => ?_)
      · have ef1 := ift ef1 c5
        exact E1 a4 _ _ _ ⟨Option.some.inj ef1, hP, hD, hS, lv_sub hl [] rfl⟩
      · have ef1 := iff_ ef1 c5
        refine lv_aload_n hx hb dX6_take_13 rfl (lv_at hl 0 rfl) ?_
        refine va_get (D := D) (ci := 6) (v := .ref h_counts_a) (C := RX6) (T := TX6) (N := 2) hx hb hts in_wsX6_take_X6 hown hK hP 0 rfl rfl 0 (by decide) (hts (.fieldLink RX6 9 "AssistRows$Signs" "counts" "[I") (List.mem_of_getElem? (i := 2) rfl)) (fun _ h9 => h9) rfl dX6_take_14 ?_
        refine lv_iload_n hx hb dX6_take_17 rfl (lv_at hl 1 rfl) ?_
        refine lv_iconst (v := (0 : Int32)) hx hb dX6_take_18 (by decide) ?_
        obtain ⟨h6, ef1⟩ := ck_of ef1
        refine va_iast hx hb hK hP hD hS 1 0 rfl rfl (inb_of h6) dX6_take_19 (fun H locs hP hD hS => ?_)
        have hP : va_P D vwCl [(h_a, .inr (6, [.ref h_counts_a, .int p0])), (h_counts_a, .inl (h_counts_k, 14, .inl (upd a4 a3.toNatClampNeg (0 : Int32))))] H := hP
        have hD : va_D A [(h_a, .inr (6, [.ref h_counts_a, .int p0])), (h_counts_a, .inl (h_counts_k, 14, .inl (upd a4 a3.toNatClampNeg (0 : Int32))))] := hD
        refine lv_iinc (v := (a3 + 1)) (lv' := [(2, .int (a3 + 1)), (0, .ref h_a)]) hx hb dX6_take_20 hl (k := 1) rfl rfl (by decide) rfl (fun ls hl => ?_)
        refine lv_goto (tgt := 7) hx hb dX6_take_23 (by decide) ?_
        exact L1 ((a3 + 1), (upd a4 a3.toNatClampNeg (0 : Int32))) _ _ _ ⟨ef1, hP, hD, hS, lv_sub hl [1, 0] rfl⟩
    · exact L1 16 ((1 : Int32), h_counts) _ _ _ ⟨hw7, hP, hD, hS, lv_sub hl [1, 0] rfl⟩

theorem in_wsX6_see_X6 : ∀ w ∈ wsX60, w ∈ wsX6_see := fun _ h => List.mem_cons_of_mem _ (List.mem_append_right _ h)
def f_X6_see_l1 (p0 : Int32) (p1 : Int32) : Nat → Int32 → Int32 → (Nat → Int32) → Option (Int32 × (Nat → Int32))
  | 0, _, _, _ => none
  | n + 1, a12, a13, a14 =>
  if (13 : Int32) < a13 then (
  some (a12, a14)) else
  if a13 = p0 then (
  ck (inb a13 14 = true) <|
  (f_X6_weight p1).bind fun u22 =>
  ck (inb a13 14 = true) <|
  ck (inb a13 14 = true) <|
  if ((upd a14 a13.toNatClampNeg ((a14 a13.toNatClampNeg) + u22)) a13.toNatClampNeg) < (4 : Int32) then (
  (f_X6_see_l1 p0 p1 n) (0 : Int32) (a13 + 1) (upd a14 a13.toNatClampNeg ((a14 a13.toNatClampNeg) + u22))) else
  (f_X6_see_l1 p0 p1 n) (1 : Int32) (a13 + 1) (upd a14 a13.toNatClampNeg ((a14 a13.toNatClampNeg) + u22))) else
  ck (inb a13 14 = true) <|
  if (a14 a13.toNatClampNeg) ≤ 0 then (
  (f_X6_see_l1 p0 p1 n) a12 (a13 + 1) a14) else
  ck (inb a13 14 = true) <|
  ck (inb a13 14 = true) <|
  (f_X6_see_l1 p0 p1 n) a12 (a13 + 1) (upd a14 a13.toNatClampNeg ((a14 a13.toNatClampNeg) - (1 : Int32)))
def f_X6_see (p0 : Int32) (p1 : Int32) (h_taken : Int32) (h_counts : Nat → Int32) : Option (Int32 × Int32 × (Nat → Int32)) :=
  (f_X6_see_l1 p0 p1 16 (0 : Int32) (1 : Int32) h_counts).bind fun w26 =>
  if w26.1 = 0 then (
  some (h_taken, h_taken, w26.2)) else
  (f_X6_take p0 w26.2).bind fun u28 =>
  some (u28.1, u28.1, u28.2)
set_option maxHeartbeats 4000000 in
set_option maxRecDepth 100000 in
theorem c_X6_see (l : Launch) (D : va_G) (sz : Nat) (h_a : Nat) (h_counts_a : Nat) (h_counts_k : ClassId) (p0 : Int32) (p1 : Int32) (h_taken : Int32) (h_counts : Nat → Int32) (r0 : Int32) (r1 : Int32) (r2 : Nat → Int32) (hf : f_X6_see p0 p1 h_taken h_counts = some (r0, r1, r2)) : Met l yX6_see wsX6_see { frames := 1, cells := 0, slots := 0, locals := 22 } (va_Pc [.ref h_a, .int p0, .int p1] (xPre D [(h_a, .inr (6, [.ref h_counts_a, .int h_taken])), (h_counts_a, .inl (h_counts_k, 14, .inl h_counts))] [(h_counts_k, .int)] sz)) (va_Qi (fun (x : Int32) (_ : Unit) => x = r0) (fun _ => xB D (va_A [(h_a, .inr (6, [.ref h_counts_a, .int h_taken])), (h_counts_a, .inl (h_counts_k, 14, .inl h_counts))] sz) [(h_a, .inr (6, [.ref h_counts_a, .int r1])), (h_counts_a, .inl (h_counts_k, 14, .inl r2))]) (va_A [(h_a, .inr (6, [.ref h_counts_a, .int h_taken])), (h_counts_a, .inl (h_counts_k, 14, .inl h_counts))] sz)) 0 0 (va_A [(h_a, .inr (6, [.ref h_counts_a, .int h_taken])), (h_counts_a, .inl (h_counts_k, 14, .inl h_counts))] sz) := by
  refine xOfW (l := l) (y := yX6_see) (ws := wsX6_see) (D := D) (cells := [(h_a, .inr (6, [.ref h_counts_a, .int h_taken])), (h_counts_a, .inl (h_counts_k, 14, .inl h_counts))]) (tys := [(h_counts_k, .int)]) (sz := sz) (av := [.ref h_a, .int p0, .int p1]) (cc := cX6_see) (maxL := 5) (ret := (some .int)) (fun A => va_Qi (fun (x : Int32) (_ : Unit) => x = r0) (fun _ => xB D A [(h_a, .inr (6, [.ref h_counts_a, .int r1])), (h_counts_a, .inl (h_counts_k, 14, .inl r2))]) A) (by decide) rfl (Nat.le_of_ble_eq_true rfl) ?_
  intro p e s m below meth c A H ls hx hb hr hml hown hlk hts hP hK hD hS hA hN hl
  have hl : lv_has ls 5 [(0, .ref h_a), (1, .int p0), (2, .int p1)] := hl
  have hown : s.vm.findClass RX6 = some m.cls := hown
  have ef0 : f_X6_see p0 p1 h_taken h_counts = some (r0, r1, r2) := hf
  rewrite [f_X6_see] at ef0
  refine lv_iconst (v := (0 : Int32)) hx hb dX6_see_0 (by decide) ?_
  refine lv_istore_n (lv' := [(3, .int (0 : Int32)), (0, .ref h_a), (1, .int p0), (2, .int p1)]) hx hb dX6_see_1 rfl hl (by decide) rfl (fun ls hl => ?_)
  refine lv_iconst (v := (1 : Int32)) hx hb dX6_see_2 (by decide) ?_
  refine lv_istore (lv' := [(4, .int (1 : Int32)), (3, .int (0 : Int32)), (0, .ref h_a), (1, .int p0), (2, .int p1)]) hx hb dX6_see_3 hl (by decide) rfl (fun ls hl => ?_)
  obtain ⟨zw26, hw26, ef0⟩ := bd_of ef0
  refine xCut (ι := Int32 × (Nat → Int32)) (fun z H locs ls => z = zw26 ∧ va_P D vwCl [(h_a, .inr (6, [.ref h_counts_a, .int h_taken])), (h_counts_a, .inl (h_counts_k, 14, .inl z.2))] H ∧ va_D A [(h_a, .inr (6, [.ref h_counts_a, .int h_taken])), (h_counts_a, .inl (h_counts_k, 14, .inl z.2))] ∧ va_S A s.heap H locs ∧ lv_has ls 5 [(0, .ref h_a), (1, .int p0), (3, .int z.1)]) 89 (fun _ => []) ?_ (fun E1 => ?_)
  · intro w26 H locs ls hz
    obtain ⟨hz, hP, hD, hS, hl⟩ := hz
    subst hz
    refine lv_iload_n hx hb dX6_see_89 rfl (lv_at hl 2 rfl) ?_
    refine lv_if_eq (tgt := 98) hx hb dX6_see_90 (by decide) (fun c27 => ?_) (fun c27 => ?_)
    · have ef0 := ift ef0 c27
      refine lv_aload_n hx hb dX6_see_98 rfl (lv_at hl 0 rfl) ?_
      refine va_get (D := D) (ci := 6) (v := .int h_taken) (C := RX6) (T := TX6) (N := 2) hx hb hts in_wsX6_see_X6 hown hK hP 0 rfl rfl 1 (by decide) (hts (.fieldLink RX6 23 "AssistRows$Signs" "taken" "I") (List.mem_of_getElem? (i := 2) rfl)) (fun _ h9 => h9) rfl dX6_see_99 ?_
      have q0 := Option.some.inj ef0
      obtain ⟨t0, q1⟩ := Prod.mk.inj q0
      obtain ⟨t1, q2⟩ := Prod.mk.inj q1
      exact xIret t0 (by rw [← t1, ← q2]) hx hb hr hlk hP hD hS dX6_see_102
    · have ef0 := iff_ ef0 c27
      refine lv_aload_n hx hb dX6_see_93 rfl (lv_at hl 0 rfl) ?_
      refine lv_iload_n hx hb dX6_see_94 rfl (lv_at hl 1 rfl) ?_
      obtain ⟨u28, hu28, ef0⟩ := bd_of ef0
      refine xCallv (wr := []) (wn := [(h_a, .inr (6, [.ref h_counts_a, .int u28.1])), (h_counts_a, .inl (h_counts_k, 14, .inl u28.2))]) [0, 1] [] [0, 1] (va_runV (As := [.int p0]) (rest := []) ⟨hx, hb, hml, hown, hts⟩ (c_X6_take l D H.size h_a h_counts_a h_counts_k p0 h_taken w26.2 u28.1 u28.2 hu28) (cwV 1 hts gX6_see_X6_take rfl rfl rfl (by decide +kernel) ⟨Nat.le_of_ble_eq_true rfl, Nat.le_of_ble_eq_true rfl⟩) (xPreV (ci := 6) (q0 := 0) hP hD hK hN rfl rfl [0, 1] rfl rfl [0] rfl) rfl rfl hl.1 rfl (lv_room (Nat.le_of_ble_eq_true rfl)) dX6_see_95 ⟨Nat.zero_le _, Nat.zero_le _⟩) hP hD hS hA rfl rfl rfl (by decide) rfl rfl (fun H locs hP hD hS => ?_)
      refine lv_aload_n hx hb dX6_see_98 rfl (lv_at hl 0 rfl) ?_
      refine va_get (D := D) (ci := 6) (v := .int u28.1) (C := RX6) (T := TX6) (N := 2) hx hb hts in_wsX6_see_X6 hown hK hP 0 rfl rfl 1 (by decide) (hts (.fieldLink RX6 23 "AssistRows$Signs" "taken" "I") (List.mem_of_getElem? (i := 2) rfl)) (fun _ h9 => h9) rfl dX6_see_99 ?_
      have q0 := Option.some.inj ef0
      obtain ⟨t0, q1⟩ := Prod.mk.inj q0
      obtain ⟨t1, q2⟩ := Prod.mk.inj q1
      exact xIret t0 (by rw [← t1, ← q2]) hx hb hr hlk hP hD hS dX6_see_102
  · refine xLoop (ι := Int32 × Int32 × (Nat → Int32)) (fun n z H locs ls => f_X6_see_l1 p0 p1 n z.1 z.2.1 z.2.2 = some zw26 ∧ va_P D vwCl [(h_a, .inr (6, [.ref h_counts_a, .int h_taken])), (h_counts_a, .inl (h_counts_k, 14, .inl z.2.2))] H ∧ va_D A [(h_a, .inr (6, [.ref h_counts_a, .int h_taken])), (h_counts_a, .inl (h_counts_k, 14, .inl z.2.2))] ∧ va_S A s.heap H locs ∧ lv_has ls 5 [(0, .ref h_a), (1, .int p0), (2, .int p1), (3, .int z.1), (4, .int z.2.1)]) 5 (fun _ => []) (fun z _ _ _ h => absurd (show (none : Option (Int32 × (Nat → Int32))) = some _ from h.1) (fun h => nomatch h)) ?_ (fun L1 => ?_)
    · intro n L1 z H locs ls hz
      obtain ⟨a12, a13, a14⟩ := z
      obtain ⟨ef1, hP, hD, hS, hl⟩ := hz
      have ef1 : f_X6_see_l1 p0 p1 (n + 1) a12 a13 a14 = some zw26 := ef1
      have hP : va_P D vwCl [(h_a, .inr (6, [.ref h_counts_a, .int h_taken])), (h_counts_a, .inl (h_counts_k, 14, .inl a14))] H := hP
      have hD : va_D A [(h_a, .inr (6, [.ref h_counts_a, .int h_taken])), (h_counts_a, .inl (h_counts_k, 14, .inl a14))] := hD
      have hl : lv_has ls 5 [(0, .ref h_a), (1, .int p0), (2, .int p1), (3, .int a12), (4, .int a13)] := hl
      rewrite [f_X6_see_l1] at ef1
      refine lv_iload hx hb dX6_see_5 (lv_at hl 4 rfl) ?_
      refine lv_bipush (v := (13 : Int32)) hx hb dX6_see_7 (by decide) ?_
      refine lv_icmp_gt (tgt := 89) hx hb dX6_see_9 (by decide) (fun c15 => ?_) (fun c15 => ?_)
      · have ef1 := ift ef1 c15
        exact E1 (a12, a14) _ _ _ ⟨Option.some.inj ef1, hP, hD, hS, lv_sub hl [0, 1, 3] rfl⟩
      · have ef1 := iff_ ef1 c15
        refine lv_iload hx hb dX6_see_12 (lv_at hl 4 rfl) ?_
        refine lv_iload_n hx hb dX6_see_14 rfl (lv_at hl 1 rfl) ?_
        refine lv_icmp_ne (tgt := 57) hx hb dX6_see_15 (by decide) (fun c16 => ?_) (fun c16 => ?_)
        · have ef1 := iff_ ef1 c16
          refine lv_aload_n hx hb dX6_see_57 rfl (lv_at hl 0 rfl) ?_
          refine va_get (D := D) (ci := 6) (v := .ref h_counts_a) (C := RX6) (T := TX6) (N := 2) hx hb hts in_wsX6_see_X6 hown hK hP 0 rfl rfl 0 (by decide) (hts (.fieldLink RX6 9 "AssistRows$Signs" "counts" "[I") (List.mem_of_getElem? (i := 1) rfl)) (fun _ h9 => h9) rfl dX6_see_58 ?_
          refine lv_iload hx hb dX6_see_61 (lv_at hl 4 rfl) ?_
          obtain ⟨h17, ef1⟩ := ck_of ef1
          refine va_iald hx hb hK hP 1 0 rfl rfl (inb_of h17) dX6_see_63 ?_
          refine lv_if_le (tgt := 83) hx hb dX6_see_64 (by decide) (fun c18 => ?_) (fun c18 => ?_)
          · have ef1 := ift ef1 c18
            refine lv_iinc (v := (a13 + 1)) (lv' := [(4, .int (a13 + 1)), (0, .ref h_a), (1, .int p0), (2, .int p1), (3, .int a12)]) hx hb dX6_see_83 hl (k := 4) rfl rfl (by decide) rfl (fun ls hl => ?_)
            refine lv_goto (tgt := 5) hx hb dX6_see_86 (by decide) ?_
            exact L1 (a12, (a13 + 1), a14) _ _ _ ⟨ef1, hP, hD, hS, lv_sub hl [1, 2, 3, 4, 0] rfl⟩
          · have ef1 := iff_ ef1 c18
            refine lv_aload_n hx hb dX6_see_67 rfl (lv_at hl 0 rfl) ?_
            refine va_get (D := D) (ci := 6) (v := .ref h_counts_a) (C := RX6) (T := TX6) (N := 2) hx hb hts in_wsX6_see_X6 hown hK hP 0 rfl rfl 0 (by decide) (hts (.fieldLink RX6 9 "AssistRows$Signs" "counts" "[I") (List.mem_of_getElem? (i := 1) rfl)) (fun _ h9 => h9) rfl dX6_see_68 ?_
            refine lv_iload hx hb dX6_see_71 (lv_at hl 4 rfl) ?_
            refine lv_aload_n hx hb dX6_see_73 rfl (lv_at hl 0 rfl) ?_
            refine va_get (D := D) (ci := 6) (v := .ref h_counts_a) (C := RX6) (T := TX6) (N := 2) hx hb hts in_wsX6_see_X6 hown hK hP 0 rfl rfl 0 (by decide) (hts (.fieldLink RX6 9 "AssistRows$Signs" "counts" "[I") (List.mem_of_getElem? (i := 1) rfl)) (fun _ h9 => h9) rfl dX6_see_74 ?_
            refine lv_iload hx hb dX6_see_77 (lv_at hl 4 rfl) ?_
            obtain ⟨h19, ef1⟩ := ck_of ef1
            refine va_iald hx hb hK hP 1 0 rfl rfl (inb_of h19) dX6_see_79 ?_
            refine lv_iconst (v := (1 : Int32)) hx hb dX6_see_80 (by decide) ?_
            refine lv_isub hx hb dX6_see_81 ?_
            obtain ⟨h20, ef1⟩ := ck_of ef1
            refine va_iast hx hb hK hP hD hS 1 0 rfl rfl (inb_of h20) dX6_see_82 (fun H locs hP hD hS => ?_)
            have hP : va_P D vwCl [(h_a, .inr (6, [.ref h_counts_a, .int h_taken])), (h_counts_a, .inl (h_counts_k, 14, .inl (upd a14 a13.toNatClampNeg ((a14 a13.toNatClampNeg) - (1 : Int32)))))] H := hP
            have hD : va_D A [(h_a, .inr (6, [.ref h_counts_a, .int h_taken])), (h_counts_a, .inl (h_counts_k, 14, .inl (upd a14 a13.toNatClampNeg ((a14 a13.toNatClampNeg) - (1 : Int32)))))] := hD
            refine lv_iinc (v := (a13 + 1)) (lv' := [(4, .int (a13 + 1)), (0, .ref h_a), (1, .int p0), (2, .int p1), (3, .int a12)]) hx hb dX6_see_83 hl (k := 4) rfl rfl (by decide) rfl (fun ls hl => ?_)
            refine lv_goto (tgt := 5) hx hb dX6_see_86 (by decide) ?_
            exact L1 (a12, (a13 + 1), (upd a14 a13.toNatClampNeg ((a14 a13.toNatClampNeg) - (1 : Int32)))) _ _ _ ⟨ef1, hP, hD, hS, lv_sub hl [1, 2, 3, 4, 0] rfl⟩
        · have ef1 := ift ef1 c16
          refine lv_aload_n hx hb dX6_see_18 rfl (lv_at hl 0 rfl) ?_
          refine va_get (D := D) (ci := 6) (v := .ref h_counts_a) (C := RX6) (T := TX6) (N := 2) hx hb hts in_wsX6_see_X6 hown hK hP 0 rfl rfl 0 (by decide) (hts (.fieldLink RX6 9 "AssistRows$Signs" "counts" "[I") (List.mem_of_getElem? (i := 1) rfl)) (fun _ h9 => h9) rfl dX6_see_19 ?_
          refine lv_iload hx hb dX6_see_22 (lv_at hl 4 rfl) ?_
          refine lv_aload_n hx hb dX6_see_24 rfl (lv_at hl 0 rfl) ?_
          refine va_get (D := D) (ci := 6) (v := .ref h_counts_a) (C := RX6) (T := TX6) (N := 2) hx hb hts in_wsX6_see_X6 hown hK hP 0 rfl rfl 0 (by decide) (hts (.fieldLink RX6 9 "AssistRows$Signs" "counts" "[I") (List.mem_of_getElem? (i := 1) rfl)) (fun _ h9 => h9) rfl dX6_see_25 ?_
          refine lv_iload hx hb dX6_see_28 (lv_at hl 4 rfl) ?_
          obtain ⟨h21, ef1⟩ := ck_of ef1
          refine va_iald hx hb hK hP 1 0 rfl rfl (inb_of h21) dX6_see_30 ?_
          refine lv_iload_n hx hb dX6_see_31 rfl (lv_at hl 2 rfl) ?_
          obtain ⟨u22, hu22, ef1⟩ := bd_of ef1
          refine xCalli (wr := [(h_a, .inr (6, [.ref h_counts_a, .int h_taken])), (h_counts_a, .inl (h_counts_k, 14, .inl a14))]) (wn := [(h_a, .inr (6, [.ref h_counts_a, .int h_taken])), (h_counts_a, .inl (h_counts_k, 14, .inl a14))]) [] [0, 1] [0, 1] (va_runS (As := [.int p1]) (rest := [.int (a14 a13.toNatClampNeg), .int a13, .ref h_counts_a]) ⟨hx, hb, hml, hown, hts⟩ (c_X6_weight l D H.size p1 u22 hu22) (va_cwS 1 hts gX6_see_X6_weight rfl rfl rfl (by decide +kernel) ⟨Nat.le_of_ble_eq_true rfl, Nat.le_of_ble_eq_true rfl⟩) (xPreS hP hD hK hN [] rfl rfl [] rfl) rfl rfl hl.1 rfl (lv_room (Nat.le_of_ble_eq_true rfl)) dX6_see_32 ⟨Nat.zero_le _, Nat.zero_le _⟩) hP hD hS hA rfl rfl rfl (by decide) rfl rfl (fun H locs hP hD hS => ?_)
          refine lv_iadd hx hb dX6_see_35 ?_
          obtain ⟨h23, ef1⟩ := ck_of ef1
          refine va_iast hx hb hK hP hD hS 1 0 rfl rfl (inb_of h23) dX6_see_36 (fun H locs hP hD hS => ?_)
          have hP : va_P D vwCl [(h_a, .inr (6, [.ref h_counts_a, .int h_taken])), (h_counts_a, .inl (h_counts_k, 14, .inl (upd a14 a13.toNatClampNeg ((a14 a13.toNatClampNeg) + u22))))] H := hP
          have hD : va_D A [(h_a, .inr (6, [.ref h_counts_a, .int h_taken])), (h_counts_a, .inl (h_counts_k, 14, .inl (upd a14 a13.toNatClampNeg ((a14 a13.toNatClampNeg) + u22))))] := hD
          refine lv_aload_n hx hb dX6_see_37 rfl (lv_at hl 0 rfl) ?_
          refine va_get (D := D) (ci := 6) (v := .ref h_counts_a) (C := RX6) (T := TX6) (N := 2) hx hb hts in_wsX6_see_X6 hown hK hP 0 rfl rfl 0 (by decide) (hts (.fieldLink RX6 9 "AssistRows$Signs" "counts" "[I") (List.mem_of_getElem? (i := 1) rfl)) (fun _ h9 => h9) rfl dX6_see_38 ?_
          refine lv_iload hx hb dX6_see_41 (lv_at hl 4 rfl) ?_
          obtain ⟨h24, ef1⟩ := ck_of ef1
          refine va_iald hx hb hK hP 1 0 rfl rfl (inb_of h24) dX6_see_43 ?_
          refine lv_iconst (v := (4 : Int32)) hx hb dX6_see_44 (by decide) ?_
          refine lv_icmp_lt (tgt := 52) hx hb dX6_see_45 (by decide) (fun c25 => ?_) (fun c25 => ?_)
          · have ef1 := ift ef1 c25
            refine lv_iconst (v := (0 : Int32)) hx hb dX6_see_52 (by decide) ?_
            refine lv_istore_n (lv' := [(3, .int (0 : Int32)), (0, .ref h_a), (1, .int p0), (2, .int p1), (4, .int a13)]) hx hb dX6_see_53 rfl hl (by decide) rfl (fun ls hl => ?_)
            refine lv_goto (tgt := 83) hx hb dX6_see_54 (by decide) ?_
            refine lv_iinc (v := (a13 + 1)) (lv' := [(4, .int (a13 + 1)), (3, .int (0 : Int32)), (0, .ref h_a), (1, .int p0), (2, .int p1)]) hx hb dX6_see_83 hl (k := 4) rfl rfl (by decide) rfl (fun ls hl => ?_)
            refine lv_goto (tgt := 5) hx hb dX6_see_86 (by decide) ?_
            exact L1 ((0 : Int32), (a13 + 1), (upd a14 a13.toNatClampNeg ((a14 a13.toNatClampNeg) + u22))) _ _ _ ⟨ef1, hP, hD, hS, lv_sub hl [2, 3, 4, 1, 0] rfl⟩
          · have ef1 := iff_ ef1 c25
            refine lv_iconst (v := (1 : Int32)) hx hb dX6_see_48 (by decide) ?_
            refine lv_goto (tgt := 53) hx hb dX6_see_49 (by decide) ?_
            refine lv_istore_n (lv' := [(3, .int (1 : Int32)), (0, .ref h_a), (1, .int p0), (2, .int p1), (4, .int a13)]) hx hb dX6_see_53 rfl hl (by decide) rfl (fun ls hl => ?_)
            refine lv_goto (tgt := 83) hx hb dX6_see_54 (by decide) ?_
            refine lv_iinc (v := (a13 + 1)) (lv' := [(4, .int (a13 + 1)), (3, .int (1 : Int32)), (0, .ref h_a), (1, .int p0), (2, .int p1)]) hx hb dX6_see_83 hl (k := 4) rfl rfl (by decide) rfl (fun ls hl => ?_)
            refine lv_goto (tgt := 5) hx hb dX6_see_86 (by decide) ?_
            exact L1 ((1 : Int32), (a13 + 1), (upd a14 a13.toNatClampNeg ((a14 a13.toNatClampNeg) + u22))) _ _ _ ⟨ef1, hP, hD, hS, lv_sub hl [2, 3, 4, 1, 0] rfl⟩
    · exact L1 16 ((0 : Int32), (1 : Int32), h_counts) _ _ _ ⟨hw26, hP, hD, hS, lv_sub hl [2, 3, 4, 1, 0] rfl⟩
