theorem in_wsX9_thrown_X9 : ∀ w ∈ wsX90, w ∈ wsX9_thrown := fun _ h => List.mem_cons_of_mem _ (List.mem_append_right _ h)
def f_X9_thrown (h_fault : Int32) : Option Int32 :=
  some h_fault
set_option maxHeartbeats 4000000 in
set_option maxRecDepth 100000 in
theorem c_X9_thrown (l : Launch) (D : va_G) (sz : Nat) (h_a : Nat) (h_isThere_a : Nat) (h_x_a : Nat) (h_y_a : Nat) (h_v_a : Nat) (h_sure_a : Nat) (h_coast_a : Nat) (h_many_a : Nat) (h_mx_a : Nat) (h_my_a : Nat) (h_mv_a : Nat) (h_taken_a : Nat) (h_way_a : Nat) (h_toldFirst_a : Nat) (h_toldSecond_a : Nat) (h_speedFirst_a : Nat) (h_counts_a : Nat) (h_fault : Int32) (h_now : UInt64) (h_speed : UInt64) (h_differs : Int32) (h_differing : Int32) (h_offset : UInt64) (h_slope : UInt64) (h_curve : UInt64) (h_pedal : UInt64) (h_brake : UInt64) (h_steer : UInt64) (h_isOn : Int32) (h_offAt : UInt64) (h_isAsked : Int32) (h_askedAt : UInt64) (h_isStopping : Int32) (h_wished : UInt64) (h_gap : UInt64) (h_braking : UInt64) (h_pull : UInt64) (h_lead : Int32) (h_left : UInt64) (h_leadX : UInt64) (h_stage : Int32) (h_mode : Int32) (h_force : UInt64) (h_wheel : UInt64) (h_sign : Int32) (r0 : Int32) (hf : f_X9_thrown h_fault = some r0) : Met l yX9_thrown wsX9_thrown { frames := 0, cells := 0, slots := 0, locals := 0 } (va_Pc [.ref h_a] (xPre D [(h_a, .inr (9, [.int h_fault, .double h_now, .double h_speed, .ref h_isThere_a, .ref h_x_a, .ref h_y_a, .ref h_v_a, .ref h_sure_a, .ref h_coast_a, .ref h_many_a, .ref h_mx_a, .ref h_my_a, .ref h_mv_a, .ref h_taken_a, .ref h_way_a, .ref h_toldFirst_a, .ref h_toldSecond_a, .ref h_speedFirst_a, .int h_differs, .int h_differing, .double h_offset, .double h_slope, .double h_curve, .double h_pedal, .double h_brake, .double h_steer, .int h_isOn, .double h_offAt, .int h_isAsked, .double h_askedAt, .int h_isStopping, .double h_wished, .double h_gap, .double h_braking, .double h_pull, .int h_lead, .double h_left, .double h_leadX, .int h_stage, .int h_mode, .double h_force, .double h_wheel, .ref h_counts_a, .int h_sign]))] [] sz)) (va_Qi (fun (x : Int32) (_ : Unit) => x = r0) (fun _ => xB D (va_A [(h_a, .inr (9, [.int h_fault, .double h_now, .double h_speed, .ref h_isThere_a, .ref h_x_a, .ref h_y_a, .ref h_v_a, .ref h_sure_a, .ref h_coast_a, .ref h_many_a, .ref h_mx_a, .ref h_my_a, .ref h_mv_a, .ref h_taken_a, .ref h_way_a, .ref h_toldFirst_a, .ref h_toldSecond_a, .ref h_speedFirst_a, .int h_differs, .int h_differing, .double h_offset, .double h_slope, .double h_curve, .double h_pedal, .double h_brake, .double h_steer, .int h_isOn, .double h_offAt, .int h_isAsked, .double h_askedAt, .int h_isStopping, .double h_wished, .double h_gap, .double h_braking, .double h_pull, .int h_lead, .double h_left, .double h_leadX, .int h_stage, .int h_mode, .double h_force, .double h_wheel, .ref h_counts_a, .int h_sign]))] sz) [(h_a, .inr (9, [.int h_fault, .double h_now, .double h_speed, .ref h_isThere_a, .ref h_x_a, .ref h_y_a, .ref h_v_a, .ref h_sure_a, .ref h_coast_a, .ref h_many_a, .ref h_mx_a, .ref h_my_a, .ref h_mv_a, .ref h_taken_a, .ref h_way_a, .ref h_toldFirst_a, .ref h_toldSecond_a, .ref h_speedFirst_a, .int h_differs, .int h_differing, .double h_offset, .double h_slope, .double h_curve, .double h_pedal, .double h_brake, .double h_steer, .int h_isOn, .double h_offAt, .int h_isAsked, .double h_askedAt, .int h_isStopping, .double h_wished, .double h_gap, .double h_braking, .double h_pull, .int h_lead, .double h_left, .double h_leadX, .int h_stage, .int h_mode, .double h_force, .double h_wheel, .ref h_counts_a, .int h_sign]))]) (va_A [(h_a, .inr (9, [.int h_fault, .double h_now, .double h_speed, .ref h_isThere_a, .ref h_x_a, .ref h_y_a, .ref h_v_a, .ref h_sure_a, .ref h_coast_a, .ref h_many_a, .ref h_mx_a, .ref h_my_a, .ref h_mv_a, .ref h_taken_a, .ref h_way_a, .ref h_toldFirst_a, .ref h_toldSecond_a, .ref h_speedFirst_a, .int h_differs, .int h_differing, .double h_offset, .double h_slope, .double h_curve, .double h_pedal, .double h_brake, .double h_steer, .int h_isOn, .double h_offAt, .int h_isAsked, .double h_askedAt, .int h_isStopping, .double h_wished, .double h_gap, .double h_braking, .double h_pull, .int h_lead, .double h_left, .double h_leadX, .int h_stage, .int h_mode, .double h_force, .double h_wheel, .ref h_counts_a, .int h_sign]))] sz)) 0 0 (va_A [(h_a, .inr (9, [.int h_fault, .double h_now, .double h_speed, .ref h_isThere_a, .ref h_x_a, .ref h_y_a, .ref h_v_a, .ref h_sure_a, .ref h_coast_a, .ref h_many_a, .ref h_mx_a, .ref h_my_a, .ref h_mv_a, .ref h_taken_a, .ref h_way_a, .ref h_toldFirst_a, .ref h_toldSecond_a, .ref h_speedFirst_a, .int h_differs, .int h_differing, .double h_offset, .double h_slope, .double h_curve, .double h_pedal, .double h_brake, .double h_steer, .int h_isOn, .double h_offAt, .int h_isAsked, .double h_askedAt, .int h_isStopping, .double h_wished, .double h_gap, .double h_braking, .double h_pull, .int h_lead, .double h_left, .double h_leadX, .int h_stage, .int h_mode, .double h_force, .double h_wheel, .ref h_counts_a, .int h_sign]))] sz) := by
  refine xOfW (l := l) (y := yX9_thrown) (ws := wsX9_thrown) (D := D) (cells := [(h_a, .inr (9, [.int h_fault, .double h_now, .double h_speed, .ref h_isThere_a, .ref h_x_a, .ref h_y_a, .ref h_v_a, .ref h_sure_a, .ref h_coast_a, .ref h_many_a, .ref h_mx_a, .ref h_my_a, .ref h_mv_a, .ref h_taken_a, .ref h_way_a, .ref h_toldFirst_a, .ref h_toldSecond_a, .ref h_speedFirst_a, .int h_differs, .int h_differing, .double h_offset, .double h_slope, .double h_curve, .double h_pedal, .double h_brake, .double h_steer, .int h_isOn, .double h_offAt, .int h_isAsked, .double h_askedAt, .int h_isStopping, .double h_wished, .double h_gap, .double h_braking, .double h_pull, .int h_lead, .double h_left, .double h_leadX, .int h_stage, .int h_mode, .double h_force, .double h_wheel, .ref h_counts_a, .int h_sign]))]) (tys := []) (sz := sz) (av := [.ref h_a]) (cc := cX9_thrown) (maxL := 1) (ret := (some .int)) (fun A => va_Qi (fun (x : Int32) (_ : Unit) => x = r0) (fun _ => xB D A [(h_a, .inr (9, [.int h_fault, .double h_now, .double h_speed, .ref h_isThere_a, .ref h_x_a, .ref h_y_a, .ref h_v_a, .ref h_sure_a, .ref h_coast_a, .ref h_many_a, .ref h_mx_a, .ref h_my_a, .ref h_mv_a, .ref h_taken_a, .ref h_way_a, .ref h_toldFirst_a, .ref h_toldSecond_a, .ref h_speedFirst_a, .int h_differs, .int h_differing, .double h_offset, .double h_slope, .double h_curve, .double h_pedal, .double h_brake, .double h_steer, .int h_isOn, .double h_offAt, .int h_isAsked, .double h_askedAt, .int h_isStopping, .double h_wished, .double h_gap, .double h_braking, .double h_pull, .int h_lead, .double h_left, .double h_leadX, .int h_stage, .int h_mode, .double h_force, .double h_wheel, .ref h_counts_a, .int h_sign]))]) A) (by decide) rfl (Nat.le_of_ble_eq_true rfl) ?_
  intro p e s m below meth c A H ls hx hb hr hml hown hlk hts hP hK hD hS hA hN hl
  have hl : lv_has ls 1 [(0, .ref h_a)] := hl
  have hown : s.vm.findClass RX9 = some m.cls := hown
  have ef0 : f_X9_thrown h_fault = some r0 := hf
  rewrite [f_X9_thrown] at ef0
  refine lv_aload_n hx hb dX9_thrown_0 rfl (lv_at hl 0 rfl) ?_
  refine va_get (D := D) (ci := 9) (v := .int h_fault) (C := RX9) (T := TX9) (N := 44) hx hb hts in_wsX9_thrown_X9 hown hK hP 0 rfl rfl 0 (by decide) (hts (.fieldLink RX9 92 "AssistRowsModel" "fault" "I") (List.mem_of_getElem? (i := 1) rfl)) (fun _ h9 => h9) rfl dX9_thrown_1 ?_
  have q0 := Option.some.inj ef0
  exact xIret q0 rfl hx hb hr hlk hP hD hS dX9_thrown_4

def f_X9_in (p0 : UInt64) (p1 : UInt64) (p2 : UInt64) : Option Int32 :=
  if (Op.cmpValue (FP.dcmp p0 p1) .l) < 0 then (
  some (0 : Int32)) else
  if 0 < (Op.cmpValue (FP.dcmp p0 p2) .g) then (
  some (0 : Int32)) else
  some (1 : Int32)
set_option maxHeartbeats 4000000 in
set_option maxRecDepth 100000 in
theorem c_X9_in (l : Launch) (D : va_G) (sz : Nat) (p0 : UInt64) (p1 : UInt64) (p2 : UInt64) (r0 : Int32) (hf : f_X9_in p0 p1 p2 = some r0) : Met l yX9_in wsX9_in { frames := 0, cells := 0, slots := 0, locals := 0 } (va_Pc [.double p0, .double p1, .double p2] (xPre D [] [] sz)) (va_Qi (fun (x : Int32) (_ : Unit) => x = r0) (fun _ => xB D (va_A [] sz) []) (va_A [] sz)) 0 0 (va_A [] sz) := by
  refine xOfW (l := l) (y := yX9_in) (ws := wsX9_in) (D := D) (cells := []) (tys := []) (sz := sz) (av := [.double p0, .double p1, .double p2]) (cc := cX9_in) (maxL := 6) (ret := (some .boolean)) (fun A => va_Qi (fun (x : Int32) (_ : Unit) => x = r0) (fun _ => xB D A []) A) (by decide) rfl (Nat.le_of_ble_eq_true rfl) ?_
  intro p e s m below meth c A H ls hx hb hr hml hown hlk hts hP hK hD hS hA hN hl
  have hl : lv_has ls 6 [(0, .double p0), (2, .double p1), (4, .double p2)] := hl
  have hown : s.vm.findClass RX9 = some m.cls := hown
  have ef0 : f_X9_in p0 p1 p2 = some r0 := hf
  rewrite [f_X9_in] at ef0
  refine lv_dload_n hx hb dX9_in_0 rfl (lv_at hl 0 rfl) ?_
  refine lv_dload_n hx hb dX9_in_1 rfl (lv_at hl 1 rfl) ?_
  refine lv_dcmp hx hb dX9_in_2 ?_
  refine lv_if_lt (tgt := 17) hx hb dX9_in_3 (by decide) (fun c1 => ?_) (fun c1 => ?_)
  · have ef0 := ift ef0 c1
    refine lv_iconst (v := (0 : Int32)) hx hb dX9_in_17 (by decide) ?_
    have q0 := Option.some.inj ef0
    exact xZret q0 rfl hx hb hr (rfl) hlk hP hD hS dX9_in_18
  · have ef0 := iff_ ef0 c1
    refine lv_dload_n hx hb dX9_in_6 rfl (lv_at hl 0 rfl) ?_
    refine lv_dload hx hb dX9_in_7 (lv_at hl 2 rfl) ?_
    refine lv_dcmp hx hb dX9_in_9 ?_
    refine lv_if_gt (tgt := 17) hx hb dX9_in_10 (by decide) (fun c2 => ?_) (fun c2 => ?_)
    · have ef0 := ift ef0 c2
      refine lv_iconst (v := (0 : Int32)) hx hb dX9_in_17 (by decide) ?_
      have q0 := Option.some.inj ef0
      exact xZret q0 rfl hx hb hr (rfl) hlk hP hD hS dX9_in_18
    · have ef0 := iff_ ef0 c2
      refine lv_iconst (v := (1 : Int32)) hx hb dX9_in_13 (by decide) ?_
      refine lv_goto (tgt := 18) hx hb dX9_in_14 (by decide) ?_
      have q0 := Option.some.inj ef0
      exact xZret q0 rfl hx hb hr (rfl) hlk hP hD hS dX9_in_18

def f_X9_size (p0 : UInt64) : Option UInt64 :=
  if 0 ≤ (Op.cmpValue (FP.dcmp p0 FP.dconst0) .g) then (
  some p0) else
  ck (nnb (FP.dsub FP.dconst0 p0) = true) <|
  some (FP.dsub FP.dconst0 p0)
set_option maxHeartbeats 4000000 in
set_option maxRecDepth 100000 in
theorem c_X9_size (l : Launch) (D : va_G) (sz : Nat) (p0 : UInt64) (r0 : UInt64) (hf : f_X9_size p0 = some r0) : Met l yX9_size wsX9_size { frames := 0, cells := 0, slots := 0, locals := 0 } (va_Pc [.double p0] (xPre D [] [] sz)) (va_Qd (fun (x : UInt64) (_ : Unit) => x = r0) (fun _ => xB D (va_A [] sz) []) (va_A [] sz)) 0 0 (va_A [] sz) := by
  refine xOfW (l := l) (y := yX9_size) (ws := wsX9_size) (D := D) (cells := []) (tys := []) (sz := sz) (av := [.double p0]) (cc := cX9_size) (maxL := 2) (ret := (some .double)) (fun A => va_Qd (fun (x : UInt64) (_ : Unit) => x = r0) (fun _ => xB D A []) A) (by decide) rfl (Nat.le_of_ble_eq_true rfl) ?_
  intro p e s m below meth c A H ls hx hb hr hml hown hlk hts hP hK hD hS hA hN hl
  have hl : lv_has ls 2 [(0, .double p0)] := hl
  have hown : s.vm.findClass RX9 = some m.cls := hown
  have ef0 : f_X9_size p0 = some r0 := hf
  rewrite [f_X9_size] at ef0
  refine lv_dload_n hx hb dX9_size_0 rfl (lv_at hl 0 rfl) ?_
  refine lv_dconst0 hx hb dX9_size_1 ?_
  refine lv_dcmp hx hb dX9_size_2 ?_
  refine lv_if_ge (tgt := 12) hx hb dX9_size_3 (by decide) (fun c1 => ?_) (fun c1 => ?_)
  · have ef0 := ift ef0 c1
    refine lv_dload_n hx hb dX9_size_12 rfl (lv_at hl 0 rfl) ?_
    have q0 := Option.some.inj ef0
    exact xDret q0 rfl hx hb hr hlk hP hD hS dX9_size_13
  · have ef0 := iff_ ef0 c1
    refine lv_dconst0 hx hb dX9_size_6 ?_
    refine lv_dload_n hx hb dX9_size_7 rfl (lv_at hl 0 rfl) ?_
    obtain ⟨h2, ef0⟩ := ck_of ef0
    refine lv_dsub hx hb dX9_size_8 (nn_of h2) ?_
    refine lv_goto (tgt := 13) hx hb dX9_size_9 (by decide) ?_
    have q0 := Option.some.inj ef0
    exact xDret q0 rfl hx hb hr hlk hP hD hS dX9_size_13

def f_X9_between (p0 : UInt64) (p1 : UInt64) (p2 : UInt64) : Option UInt64 :=
  if 0 ≤ (Op.cmpValue (FP.dcmp p0 p1) .g) then (
  if (Op.cmpValue (FP.dcmp p0 p2) .l) ≤ 0 then (
  some p0) else
  some p2) else
  some p1
set_option maxHeartbeats 4000000 in
set_option maxRecDepth 100000 in
theorem c_X9_between (l : Launch) (D : va_G) (sz : Nat) (p0 : UInt64) (p1 : UInt64) (p2 : UInt64) (r0 : UInt64) (hf : f_X9_between p0 p1 p2 = some r0) : Met l yX9_between wsX9_between { frames := 0, cells := 0, slots := 0, locals := 0 } (va_Pc [.double p0, .double p1, .double p2] (xPre D [] [] sz)) (va_Qd (fun (x : UInt64) (_ : Unit) => x = r0) (fun _ => xB D (va_A [] sz) []) (va_A [] sz)) 0 0 (va_A [] sz) := by
  refine xOfW (l := l) (y := yX9_between) (ws := wsX9_between) (D := D) (cells := []) (tys := []) (sz := sz) (av := [.double p0, .double p1, .double p2]) (cc := cX9_between) (maxL := 6) (ret := (some .double)) (fun A => va_Qd (fun (x : UInt64) (_ : Unit) => x = r0) (fun _ => xB D A []) A) (by decide) rfl (Nat.le_of_ble_eq_true rfl) ?_
  intro p e s m below meth c A H ls hx hb hr hml hown hlk hts hP hK hD hS hA hN hl
  have hl : lv_has ls 6 [(0, .double p0), (2, .double p1), (4, .double p2)] := hl
  have hown : s.vm.findClass RX9 = some m.cls := hown
  have ef0 : f_X9_between p0 p1 p2 = some r0 := hf
  rewrite [f_X9_between] at ef0
  refine lv_dload_n hx hb dX9_between_0 rfl (lv_at hl 0 rfl) ?_
  refine lv_dload_n hx hb dX9_between_1 rfl (lv_at hl 1 rfl) ?_
  refine lv_dcmp hx hb dX9_between_2 ?_
  refine lv_if_ge (tgt := 10) hx hb dX9_between_3 (by decide) (fun c1 => ?_) (fun c1 => ?_)
  · have ef0 := ift ef0 c1
    refine lv_dload_n hx hb dX9_between_10 rfl (lv_at hl 0 rfl) ?_
    refine lv_dload hx hb dX9_between_11 (lv_at hl 2 rfl) ?_
    refine lv_dcmp hx hb dX9_between_13 ?_
    refine lv_if_le (tgt := 22) hx hb dX9_between_14 (by decide) (fun c2 => ?_) (fun c2 => ?_)
    · have ef0 := ift ef0 c2
      refine lv_dload_n hx hb dX9_between_22 rfl (lv_at hl 0 rfl) ?_
      have q0 := Option.some.inj ef0
      exact xDret q0 rfl hx hb hr hlk hP hD hS dX9_between_23
    · have ef0 := iff_ ef0 c2
      refine lv_dload hx hb dX9_between_17 (lv_at hl 2 rfl) ?_
      refine lv_goto (tgt := 23) hx hb dX9_between_19 (by decide) ?_
      have q0 := Option.some.inj ef0
      exact xDret q0 rfl hx hb hr hlk hP hD hS dX9_between_23
  · have ef0 := iff_ ef0 c1
    refine lv_dload_n hx hb dX9_between_6 rfl (lv_at hl 1 rfl) ?_
    refine lv_goto (tgt := 23) hx hb dX9_between_7 (by decide) ?_
    have q0 := Option.some.inj ef0
    exact xDret q0 rfl hx hb hr hlk hP hD hS dX9_between_23

theorem in_wsX9_object_X9 : ∀ w ∈ wsX90, w ∈ wsX9_object := fun _ h => List.mem_cons_of_mem _ (List.mem_append_right _ h)
def f_X9_object (p0 : Int32) (p1 : UInt64) (p2 : UInt64) (p3 : UInt64) (p4 : UInt64) (h_now : UInt64) (h_many : Nat → Int32) (h_mx : Nat → UInt64) (h_my : Nat → UInt64) (h_mv : Nat → UInt64) : Option (Int32 × Int32 × (Nat → Int32) × (Nat → UInt64) × (Nat → UInt64) × (Nat → UInt64)) :=
  if p0 < 0 then (
  some ((-1 : Int32), (0 : Int32), h_many, h_mx, h_my, h_mv)) else
  if p0 ≤ (1 : Int32) then (
  (f_X9_in p1 FP.dconst0 (4641240890982006784 : UInt64)).bind fun u3 =>
  if u3 = 0 then (
  some ((-2 : Int32), (0 : Int32), h_many, h_mx, h_my, h_mv)) else
  (f_X9_in p2 (13849694754071117824 : UInt64) (4626322717216342016 : UInt64)).bind fun u5 =>
  if u5 = 0 then (
  some ((-2 : Int32), (0 : Int32), h_many, h_mx, h_my, h_mv)) else
  (f_X9_in p3 (13845191154443747328 : UInt64) (4634626229029306368 : UInt64)).bind fun u7 =>
  if u7 = 0 then (
  some ((-2 : Int32), (0 : Int32), h_many, h_mx, h_my, h_mv)) else
  (f_X9_in p4 h_now (4681608360884174848 : UInt64)).bind fun u9 =>
  if u9 = 0 then (
  some ((-2 : Int32), (0 : Int32), h_many, h_mx, h_my, h_mv)) else
  ck (inb p0 2 = true) <|
  if (h_many p0.toNatClampNeg) = (4 : Int32) then (
  some ((-4 : Int32), (0 : Int32), h_many, h_mx, h_my, h_mv)) else
  ck (inb p0 2 = true) <|
  ck (inb (((4 : Int32) * p0) + (h_many p0.toNatClampNeg)) 8 = true) <|
  ck (inb (((4 : Int32) * p0) + (h_many p0.toNatClampNeg)) 8 = true) <|
  ck (inb (((4 : Int32) * p0) + (h_many p0.toNatClampNeg)) 8 = true) <|
  ck (inb p0 2 = true) <|
  ck (inb p0 2 = true) <|
  ck (inb p0 2 = true) <|
  some (((upd h_many p0.toNatClampNeg ((h_many p0.toNatClampNeg) + (1 : Int32))) p0.toNatClampNeg), (0 : Int32), (upd h_many p0.toNatClampNeg ((h_many p0.toNatClampNeg) + (1 : Int32))), (vf_upd h_mx (((4 : Int32) * p0) + (h_many p0.toNatClampNeg)).toNatClampNeg p1), (vf_upd h_my (((4 : Int32) * p0) + (h_many p0.toNatClampNeg)).toNatClampNeg p2), (vf_upd h_mv (((4 : Int32) * p0) + (h_many p0.toNatClampNeg)).toNatClampNeg p3))) else
  some ((-1 : Int32), (0 : Int32), h_many, h_mx, h_my, h_mv)
set_option maxHeartbeats 4000000 in
set_option maxRecDepth 100000 in
theorem c_X9_object (l : Launch) (D : va_G) (sz : Nat) (h_a : Nat) (h_isThere_a : Nat) (h_x_a : Nat) (h_y_a : Nat) (h_v_a : Nat) (h_sure_a : Nat) (h_coast_a : Nat) (h_many_a : Nat) (h_mx_a : Nat) (h_my_a : Nat) (h_mv_a : Nat) (h_taken_a : Nat) (h_way_a : Nat) (h_toldFirst_a : Nat) (h_toldSecond_a : Nat) (h_speedFirst_a : Nat) (h_counts_a : Nat) (h_many_k : ClassId) (h_mx_k : ClassId) (h_my_k : ClassId) (h_mv_k : ClassId) (p0 : Int32) (p1 : UInt64) (p2 : UInt64) (p3 : UInt64) (p4 : UInt64) (h_fault : Int32) (h_now : UInt64) (h_speed : UInt64) (h_differs : Int32) (h_differing : Int32) (h_offset : UInt64) (h_slope : UInt64) (h_curve : UInt64) (h_pedal : UInt64) (h_brake : UInt64) (h_steer : UInt64) (h_isOn : Int32) (h_offAt : UInt64) (h_isAsked : Int32) (h_askedAt : UInt64) (h_isStopping : Int32) (h_wished : UInt64) (h_gap : UInt64) (h_braking : UInt64) (h_pull : UInt64) (h_lead : Int32) (h_left : UInt64) (h_leadX : UInt64) (h_stage : Int32) (h_mode : Int32) (h_force : UInt64) (h_wheel : UInt64) (h_sign : Int32) (h_many : Nat → Int32) (h_mx : Nat → UInt64) (h_my : Nat → UInt64) (h_mv : Nat → UInt64) (r0 : Int32) (r1 : Int32) (r2 : Nat → Int32) (r3 : Nat → UInt64) (r4 : Nat → UInt64) (r5 : Nat → UInt64) (hf : f_X9_object p0 p1 p2 p3 p4 h_now h_many h_mx h_my h_mv = some (r0, r1, r2, r3, r4, r5)) : Met l yX9_object wsX9_object { frames := 1, cells := 0, slots := 0, locals := 25 } (va_Pc [.ref h_a, .int p0, .double p1, .double p2, .double p3, .double p4] (xPre D [(h_a, .inr (9, [.int h_fault, .double h_now, .double h_speed, .ref h_isThere_a, .ref h_x_a, .ref h_y_a, .ref h_v_a, .ref h_sure_a, .ref h_coast_a, .ref h_many_a, .ref h_mx_a, .ref h_my_a, .ref h_mv_a, .ref h_taken_a, .ref h_way_a, .ref h_toldFirst_a, .ref h_toldSecond_a, .ref h_speedFirst_a, .int h_differs, .int h_differing, .double h_offset, .double h_slope, .double h_curve, .double h_pedal, .double h_brake, .double h_steer, .int h_isOn, .double h_offAt, .int h_isAsked, .double h_askedAt, .int h_isStopping, .double h_wished, .double h_gap, .double h_braking, .double h_pull, .int h_lead, .double h_left, .double h_leadX, .int h_stage, .int h_mode, .double h_force, .double h_wheel, .ref h_counts_a, .int h_sign])), (h_many_a, .inl (h_many_k, 2, .inl h_many)), (h_mx_a, .inl (h_mx_k, 8, .inr (.inr (.inr (.inl h_mx))))), (h_my_a, .inl (h_my_k, 8, .inr (.inr (.inr (.inl h_my))))), (h_mv_a, .inl (h_mv_k, 8, .inr (.inr (.inr (.inl h_mv)))))] [(h_many_k, .int), (h_mx_k, .double), (h_my_k, .double), (h_mv_k, .double)] sz)) (va_Qi (fun (x : Int32) (_ : Unit) => x = r0) (fun _ => xB D (va_A [(h_a, .inr (9, [.int h_fault, .double h_now, .double h_speed, .ref h_isThere_a, .ref h_x_a, .ref h_y_a, .ref h_v_a, .ref h_sure_a, .ref h_coast_a, .ref h_many_a, .ref h_mx_a, .ref h_my_a, .ref h_mv_a, .ref h_taken_a, .ref h_way_a, .ref h_toldFirst_a, .ref h_toldSecond_a, .ref h_speedFirst_a, .int h_differs, .int h_differing, .double h_offset, .double h_slope, .double h_curve, .double h_pedal, .double h_brake, .double h_steer, .int h_isOn, .double h_offAt, .int h_isAsked, .double h_askedAt, .int h_isStopping, .double h_wished, .double h_gap, .double h_braking, .double h_pull, .int h_lead, .double h_left, .double h_leadX, .int h_stage, .int h_mode, .double h_force, .double h_wheel, .ref h_counts_a, .int h_sign])), (h_many_a, .inl (h_many_k, 2, .inl h_many)), (h_mx_a, .inl (h_mx_k, 8, .inr (.inr (.inr (.inl h_mx))))), (h_my_a, .inl (h_my_k, 8, .inr (.inr (.inr (.inl h_my))))), (h_mv_a, .inl (h_mv_k, 8, .inr (.inr (.inr (.inl h_mv)))))] sz) [(h_a, .inr (9, [.int r1, .double h_now, .double h_speed, .ref h_isThere_a, .ref h_x_a, .ref h_y_a, .ref h_v_a, .ref h_sure_a, .ref h_coast_a, .ref h_many_a, .ref h_mx_a, .ref h_my_a, .ref h_mv_a, .ref h_taken_a, .ref h_way_a, .ref h_toldFirst_a, .ref h_toldSecond_a, .ref h_speedFirst_a, .int h_differs, .int h_differing, .double h_offset, .double h_slope, .double h_curve, .double h_pedal, .double h_brake, .double h_steer, .int h_isOn, .double h_offAt, .int h_isAsked, .double h_askedAt, .int h_isStopping, .double h_wished, .double h_gap, .double h_braking, .double h_pull, .int h_lead, .double h_left, .double h_leadX, .int h_stage, .int h_mode, .double h_force, .double h_wheel, .ref h_counts_a, .int h_sign])), (h_many_a, .inl (h_many_k, 2, .inl r2)), (h_mx_a, .inl (h_mx_k, 8, .inr (.inr (.inr (.inl r3))))), (h_my_a, .inl (h_my_k, 8, .inr (.inr (.inr (.inl r4))))), (h_mv_a, .inl (h_mv_k, 8, .inr (.inr (.inr (.inl r5)))))]) (va_A [(h_a, .inr (9, [.int h_fault, .double h_now, .double h_speed, .ref h_isThere_a, .ref h_x_a, .ref h_y_a, .ref h_v_a, .ref h_sure_a, .ref h_coast_a, .ref h_many_a, .ref h_mx_a, .ref h_my_a, .ref h_mv_a, .ref h_taken_a, .ref h_way_a, .ref h_toldFirst_a, .ref h_toldSecond_a, .ref h_speedFirst_a, .int h_differs, .int h_differing, .double h_offset, .double h_slope, .double h_curve, .double h_pedal, .double h_brake, .double h_steer, .int h_isOn, .double h_offAt, .int h_isAsked, .double h_askedAt, .int h_isStopping, .double h_wished, .double h_gap, .double h_braking, .double h_pull, .int h_lead, .double h_left, .double h_leadX, .int h_stage, .int h_mode, .double h_force, .double h_wheel, .ref h_counts_a, .int h_sign])), (h_many_a, .inl (h_many_k, 2, .inl h_many)), (h_mx_a, .inl (h_mx_k, 8, .inr (.inr (.inr (.inl h_mx))))), (h_my_a, .inl (h_my_k, 8, .inr (.inr (.inr (.inl h_my))))), (h_mv_a, .inl (h_mv_k, 8, .inr (.inr (.inr (.inl h_mv)))))] sz)) 0 0 (va_A [(h_a, .inr (9, [.int h_fault, .double h_now, .double h_speed, .ref h_isThere_a, .ref h_x_a, .ref h_y_a, .ref h_v_a, .ref h_sure_a, .ref h_coast_a, .ref h_many_a, .ref h_mx_a, .ref h_my_a, .ref h_mv_a, .ref h_taken_a, .ref h_way_a, .ref h_toldFirst_a, .ref h_toldSecond_a, .ref h_speedFirst_a, .int h_differs, .int h_differing, .double h_offset, .double h_slope, .double h_curve, .double h_pedal, .double h_brake, .double h_steer, .int h_isOn, .double h_offAt, .int h_isAsked, .double h_askedAt, .int h_isStopping, .double h_wished, .double h_gap, .double h_braking, .double h_pull, .int h_lead, .double h_left, .double h_leadX, .int h_stage, .int h_mode, .double h_force, .double h_wheel, .ref h_counts_a, .int h_sign])), (h_many_a, .inl (h_many_k, 2, .inl h_many)), (h_mx_a, .inl (h_mx_k, 8, .inr (.inr (.inr (.inl h_mx))))), (h_my_a, .inl (h_my_k, 8, .inr (.inr (.inr (.inl h_my))))), (h_mv_a, .inl (h_mv_k, 8, .inr (.inr (.inr (.inl h_mv)))))] sz) := by
  refine xOfW (l := l) (y := yX9_object) (ws := wsX9_object) (D := D) (cells := [(h_a, .inr (9, [.int h_fault, .double h_now, .double h_speed, .ref h_isThere_a, .ref h_x_a, .ref h_y_a, .ref h_v_a, .ref h_sure_a, .ref h_coast_a, .ref h_many_a, .ref h_mx_a, .ref h_my_a, .ref h_mv_a, .ref h_taken_a, .ref h_way_a, .ref h_toldFirst_a, .ref h_toldSecond_a, .ref h_speedFirst_a, .int h_differs, .int h_differing, .double h_offset, .double h_slope, .double h_curve, .double h_pedal, .double h_brake, .double h_steer, .int h_isOn, .double h_offAt, .int h_isAsked, .double h_askedAt, .int h_isStopping, .double h_wished, .double h_gap, .double h_braking, .double h_pull, .int h_lead, .double h_left, .double h_leadX, .int h_stage, .int h_mode, .double h_force, .double h_wheel, .ref h_counts_a, .int h_sign])), (h_many_a, .inl (h_many_k, 2, .inl h_many)), (h_mx_a, .inl (h_mx_k, 8, .inr (.inr (.inr (.inl h_mx))))), (h_my_a, .inl (h_my_k, 8, .inr (.inr (.inr (.inl h_my))))), (h_mv_a, .inl (h_mv_k, 8, .inr (.inr (.inr (.inl h_mv)))))]) (tys := [(h_many_k, .int), (h_mx_k, .double), (h_my_k, .double), (h_mv_k, .double)]) (sz := sz) (av := [.ref h_a, .int p0, .double p1, .double p2, .double p3, .double p4]) (cc := cX9_object) (maxL := 11) (ret := (some .int)) (fun A => va_Qi (fun (x : Int32) (_ : Unit) => x = r0) (fun _ => xB D A [(h_a, .inr (9, [.int r1, .double h_now, .double h_speed, .ref h_isThere_a, .ref h_x_a, .ref h_y_a, .ref h_v_a, .ref h_sure_a, .ref h_coast_a, .ref h_many_a, .ref h_mx_a, .ref h_my_a, .ref h_mv_a, .ref h_taken_a, .ref h_way_a, .ref h_toldFirst_a, .ref h_toldSecond_a, .ref h_speedFirst_a, .int h_differs, .int h_differing, .double h_offset, .double h_slope, .double h_curve, .double h_pedal, .double h_brake, .double h_steer, .int h_isOn, .double h_offAt, .int h_isAsked, .double h_askedAt, .int h_isStopping, .double h_wished, .double h_gap, .double h_braking, .double h_pull, .int h_lead, .double h_left, .double h_leadX, .int h_stage, .int h_mode, .double h_force, .double h_wheel, .ref h_counts_a, .int h_sign])), (h_many_a, .inl (h_many_k, 2, .inl r2)), (h_mx_a, .inl (h_mx_k, 8, .inr (.inr (.inr (.inl r3))))), (h_my_a, .inl (h_my_k, 8, .inr (.inr (.inr (.inl r4))))), (h_mv_a, .inl (h_mv_k, 8, .inr (.inr (.inr (.inl r5)))))]) A) (by decide) rfl (Nat.le_of_ble_eq_true rfl) ?_
  intro p e s m below meth c A H ls hx hb hr hml hown hlk hts hP hK hD hS hA hN hl
  have hl : lv_has ls 11 [(0, .ref h_a), (1, .int p0), (2, .double p1), (4, .double p2), (6, .double p3), (8, .double p4)] := hl
  have hown : s.vm.findClass RX9 = some m.cls := hown
  have ef0 : f_X9_object p0 p1 p2 p3 p4 h_now h_many h_mx h_my h_mv = some (r0, r1, r2, r3, r4, r5) := hf
  rewrite [f_X9_object] at ef0
  refine lv_aload_n hx hb dX9_object_0 rfl (lv_at hl 0 rfl) ?_
  refine lv_iconst (v := (0 : Int32)) hx hb dX9_object_1 (by decide) ?_
  refine va_put (D := D) (ci := 9) (v := .int (0 : Int32)) (ty := .int) (C := RX9) (T := TX9) (N := 44) hx hb hts in_wsX9_object_X9 tyX9 tyX9_ok nmX9 hown hK hP hD hS 0 rfl rfl 0 (by decide) (hts (.fieldLink RX9 92 "AssistRowsModel" "fault" "I") (List.mem_of_getElem? (i := 1) rfl)) (fun _ h9 => h9) rfl (by decide +kernel) rfl rfl (Nat.le_of_ble_eq_true rfl) dX9_object_2 (fun H locs hP hD hS => ?_)
  have hP : va_P D vwCl [(h_a, .inr (9, [.int (0 : Int32), .double h_now, .double h_speed, .ref h_isThere_a, .ref h_x_a, .ref h_y_a, .ref h_v_a, .ref h_sure_a, .ref h_coast_a, .ref h_many_a, .ref h_mx_a, .ref h_my_a, .ref h_mv_a, .ref h_taken_a, .ref h_way_a, .ref h_toldFirst_a, .ref h_toldSecond_a, .ref h_speedFirst_a, .int h_differs, .int h_differing, .double h_offset, .double h_slope, .double h_curve, .double h_pedal, .double h_brake, .double h_steer, .int h_isOn, .double h_offAt, .int h_isAsked, .double h_askedAt, .int h_isStopping, .double h_wished, .double h_gap, .double h_braking, .double h_pull, .int h_lead, .double h_left, .double h_leadX, .int h_stage, .int h_mode, .double h_force, .double h_wheel, .ref h_counts_a, .int h_sign])), (h_many_a, .inl (h_many_k, 2, .inl h_many)), (h_mx_a, .inl (h_mx_k, 8, .inr (.inr (.inr (.inl h_mx))))), (h_my_a, .inl (h_my_k, 8, .inr (.inr (.inr (.inl h_my))))), (h_mv_a, .inl (h_mv_k, 8, .inr (.inr (.inr (.inl h_mv)))))] H := hP
  have hD : va_D A [(h_a, .inr (9, [.int (0 : Int32), .double h_now, .double h_speed, .ref h_isThere_a, .ref h_x_a, .ref h_y_a, .ref h_v_a, .ref h_sure_a, .ref h_coast_a, .ref h_many_a, .ref h_mx_a, .ref h_my_a, .ref h_mv_a, .ref h_taken_a, .ref h_way_a, .ref h_toldFirst_a, .ref h_toldSecond_a, .ref h_speedFirst_a, .int h_differs, .int h_differing, .double h_offset, .double h_slope, .double h_curve, .double h_pedal, .double h_brake, .double h_steer, .int h_isOn, .double h_offAt, .int h_isAsked, .double h_askedAt, .int h_isStopping, .double h_wished, .double h_gap, .double h_braking, .double h_pull, .int h_lead, .double h_left, .double h_leadX, .int h_stage, .int h_mode, .double h_force, .double h_wheel, .ref h_counts_a, .int h_sign])), (h_many_a, .inl (h_many_k, 2, .inl h_many)), (h_mx_a, .inl (h_mx_k, 8, .inr (.inr (.inr (.inl h_mx))))), (h_my_a, .inl (h_my_k, 8, .inr (.inr (.inr (.inl h_my))))), (h_mv_a, .inl (h_mv_k, 8, .inr (.inr (.inr (.inl h_mv)))))] := hD
  refine lv_iload_n hx hb dX9_object_5 rfl (lv_at hl 1 rfl) ?_
  refine lv_if_lt (tgt := 14) hx hb dX9_object_6 (by decide) (fun c1 => ?_) (fun c1 => ?_)
  · have ef0 := ift ef0 c1
    refine lv_iconst (v := (-1 : Int32)) hx hb dX9_object_14 (by decide) ?_
    have q0 := Option.some.inj ef0
    obtain ⟨t0, q1⟩ := Prod.mk.inj q0
    obtain ⟨t1, q2⟩ := Prod.mk.inj q1
    obtain ⟨t2, q3⟩ := Prod.mk.inj q2
    obtain ⟨t3, q4⟩ := Prod.mk.inj q3
    obtain ⟨t4, q5⟩ := Prod.mk.inj q4
    exact xIret t0 (by rw [← t1, ← t2, ← t3, ← t4, ← q5]) hx hb hr hlk hP hD hS dX9_object_15
  · have ef0 := iff_ ef0 c1
    refine lv_iload_n hx hb dX9_object_9 rfl (lv_at hl 1 rfl) ?_
    refine lv_iconst (v := (1 : Int32)) hx hb dX9_object_10 (by decide) ?_
    refine lv_icmp_le (tgt := 16) hx hb dX9_object_11 (by decide) (fun c2 => ?_) (fun c2 => ?_)
    · have ef0 := ift ef0 c2
      refine lv_dload_n hx hb dX9_object_16 rfl (lv_at hl 2 rfl) ?_
      refine lv_dconst0 hx hb dX9_object_17 ?_
      refine lv_ldc2d hx hb hown (hts (.constantDouble RX9 95 (4641240890982006784)) (List.mem_of_getElem? (i := 2) rfl)) dX9_object_18 ?_
      obtain ⟨u3, hu3, ef0⟩ := bd_of ef0
      refine xCalli (wr := [(h_a, .inr (9, [.int (0 : Int32), .double h_now, .double h_speed, .ref h_isThere_a, .ref h_x_a, .ref h_y_a, .ref h_v_a, .ref h_sure_a, .ref h_coast_a, .ref h_many_a, .ref h_mx_a, .ref h_my_a, .ref h_mv_a, .ref h_taken_a, .ref h_way_a, .ref h_toldFirst_a, .ref h_toldSecond_a, .ref h_speedFirst_a, .int h_differs, .int h_differing, .double h_offset, .double h_slope, .double h_curve, .double h_pedal, .double h_brake, .double h_steer, .int h_isOn, .double h_offAt, .int h_isAsked, .double h_askedAt, .int h_isStopping, .double h_wished, .double h_gap, .double h_braking, .double h_pull, .int h_lead, .double h_left, .double h_leadX, .int h_stage, .int h_mode, .double h_force, .double h_wheel, .ref h_counts_a, .int h_sign])), (h_many_a, .inl (h_many_k, 2, .inl h_many)), (h_mx_a, .inl (h_mx_k, 8, .inr (.inr (.inr (.inl h_mx))))), (h_my_a, .inl (h_my_k, 8, .inr (.inr (.inr (.inl h_my))))), (h_mv_a, .inl (h_mv_k, 8, .inr (.inr (.inr (.inl h_mv)))))]) (wn := [(h_a, .inr (9, [.int (0 : Int32), .double h_now, .double h_speed, .ref h_isThere_a, .ref h_x_a, .ref h_y_a, .ref h_v_a, .ref h_sure_a, .ref h_coast_a, .ref h_many_a, .ref h_mx_a, .ref h_my_a, .ref h_mv_a, .ref h_taken_a, .ref h_way_a, .ref h_toldFirst_a, .ref h_toldSecond_a, .ref h_speedFirst_a, .int h_differs, .int h_differing, .double h_offset, .double h_slope, .double h_curve, .double h_pedal, .double h_brake, .double h_steer, .int h_isOn, .double h_offAt, .int h_isAsked, .double h_askedAt, .int h_isStopping, .double h_wished, .double h_gap, .double h_braking, .double h_pull, .int h_lead, .double h_left, .double h_leadX, .int h_stage, .int h_mode, .double h_force, .double h_wheel, .ref h_counts_a, .int h_sign])), (h_many_a, .inl (h_many_k, 2, .inl h_many)), (h_mx_a, .inl (h_mx_k, 8, .inr (.inr (.inr (.inl h_mx))))), (h_my_a, .inl (h_my_k, 8, .inr (.inr (.inr (.inl h_my))))), (h_mv_a, .inl (h_mv_k, 8, .inr (.inr (.inr (.inl h_mv)))))]) [] [0, 1, 2, 3, 4] [0, 1, 2, 3, 4] (va_runS (As := [.double p1, .double FP.dconst0, .double (4641240890982006784 : UInt64)]) (rest := []) ⟨hx, hb, hml, hown, hts⟩ (c_X9_in l D H.size p1 FP.dconst0 (4641240890982006784 : UInt64) u3 hu3) (va_cwS 3 hts gX9_object_X9_in rfl rfl rfl (by decide +kernel) ⟨Nat.le_of_ble_eq_true rfl, Nat.le_of_ble_eq_true rfl⟩) (xPreS hP hD hK hN [] rfl rfl [] rfl) rfl rfl hl.1 rfl (lv_room (Nat.le_of_ble_eq_true rfl)) dX9_object_21 ⟨Nat.zero_le _, Nat.zero_le _⟩) hP hD hS hA rfl rfl rfl (by decide) rfl rfl (fun H locs hP hD hS => ?_)
      refine lv_if_eq (tgt := 70) hx hb dX9_object_24 (by decide) (fun c4 => ?_) (fun c4 => ?_)
      · have ef0 := ift ef0 c4
        refine lv_bipush (v := (-2 : Int32)) hx hb dX9_object_70 (by decide) ?_
        have q0 := Option.some.inj ef0
        obtain ⟨t0, q1⟩ := Prod.mk.inj q0
        obtain ⟨t1, q2⟩ := Prod.mk.inj q1
        obtain ⟨t2, q3⟩ := Prod.mk.inj q2
        obtain ⟨t3, q4⟩ := Prod.mk.inj q3
        obtain ⟨t4, q5⟩ := Prod.mk.inj q4
        exact xIret t0 (by rw [← t1, ← t2, ← t3, ← t4, ← q5]) hx hb hr hlk hP hD hS dX9_object_72
      · have ef0 := iff_ ef0 c4
        refine lv_dload hx hb dX9_object_27 (lv_at hl 3 rfl) ?_
        refine lv_ldc2d hx hb hown (hts (.constantDouble RX9 101 (13849694754071117824)) (List.mem_of_getElem? (i := 3) rfl)) dX9_object_29 ?_
        refine lv_ldc2d hx hb hown (hts (.constantDouble RX9 103 (4626322717216342016)) (List.mem_of_getElem? (i := 4) rfl)) dX9_object_32 ?_
        obtain ⟨u5, hu5, ef0⟩ := bd_of ef0
        refine xCalli (wr := [(h_a, .inr (9, [.int (0 : Int32), .double h_now, .double h_speed, .ref h_isThere_a, .ref h_x_a, .ref h_y_a, .ref h_v_a, .ref h_sure_a, .ref h_coast_a, .ref h_many_a, .ref h_mx_a, .ref h_my_a, .ref h_mv_a, .ref h_taken_a, .ref h_way_a, .ref h_toldFirst_a, .ref h_toldSecond_a, .ref h_speedFirst_a, .int h_differs, .int h_differing, .double h_offset, .double h_slope, .double h_curve, .double h_pedal, .double h_brake, .double h_steer, .int h_isOn, .double h_offAt, .int h_isAsked, .double h_askedAt, .int h_isStopping, .double h_wished, .double h_gap, .double h_braking, .double h_pull, .int h_lead, .double h_left, .double h_leadX, .int h_stage, .int h_mode, .double h_force, .double h_wheel, .ref h_counts_a, .int h_sign])), (h_many_a, .inl (h_many_k, 2, .inl h_many)), (h_mx_a, .inl (h_mx_k, 8, .inr (.inr (.inr (.inl h_mx))))), (h_my_a, .inl (h_my_k, 8, .inr (.inr (.inr (.inl h_my))))), (h_mv_a, .inl (h_mv_k, 8, .inr (.inr (.inr (.inl h_mv)))))]) (wn := [(h_a, .inr (9, [.int (0 : Int32), .double h_now, .double h_speed, .ref h_isThere_a, .ref h_x_a, .ref h_y_a, .ref h_v_a, .ref h_sure_a, .ref h_coast_a, .ref h_many_a, .ref h_mx_a, .ref h_my_a, .ref h_mv_a, .ref h_taken_a, .ref h_way_a, .ref h_toldFirst_a, .ref h_toldSecond_a, .ref h_speedFirst_a, .int h_differs, .int h_differing, .double h_offset, .double h_slope, .double h_curve, .double h_pedal, .double h_brake, .double h_steer, .int h_isOn, .double h_offAt, .int h_isAsked, .double h_askedAt, .int h_isStopping, .double h_wished, .double h_gap, .double h_braking, .double h_pull, .int h_lead, .double h_left, .double h_leadX, .int h_stage, .int h_mode, .double h_force, .double h_wheel, .ref h_counts_a, .int h_sign])), (h_many_a, .inl (h_many_k, 2, .inl h_many)), (h_mx_a, .inl (h_mx_k, 8, .inr (.inr (.inr (.inl h_mx))))), (h_my_a, .inl (h_my_k, 8, .inr (.inr (.inr (.inl h_my))))), (h_mv_a, .inl (h_mv_k, 8, .inr (.inr (.inr (.inl h_mv)))))]) [] [0, 1, 2, 3, 4] [0, 1, 2, 3, 4] (va_runS (As := [.double p2, .double (13849694754071117824 : UInt64), .double (4626322717216342016 : UInt64)]) (rest := []) ⟨hx, hb, hml, hown, hts⟩ (c_X9_in l D H.size p2 (13849694754071117824 : UInt64) (4626322717216342016 : UInt64) u5 hu5) (va_cwS 3 hts gX9_object_X9_in rfl rfl rfl (by decide +kernel) ⟨Nat.le_of_ble_eq_true rfl, Nat.le_of_ble_eq_true rfl⟩) (xPreS hP hD hK hN [] rfl rfl [] rfl) rfl rfl hl.1 rfl (lv_room (Nat.le_of_ble_eq_true rfl)) dX9_object_35 ⟨Nat.zero_le _, Nat.zero_le _⟩) hP hD hS hA rfl rfl rfl (by decide) rfl rfl (fun H locs hP hD hS => ?_)
        refine lv_if_eq (tgt := 70) hx hb dX9_object_38 (by decide) (fun c6 => ?_) (fun c6 => ?_)
        · have ef0 := ift ef0 c6
          refine lv_bipush (v := (-2 : Int32)) hx hb dX9_object_70 (by decide) ?_
          have q0 := Option.some.inj ef0
          obtain ⟨t0, q1⟩ := Prod.mk.inj q0
          obtain ⟨t1, q2⟩ := Prod.mk.inj q1
          obtain ⟨t2, q3⟩ := Prod.mk.inj q2
          obtain ⟨t3, q4⟩ := Prod.mk.inj q3
          obtain ⟨t4, q5⟩ := Prod.mk.inj q4
          exact xIret t0 (by rw [← t1, ← t2, ← t3, ← t4, ← q5]) hx hb hr hlk hP hD hS dX9_object_72
        · have ef0 := iff_ ef0 c6
          refine lv_dload hx hb dX9_object_41 (lv_at hl 4 rfl) ?_
          refine lv_ldc2d hx hb hown (hts (.constantDouble RX9 105 (13845191154443747328)) (List.mem_of_getElem? (i := 5) rfl)) dX9_object_43 ?_
          refine lv_ldc2d hx hb hown (hts (.constantDouble RX9 107 (4634626229029306368)) (List.mem_of_getElem? (i := 6) rfl)) dX9_object_46 ?_
          obtain ⟨u7, hu7, ef0⟩ := bd_of ef0
          refine xCalli (wr := [(h_a, .inr (9, [.int (0 : Int32), .double h_now, .double h_speed, .ref h_isThere_a, .ref h_x_a, .ref h_y_a, .ref h_v_a, .ref h_sure_a, .ref h_coast_a, .ref h_many_a, .ref h_mx_a, .ref h_my_a, .ref h_mv_a, .ref h_taken_a, .ref h_way_a, .ref h_toldFirst_a, .ref h_toldSecond_a, .ref h_speedFirst_a, .int h_differs, .int h_differing, .double h_offset, .double h_slope, .double h_curve, .double h_pedal, .double h_brake, .double h_steer, .int h_isOn, .double h_offAt, .int h_isAsked, .double h_askedAt, .int h_isStopping, .double h_wished, .double h_gap, .double h_braking, .double h_pull, .int h_lead, .double h_left, .double h_leadX, .int h_stage, .int h_mode, .double h_force, .double h_wheel, .ref h_counts_a, .int h_sign])), (h_many_a, .inl (h_many_k, 2, .inl h_many)), (h_mx_a, .inl (h_mx_k, 8, .inr (.inr (.inr (.inl h_mx))))), (h_my_a, .inl (h_my_k, 8, .inr (.inr (.inr (.inl h_my))))), (h_mv_a, .inl (h_mv_k, 8, .inr (.inr (.inr (.inl h_mv)))))]) (wn := [(h_a, .inr (9, [.int (0 : Int32), .double h_now, .double h_speed, .ref h_isThere_a, .ref h_x_a, .ref h_y_a, .ref h_v_a, .ref h_sure_a, .ref h_coast_a, .ref h_many_a, .ref h_mx_a, .ref h_my_a, .ref h_mv_a, .ref h_taken_a, .ref h_way_a, .ref h_toldFirst_a, .ref h_toldSecond_a, .ref h_speedFirst_a, .int h_differs, .int h_differing, .double h_offset, .double h_slope, .double h_curve, .double h_pedal, .double h_brake, .double h_steer, .int h_isOn, .double h_offAt, .int h_isAsked, .double h_askedAt, .int h_isStopping, .double h_wished, .double h_gap, .double h_braking, .double h_pull, .int h_lead, .double h_left, .double h_leadX, .int h_stage, .int h_mode, .double h_force, .double h_wheel, .ref h_counts_a, .int h_sign])), (h_many_a, .inl (h_many_k, 2, .inl h_many)), (h_mx_a, .inl (h_mx_k, 8, .inr (.inr (.inr (.inl h_mx))))), (h_my_a, .inl (h_my_k, 8, .inr (.inr (.inr (.inl h_my))))), (h_mv_a, .inl (h_mv_k, 8, .inr (.inr (.inr (.inl h_mv)))))]) [] [0, 1, 2, 3, 4] [0, 1, 2, 3, 4] (va_runS (As := [.double p3, .double (13845191154443747328 : UInt64), .double (4634626229029306368 : UInt64)]) (rest := []) ⟨hx, hb, hml, hown, hts⟩ (c_X9_in l D H.size p3 (13845191154443747328 : UInt64) (4634626229029306368 : UInt64) u7 hu7) (va_cwS 3 hts gX9_object_X9_in rfl rfl rfl (by decide +kernel) ⟨Nat.le_of_ble_eq_true rfl, Nat.le_of_ble_eq_true rfl⟩) (xPreS hP hD hK hN [] rfl rfl [] rfl) rfl rfl hl.1 rfl (lv_room (Nat.le_of_ble_eq_true rfl)) dX9_object_49 ⟨Nat.zero_le _, Nat.zero_le _⟩) hP hD hS hA rfl rfl rfl (by decide) rfl rfl (fun H locs hP hD hS => ?_)
          refine lv_if_eq (tgt := 70) hx hb dX9_object_52 (by decide) (fun c8 => ?_) (fun c8 => ?_)
          · have ef0 := ift ef0 c8
            refine lv_bipush (v := (-2 : Int32)) hx hb dX9_object_70 (by decide) ?_
            have q0 := Option.some.inj ef0
            obtain ⟨t0, q1⟩ := Prod.mk.inj q0
            obtain ⟨t1, q2⟩ := Prod.mk.inj q1
            obtain ⟨t2, q3⟩ := Prod.mk.inj q2
            obtain ⟨t3, q4⟩ := Prod.mk.inj q3
            obtain ⟨t4, q5⟩ := Prod.mk.inj q4
            exact xIret t0 (by rw [← t1, ← t2, ← t3, ← t4, ← q5]) hx hb hr hlk hP hD hS dX9_object_72
          · have ef0 := iff_ ef0 c8
            refine lv_dload hx hb dX9_object_55 (lv_at hl 5 rfl) ?_
            refine lv_aload_n hx hb dX9_object_57 rfl (lv_at hl 0 rfl) ?_
            refine va_get (D := D) (ci := 9) (v := .double h_now) (C := RX9) (T := TX9) (N := 44) hx hb hts in_wsX9_object_X9 hown hK hP 0 rfl rfl 1 (by decide) (hts (.fieldLink RX9 109 "AssistRowsModel" "now" "D") (List.mem_of_getElem? (i := 7) rfl)) (fun _ h9 => h9) rfl dX9_object_58 ?_
            refine lv_ldc2d hx hb hown (hts (.constantDouble RX9 112 (4681608360884174848)) (List.mem_of_getElem? (i := 8) rfl)) dX9_object_61 ?_
            obtain ⟨u9, hu9, ef0⟩ := bd_of ef0
            refine xCalli (wr := [(h_a, .inr (9, [.int (0 : Int32), .double h_now, .double h_speed, .ref h_isThere_a, .ref h_x_a, .ref h_y_a, .ref h_v_a, .ref h_sure_a, .ref h_coast_a, .ref h_many_a, .ref h_mx_a, .ref h_my_a, .ref h_mv_a, .ref h_taken_a, .ref h_way_a, .ref h_toldFirst_a, .ref h_toldSecond_a, .ref h_speedFirst_a, .int h_differs, .int h_differing, .double h_offset, .double h_slope, .double h_curve, .double h_pedal, .double h_brake, .double h_steer, .int h_isOn, .double h_offAt, .int h_isAsked, .double h_askedAt, .int h_isStopping, .double h_wished, .double h_gap, .double h_braking, .double h_pull, .int h_lead, .double h_left, .double h_leadX, .int h_stage, .int h_mode, .double h_force, .double h_wheel, .ref h_counts_a, .int h_sign])), (h_many_a, .inl (h_many_k, 2, .inl h_many)), (h_mx_a, .inl (h_mx_k, 8, .inr (.inr (.inr (.inl h_mx))))), (h_my_a, .inl (h_my_k, 8, .inr (.inr (.inr (.inl h_my))))), (h_mv_a, .inl (h_mv_k, 8, .inr (.inr (.inr (.inl h_mv)))))]) (wn := [(h_a, .inr (9, [.int (0 : Int32), .double h_now, .double h_speed, .ref h_isThere_a, .ref h_x_a, .ref h_y_a, .ref h_v_a, .ref h_sure_a, .ref h_coast_a, .ref h_many_a, .ref h_mx_a, .ref h_my_a, .ref h_mv_a, .ref h_taken_a, .ref h_way_a, .ref h_toldFirst_a, .ref h_toldSecond_a, .ref h_speedFirst_a, .int h_differs, .int h_differing, .double h_offset, .double h_slope, .double h_curve, .double h_pedal, .double h_brake, .double h_steer, .int h_isOn, .double h_offAt, .int h_isAsked, .double h_askedAt, .int h_isStopping, .double h_wished, .double h_gap, .double h_braking, .double h_pull, .int h_lead, .double h_left, .double h_leadX, .int h_stage, .int h_mode, .double h_force, .double h_wheel, .ref h_counts_a, .int h_sign])), (h_many_a, .inl (h_many_k, 2, .inl h_many)), (h_mx_a, .inl (h_mx_k, 8, .inr (.inr (.inr (.inl h_mx))))), (h_my_a, .inl (h_my_k, 8, .inr (.inr (.inr (.inl h_my))))), (h_mv_a, .inl (h_mv_k, 8, .inr (.inr (.inr (.inl h_mv)))))]) [] [0, 1, 2, 3, 4] [0, 1, 2, 3, 4] (va_runS (As := [.double p4, .double h_now, .double (4681608360884174848 : UInt64)]) (rest := []) ⟨hx, hb, hml, hown, hts⟩ (c_X9_in l D H.size p4 h_now (4681608360884174848 : UInt64) u9 hu9) (va_cwS 3 hts gX9_object_X9_in rfl rfl rfl (by decide +kernel) ⟨Nat.le_of_ble_eq_true rfl, Nat.le_of_ble_eq_true rfl⟩) (xPreS hP hD hK hN [] rfl rfl [] rfl) rfl rfl hl.1 rfl (lv_room (Nat.le_of_ble_eq_true rfl)) dX9_object_64 ⟨Nat.zero_le _, Nat.zero_le _⟩) hP hD hS hA rfl rfl rfl (by decide) rfl rfl (fun H locs hP hD hS => ?_)
            refine lv_if_ne (tgt := 73) hx hb dX9_object_67 (by decide) (fun c10 => ?_) (fun c10 => ?_)
            · have ef0 := iff_ ef0 c10
              refine lv_aload_n hx hb dX9_object_73 rfl (lv_at hl 0 rfl) ?_
              refine va_get (D := D) (ci := 9) (v := .ref h_many_a) (C := RX9) (T := TX9) (N := 44) hx hb hts in_wsX9_object_X9 hown hK hP 0 rfl rfl 9 (by decide) (hts (.fieldLink RX9 30 "AssistRowsModel" "many" "[I") (List.mem_of_getElem? (i := 9) rfl)) (fun _ h9 => h9) rfl dX9_object_74 ?_
              refine lv_iload_n hx hb dX9_object_77 rfl (lv_at hl 1 rfl) ?_
              obtain ⟨h11, ef0⟩ := ck_of ef0
              refine va_iald hx hb hK hP 1 0 rfl rfl (inb_of h11) dX9_object_78 ?_
              refine lv_iconst (v := (4 : Int32)) hx hb dX9_object_79 (by decide) ?_
              refine lv_icmp_ne (tgt := 86) hx hb dX9_object_80 (by decide) (fun c12 => ?_) (fun c12 => ?_)
              · have ef0 := iff_ ef0 c12
                refine lv_iconst (v := (4 : Int32)) hx hb dX9_object_86 (by decide) ?_
                refine lv_iload_n hx hb dX9_object_87 rfl (lv_at hl 1 rfl) ?_
                refine lv_imul hx hb dX9_object_88 ?_
                refine lv_aload_n hx hb dX9_object_89 rfl (lv_at hl 0 rfl) ?_
                refine va_get (D := D) (ci := 9) (v := .ref h_many_a) (C := RX9) (T := TX9) (N := 44) hx hb hts in_wsX9_object_X9 hown hK hP 0 rfl rfl 9 (by decide) (hts (.fieldLink RX9 30 "AssistRowsModel" "many" "[I") (List.mem_of_getElem? (i := 9) rfl)) (fun _ h9 => h9) rfl dX9_object_90 ?_
                refine lv_iload_n hx hb dX9_object_93 rfl (lv_at hl 1 rfl) ?_
                obtain ⟨h13, ef0⟩ := ck_of ef0
                refine va_iald hx hb hK hP 1 0 rfl rfl (inb_of h13) dX9_object_94 ?_
                refine lv_iadd hx hb dX9_object_95 ?_
                refine lv_istore (lv' := [(10, .int (((4 : Int32) * p0) + (h_many p0.toNatClampNeg))), (0, .ref h_a), (1, .int p0), (2, .double p1), (4, .double p2), (6, .double p3), (8, .double p4)]) hx hb dX9_object_96 hl (by decide) rfl (fun ls hl => ?_)
                refine lv_aload_n hx hb dX9_object_98 rfl (lv_at hl 1 rfl) ?_
                refine va_get (D := D) (ci := 9) (v := .ref h_mx_a) (C := RX9) (T := TX9) (N := 44) hx hb hts in_wsX9_object_X9 hown hK hP 0 rfl rfl 10 (by decide) (hts (.fieldLink RX9 33 "AssistRowsModel" "mx" "[D") (List.mem_of_getElem? (i := 10) rfl)) (fun _ h9 => h9) rfl dX9_object_99 ?_
                refine lv_iload hx hb dX9_object_102 (lv_at hl 0 rfl) ?_
                refine lv_dload_n hx hb dX9_object_104 rfl (lv_at hl 3 rfl) ?_
                obtain ⟨h14, ef0⟩ := ck_of ef0
                refine va_dast hx hb hK hP hD hS 2 1 rfl rfl (inb_of h14) dX9_object_105 (fun H locs hP hD hS => ?_)
                have hP : va_P D vwCl [(h_a, .inr (9, [.int (0 : Int32), .double h_now, .double h_speed, .ref h_isThere_a, .ref h_x_a, .ref h_y_a, .ref h_v_a, .ref h_sure_a, .ref h_coast_a, .ref h_many_a, .ref h_mx_a, .ref h_my_a, .ref h_mv_a, .ref h_taken_a, .ref h_way_a, .ref h_toldFirst_a, .ref h_toldSecond_a, .ref h_speedFirst_a, .int h_differs, .int h_differing, .double h_offset, .double h_slope, .double h_curve, .double h_pedal, .double h_brake, .double h_steer, .int h_isOn, .double h_offAt, .int h_isAsked, .double h_askedAt, .int h_isStopping, .double h_wished, .double h_gap, .double h_braking, .double h_pull, .int h_lead, .double h_left, .double h_leadX, .int h_stage, .int h_mode, .double h_force, .double h_wheel, .ref h_counts_a, .int h_sign])), (h_many_a, .inl (h_many_k, 2, .inl h_many)), (h_mx_a, .inl (h_mx_k, 8, .inr (.inr (.inr (.inl (vf_upd h_mx (((4 : Int32) * p0) + (h_many p0.toNatClampNeg)).toNatClampNeg p1)))))), (h_my_a, .inl (h_my_k, 8, .inr (.inr (.inr (.inl h_my))))), (h_mv_a, .inl (h_mv_k, 8, .inr (.inr (.inr (.inl h_mv)))))] H := hP
                have hD : va_D A [(h_a, .inr (9, [.int (0 : Int32), .double h_now, .double h_speed, .ref h_isThere_a, .ref h_x_a, .ref h_y_a, .ref h_v_a, .ref h_sure_a, .ref h_coast_a, .ref h_many_a, .ref h_mx_a, .ref h_my_a, .ref h_mv_a, .ref h_taken_a, .ref h_way_a, .ref h_toldFirst_a, .ref h_toldSecond_a, .ref h_speedFirst_a, .int h_differs, .int h_differing, .double h_offset, .double h_slope, .double h_curve, .double h_pedal, .double h_brake, .double h_steer, .int h_isOn, .double h_offAt, .int h_isAsked, .double h_askedAt, .int h_isStopping, .double h_wished, .double h_gap, .double h_braking, .double h_pull, .int h_lead, .double h_left, .double h_leadX, .int h_stage, .int h_mode, .double h_force, .double h_wheel, .ref h_counts_a, .int h_sign])), (h_many_a, .inl (h_many_k, 2, .inl h_many)), (h_mx_a, .inl (h_mx_k, 8, .inr (.inr (.inr (.inl (vf_upd h_mx (((4 : Int32) * p0) + (h_many p0.toNatClampNeg)).toNatClampNeg p1)))))), (h_my_a, .inl (h_my_k, 8, .inr (.inr (.inr (.inl h_my))))), (h_mv_a, .inl (h_mv_k, 8, .inr (.inr (.inr (.inl h_mv)))))] := hD
                refine lv_aload_n hx hb dX9_object_106 rfl (lv_at hl 1 rfl) ?_
                refine va_get (D := D) (ci := 9) (v := .ref h_my_a) (C := RX9) (T := TX9) (N := 44) hx hb hts in_wsX9_object_X9 hown hK hP 0 rfl rfl 11 (by decide) (hts (.fieldLink RX9 36 "AssistRowsModel" "my" "[D") (List.mem_of_getElem? (i := 11) rfl)) (fun _ h9 => h9) rfl dX9_object_107 ?_
                refine lv_iload hx hb dX9_object_110 (lv_at hl 0 rfl) ?_
                refine lv_dload hx hb dX9_object_112 (lv_at hl 4 rfl) ?_
                obtain ⟨h15, ef0⟩ := ck_of ef0
                refine va_dast hx hb hK hP hD hS 3 2 rfl rfl (inb_of h15) dX9_object_114 (fun H locs hP hD hS => ?_)
                have hP : va_P D vwCl [(h_a, .inr (9, [.int (0 : Int32), .double h_now, .double h_speed, .ref h_isThere_a, .ref h_x_a, .ref h_y_a, .ref h_v_a, .ref h_sure_a, .ref h_coast_a, .ref h_many_a, .ref h_mx_a, .ref h_my_a, .ref h_mv_a, .ref h_taken_a, .ref h_way_a, .ref h_toldFirst_a, .ref h_toldSecond_a, .ref h_speedFirst_a, .int h_differs, .int h_differing, .double h_offset, .double h_slope, .double h_curve, .double h_pedal, .double h_brake, .double h_steer, .int h_isOn, .double h_offAt, .int h_isAsked, .double h_askedAt, .int h_isStopping, .double h_wished, .double h_gap, .double h_braking, .double h_pull, .int h_lead, .double h_left, .double h_leadX, .int h_stage, .int h_mode, .double h_force, .double h_wheel, .ref h_counts_a, .int h_sign])), (h_many_a, .inl (h_many_k, 2, .inl h_many)), (h_mx_a, .inl (h_mx_k, 8, .inr (.inr (.inr (.inl (vf_upd h_mx (((4 : Int32) * p0) + (h_many p0.toNatClampNeg)).toNatClampNeg p1)))))), (h_my_a, .inl (h_my_k, 8, .inr (.inr (.inr (.inl (vf_upd h_my (((4 : Int32) * p0) + (h_many p0.toNatClampNeg)).toNatClampNeg p2)))))), (h_mv_a, .inl (h_mv_k, 8, .inr (.inr (.inr (.inl h_mv)))))] H := hP
                have hD : va_D A [(h_a, .inr (9, [.int (0 : Int32), .double h_now, .double h_speed, .ref h_isThere_a, .ref h_x_a, .ref h_y_a, .ref h_v_a, .ref h_sure_a, .ref h_coast_a, .ref h_many_a, .ref h_mx_a, .ref h_my_a, .ref h_mv_a, .ref h_taken_a, .ref h_way_a, .ref h_toldFirst_a, .ref h_toldSecond_a, .ref h_speedFirst_a, .int h_differs, .int h_differing, .double h_offset, .double h_slope, .double h_curve, .double h_pedal, .double h_brake, .double h_steer, .int h_isOn, .double h_offAt, .int h_isAsked, .double h_askedAt, .int h_isStopping, .double h_wished, .double h_gap, .double h_braking, .double h_pull, .int h_lead, .double h_left, .double h_leadX, .int h_stage, .int h_mode, .double h_force, .double h_wheel, .ref h_counts_a, .int h_sign])), (h_many_a, .inl (h_many_k, 2, .inl h_many)), (h_mx_a, .inl (h_mx_k, 8, .inr (.inr (.inr (.inl (vf_upd h_mx (((4 : Int32) * p0) + (h_many p0.toNatClampNeg)).toNatClampNeg p1)))))), (h_my_a, .inl (h_my_k, 8, .inr (.inr (.inr (.inl (vf_upd h_my (((4 : Int32) * p0) + (h_many p0.toNatClampNeg)).toNatClampNeg p2)))))), (h_mv_a, .inl (h_mv_k, 8, .inr (.inr (.inr (.inl h_mv)))))] := hD
                refine lv_aload_n hx hb dX9_object_115 rfl (lv_at hl 1 rfl) ?_
                refine va_get (D := D) (ci := 9) (v := .ref h_mv_a) (C := RX9) (T := TX9) (N := 44) hx hb hts in_wsX9_object_X9 hown hK hP 0 rfl rfl 12 (by decide) (hts (.fieldLink RX9 39 "AssistRowsModel" "mv" "[D") (List.mem_of_getElem? (i := 12) rfl)) (fun _ h9 => h9) rfl dX9_object_116 ?_
                refine lv_iload hx hb dX9_object_119 (lv_at hl 0 rfl) ?_
                refine lv_dload hx hb dX9_object_121 (lv_at hl 5 rfl) ?_
                obtain ⟨h16, ef0⟩ := ck_of ef0
                refine va_dast hx hb hK hP hD hS 4 3 rfl rfl (inb_of h16) dX9_object_123 (fun H locs hP hD hS => ?_)
                have hP : va_P D vwCl [(h_a, .inr (9, [.int (0 : Int32), .double h_now, .double h_speed, .ref h_isThere_a, .ref h_x_a, .ref h_y_a, .ref h_v_a, .ref h_sure_a, .ref h_coast_a, .ref h_many_a, .ref h_mx_a, .ref h_my_a, .ref h_mv_a, .ref h_taken_a, .ref h_way_a, .ref h_toldFirst_a, .ref h_toldSecond_a, .ref h_speedFirst_a, .int h_differs, .int h_differing, .double h_offset, .double h_slope, .double h_curve, .double h_pedal, .double h_brake, .double h_steer, .int h_isOn, .double h_offAt, .int h_isAsked, .double h_askedAt, .int h_isStopping, .double h_wished, .double h_gap, .double h_braking, .double h_pull, .int h_lead, .double h_left, .double h_leadX, .int h_stage, .int h_mode, .double h_force, .double h_wheel, .ref h_counts_a, .int h_sign])), (h_many_a, .inl (h_many_k, 2, .inl h_many)), (h_mx_a, .inl (h_mx_k, 8, .inr (.inr (.inr (.inl (vf_upd h_mx (((4 : Int32) * p0) + (h_many p0.toNatClampNeg)).toNatClampNeg p1)))))), (h_my_a, .inl (h_my_k, 8, .inr (.inr (.inr (.inl (vf_upd h_my (((4 : Int32) * p0) + (h_many p0.toNatClampNeg)).toNatClampNeg p2)))))), (h_mv_a, .inl (h_mv_k, 8, .inr (.inr (.inr (.inl (vf_upd h_mv (((4 : Int32) * p0) + (h_many p0.toNatClampNeg)).toNatClampNeg p3))))))] H := hP
                have hD : va_D A [(h_a, .inr (9, [.int (0 : Int32), .double h_now, .double h_speed, .ref h_isThere_a, .ref h_x_a, .ref h_y_a, .ref h_v_a, .ref h_sure_a, .ref h_coast_a, .ref h_many_a, .ref h_mx_a, .ref h_my_a, .ref h_mv_a, .ref h_taken_a, .ref h_way_a, .ref h_toldFirst_a, .ref h_toldSecond_a, .ref h_speedFirst_a, .int h_differs, .int h_differing, .double h_offset, .double h_slope, .double h_curve, .double h_pedal, .double h_brake, .double h_steer, .int h_isOn, .double h_offAt, .int h_isAsked, .double h_askedAt, .int h_isStopping, .double h_wished, .double h_gap, .double h_braking, .double h_pull, .int h_lead, .double h_left, .double h_leadX, .int h_stage, .int h_mode, .double h_force, .double h_wheel, .ref h_counts_a, .int h_sign])), (h_many_a, .inl (h_many_k, 2, .inl h_many)), (h_mx_a, .inl (h_mx_k, 8, .inr (.inr (.inr (.inl (vf_upd h_mx (((4 : Int32) * p0) + (h_many p0.toNatClampNeg)).toNatClampNeg p1)))))), (h_my_a, .inl (h_my_k, 8, .inr (.inr (.inr (.inl (vf_upd h_my (((4 : Int32) * p0) + (h_many p0.toNatClampNeg)).toNatClampNeg p2)))))), (h_mv_a, .inl (h_mv_k, 8, .inr (.inr (.inr (.inl (vf_upd h_mv (((4 : Int32) * p0) + (h_many p0.toNatClampNeg)).toNatClampNeg p3))))))] := hD
                refine lv_aload_n hx hb dX9_object_124 rfl (lv_at hl 1 rfl) ?_
                refine va_get (D := D) (ci := 9) (v := .ref h_many_a) (C := RX9) (T := TX9) (N := 44) hx hb hts in_wsX9_object_X9 hown hK hP 0 rfl rfl 9 (by decide) (hts (.fieldLink RX9 30 "AssistRowsModel" "many" "[I") (List.mem_of_getElem? (i := 9) rfl)) (fun _ h9 => h9) rfl dX9_object_125 ?_
                refine lv_iload_n hx hb dX9_object_128 rfl (lv_at hl 2 rfl) ?_
                refine lv_dup2_11 hx hb dX9_object_129 rfl rfl ?_
                obtain ⟨h17, ef0⟩ := ck_of ef0
                refine va_iald hx hb hK hP 1 0 rfl rfl (inb_of h17) dX9_object_130 ?_
                refine lv_iconst (v := (1 : Int32)) hx hb dX9_object_131 (by decide) ?_
                refine lv_iadd hx hb dX9_object_132 ?_
                obtain ⟨h18, ef0⟩ := ck_of ef0
                refine va_iast hx hb hK hP hD hS 1 0 rfl rfl (inb_of h18) dX9_object_133 (fun H locs hP hD hS => ?_)
                have hP : va_P D vwCl [(h_a, .inr (9, [.int (0 : Int32), .double h_now, .double h_speed, .ref h_isThere_a, .ref h_x_a, .ref h_y_a, .ref h_v_a, .ref h_sure_a, .ref h_coast_a, .ref h_many_a, .ref h_mx_a, .ref h_my_a, .ref h_mv_a, .ref h_taken_a, .ref h_way_a, .ref h_toldFirst_a, .ref h_toldSecond_a, .ref h_speedFirst_a, .int h_differs, .int h_differing, .double h_offset, .double h_slope, .double h_curve, .double h_pedal, .double h_brake, .double h_steer, .int h_isOn, .double h_offAt, .int h_isAsked, .double h_askedAt, .int h_isStopping, .double h_wished, .double h_gap, .double h_braking, .double h_pull, .int h_lead, .double h_left, .double h_leadX, .int h_stage, .int h_mode, .double h_force, .double h_wheel, .ref h_counts_a, .int h_sign])), (h_many_a, .inl (h_many_k, 2, .inl (upd h_many p0.toNatClampNeg ((h_many p0.toNatClampNeg) + (1 : Int32))))), (h_mx_a, .inl (h_mx_k, 8, .inr (.inr (.inr (.inl (vf_upd h_mx (((4 : Int32) * p0) + (h_many p0.toNatClampNeg)).toNatClampNeg p1)))))), (h_my_a, .inl (h_my_k, 8, .inr (.inr (.inr (.inl (vf_upd h_my (((4 : Int32) * p0) + (h_many p0.toNatClampNeg)).toNatClampNeg p2)))))), (h_mv_a, .inl (h_mv_k, 8, .inr (.inr (.inr (.inl (vf_upd h_mv (((4 : Int32) * p0) + (h_many p0.toNatClampNeg)).toNatClampNeg p3))))))] H := hP
                have hD : va_D A [(h_a, .inr (9, [.int (0 : Int32), .double h_now, .double h_speed, .ref h_isThere_a, .ref h_x_a, .ref h_y_a, .ref h_v_a, .ref h_sure_a, .ref h_coast_a, .ref h_many_a, .ref h_mx_a, .ref h_my_a, .ref h_mv_a, .ref h_taken_a, .ref h_way_a, .ref h_toldFirst_a, .ref h_toldSecond_a, .ref h_speedFirst_a, .int h_differs, .int h_differing, .double h_offset, .double h_slope, .double h_curve, .double h_pedal, .double h_brake, .double h_steer, .int h_isOn, .double h_offAt, .int h_isAsked, .double h_askedAt, .int h_isStopping, .double h_wished, .double h_gap, .double h_braking, .double h_pull, .int h_lead, .double h_left, .double h_leadX, .int h_stage, .int h_mode, .double h_force, .double h_wheel, .ref h_counts_a, .int h_sign])), (h_many_a, .inl (h_many_k, 2, .inl (upd h_many p0.toNatClampNeg ((h_many p0.toNatClampNeg) + (1 : Int32))))), (h_mx_a, .inl (h_mx_k, 8, .inr (.inr (.inr (.inl (vf_upd h_mx (((4 : Int32) * p0) + (h_many p0.toNatClampNeg)).toNatClampNeg p1)))))), (h_my_a, .inl (h_my_k, 8, .inr (.inr (.inr (.inl (vf_upd h_my (((4 : Int32) * p0) + (h_many p0.toNatClampNeg)).toNatClampNeg p2)))))), (h_mv_a, .inl (h_mv_k, 8, .inr (.inr (.inr (.inl (vf_upd h_mv (((4 : Int32) * p0) + (h_many p0.toNatClampNeg)).toNatClampNeg p3))))))] := hD
                refine lv_aload_n hx hb dX9_object_134 rfl (lv_at hl 1 rfl) ?_
                refine va_get (D := D) (ci := 9) (v := .ref h_many_a) (C := RX9) (T := TX9) (N := 44) hx hb hts in_wsX9_object_X9 hown hK hP 0 rfl rfl 9 (by decide) (hts (.fieldLink RX9 30 "AssistRowsModel" "many" "[I") (List.mem_of_getElem? (i := 9) rfl)) (fun _ h9 => h9) rfl dX9_object_135 ?_
                refine lv_iload_n hx hb dX9_object_138 rfl (lv_at hl 2 rfl) ?_
                obtain ⟨h19, ef0⟩ := ck_of ef0
                refine va_iald hx hb hK hP 1 0 rfl rfl (inb_of h19) dX9_object_139 ?_
                have q0 := Option.some.inj ef0
                obtain ⟨t0, q1⟩ := Prod.mk.inj q0
                obtain ⟨t1, q2⟩ := Prod.mk.inj q1
                obtain ⟨t2, q3⟩ := Prod.mk.inj q2
                obtain ⟨t3, q4⟩ := Prod.mk.inj q3
                obtain ⟨t4, q5⟩ := Prod.mk.inj q4
                exact xIret t0 (by rw [← t1, ← t2, ← t3, ← t4, ← q5]) hx hb hr hlk hP hD hS dX9_object_140
              · have ef0 := ift ef0 c12
                refine lv_bipush (v := (-4 : Int32)) hx hb dX9_object_83 (by decide) ?_
                have q0 := Option.some.inj ef0
                obtain ⟨t0, q1⟩ := Prod.mk.inj q0
                obtain ⟨t1, q2⟩ := Prod.mk.inj q1
                obtain ⟨t2, q3⟩ := Prod.mk.inj q2
                obtain ⟨t3, q4⟩ := Prod.mk.inj q3
                obtain ⟨t4, q5⟩ := Prod.mk.inj q4
                exact xIret t0 (by rw [← t1, ← t2, ← t3, ← t4, ← q5]) hx hb hr hlk hP hD hS dX9_object_85
            · have ef0 := ift ef0 c10
              refine lv_bipush (v := (-2 : Int32)) hx hb dX9_object_70 (by decide) ?_
              have q0 := Option.some.inj ef0
              obtain ⟨t0, q1⟩ := Prod.mk.inj q0
              obtain ⟨t1, q2⟩ := Prod.mk.inj q1
              obtain ⟨t2, q3⟩ := Prod.mk.inj q2
              obtain ⟨t3, q4⟩ := Prod.mk.inj q3
              obtain ⟨t4, q5⟩ := Prod.mk.inj q4
              exact xIret t0 (by rw [← t1, ← t2, ← t3, ← t4, ← q5]) hx hb hr hlk hP hD hS dX9_object_72
    · have ef0 := iff_ ef0 c2
      refine lv_iconst (v := (-1 : Int32)) hx hb dX9_object_14 (by decide) ?_
      have q0 := Option.some.inj ef0
      obtain ⟨t0, q1⟩ := Prod.mk.inj q0
      obtain ⟨t1, q2⟩ := Prod.mk.inj q1
      obtain ⟨t2, q3⟩ := Prod.mk.inj q2
      obtain ⟨t3, q4⟩ := Prod.mk.inj q3
      obtain ⟨t4, q5⟩ := Prod.mk.inj q4
      exact xIret t0 (by rw [← t1, ← t2, ← t3, ← t4, ← q5]) hx hb hr hlk hP hD hS dX9_object_15

theorem in_wsX9_lane_X9 : ∀ w ∈ wsX90, w ∈ wsX9_lane := fun _ h => List.mem_cons_of_mem _ (List.mem_append_right _ h)
def f_X9_lane (p0 : UInt64) (p1 : UInt64) (p2 : UInt64) (h_offset : UInt64) (h_slope : UInt64) (h_curve : UInt64) : Option (Int32 × Int32 × UInt64 × UInt64 × UInt64) :=
  (f_X9_in p0 (13840687554816376832 : UInt64) (4617315517961601024 : UInt64)).bind fun u1 =>
  if u1 = 0 then (
  some ((-2 : Int32), (0 : Int32), h_offset, h_slope, h_curve)) else
  (f_X9_in p1 (13830554455654793216 : UInt64) FP.dconst1).bind fun u3 =>
  if u3 = 0 then (
  some ((-2 : Int32), (0 : Int32), h_offset, h_slope, h_curve)) else
  (f_X9_in p2 (13800290266158863483 : UInt64) (4576918229304087675 : UInt64)).bind fun u5 =>
  if u5 = 0 then (
  some ((-2 : Int32), (0 : Int32), h_offset, h_slope, h_curve)) else
  some ((1 : Int32), (0 : Int32), p0, p1, p2)
set_option maxHeartbeats 4000000 in
set_option maxRecDepth 100000 in
theorem c_X9_lane (l : Launch) (D : va_G) (sz : Nat) (h_a : Nat) (h_isThere_a : Nat) (h_x_a : Nat) (h_y_a : Nat) (h_v_a : Nat) (h_sure_a : Nat) (h_coast_a : Nat) (h_many_a : Nat) (h_mx_a : Nat) (h_my_a : Nat) (h_mv_a : Nat) (h_taken_a : Nat) (h_way_a : Nat) (h_toldFirst_a : Nat) (h_toldSecond_a : Nat) (h_speedFirst_a : Nat) (h_counts_a : Nat) (p0 : UInt64) (p1 : UInt64) (p2 : UInt64) (h_fault : Int32) (h_now : UInt64) (h_speed : UInt64) (h_differs : Int32) (h_differing : Int32) (h_offset : UInt64) (h_slope : UInt64) (h_curve : UInt64) (h_pedal : UInt64) (h_brake : UInt64) (h_steer : UInt64) (h_isOn : Int32) (h_offAt : UInt64) (h_isAsked : Int32) (h_askedAt : UInt64) (h_isStopping : Int32) (h_wished : UInt64) (h_gap : UInt64) (h_braking : UInt64) (h_pull : UInt64) (h_lead : Int32) (h_left : UInt64) (h_leadX : UInt64) (h_stage : Int32) (h_mode : Int32) (h_force : UInt64) (h_wheel : UInt64) (h_sign : Int32) (r0 : Int32) (r1 : Int32) (r2 : UInt64) (r3 : UInt64) (r4 : UInt64) (hf : f_X9_lane p0 p1 p2 h_offset h_slope h_curve = some (r0, r1, r2, r3, r4)) : Met l yX9_lane wsX9_lane { frames := 1, cells := 0, slots := 0, locals := 25 } (va_Pc [.ref h_a, .double p0, .double p1, .double p2] (xPre D [(h_a, .inr (9, [.int h_fault, .double h_now, .double h_speed, .ref h_isThere_a, .ref h_x_a, .ref h_y_a, .ref h_v_a, .ref h_sure_a, .ref h_coast_a, .ref h_many_a, .ref h_mx_a, .ref h_my_a, .ref h_mv_a, .ref h_taken_a, .ref h_way_a, .ref h_toldFirst_a, .ref h_toldSecond_a, .ref h_speedFirst_a, .int h_differs, .int h_differing, .double h_offset, .double h_slope, .double h_curve, .double h_pedal, .double h_brake, .double h_steer, .int h_isOn, .double h_offAt, .int h_isAsked, .double h_askedAt, .int h_isStopping, .double h_wished, .double h_gap, .double h_braking, .double h_pull, .int h_lead, .double h_left, .double h_leadX, .int h_stage, .int h_mode, .double h_force, .double h_wheel, .ref h_counts_a, .int h_sign]))] [] sz)) (va_Qi (fun (x : Int32) (_ : Unit) => x = r0) (fun _ => xB D (va_A [(h_a, .inr (9, [.int h_fault, .double h_now, .double h_speed, .ref h_isThere_a, .ref h_x_a, .ref h_y_a, .ref h_v_a, .ref h_sure_a, .ref h_coast_a, .ref h_many_a, .ref h_mx_a, .ref h_my_a, .ref h_mv_a, .ref h_taken_a, .ref h_way_a, .ref h_toldFirst_a, .ref h_toldSecond_a, .ref h_speedFirst_a, .int h_differs, .int h_differing, .double h_offset, .double h_slope, .double h_curve, .double h_pedal, .double h_brake, .double h_steer, .int h_isOn, .double h_offAt, .int h_isAsked, .double h_askedAt, .int h_isStopping, .double h_wished, .double h_gap, .double h_braking, .double h_pull, .int h_lead, .double h_left, .double h_leadX, .int h_stage, .int h_mode, .double h_force, .double h_wheel, .ref h_counts_a, .int h_sign]))] sz) [(h_a, .inr (9, [.int r1, .double h_now, .double h_speed, .ref h_isThere_a, .ref h_x_a, .ref h_y_a, .ref h_v_a, .ref h_sure_a, .ref h_coast_a, .ref h_many_a, .ref h_mx_a, .ref h_my_a, .ref h_mv_a, .ref h_taken_a, .ref h_way_a, .ref h_toldFirst_a, .ref h_toldSecond_a, .ref h_speedFirst_a, .int h_differs, .int h_differing, .double r2, .double r3, .double r4, .double h_pedal, .double h_brake, .double h_steer, .int h_isOn, .double h_offAt, .int h_isAsked, .double h_askedAt, .int h_isStopping, .double h_wished, .double h_gap, .double h_braking, .double h_pull, .int h_lead, .double h_left, .double h_leadX, .int h_stage, .int h_mode, .double h_force, .double h_wheel, .ref h_counts_a, .int h_sign]))]) (va_A [(h_a, .inr (9, [.int h_fault, .double h_now, .double h_speed, .ref h_isThere_a, .ref h_x_a, .ref h_y_a, .ref h_v_a, .ref h_sure_a, .ref h_coast_a, .ref h_many_a, .ref h_mx_a, .ref h_my_a, .ref h_mv_a, .ref h_taken_a, .ref h_way_a, .ref h_toldFirst_a, .ref h_toldSecond_a, .ref h_speedFirst_a, .int h_differs, .int h_differing, .double h_offset, .double h_slope, .double h_curve, .double h_pedal, .double h_brake, .double h_steer, .int h_isOn, .double h_offAt, .int h_isAsked, .double h_askedAt, .int h_isStopping, .double h_wished, .double h_gap, .double h_braking, .double h_pull, .int h_lead, .double h_left, .double h_leadX, .int h_stage, .int h_mode, .double h_force, .double h_wheel, .ref h_counts_a, .int h_sign]))] sz)) 0 0 (va_A [(h_a, .inr (9, [.int h_fault, .double h_now, .double h_speed, .ref h_isThere_a, .ref h_x_a, .ref h_y_a, .ref h_v_a, .ref h_sure_a, .ref h_coast_a, .ref h_many_a, .ref h_mx_a, .ref h_my_a, .ref h_mv_a, .ref h_taken_a, .ref h_way_a, .ref h_toldFirst_a, .ref h_toldSecond_a, .ref h_speedFirst_a, .int h_differs, .int h_differing, .double h_offset, .double h_slope, .double h_curve, .double h_pedal, .double h_brake, .double h_steer, .int h_isOn, .double h_offAt, .int h_isAsked, .double h_askedAt, .int h_isStopping, .double h_wished, .double h_gap, .double h_braking, .double h_pull, .int h_lead, .double h_left, .double h_leadX, .int h_stage, .int h_mode, .double h_force, .double h_wheel, .ref h_counts_a, .int h_sign]))] sz) := by
  refine xOfW (l := l) (y := yX9_lane) (ws := wsX9_lane) (D := D) (cells := [(h_a, .inr (9, [.int h_fault, .double h_now, .double h_speed, .ref h_isThere_a, .ref h_x_a, .ref h_y_a, .ref h_v_a, .ref h_sure_a, .ref h_coast_a, .ref h_many_a, .ref h_mx_a, .ref h_my_a, .ref h_mv_a, .ref h_taken_a, .ref h_way_a, .ref h_toldFirst_a, .ref h_toldSecond_a, .ref h_speedFirst_a, .int h_differs, .int h_differing, .double h_offset, .double h_slope, .double h_curve, .double h_pedal, .double h_brake, .double h_steer, .int h_isOn, .double h_offAt, .int h_isAsked, .double h_askedAt, .int h_isStopping, .double h_wished, .double h_gap, .double h_braking, .double h_pull, .int h_lead, .double h_left, .double h_leadX, .int h_stage, .int h_mode, .double h_force, .double h_wheel, .ref h_counts_a, .int h_sign]))]) (tys := []) (sz := sz) (av := [.ref h_a, .double p0, .double p1, .double p2]) (cc := cX9_lane) (maxL := 7) (ret := (some .int)) (fun A => va_Qi (fun (x : Int32) (_ : Unit) => x = r0) (fun _ => xB D A [(h_a, .inr (9, [.int r1, .double h_now, .double h_speed, .ref h_isThere_a, .ref h_x_a, .ref h_y_a, .ref h_v_a, .ref h_sure_a, .ref h_coast_a, .ref h_many_a, .ref h_mx_a, .ref h_my_a, .ref h_mv_a, .ref h_taken_a, .ref h_way_a, .ref h_toldFirst_a, .ref h_toldSecond_a, .ref h_speedFirst_a, .int h_differs, .int h_differing, .double r2, .double r3, .double r4, .double h_pedal, .double h_brake, .double h_steer, .int h_isOn, .double h_offAt, .int h_isAsked, .double h_askedAt, .int h_isStopping, .double h_wished, .double h_gap, .double h_braking, .double h_pull, .int h_lead, .double h_left, .double h_leadX, .int h_stage, .int h_mode, .double h_force, .double h_wheel, .ref h_counts_a, .int h_sign]))]) A) (by decide) rfl (Nat.le_of_ble_eq_true rfl) ?_
  intro p e s m below meth c A H ls hx hb hr hml hown hlk hts hP hK hD hS hA hN hl
  have hl : lv_has ls 7 [(0, .ref h_a), (1, .double p0), (3, .double p1), (5, .double p2)] := hl
  have hown : s.vm.findClass RX9 = some m.cls := hown
  have ef0 : f_X9_lane p0 p1 p2 h_offset h_slope h_curve = some (r0, r1, r2, r3, r4) := hf
  rewrite [f_X9_lane] at ef0
  refine lv_aload_n hx hb dX9_lane_0 rfl (lv_at hl 0 rfl) ?_
  refine lv_iconst (v := (0 : Int32)) hx hb dX9_lane_1 (by decide) ?_
  refine va_put (D := D) (ci := 9) (v := .int (0 : Int32)) (ty := .int) (C := RX9) (T := TX9) (N := 44) hx hb hts in_wsX9_lane_X9 tyX9 tyX9_ok nmX9 hown hK hP hD hS 0 rfl rfl 0 (by decide) (hts (.fieldLink RX9 92 "AssistRowsModel" "fault" "I") (List.mem_of_getElem? (i := 1) rfl)) (fun _ h9 => h9) rfl (by decide +kernel) rfl rfl (Nat.le_of_ble_eq_true rfl) dX9_lane_2 (fun H locs hP hD hS => ?_)
  have hP : va_P D vwCl [(h_a, .inr (9, [.int (0 : Int32), .double h_now, .double h_speed, .ref h_isThere_a, .ref h_x_a, .ref h_y_a, .ref h_v_a, .ref h_sure_a, .ref h_coast_a, .ref h_many_a, .ref h_mx_a, .ref h_my_a, .ref h_mv_a, .ref h_taken_a, .ref h_way_a, .ref h_toldFirst_a, .ref h_toldSecond_a, .ref h_speedFirst_a, .int h_differs, .int h_differing, .double h_offset, .double h_slope, .double h_curve, .double h_pedal, .double h_brake, .double h_steer, .int h_isOn, .double h_offAt, .int h_isAsked, .double h_askedAt, .int h_isStopping, .double h_wished, .double h_gap, .double h_braking, .double h_pull, .int h_lead, .double h_left, .double h_leadX, .int h_stage, .int h_mode, .double h_force, .double h_wheel, .ref h_counts_a, .int h_sign]))] H := hP
  have hD : va_D A [(h_a, .inr (9, [.int (0 : Int32), .double h_now, .double h_speed, .ref h_isThere_a, .ref h_x_a, .ref h_y_a, .ref h_v_a, .ref h_sure_a, .ref h_coast_a, .ref h_many_a, .ref h_mx_a, .ref h_my_a, .ref h_mv_a, .ref h_taken_a, .ref h_way_a, .ref h_toldFirst_a, .ref h_toldSecond_a, .ref h_speedFirst_a, .int h_differs, .int h_differing, .double h_offset, .double h_slope, .double h_curve, .double h_pedal, .double h_brake, .double h_steer, .int h_isOn, .double h_offAt, .int h_isAsked, .double h_askedAt, .int h_isStopping, .double h_wished, .double h_gap, .double h_braking, .double h_pull, .int h_lead, .double h_left, .double h_leadX, .int h_stage, .int h_mode, .double h_force, .double h_wheel, .ref h_counts_a, .int h_sign]))] := hD
  refine lv_dload_n hx hb dX9_lane_5 rfl (lv_at hl 1 rfl) ?_
  refine lv_ldc2d hx hb hown (hts (.constantDouble RX9 114 (13840687554816376832)) (List.mem_of_getElem? (i := 2) rfl)) dX9_lane_6 ?_
  refine lv_ldc2d hx hb hown (hts (.constantDouble RX9 116 (4617315517961601024)) (List.mem_of_getElem? (i := 3) rfl)) dX9_lane_9 ?_
  obtain ⟨u1, hu1, ef0⟩ := bd_of ef0
  refine xCalli (wr := [(h_a, .inr (9, [.int (0 : Int32), .double h_now, .double h_speed, .ref h_isThere_a, .ref h_x_a, .ref h_y_a, .ref h_v_a, .ref h_sure_a, .ref h_coast_a, .ref h_many_a, .ref h_mx_a, .ref h_my_a, .ref h_mv_a, .ref h_taken_a, .ref h_way_a, .ref h_toldFirst_a, .ref h_toldSecond_a, .ref h_speedFirst_a, .int h_differs, .int h_differing, .double h_offset, .double h_slope, .double h_curve, .double h_pedal, .double h_brake, .double h_steer, .int h_isOn, .double h_offAt, .int h_isAsked, .double h_askedAt, .int h_isStopping, .double h_wished, .double h_gap, .double h_braking, .double h_pull, .int h_lead, .double h_left, .double h_leadX, .int h_stage, .int h_mode, .double h_force, .double h_wheel, .ref h_counts_a, .int h_sign]))]) (wn := [(h_a, .inr (9, [.int (0 : Int32), .double h_now, .double h_speed, .ref h_isThere_a, .ref h_x_a, .ref h_y_a, .ref h_v_a, .ref h_sure_a, .ref h_coast_a, .ref h_many_a, .ref h_mx_a, .ref h_my_a, .ref h_mv_a, .ref h_taken_a, .ref h_way_a, .ref h_toldFirst_a, .ref h_toldSecond_a, .ref h_speedFirst_a, .int h_differs, .int h_differing, .double h_offset, .double h_slope, .double h_curve, .double h_pedal, .double h_brake, .double h_steer, .int h_isOn, .double h_offAt, .int h_isAsked, .double h_askedAt, .int h_isStopping, .double h_wished, .double h_gap, .double h_braking, .double h_pull, .int h_lead, .double h_left, .double h_leadX, .int h_stage, .int h_mode, .double h_force, .double h_wheel, .ref h_counts_a, .int h_sign]))]) [] [0] [0] (va_runS (As := [.double p0, .double (13840687554816376832 : UInt64), .double (4617315517961601024 : UInt64)]) (rest := []) ⟨hx, hb, hml, hown, hts⟩ (c_X9_in l D H.size p0 (13840687554816376832 : UInt64) (4617315517961601024 : UInt64) u1 hu1) (va_cwS 3 hts gX9_lane_X9_in rfl rfl rfl (by decide +kernel) ⟨Nat.le_of_ble_eq_true rfl, Nat.le_of_ble_eq_true rfl⟩) (xPreS hP hD hK hN [] rfl rfl [] rfl) rfl rfl hl.1 rfl (lv_room (Nat.le_of_ble_eq_true rfl)) dX9_lane_12 ⟨Nat.zero_le _, Nat.zero_le _⟩) hP hD hS hA rfl rfl rfl (by decide) rfl rfl (fun H locs hP hD hS => ?_)
  refine lv_if_eq (tgt := 43) hx hb dX9_lane_15 (by decide) (fun c2 => ?_) (fun c2 => ?_)
  · have ef0 := ift ef0 c2
    refine lv_bipush (v := (-2 : Int32)) hx hb dX9_lane_43 (by decide) ?_
    have q0 := Option.some.inj ef0
    obtain ⟨t0, q1⟩ := Prod.mk.inj q0
    obtain ⟨t1, q2⟩ := Prod.mk.inj q1
    obtain ⟨t2, q3⟩ := Prod.mk.inj q2
    obtain ⟨t3, q4⟩ := Prod.mk.inj q3
    exact xIret t0 (by rw [← t1, ← t2, ← t3, ← q4]) hx hb hr hlk hP hD hS dX9_lane_45
  · have ef0 := iff_ ef0 c2
    refine lv_dload_n hx hb dX9_lane_18 rfl (lv_at hl 2 rfl) ?_
    refine lv_ldc2d hx hb hown (hts (.constantDouble RX9 81 (13830554455654793216)) (List.mem_of_getElem? (i := 4) rfl)) dX9_lane_19 ?_
    refine lv_dconst1 hx hb dX9_lane_22 ?_
    obtain ⟨u3, hu3, ef0⟩ := bd_of ef0
    refine xCalli (wr := [(h_a, .inr (9, [.int (0 : Int32), .double h_now, .double h_speed, .ref h_isThere_a, .ref h_x_a, .ref h_y_a, .ref h_v_a, .ref h_sure_a, .ref h_coast_a, .ref h_many_a, .ref h_mx_a, .ref h_my_a, .ref h_mv_a, .ref h_taken_a, .ref h_way_a, .ref h_toldFirst_a, .ref h_toldSecond_a, .ref h_speedFirst_a, .int h_differs, .int h_differing, .double h_offset, .double h_slope, .double h_curve, .double h_pedal, .double h_brake, .double h_steer, .int h_isOn, .double h_offAt, .int h_isAsked, .double h_askedAt, .int h_isStopping, .double h_wished, .double h_gap, .double h_braking, .double h_pull, .int h_lead, .double h_left, .double h_leadX, .int h_stage, .int h_mode, .double h_force, .double h_wheel, .ref h_counts_a, .int h_sign]))]) (wn := [(h_a, .inr (9, [.int (0 : Int32), .double h_now, .double h_speed, .ref h_isThere_a, .ref h_x_a, .ref h_y_a, .ref h_v_a, .ref h_sure_a, .ref h_coast_a, .ref h_many_a, .ref h_mx_a, .ref h_my_a, .ref h_mv_a, .ref h_taken_a, .ref h_way_a, .ref h_toldFirst_a, .ref h_toldSecond_a, .ref h_speedFirst_a, .int h_differs, .int h_differing, .double h_offset, .double h_slope, .double h_curve, .double h_pedal, .double h_brake, .double h_steer, .int h_isOn, .double h_offAt, .int h_isAsked, .double h_askedAt, .int h_isStopping, .double h_wished, .double h_gap, .double h_braking, .double h_pull, .int h_lead, .double h_left, .double h_leadX, .int h_stage, .int h_mode, .double h_force, .double h_wheel, .ref h_counts_a, .int h_sign]))]) [] [0] [0] (va_runS (As := [.double p1, .double (13830554455654793216 : UInt64), .double FP.dconst1]) (rest := []) ⟨hx, hb, hml, hown, hts⟩ (c_X9_in l D H.size p1 (13830554455654793216 : UInt64) FP.dconst1 u3 hu3) (va_cwS 3 hts gX9_lane_X9_in rfl rfl rfl (by decide +kernel) ⟨Nat.le_of_ble_eq_true rfl, Nat.le_of_ble_eq_true rfl⟩) (xPreS hP hD hK hN [] rfl rfl [] rfl) rfl rfl hl.1 rfl (lv_room (Nat.le_of_ble_eq_true rfl)) dX9_lane_23 ⟨Nat.zero_le _, Nat.zero_le _⟩) hP hD hS hA rfl rfl rfl (by decide) rfl rfl (fun H locs hP hD hS => ?_)
    refine lv_if_eq (tgt := 43) hx hb dX9_lane_26 (by decide) (fun c4 => ?_) (fun c4 => ?_)
    · have ef0 := ift ef0 c4
      refine lv_bipush (v := (-2 : Int32)) hx hb dX9_lane_43 (by decide) ?_
      have q0 := Option.some.inj ef0
      obtain ⟨t0, q1⟩ := Prod.mk.inj q0
      obtain ⟨t1, q2⟩ := Prod.mk.inj q1
      obtain ⟨t2, q3⟩ := Prod.mk.inj q2
      obtain ⟨t3, q4⟩ := Prod.mk.inj q3
      exact xIret t0 (by rw [← t1, ← t2, ← t3, ← q4]) hx hb hr hlk hP hD hS dX9_lane_45
    · have ef0 := iff_ ef0 c4
      refine lv_dload hx hb dX9_lane_29 (lv_at hl 3 rfl) ?_
      refine lv_ldc2d hx hb hown (hts (.constantDouble RX9 118 (13800290266158863483)) (List.mem_of_getElem? (i := 5) rfl)) dX9_lane_31 ?_
      refine lv_ldc2d hx hb hown (hts (.constantDouble RX9 120 (4576918229304087675)) (List.mem_of_getElem? (i := 6) rfl)) dX9_lane_34 ?_
      obtain ⟨u5, hu5, ef0⟩ := bd_of ef0
      refine xCalli (wr := [(h_a, .inr (9, [.int (0 : Int32), .double h_now, .double h_speed, .ref h_isThere_a, .ref h_x_a, .ref h_y_a, .ref h_v_a, .ref h_sure_a, .ref h_coast_a, .ref h_many_a, .ref h_mx_a, .ref h_my_a, .ref h_mv_a, .ref h_taken_a, .ref h_way_a, .ref h_toldFirst_a, .ref h_toldSecond_a, .ref h_speedFirst_a, .int h_differs, .int h_differing, .double h_offset, .double h_slope, .double h_curve, .double h_pedal, .double h_brake, .double h_steer, .int h_isOn, .double h_offAt, .int h_isAsked, .double h_askedAt, .int h_isStopping, .double h_wished, .double h_gap, .double h_braking, .double h_pull, .int h_lead, .double h_left, .double h_leadX, .int h_stage, .int h_mode, .double h_force, .double h_wheel, .ref h_counts_a, .int h_sign]))]) (wn := [(h_a, .inr (9, [.int (0 : Int32), .double h_now, .double h_speed, .ref h_isThere_a, .ref h_x_a, .ref h_y_a, .ref h_v_a, .ref h_sure_a, .ref h_coast_a, .ref h_many_a, .ref h_mx_a, .ref h_my_a, .ref h_mv_a, .ref h_taken_a, .ref h_way_a, .ref h_toldFirst_a, .ref h_toldSecond_a, .ref h_speedFirst_a, .int h_differs, .int h_differing, .double h_offset, .double h_slope, .double h_curve, .double h_pedal, .double h_brake, .double h_steer, .int h_isOn, .double h_offAt, .int h_isAsked, .double h_askedAt, .int h_isStopping, .double h_wished, .double h_gap, .double h_braking, .double h_pull, .int h_lead, .double h_left, .double h_leadX, .int h_stage, .int h_mode, .double h_force, .double h_wheel, .ref h_counts_a, .int h_sign]))]) [] [0] [0] (va_runS (As := [.double p2, .double (13800290266158863483 : UInt64), .double (4576918229304087675 : UInt64)]) (rest := []) ⟨hx, hb, hml, hown, hts⟩ (c_X9_in l D H.size p2 (13800290266158863483 : UInt64) (4576918229304087675 : UInt64) u5 hu5) (va_cwS 3 hts gX9_lane_X9_in rfl rfl rfl (by decide +kernel) ⟨Nat.le_of_ble_eq_true rfl, Nat.le_of_ble_eq_true rfl⟩) (xPreS hP hD hK hN [] rfl rfl [] rfl) rfl rfl hl.1 rfl (lv_room (Nat.le_of_ble_eq_true rfl)) dX9_lane_37 ⟨Nat.zero_le _, Nat.zero_le _⟩) hP hD hS hA rfl rfl rfl (by decide) rfl rfl (fun H locs hP hD hS => ?_)
      refine lv_if_ne (tgt := 46) hx hb dX9_lane_40 (by decide) (fun c6 => ?_) (fun c6 => ?_)
      · have ef0 := iff_ ef0 c6
        refine lv_aload_n hx hb dX9_lane_46 rfl (lv_at hl 0 rfl) ?_
        refine lv_dload_n hx hb dX9_lane_47 rfl (lv_at hl 1 rfl) ?_
        refine va_put (D := D) (ci := 9) (v := .double p0) (ty := .double) (C := RX9) (T := TX9) (N := 44) hx hb hts in_wsX9_lane_X9 tyX9 tyX9_ok nmX9 hown hK hP hD hS 0 rfl rfl 20 (by decide) (hts (.fieldLink RX9 122 "AssistRowsModel" "offset" "D") (List.mem_of_getElem? (i := 7) rfl)) (fun _ h9 => h9) rfl (by decide +kernel) rfl rfl (Nat.le_of_ble_eq_true rfl) dX9_lane_48 (fun H locs hP hD hS => ?_)
        have hP : va_P D vwCl [(h_a, .inr (9, [.int (0 : Int32), .double h_now, .double h_speed, .ref h_isThere_a, .ref h_x_a, .ref h_y_a, .ref h_v_a, .ref h_sure_a, .ref h_coast_a, .ref h_many_a, .ref h_mx_a, .ref h_my_a, .ref h_mv_a, .ref h_taken_a, .ref h_way_a, .ref h_toldFirst_a, .ref h_toldSecond_a, .ref h_speedFirst_a, .int h_differs, .int h_differing, .double p0, .double h_slope, .double h_curve, .double h_pedal, .double h_brake, .double h_steer, .int h_isOn, .double h_offAt, .int h_isAsked, .double h_askedAt, .int h_isStopping, .double h_wished, .double h_gap, .double h_braking, .double h_pull, .int h_lead, .double h_left, .double h_leadX, .int h_stage, .int h_mode, .double h_force, .double h_wheel, .ref h_counts_a, .int h_sign]))] H := hP
        have hD : va_D A [(h_a, .inr (9, [.int (0 : Int32), .double h_now, .double h_speed, .ref h_isThere_a, .ref h_x_a, .ref h_y_a, .ref h_v_a, .ref h_sure_a, .ref h_coast_a, .ref h_many_a, .ref h_mx_a, .ref h_my_a, .ref h_mv_a, .ref h_taken_a, .ref h_way_a, .ref h_toldFirst_a, .ref h_toldSecond_a, .ref h_speedFirst_a, .int h_differs, .int h_differing, .double p0, .double h_slope, .double h_curve, .double h_pedal, .double h_brake, .double h_steer, .int h_isOn, .double h_offAt, .int h_isAsked, .double h_askedAt, .int h_isStopping, .double h_wished, .double h_gap, .double h_braking, .double h_pull, .int h_lead, .double h_left, .double h_leadX, .int h_stage, .int h_mode, .double h_force, .double h_wheel, .ref h_counts_a, .int h_sign]))] := hD
        refine lv_aload_n hx hb dX9_lane_51 rfl (lv_at hl 0 rfl) ?_
        refine lv_dload_n hx hb dX9_lane_52 rfl (lv_at hl 2 rfl) ?_
        refine va_put (D := D) (ci := 9) (v := .double p1) (ty := .double) (C := RX9) (T := TX9) (N := 44) hx hb hts in_wsX9_lane_X9 tyX9 tyX9_ok nmX9 hown hK hP hD hS 0 rfl rfl 21 (by decide) (hts (.fieldLink RX9 125 "AssistRowsModel" "slope" "D") (List.mem_of_getElem? (i := 8) rfl)) (fun _ h9 => h9) rfl (by decide +kernel) rfl rfl (Nat.le_of_ble_eq_true rfl) dX9_lane_53 (fun H locs hP hD hS => ?_)
        have hP : va_P D vwCl [(h_a, .inr (9, [.int (0 : Int32), .double h_now, .double h_speed, .ref h_isThere_a, .ref h_x_a, .ref h_y_a, .ref h_v_a, .ref h_sure_a, .ref h_coast_a, .ref h_many_a, .ref h_mx_a, .ref h_my_a, .ref h_mv_a, .ref h_taken_a, .ref h_way_a, .ref h_toldFirst_a, .ref h_toldSecond_a, .ref h_speedFirst_a, .int h_differs, .int h_differing, .double p0, .double p1, .double h_curve, .double h_pedal, .double h_brake, .double h_steer, .int h_isOn, .double h_offAt, .int h_isAsked, .double h_askedAt, .int h_isStopping, .double h_wished, .double h_gap, .double h_braking, .double h_pull, .int h_lead, .double h_left, .double h_leadX, .int h_stage, .int h_mode, .double h_force, .double h_wheel, .ref h_counts_a, .int h_sign]))] H := hP
        have hD : va_D A [(h_a, .inr (9, [.int (0 : Int32), .double h_now, .double h_speed, .ref h_isThere_a, .ref h_x_a, .ref h_y_a, .ref h_v_a, .ref h_sure_a, .ref h_coast_a, .ref h_many_a, .ref h_mx_a, .ref h_my_a, .ref h_mv_a, .ref h_taken_a, .ref h_way_a, .ref h_toldFirst_a, .ref h_toldSecond_a, .ref h_speedFirst_a, .int h_differs, .int h_differing, .double p0, .double p1, .double h_curve, .double h_pedal, .double h_brake, .double h_steer, .int h_isOn, .double h_offAt, .int h_isAsked, .double h_askedAt, .int h_isStopping, .double h_wished, .double h_gap, .double h_braking, .double h_pull, .int h_lead, .double h_left, .double h_leadX, .int h_stage, .int h_mode, .double h_force, .double h_wheel, .ref h_counts_a, .int h_sign]))] := hD
        refine lv_aload_n hx hb dX9_lane_56 rfl (lv_at hl 0 rfl) ?_
        refine lv_dload hx hb dX9_lane_57 (lv_at hl 3 rfl) ?_
        refine va_put (D := D) (ci := 9) (v := .double p2) (ty := .double) (C := RX9) (T := TX9) (N := 44) hx hb hts in_wsX9_lane_X9 tyX9 tyX9_ok nmX9 hown hK hP hD hS 0 rfl rfl 22 (by decide) (hts (.fieldLink RX9 128 "AssistRowsModel" "curve" "D") (List.mem_of_getElem? (i := 9) rfl)) (fun _ h9 => h9) rfl (by decide +kernel) rfl rfl (Nat.le_of_ble_eq_true rfl) dX9_lane_59 (fun H locs hP hD hS => ?_)
        have hP : va_P D vwCl [(h_a, .inr (9, [.int (0 : Int32), .double h_now, .double h_speed, .ref h_isThere_a, .ref h_x_a, .ref h_y_a, .ref h_v_a, .ref h_sure_a, .ref h_coast_a, .ref h_many_a, .ref h_mx_a, .ref h_my_a, .ref h_mv_a, .ref h_taken_a, .ref h_way_a, .ref h_toldFirst_a, .ref h_toldSecond_a, .ref h_speedFirst_a, .int h_differs, .int h_differing, .double p0, .double p1, .double p2, .double h_pedal, .double h_brake, .double h_steer, .int h_isOn, .double h_offAt, .int h_isAsked, .double h_askedAt, .int h_isStopping, .double h_wished, .double h_gap, .double h_braking, .double h_pull, .int h_lead, .double h_left, .double h_leadX, .int h_stage, .int h_mode, .double h_force, .double h_wheel, .ref h_counts_a, .int h_sign]))] H := hP
        have hD : va_D A [(h_a, .inr (9, [.int (0 : Int32), .double h_now, .double h_speed, .ref h_isThere_a, .ref h_x_a, .ref h_y_a, .ref h_v_a, .ref h_sure_a, .ref h_coast_a, .ref h_many_a, .ref h_mx_a, .ref h_my_a, .ref h_mv_a, .ref h_taken_a, .ref h_way_a, .ref h_toldFirst_a, .ref h_toldSecond_a, .ref h_speedFirst_a, .int h_differs, .int h_differing, .double p0, .double p1, .double p2, .double h_pedal, .double h_brake, .double h_steer, .int h_isOn, .double h_offAt, .int h_isAsked, .double h_askedAt, .int h_isStopping, .double h_wished, .double h_gap, .double h_braking, .double h_pull, .int h_lead, .double h_left, .double h_leadX, .int h_stage, .int h_mode, .double h_force, .double h_wheel, .ref h_counts_a, .int h_sign]))] := hD
        refine lv_iconst (v := (1 : Int32)) hx hb dX9_lane_62 (by decide) ?_
        have q0 := Option.some.inj ef0
        obtain ⟨t0, q1⟩ := Prod.mk.inj q0
        obtain ⟨t1, q2⟩ := Prod.mk.inj q1
        obtain ⟨t2, q3⟩ := Prod.mk.inj q2
        obtain ⟨t3, q4⟩ := Prod.mk.inj q3
        exact xIret t0 (by rw [← t1, ← t2, ← t3, ← q4]) hx hb hr hlk hP hD hS dX9_lane_63
      · have ef0 := ift ef0 c6
        refine lv_bipush (v := (-2 : Int32)) hx hb dX9_lane_43 (by decide) ?_
        have q0 := Option.some.inj ef0
        obtain ⟨t0, q1⟩ := Prod.mk.inj q0
        obtain ⟨t1, q2⟩ := Prod.mk.inj q1
        obtain ⟨t2, q3⟩ := Prod.mk.inj q2
        obtain ⟨t3, q4⟩ := Prod.mk.inj q3
        exact xIret t0 (by rw [← t1, ← t2, ← t3, ← q4]) hx hb hr hlk hP hD hS dX9_lane_45

theorem in_wsX9_driver_X9 : ∀ w ∈ wsX90, w ∈ wsX9_driver := fun _ h => List.mem_cons_of_mem _ (List.mem_append_right _ h)
def f_X9_driver_j1 (h_pedal : UInt64) (h_brake : UInt64) (h_steer : UInt64) (p0 : Int32) (p1 : UInt64) (b4 : UInt64) : Option (Int32 × Int32 × UInt64 × UInt64 × UInt64) :=
  (f_X9_in p1 b4 FP.dconst1).bind fun u5 =>
  if u5 = 0 then (
  some ((-2 : Int32), (0 : Int32), h_pedal, h_brake, h_steer)) else
  if p0 = 0 then (
  some ((1 : Int32), (0 : Int32), p1, h_brake, h_steer)) else
  if p0 = (1 : Int32) then (
  some ((1 : Int32), (0 : Int32), h_pedal, p1, h_steer)) else
  some ((1 : Int32), (0 : Int32), h_pedal, h_brake, p1)
def f_X9_driver (p0 : Int32) (p1 : UInt64) (h_pedal : UInt64) (h_brake : UInt64) (h_steer : UInt64) : Option (Int32 × Int32 × UInt64 × UInt64 × UInt64) :=
  if p0 < 0 then (
  some ((-1 : Int32), (0 : Int32), h_pedal, h_brake, h_steer)) else
  if p0 ≤ (2 : Int32) then (
  if p0 = (2 : Int32) then (
  f_X9_driver_j1 h_pedal h_brake h_steer p0 p1 (13830554455654793216 : UInt64)) else
  f_X9_driver_j1 h_pedal h_brake h_steer p0 p1 FP.dconst0) else
  some ((-1 : Int32), (0 : Int32), h_pedal, h_brake, h_steer)
set_option maxHeartbeats 4000000 in
set_option maxRecDepth 100000 in
theorem c_X9_driver (l : Launch) (D : va_G) (sz : Nat) (h_a : Nat) (h_isThere_a : Nat) (h_x_a : Nat) (h_y_a : Nat) (h_v_a : Nat) (h_sure_a : Nat) (h_coast_a : Nat) (h_many_a : Nat) (h_mx_a : Nat) (h_my_a : Nat) (h_mv_a : Nat) (h_taken_a : Nat) (h_way_a : Nat) (h_toldFirst_a : Nat) (h_toldSecond_a : Nat) (h_speedFirst_a : Nat) (h_counts_a : Nat) (p0 : Int32) (p1 : UInt64) (h_fault : Int32) (h_now : UInt64) (h_speed : UInt64) (h_differs : Int32) (h_differing : Int32) (h_offset : UInt64) (h_slope : UInt64) (h_curve : UInt64) (h_pedal : UInt64) (h_brake : UInt64) (h_steer : UInt64) (h_isOn : Int32) (h_offAt : UInt64) (h_isAsked : Int32) (h_askedAt : UInt64) (h_isStopping : Int32) (h_wished : UInt64) (h_gap : UInt64) (h_braking : UInt64) (h_pull : UInt64) (h_lead : Int32) (h_left : UInt64) (h_leadX : UInt64) (h_stage : Int32) (h_mode : Int32) (h_force : UInt64) (h_wheel : UInt64) (h_sign : Int32) (r0 : Int32) (r1 : Int32) (r2 : UInt64) (r3 : UInt64) (r4 : UInt64) (hf : f_X9_driver p0 p1 h_pedal h_brake h_steer = some (r0, r1, r2, r3, r4)) : Met l yX9_driver wsX9_driver { frames := 1, cells := 0, slots := 0, locals := 25 } (va_Pc [.ref h_a, .int p0, .double p1] (xPre D [(h_a, .inr (9, [.int h_fault, .double h_now, .double h_speed, .ref h_isThere_a, .ref h_x_a, .ref h_y_a, .ref h_v_a, .ref h_sure_a, .ref h_coast_a, .ref h_many_a, .ref h_mx_a, .ref h_my_a, .ref h_mv_a, .ref h_taken_a, .ref h_way_a, .ref h_toldFirst_a, .ref h_toldSecond_a, .ref h_speedFirst_a, .int h_differs, .int h_differing, .double h_offset, .double h_slope, .double h_curve, .double h_pedal, .double h_brake, .double h_steer, .int h_isOn, .double h_offAt, .int h_isAsked, .double h_askedAt, .int h_isStopping, .double h_wished, .double h_gap, .double h_braking, .double h_pull, .int h_lead, .double h_left, .double h_leadX, .int h_stage, .int h_mode, .double h_force, .double h_wheel, .ref h_counts_a, .int h_sign]))] [] sz)) (va_Qi (fun (x : Int32) (_ : Unit) => x = r0) (fun _ => xB D (va_A [(h_a, .inr (9, [.int h_fault, .double h_now, .double h_speed, .ref h_isThere_a, .ref h_x_a, .ref h_y_a, .ref h_v_a, .ref h_sure_a, .ref h_coast_a, .ref h_many_a, .ref h_mx_a, .ref h_my_a, .ref h_mv_a, .ref h_taken_a, .ref h_way_a, .ref h_toldFirst_a, .ref h_toldSecond_a, .ref h_speedFirst_a, .int h_differs, .int h_differing, .double h_offset, .double h_slope, .double h_curve, .double h_pedal, .double h_brake, .double h_steer, .int h_isOn, .double h_offAt, .int h_isAsked, .double h_askedAt, .int h_isStopping, .double h_wished, .double h_gap, .double h_braking, .double h_pull, .int h_lead, .double h_left, .double h_leadX, .int h_stage, .int h_mode, .double h_force, .double h_wheel, .ref h_counts_a, .int h_sign]))] sz) [(h_a, .inr (9, [.int r1, .double h_now, .double h_speed, .ref h_isThere_a, .ref h_x_a, .ref h_y_a, .ref h_v_a, .ref h_sure_a, .ref h_coast_a, .ref h_many_a, .ref h_mx_a, .ref h_my_a, .ref h_mv_a, .ref h_taken_a, .ref h_way_a, .ref h_toldFirst_a, .ref h_toldSecond_a, .ref h_speedFirst_a, .int h_differs, .int h_differing, .double h_offset, .double h_slope, .double h_curve, .double r2, .double r3, .double r4, .int h_isOn, .double h_offAt, .int h_isAsked, .double h_askedAt, .int h_isStopping, .double h_wished, .double h_gap, .double h_braking, .double h_pull, .int h_lead, .double h_left, .double h_leadX, .int h_stage, .int h_mode, .double h_force, .double h_wheel, .ref h_counts_a, .int h_sign]))]) (va_A [(h_a, .inr (9, [.int h_fault, .double h_now, .double h_speed, .ref h_isThere_a, .ref h_x_a, .ref h_y_a, .ref h_v_a, .ref h_sure_a, .ref h_coast_a, .ref h_many_a, .ref h_mx_a, .ref h_my_a, .ref h_mv_a, .ref h_taken_a, .ref h_way_a, .ref h_toldFirst_a, .ref h_toldSecond_a, .ref h_speedFirst_a, .int h_differs, .int h_differing, .double h_offset, .double h_slope, .double h_curve, .double h_pedal, .double h_brake, .double h_steer, .int h_isOn, .double h_offAt, .int h_isAsked, .double h_askedAt, .int h_isStopping, .double h_wished, .double h_gap, .double h_braking, .double h_pull, .int h_lead, .double h_left, .double h_leadX, .int h_stage, .int h_mode, .double h_force, .double h_wheel, .ref h_counts_a, .int h_sign]))] sz)) 0 0 (va_A [(h_a, .inr (9, [.int h_fault, .double h_now, .double h_speed, .ref h_isThere_a, .ref h_x_a, .ref h_y_a, .ref h_v_a, .ref h_sure_a, .ref h_coast_a, .ref h_many_a, .ref h_mx_a, .ref h_my_a, .ref h_mv_a, .ref h_taken_a, .ref h_way_a, .ref h_toldFirst_a, .ref h_toldSecond_a, .ref h_speedFirst_a, .int h_differs, .int h_differing, .double h_offset, .double h_slope, .double h_curve, .double h_pedal, .double h_brake, .double h_steer, .int h_isOn, .double h_offAt, .int h_isAsked, .double h_askedAt, .int h_isStopping, .double h_wished, .double h_gap, .double h_braking, .double h_pull, .int h_lead, .double h_left, .double h_leadX, .int h_stage, .int h_mode, .double h_force, .double h_wheel, .ref h_counts_a, .int h_sign]))] sz) := by
  refine xOfW (l := l) (y := yX9_driver) (ws := wsX9_driver) (D := D) (cells := [(h_a, .inr (9, [.int h_fault, .double h_now, .double h_speed, .ref h_isThere_a, .ref h_x_a, .ref h_y_a, .ref h_v_a, .ref h_sure_a, .ref h_coast_a, .ref h_many_a, .ref h_mx_a, .ref h_my_a, .ref h_mv_a, .ref h_taken_a, .ref h_way_a, .ref h_toldFirst_a, .ref h_toldSecond_a, .ref h_speedFirst_a, .int h_differs, .int h_differing, .double h_offset, .double h_slope, .double h_curve, .double h_pedal, .double h_brake, .double h_steer, .int h_isOn, .double h_offAt, .int h_isAsked, .double h_askedAt, .int h_isStopping, .double h_wished, .double h_gap, .double h_braking, .double h_pull, .int h_lead, .double h_left, .double h_leadX, .int h_stage, .int h_mode, .double h_force, .double h_wheel, .ref h_counts_a, .int h_sign]))]) (tys := []) (sz := sz) (av := [.ref h_a, .int p0, .double p1]) (cc := cX9_driver) (maxL := 4) (ret := (some .int)) (fun A => va_Qi (fun (x : Int32) (_ : Unit) => x = r0) (fun _ => xB D A [(h_a, .inr (9, [.int r1, .double h_now, .double h_speed, .ref h_isThere_a, .ref h_x_a, .ref h_y_a, .ref h_v_a, .ref h_sure_a, .ref h_coast_a, .ref h_many_a, .ref h_mx_a, .ref h_my_a, .ref h_mv_a, .ref h_taken_a, .ref h_way_a, .ref h_toldFirst_a, .ref h_toldSecond_a, .ref h_speedFirst_a, .int h_differs, .int h_differing, .double h_offset, .double h_slope, .double h_curve, .double r2, .double r3, .double r4, .int h_isOn, .double h_offAt, .int h_isAsked, .double h_askedAt, .int h_isStopping, .double h_wished, .double h_gap, .double h_braking, .double h_pull, .int h_lead, .double h_left, .double h_leadX, .int h_stage, .int h_mode, .double h_force, .double h_wheel, .ref h_counts_a, .int h_sign]))]) A) (by decide) rfl (Nat.le_of_ble_eq_true rfl) ?_
  intro p e s m below meth c A H ls hx hb hr hml hown hlk hts hP hK hD hS hA hN hl
  have hl : lv_has ls 4 [(0, .ref h_a), (1, .int p0), (2, .double p1)] := hl
  have hown : s.vm.findClass RX9 = some m.cls := hown
  have ef0 : f_X9_driver p0 p1 h_pedal h_brake h_steer = some (r0, r1, r2, r3, r4) := hf
  rewrite [f_X9_driver] at ef0
  refine lv_aload_n hx hb dX9_driver_0 rfl (lv_at hl 0 rfl) ?_
  refine lv_iconst (v := (0 : Int32)) hx hb dX9_driver_1 (by decide) ?_
  refine va_put (D := D) (ci := 9) (v := .int (0 : Int32)) (ty := .int) (C := RX9) (T := TX9) (N := 44) hx hb hts in_wsX9_driver_X9 tyX9 tyX9_ok nmX9 hown hK hP hD hS 0 rfl rfl 0 (by decide) (hts (.fieldLink RX9 92 "AssistRowsModel" "fault" "I") (List.mem_of_getElem? (i := 1) rfl)) (fun _ h9 => h9) rfl (by decide +kernel) rfl rfl (Nat.le_of_ble_eq_true rfl) dX9_driver_2 (fun H locs hP hD hS => ?_)
  have hP : va_P D vwCl [(h_a, .inr (9, [.int (0 : Int32), .double h_now, .double h_speed, .ref h_isThere_a, .ref h_x_a, .ref h_y_a, .ref h_v_a, .ref h_sure_a, .ref h_coast_a, .ref h_many_a, .ref h_mx_a, .ref h_my_a, .ref h_mv_a, .ref h_taken_a, .ref h_way_a, .ref h_toldFirst_a, .ref h_toldSecond_a, .ref h_speedFirst_a, .int h_differs, .int h_differing, .double h_offset, .double h_slope, .double h_curve, .double h_pedal, .double h_brake, .double h_steer, .int h_isOn, .double h_offAt, .int h_isAsked, .double h_askedAt, .int h_isStopping, .double h_wished, .double h_gap, .double h_braking, .double h_pull, .int h_lead, .double h_left, .double h_leadX, .int h_stage, .int h_mode, .double h_force, .double h_wheel, .ref h_counts_a, .int h_sign]))] H := hP
  have hD : va_D A [(h_a, .inr (9, [.int (0 : Int32), .double h_now, .double h_speed, .ref h_isThere_a, .ref h_x_a, .ref h_y_a, .ref h_v_a, .ref h_sure_a, .ref h_coast_a, .ref h_many_a, .ref h_mx_a, .ref h_my_a, .ref h_mv_a, .ref h_taken_a, .ref h_way_a, .ref h_toldFirst_a, .ref h_toldSecond_a, .ref h_speedFirst_a, .int h_differs, .int h_differing, .double h_offset, .double h_slope, .double h_curve, .double h_pedal, .double h_brake, .double h_steer, .int h_isOn, .double h_offAt, .int h_isAsked, .double h_askedAt, .int h_isStopping, .double h_wished, .double h_gap, .double h_braking, .double h_pull, .int h_lead, .double h_left, .double h_leadX, .int h_stage, .int h_mode, .double h_force, .double h_wheel, .ref h_counts_a, .int h_sign]))] := hD
  refine lv_iload_n hx hb dX9_driver_5 rfl (lv_at hl 1 rfl) ?_
  refine lv_if_lt (tgt := 14) hx hb dX9_driver_6 (by decide) (fun c1 => ?_) (fun c1 => ?_)
  · have ef0 := ift ef0 c1
    refine lv_iconst (v := (-1 : Int32)) hx hb dX9_driver_14 (by decide) ?_
    have q0 := Option.some.inj ef0
    obtain ⟨t0, q1⟩ := Prod.mk.inj q0
    obtain ⟨t1, q2⟩ := Prod.mk.inj q1
    obtain ⟨t2, q3⟩ := Prod.mk.inj q2
    obtain ⟨t3, q4⟩ := Prod.mk.inj q3
    exact xIret t0 (by rw [← t1, ← t2, ← t3, ← q4]) hx hb hr hlk hP hD hS dX9_driver_15
  · have ef0 := iff_ ef0 c1
    refine lv_iload_n hx hb dX9_driver_9 rfl (lv_at hl 1 rfl) ?_
    refine lv_iconst (v := (2 : Int32)) hx hb dX9_driver_10 (by decide) ?_
    refine lv_icmp_le (tgt := 16) hx hb dX9_driver_11 (by decide) (fun c2 => ?_) (fun c2 => ?_)
    · have ef0 := ift ef0 c2
      refine lv_dload_n hx hb dX9_driver_16 rfl (lv_at hl 2 rfl) ?_
      refine lv_iload_n hx hb dX9_driver_17 rfl (lv_at hl 1 rfl) ?_
      refine lv_iconst (v := (2 : Int32)) hx hb dX9_driver_18 (by decide) ?_
      refine xCut (ι := UInt64) (fun z H locs ls => f_X9_driver_j1 h_pedal h_brake h_steer p0 p1 z = some (r0, r1, r2, r3, r4) ∧ va_P D vwCl [(h_a, .inr (9, [.int (0 : Int32), .double h_now, .double h_speed, .ref h_isThere_a, .ref h_x_a, .ref h_y_a, .ref h_v_a, .ref h_sure_a, .ref h_coast_a, .ref h_many_a, .ref h_mx_a, .ref h_my_a, .ref h_mv_a, .ref h_taken_a, .ref h_way_a, .ref h_toldFirst_a, .ref h_toldSecond_a, .ref h_speedFirst_a, .int h_differs, .int h_differing, .double h_offset, .double h_slope, .double h_curve, .double h_pedal, .double h_brake, .double h_steer, .int h_isOn, .double h_offAt, .int h_isAsked, .double h_askedAt, .int h_isStopping, .double h_wished, .double h_gap, .double h_braking, .double h_pull, .int h_lead, .double h_left, .double h_leadX, .int h_stage, .int h_mode, .double h_force, .double h_wheel, .ref h_counts_a, .int h_sign]))] H ∧ va_D A [(h_a, .inr (9, [.int (0 : Int32), .double h_now, .double h_speed, .ref h_isThere_a, .ref h_x_a, .ref h_y_a, .ref h_v_a, .ref h_sure_a, .ref h_coast_a, .ref h_many_a, .ref h_mx_a, .ref h_my_a, .ref h_mv_a, .ref h_taken_a, .ref h_way_a, .ref h_toldFirst_a, .ref h_toldSecond_a, .ref h_speedFirst_a, .int h_differs, .int h_differing, .double h_offset, .double h_slope, .double h_curve, .double h_pedal, .double h_brake, .double h_steer, .int h_isOn, .double h_offAt, .int h_isAsked, .double h_askedAt, .int h_isStopping, .double h_wished, .double h_gap, .double h_braking, .double h_pull, .int h_lead, .double h_left, .double h_leadX, .int h_stage, .int h_mode, .double h_force, .double h_wheel, .ref h_counts_a, .int h_sign]))] ∧ va_S A s.heap H locs ∧ lv_has ls 4 [(0, .ref h_a), (1, .int p0), (2, .double p1)]) 29 (fun z => [.double z, .double p1]) ?_ (fun K1 => ?_)
      · intro z H locs ls hz
        obtain ⟨b4, rfl⟩ : ∃ q, q = z := ⟨z, rfl⟩
        obtain ⟨ef0, hP, hD, hS, hl⟩ := hz
        have ef0 : f_X9_driver_j1 h_pedal h_brake h_steer p0 p1 b4 = some (r0, r1, r2, r3, r4) := ef0
        have hP : va_P D vwCl [(h_a, .inr (9, [.int (0 : Int32), .double h_now, .double h_speed, .ref h_isThere_a, .ref h_x_a, .ref h_y_a, .ref h_v_a, .ref h_sure_a, .ref h_coast_a, .ref h_many_a, .ref h_mx_a, .ref h_my_a, .ref h_mv_a, .ref h_taken_a, .ref h_way_a, .ref h_toldFirst_a, .ref h_toldSecond_a, .ref h_speedFirst_a, .int h_differs, .int h_differing, .double h_offset, .double h_slope, .double h_curve, .double h_pedal, .double h_brake, .double h_steer, .int h_isOn, .double h_offAt, .int h_isAsked, .double h_askedAt, .int h_isStopping, .double h_wished, .double h_gap, .double h_braking, .double h_pull, .int h_lead, .double h_left, .double h_leadX, .int h_stage, .int h_mode, .double h_force, .double h_wheel, .ref h_counts_a, .int h_sign]))] H := hP
        have hD : va_D A [(h_a, .inr (9, [.int (0 : Int32), .double h_now, .double h_speed, .ref h_isThere_a, .ref h_x_a, .ref h_y_a, .ref h_v_a, .ref h_sure_a, .ref h_coast_a, .ref h_many_a, .ref h_mx_a, .ref h_my_a, .ref h_mv_a, .ref h_taken_a, .ref h_way_a, .ref h_toldFirst_a, .ref h_toldSecond_a, .ref h_speedFirst_a, .int h_differs, .int h_differing, .double h_offset, .double h_slope, .double h_curve, .double h_pedal, .double h_brake, .double h_steer, .int h_isOn, .double h_offAt, .int h_isAsked, .double h_askedAt, .int h_isStopping, .double h_wished, .double h_gap, .double h_braking, .double h_pull, .int h_lead, .double h_left, .double h_leadX, .int h_stage, .int h_mode, .double h_force, .double h_wheel, .ref h_counts_a, .int h_sign]))] := hD
        have hl : lv_has ls 4 [(0, .ref h_a), (1, .int p0), (2, .double p1)] := hl
        rewrite [f_X9_driver_j1] at ef0
        refine W.eq (g2 := F0 m 29 ls [.double b4, .double p1]) rfl ?_
        refine lv_dconst1 hx hb dX9_driver_29 ?_
        obtain ⟨u5, hu5, ef0⟩ := bd_of ef0
        refine xCalli (wr := [(h_a, .inr (9, [.int (0 : Int32), .double h_now, .double h_speed, .ref h_isThere_a, .ref h_x_a, .ref h_y_a, .ref h_v_a, .ref h_sure_a, .ref h_coast_a, .ref h_many_a, .ref h_mx_a, .ref h_my_a, .ref h_mv_a, .ref h_taken_a, .ref h_way_a, .ref h_toldFirst_a, .ref h_toldSecond_a, .ref h_speedFirst_a, .int h_differs, .int h_differing, .double h_offset, .double h_slope, .double h_curve, .double h_pedal, .double h_brake, .double h_steer, .int h_isOn, .double h_offAt, .int h_isAsked, .double h_askedAt, .int h_isStopping, .double h_wished, .double h_gap, .double h_braking, .double h_pull, .int h_lead, .double h_left, .double h_leadX, .int h_stage, .int h_mode, .double h_force, .double h_wheel, .ref h_counts_a, .int h_sign]))]) (wn := [(h_a, .inr (9, [.int (0 : Int32), .double h_now, .double h_speed, .ref h_isThere_a, .ref h_x_a, .ref h_y_a, .ref h_v_a, .ref h_sure_a, .ref h_coast_a, .ref h_many_a, .ref h_mx_a, .ref h_my_a, .ref h_mv_a, .ref h_taken_a, .ref h_way_a, .ref h_toldFirst_a, .ref h_toldSecond_a, .ref h_speedFirst_a, .int h_differs, .int h_differing, .double h_offset, .double h_slope, .double h_curve, .double h_pedal, .double h_brake, .double h_steer, .int h_isOn, .double h_offAt, .int h_isAsked, .double h_askedAt, .int h_isStopping, .double h_wished, .double h_gap, .double h_braking, .double h_pull, .int h_lead, .double h_left, .double h_leadX, .int h_stage, .int h_mode, .double h_force, .double h_wheel, .ref h_counts_a, .int h_sign]))]) [] [0] [0] (va_runS (As := [.double p1, .double b4, .double FP.dconst1]) (rest := []) ⟨hx, hb, hml, hown, hts⟩ (c_X9_in l D H.size p1 b4 FP.dconst1 u5 hu5) (va_cwS 3 hts gX9_driver_X9_in rfl rfl rfl (by decide +kernel) ⟨Nat.le_of_ble_eq_true rfl, Nat.le_of_ble_eq_true rfl⟩) (xPreS hP hD hK hN [] rfl rfl [] rfl) rfl rfl hl.1 rfl (lv_room (Nat.le_of_ble_eq_true rfl)) dX9_driver_30 ⟨Nat.zero_le _, Nat.zero_le _⟩) hP hD hS hA rfl rfl rfl (by decide) rfl rfl (fun H locs hP hD hS => ?_)
        refine lv_if_ne (tgt := 39) hx hb dX9_driver_33 (by decide) (fun c6 => ?_) (fun c6 => ?_)
        · have ef0 := iff_ ef0 c6
          refine lv_iload_n hx hb dX9_driver_39 rfl (lv_at hl 1 rfl) ?_
          refine lv_if_ne (tgt := 51) hx hb dX9_driver_40 (by decide) (fun c7 => ?_) (fun c7 => ?_)
          · have ef0 := iff_ ef0 c7
            refine lv_iload_n hx hb dX9_driver_51 rfl (lv_at hl 1 rfl) ?_
            refine lv_iconst (v := (1 : Int32)) hx hb dX9_driver_52 (by decide) ?_
            refine lv_icmp_ne (tgt := 64) hx hb dX9_driver_53 (by decide) (fun c8 => ?_) (fun c8 => ?_)
            · have ef0 := iff_ ef0 c8
              refine lv_aload_n hx hb dX9_driver_64 rfl (lv_at hl 0 rfl) ?_
              refine lv_dload_n hx hb dX9_driver_65 rfl (lv_at hl 2 rfl) ?_
              refine va_put (D := D) (ci := 9) (v := .double p1) (ty := .double) (C := RX9) (T := TX9) (N := 44) hx hb hts in_wsX9_driver_X9 tyX9 tyX9_ok nmX9 hown hK hP hD hS 0 rfl rfl 25 (by decide) (hts (.fieldLink RX9 137 "AssistRowsModel" "steer" "D") (List.mem_of_getElem? (i := 5) rfl)) (fun _ h9 => h9) rfl (by decide +kernel) rfl rfl (Nat.le_of_ble_eq_true rfl) dX9_driver_66 (fun H locs hP hD hS => ?_)
              have hP : va_P D vwCl [(h_a, .inr (9, [.int (0 : Int32), .double h_now, .double h_speed, .ref h_isThere_a, .ref h_x_a, .ref h_y_a, .ref h_v_a, .ref h_sure_a, .ref h_coast_a, .ref h_many_a, .ref h_mx_a, .ref h_my_a, .ref h_mv_a, .ref h_taken_a, .ref h_way_a, .ref h_toldFirst_a, .ref h_toldSecond_a, .ref h_speedFirst_a, .int h_differs, .int h_differing, .double h_offset, .double h_slope, .double h_curve, .double h_pedal, .double h_brake, .double p1, .int h_isOn, .double h_offAt, .int h_isAsked, .double h_askedAt, .int h_isStopping, .double h_wished, .double h_gap, .double h_braking, .double h_pull, .int h_lead, .double h_left, .double h_leadX, .int h_stage, .int h_mode, .double h_force, .double h_wheel, .ref h_counts_a, .int h_sign]))] H := hP
              have hD : va_D A [(h_a, .inr (9, [.int (0 : Int32), .double h_now, .double h_speed, .ref h_isThere_a, .ref h_x_a, .ref h_y_a, .ref h_v_a, .ref h_sure_a, .ref h_coast_a, .ref h_many_a, .ref h_mx_a, .ref h_my_a, .ref h_mv_a, .ref h_taken_a, .ref h_way_a, .ref h_toldFirst_a, .ref h_toldSecond_a, .ref h_speedFirst_a, .int h_differs, .int h_differing, .double h_offset, .double h_slope, .double h_curve, .double h_pedal, .double h_brake, .double p1, .int h_isOn, .double h_offAt, .int h_isAsked, .double h_askedAt, .int h_isStopping, .double h_wished, .double h_gap, .double h_braking, .double h_pull, .int h_lead, .double h_left, .double h_leadX, .int h_stage, .int h_mode, .double h_force, .double h_wheel, .ref h_counts_a, .int h_sign]))] := hD
              refine lv_iconst (v := (1 : Int32)) hx hb dX9_driver_69 (by decide) ?_
              have q0 := Option.some.inj ef0
              obtain ⟨t0, q1⟩ := Prod.mk.inj q0
              obtain ⟨t1, q2⟩ := Prod.mk.inj q1
              obtain ⟨t2, q3⟩ := Prod.mk.inj q2
              obtain ⟨t3, q4⟩ := Prod.mk.inj q3
              exact xIret t0 (by rw [← t1, ← t2, ← t3, ← q4]) hx hb hr hlk hP hD hS dX9_driver_70
            · have ef0 := ift ef0 c8
              refine lv_aload_n hx hb dX9_driver_56 rfl (lv_at hl 0 rfl) ?_
              refine lv_dload_n hx hb dX9_driver_57 rfl (lv_at hl 2 rfl) ?_
              refine va_put (D := D) (ci := 9) (v := .double p1) (ty := .double) (C := RX9) (T := TX9) (N := 44) hx hb hts in_wsX9_driver_X9 tyX9 tyX9_ok nmX9 hown hK hP hD hS 0 rfl rfl 24 (by decide) (hts (.fieldLink RX9 134 "AssistRowsModel" "brake" "D") (List.mem_of_getElem? (i := 4) rfl)) (fun _ h9 => h9) rfl (by decide +kernel) rfl rfl (Nat.le_of_ble_eq_true rfl) dX9_driver_58 (fun H locs hP hD hS => ?_)
              have hP : va_P D vwCl [(h_a, .inr (9, [.int (0 : Int32), .double h_now, .double h_speed, .ref h_isThere_a, .ref h_x_a, .ref h_y_a, .ref h_v_a, .ref h_sure_a, .ref h_coast_a, .ref h_many_a, .ref h_mx_a, .ref h_my_a, .ref h_mv_a, .ref h_taken_a, .ref h_way_a, .ref h_toldFirst_a, .ref h_toldSecond_a, .ref h_speedFirst_a, .int h_differs, .int h_differing, .double h_offset, .double h_slope, .double h_curve, .double h_pedal, .double p1, .double h_steer, .int h_isOn, .double h_offAt, .int h_isAsked, .double h_askedAt, .int h_isStopping, .double h_wished, .double h_gap, .double h_braking, .double h_pull, .int h_lead, .double h_left, .double h_leadX, .int h_stage, .int h_mode, .double h_force, .double h_wheel, .ref h_counts_a, .int h_sign]))] H := hP
              have hD : va_D A [(h_a, .inr (9, [.int (0 : Int32), .double h_now, .double h_speed, .ref h_isThere_a, .ref h_x_a, .ref h_y_a, .ref h_v_a, .ref h_sure_a, .ref h_coast_a, .ref h_many_a, .ref h_mx_a, .ref h_my_a, .ref h_mv_a, .ref h_taken_a, .ref h_way_a, .ref h_toldFirst_a, .ref h_toldSecond_a, .ref h_speedFirst_a, .int h_differs, .int h_differing, .double h_offset, .double h_slope, .double h_curve, .double h_pedal, .double p1, .double h_steer, .int h_isOn, .double h_offAt, .int h_isAsked, .double h_askedAt, .int h_isStopping, .double h_wished, .double h_gap, .double h_braking, .double h_pull, .int h_lead, .double h_left, .double h_leadX, .int h_stage, .int h_mode, .double h_force, .double h_wheel, .ref h_counts_a, .int h_sign]))] := hD
              refine lv_goto (tgt := 69) hx hb dX9_driver_61 (by decide) ?_
              refine lv_iconst (v := (1 : Int32)) hx hb dX9_driver_69 (by decide) ?_
              have q0 := Option.some.inj ef0
              obtain ⟨t0, q1⟩ := Prod.mk.inj q0
              obtain ⟨t1, q2⟩ := Prod.mk.inj q1
              obtain ⟨t2, q3⟩ := Prod.mk.inj q2
              obtain ⟨t3, q4⟩ := Prod.mk.inj q3
              exact xIret t0 (by rw [← t1, ← t2, ← t3, ← q4]) hx hb hr hlk hP hD hS dX9_driver_70
          · have ef0 := ift ef0 c7
            refine lv_aload_n hx hb dX9_driver_43 rfl (lv_at hl 0 rfl) ?_
            refine lv_dload_n hx hb dX9_driver_44 rfl (lv_at hl 2 rfl) ?_
            refine va_put (D := D) (ci := 9) (v := .double p1) (ty := .double) (C := RX9) (T := TX9) (N := 44) hx hb hts in_wsX9_driver_X9 tyX9 tyX9_ok nmX9 hown hK hP hD hS 0 rfl rfl 23 (by decide) (hts (.fieldLink RX9 131 "AssistRowsModel" "pedal" "D") (List.mem_of_getElem? (i := 3) rfl)) (fun _ h9 => h9) rfl (by decide +kernel) rfl rfl (Nat.le_of_ble_eq_true rfl) dX9_driver_45 (fun H locs hP hD hS => ?_)
            have hP : va_P D vwCl [(h_a, .inr (9, [.int (0 : Int32), .double h_now, .double h_speed, .ref h_isThere_a, .ref h_x_a, .ref h_y_a, .ref h_v_a, .ref h_sure_a, .ref h_coast_a, .ref h_many_a, .ref h_mx_a, .ref h_my_a, .ref h_mv_a, .ref h_taken_a, .ref h_way_a, .ref h_toldFirst_a, .ref h_toldSecond_a, .ref h_speedFirst_a, .int h_differs, .int h_differing, .double h_offset, .double h_slope, .double h_curve, .double p1, .double h_brake, .double h_steer, .int h_isOn, .double h_offAt, .int h_isAsked, .double h_askedAt, .int h_isStopping, .double h_wished, .double h_gap, .double h_braking, .double h_pull, .int h_lead, .double h_left, .double h_leadX, .int h_stage, .int h_mode, .double h_force, .double h_wheel, .ref h_counts_a, .int h_sign]))] H := hP
            have hD : va_D A [(h_a, .inr (9, [.int (0 : Int32), .double h_now, .double h_speed, .ref h_isThere_a, .ref h_x_a, .ref h_y_a, .ref h_v_a, .ref h_sure_a, .ref h_coast_a, .ref h_many_a, .ref h_mx_a, .ref h_my_a, .ref h_mv_a, .ref h_taken_a, .ref h_way_a, .ref h_toldFirst_a, .ref h_toldSecond_a, .ref h_speedFirst_a, .int h_differs, .int h_differing, .double h_offset, .double h_slope, .double h_curve, .double p1, .double h_brake, .double h_steer, .int h_isOn, .double h_offAt, .int h_isAsked, .double h_askedAt, .int h_isStopping, .double h_wished, .double h_gap, .double h_braking, .double h_pull, .int h_lead, .double h_left, .double h_leadX, .int h_stage, .int h_mode, .double h_force, .double h_wheel, .ref h_counts_a, .int h_sign]))] := hD
            refine lv_goto (tgt := 69) hx hb dX9_driver_48 (by decide) ?_
            refine lv_iconst (v := (1 : Int32)) hx hb dX9_driver_69 (by decide) ?_
            have q0 := Option.some.inj ef0
            obtain ⟨t0, q1⟩ := Prod.mk.inj q0
            obtain ⟨t1, q2⟩ := Prod.mk.inj q1
            obtain ⟨t2, q3⟩ := Prod.mk.inj q2
            obtain ⟨t3, q4⟩ := Prod.mk.inj q3
            exact xIret t0 (by rw [← t1, ← t2, ← t3, ← q4]) hx hb hr hlk hP hD hS dX9_driver_70
        · have ef0 := ift ef0 c6
          refine lv_bipush (v := (-2 : Int32)) hx hb dX9_driver_36 (by decide) ?_
          have q0 := Option.some.inj ef0
          obtain ⟨t0, q1⟩ := Prod.mk.inj q0
          obtain ⟨t1, q2⟩ := Prod.mk.inj q1
          obtain ⟨t2, q3⟩ := Prod.mk.inj q2
          obtain ⟨t3, q4⟩ := Prod.mk.inj q3
          exact xIret t0 (by rw [← t1, ← t2, ← t3, ← q4]) hx hb hr hlk hP hD hS dX9_driver_38
      refine lv_icmp_ne (tgt := 28) hx hb dX9_driver_19 (by decide) (fun c3 => ?_) (fun c3 => ?_)
      · have ef0 := iff_ ef0 c3
        refine lv_dconst0 hx hb dX9_driver_28 ?_
        exact K1 FP.dconst0 _ _ _ ⟨ef0, hP, hD, hS, lv_sub hl [0, 1, 2] rfl⟩
      · have ef0 := ift ef0 c3
        refine lv_ldc2d hx hb hown (hts (.constantDouble RX9 81 (13830554455654793216)) (List.mem_of_getElem? (i := 2) rfl)) dX9_driver_22 ?_
        refine lv_goto (tgt := 29) hx hb dX9_driver_25 (by decide) ?_
        exact K1 (13830554455654793216 : UInt64) _ _ _ ⟨ef0, hP, hD, hS, lv_sub hl [0, 1, 2] rfl⟩
    · have ef0 := iff_ ef0 c2
      refine lv_iconst (v := (-1 : Int32)) hx hb dX9_driver_14 (by decide) ?_
      have q0 := Option.some.inj ef0
      obtain ⟨t0, q1⟩ := Prod.mk.inj q0
      obtain ⟨t1, q2⟩ := Prod.mk.inj q1
      obtain ⟨t2, q3⟩ := Prod.mk.inj q2
      obtain ⟨t3, q4⟩ := Prod.mk.inj q3
      exact xIret t0 (by rw [← t1, ← t2, ← t3, ← q4]) hx hb hr hlk hP hD hS dX9_driver_15

theorem in_wsX9_limit_X9 : ∀ w ∈ wsX90, w ∈ wsX9_limit := fun _ h => List.mem_cons_of_mem _ (List.mem_append_right _ h)
def f_X9_limit_j1 (h_wished : UInt64) (h_gap : UInt64) (h_braking : UInt64) (h_pull : UInt64) (p0 : Int32) (p1 : UInt64) (b10 : Int32) : Option (Int32 × Int32 × UInt64 × UInt64 × UInt64 × UInt64) :=
  if b10 = 0 then (
  some ((-2 : Int32), (0 : Int32), h_wished, h_gap, h_braking, h_pull)) else
  if p0 = 0 then (
  some ((1 : Int32), (0 : Int32), p1, h_gap, h_braking, h_pull)) else
  if p0 = (1 : Int32) then (
  some ((1 : Int32), (0 : Int32), h_wished, p1, h_braking, h_pull)) else
  if p0 = (2 : Int32) then (
  some ((1 : Int32), (0 : Int32), h_wished, h_gap, p1, h_pull)) else
  some ((1 : Int32), (0 : Int32), h_wished, h_gap, h_braking, p1)
def f_X9_limit (p0 : Int32) (p1 : UInt64) (h_wished : UInt64) (h_gap : UInt64) (h_braking : UInt64) (h_pull : UInt64) : Option (Int32 × Int32 × UInt64 × UInt64 × UInt64 × UInt64) :=
  if p0 < 0 then (
  some ((-1 : Int32), (0 : Int32), h_wished, h_gap, h_braking, h_pull)) else
  if p0 ≤ (3 : Int32) then (
  if p0 = 0 then (
  (f_X9_in p1 FP.dconst0 (4633641066610819072 : UInt64)).bind fun u9 =>
  f_X9_limit_j1 h_wished h_gap h_braking h_pull p0 p1 u9) else
  if p0 = (1 : Int32) then (
  (f_X9_in p1 (4602678819172646912 : UInt64) (4613937818241073152 : UInt64)).bind fun u8 =>
  f_X9_limit_j1 h_wished h_gap h_braking h_pull p0 p1 u8) else
  if p0 = (2 : Int32) then (
  (f_X9_in p1 FP.dconst1 (4621256167635550208 : UInt64)).bind fun u7 =>
  f_X9_limit_j1 h_wished h_gap h_braking h_pull p0 p1 u7) else
  (f_X9_in p1 FP.dconst0 (4613937818241073152 : UInt64)).bind fun u6 =>
  f_X9_limit_j1 h_wished h_gap h_braking h_pull p0 p1 u6) else
  some ((-1 : Int32), (0 : Int32), h_wished, h_gap, h_braking, h_pull)
set_option maxHeartbeats 4000000 in
set_option maxRecDepth 100000 in
theorem c_X9_limit (l : Launch) (D : va_G) (sz : Nat) (h_a : Nat) (h_isThere_a : Nat) (h_x_a : Nat) (h_y_a : Nat) (h_v_a : Nat) (h_sure_a : Nat) (h_coast_a : Nat) (h_many_a : Nat) (h_mx_a : Nat) (h_my_a : Nat) (h_mv_a : Nat) (h_taken_a : Nat) (h_way_a : Nat) (h_toldFirst_a : Nat) (h_toldSecond_a : Nat) (h_speedFirst_a : Nat) (h_counts_a : Nat) (p0 : Int32) (p1 : UInt64) (h_fault : Int32) (h_now : UInt64) (h_speed : UInt64) (h_differs : Int32) (h_differing : Int32) (h_offset : UInt64) (h_slope : UInt64) (h_curve : UInt64) (h_pedal : UInt64) (h_brake : UInt64) (h_steer : UInt64) (h_isOn : Int32) (h_offAt : UInt64) (h_isAsked : Int32) (h_askedAt : UInt64) (h_isStopping : Int32) (h_wished : UInt64) (h_gap : UInt64) (h_braking : UInt64) (h_pull : UInt64) (h_lead : Int32) (h_left : UInt64) (h_leadX : UInt64) (h_stage : Int32) (h_mode : Int32) (h_force : UInt64) (h_wheel : UInt64) (h_sign : Int32) (r0 : Int32) (r1 : Int32) (r2 : UInt64) (r3 : UInt64) (r4 : UInt64) (r5 : UInt64) (hf : f_X9_limit p0 p1 h_wished h_gap h_braking h_pull = some (r0, r1, r2, r3, r4, r5)) : Met l yX9_limit wsX9_limit { frames := 1, cells := 0, slots := 0, locals := 25 } (va_Pc [.ref h_a, .int p0, .double p1] (xPre D [(h_a, .inr (9, [.int h_fault, .double h_now, .double h_speed, .ref h_isThere_a, .ref h_x_a, .ref h_y_a, .ref h_v_a, .ref h_sure_a, .ref h_coast_a, .ref h_many_a, .ref h_mx_a, .ref h_my_a, .ref h_mv_a, .ref h_taken_a, .ref h_way_a, .ref h_toldFirst_a, .ref h_toldSecond_a, .ref h_speedFirst_a, .int h_differs, .int h_differing, .double h_offset, .double h_slope, .double h_curve, .double h_pedal, .double h_brake, .double h_steer, .int h_isOn, .double h_offAt, .int h_isAsked, .double h_askedAt, .int h_isStopping, .double h_wished, .double h_gap, .double h_braking, .double h_pull, .int h_lead, .double h_left, .double h_leadX, .int h_stage, .int h_mode, .double h_force, .double h_wheel, .ref h_counts_a, .int h_sign]))] [] sz)) (va_Qi (fun (x : Int32) (_ : Unit) => x = r0) (fun _ => xB D (va_A [(h_a, .inr (9, [.int h_fault, .double h_now, .double h_speed, .ref h_isThere_a, .ref h_x_a, .ref h_y_a, .ref h_v_a, .ref h_sure_a, .ref h_coast_a, .ref h_many_a, .ref h_mx_a, .ref h_my_a, .ref h_mv_a, .ref h_taken_a, .ref h_way_a, .ref h_toldFirst_a, .ref h_toldSecond_a, .ref h_speedFirst_a, .int h_differs, .int h_differing, .double h_offset, .double h_slope, .double h_curve, .double h_pedal, .double h_brake, .double h_steer, .int h_isOn, .double h_offAt, .int h_isAsked, .double h_askedAt, .int h_isStopping, .double h_wished, .double h_gap, .double h_braking, .double h_pull, .int h_lead, .double h_left, .double h_leadX, .int h_stage, .int h_mode, .double h_force, .double h_wheel, .ref h_counts_a, .int h_sign]))] sz) [(h_a, .inr (9, [.int r1, .double h_now, .double h_speed, .ref h_isThere_a, .ref h_x_a, .ref h_y_a, .ref h_v_a, .ref h_sure_a, .ref h_coast_a, .ref h_many_a, .ref h_mx_a, .ref h_my_a, .ref h_mv_a, .ref h_taken_a, .ref h_way_a, .ref h_toldFirst_a, .ref h_toldSecond_a, .ref h_speedFirst_a, .int h_differs, .int h_differing, .double h_offset, .double h_slope, .double h_curve, .double h_pedal, .double h_brake, .double h_steer, .int h_isOn, .double h_offAt, .int h_isAsked, .double h_askedAt, .int h_isStopping, .double r2, .double r3, .double r4, .double r5, .int h_lead, .double h_left, .double h_leadX, .int h_stage, .int h_mode, .double h_force, .double h_wheel, .ref h_counts_a, .int h_sign]))]) (va_A [(h_a, .inr (9, [.int h_fault, .double h_now, .double h_speed, .ref h_isThere_a, .ref h_x_a, .ref h_y_a, .ref h_v_a, .ref h_sure_a, .ref h_coast_a, .ref h_many_a, .ref h_mx_a, .ref h_my_a, .ref h_mv_a, .ref h_taken_a, .ref h_way_a, .ref h_toldFirst_a, .ref h_toldSecond_a, .ref h_speedFirst_a, .int h_differs, .int h_differing, .double h_offset, .double h_slope, .double h_curve, .double h_pedal, .double h_brake, .double h_steer, .int h_isOn, .double h_offAt, .int h_isAsked, .double h_askedAt, .int h_isStopping, .double h_wished, .double h_gap, .double h_braking, .double h_pull, .int h_lead, .double h_left, .double h_leadX, .int h_stage, .int h_mode, .double h_force, .double h_wheel, .ref h_counts_a, .int h_sign]))] sz)) 0 0 (va_A [(h_a, .inr (9, [.int h_fault, .double h_now, .double h_speed, .ref h_isThere_a, .ref h_x_a, .ref h_y_a, .ref h_v_a, .ref h_sure_a, .ref h_coast_a, .ref h_many_a, .ref h_mx_a, .ref h_my_a, .ref h_mv_a, .ref h_taken_a, .ref h_way_a, .ref h_toldFirst_a, .ref h_toldSecond_a, .ref h_speedFirst_a, .int h_differs, .int h_differing, .double h_offset, .double h_slope, .double h_curve, .double h_pedal, .double h_brake, .double h_steer, .int h_isOn, .double h_offAt, .int h_isAsked, .double h_askedAt, .int h_isStopping, .double h_wished, .double h_gap, .double h_braking, .double h_pull, .int h_lead, .double h_left, .double h_leadX, .int h_stage, .int h_mode, .double h_force, .double h_wheel, .ref h_counts_a, .int h_sign]))] sz) := by
  refine xOfW (l := l) (y := yX9_limit) (ws := wsX9_limit) (D := D) (cells := [(h_a, .inr (9, [.int h_fault, .double h_now, .double h_speed, .ref h_isThere_a, .ref h_x_a, .ref h_y_a, .ref h_v_a, .ref h_sure_a, .ref h_coast_a, .ref h_many_a, .ref h_mx_a, .ref h_my_a, .ref h_mv_a, .ref h_taken_a, .ref h_way_a, .ref h_toldFirst_a, .ref h_toldSecond_a, .ref h_speedFirst_a, .int h_differs, .int h_differing, .double h_offset, .double h_slope, .double h_curve, .double h_pedal, .double h_brake, .double h_steer, .int h_isOn, .double h_offAt, .int h_isAsked, .double h_askedAt, .int h_isStopping, .double h_wished, .double h_gap, .double h_braking, .double h_pull, .int h_lead, .double h_left, .double h_leadX, .int h_stage, .int h_mode, .double h_force, .double h_wheel, .ref h_counts_a, .int h_sign]))]) (tys := []) (sz := sz) (av := [.ref h_a, .int p0, .double p1]) (cc := cX9_limit) (maxL := 5) (ret := (some .int)) (fun A => va_Qi (fun (x : Int32) (_ : Unit) => x = r0) (fun _ => xB D A [(h_a, .inr (9, [.int r1, .double h_now, .double h_speed, .ref h_isThere_a, .ref h_x_a, .ref h_y_a, .ref h_v_a, .ref h_sure_a, .ref h_coast_a, .ref h_many_a, .ref h_mx_a, .ref h_my_a, .ref h_mv_a, .ref h_taken_a, .ref h_way_a, .ref h_toldFirst_a, .ref h_toldSecond_a, .ref h_speedFirst_a, .int h_differs, .int h_differing, .double h_offset, .double h_slope, .double h_curve, .double h_pedal, .double h_brake, .double h_steer, .int h_isOn, .double h_offAt, .int h_isAsked, .double h_askedAt, .int h_isStopping, .double r2, .double r3, .double r4, .double r5, .int h_lead, .double h_left, .double h_leadX, .int h_stage, .int h_mode, .double h_force, .double h_wheel, .ref h_counts_a, .int h_sign]))]) A) (by decide) rfl (Nat.le_of_ble_eq_true rfl) ?_
  intro p e s m below meth c A H ls hx hb hr hml hown hlk hts hP hK hD hS hA hN hl
  have hl : lv_has ls 5 [(0, .ref h_a), (1, .int p0), (2, .double p1)] := hl
  have hown : s.vm.findClass RX9 = some m.cls := hown
  have ef0 : f_X9_limit p0 p1 h_wished h_gap h_braking h_pull = some (r0, r1, r2, r3, r4, r5) := hf
  rewrite [f_X9_limit] at ef0
  refine lv_aload_n hx hb dX9_limit_0 rfl (lv_at hl 0 rfl) ?_
  refine lv_iconst (v := (0 : Int32)) hx hb dX9_limit_1 (by decide) ?_
  refine va_put (D := D) (ci := 9) (v := .int (0 : Int32)) (ty := .int) (C := RX9) (T := TX9) (N := 44) hx hb hts in_wsX9_limit_X9 tyX9 tyX9_ok nmX9 hown hK hP hD hS 0 rfl rfl 0 (by decide) (hts (.fieldLink RX9 92 "AssistRowsModel" "fault" "I") (List.mem_of_getElem? (i := 1) rfl)) (fun _ h9 => h9) rfl (by decide +kernel) rfl rfl (Nat.le_of_ble_eq_true rfl) dX9_limit_2 (fun H locs hP hD hS => ?_)
  have hP : va_P D vwCl [(h_a, .inr (9, [.int (0 : Int32), .double h_now, .double h_speed, .ref h_isThere_a, .ref h_x_a, .ref h_y_a, .ref h_v_a, .ref h_sure_a, .ref h_coast_a, .ref h_many_a, .ref h_mx_a, .ref h_my_a, .ref h_mv_a, .ref h_taken_a, .ref h_way_a, .ref h_toldFirst_a, .ref h_toldSecond_a, .ref h_speedFirst_a, .int h_differs, .int h_differing, .double h_offset, .double h_slope, .double h_curve, .double h_pedal, .double h_brake, .double h_steer, .int h_isOn, .double h_offAt, .int h_isAsked, .double h_askedAt, .int h_isStopping, .double h_wished, .double h_gap, .double h_braking, .double h_pull, .int h_lead, .double h_left, .double h_leadX, .int h_stage, .int h_mode, .double h_force, .double h_wheel, .ref h_counts_a, .int h_sign]))] H := hP
  have hD : va_D A [(h_a, .inr (9, [.int (0 : Int32), .double h_now, .double h_speed, .ref h_isThere_a, .ref h_x_a, .ref h_y_a, .ref h_v_a, .ref h_sure_a, .ref h_coast_a, .ref h_many_a, .ref h_mx_a, .ref h_my_a, .ref h_mv_a, .ref h_taken_a, .ref h_way_a, .ref h_toldFirst_a, .ref h_toldSecond_a, .ref h_speedFirst_a, .int h_differs, .int h_differing, .double h_offset, .double h_slope, .double h_curve, .double h_pedal, .double h_brake, .double h_steer, .int h_isOn, .double h_offAt, .int h_isAsked, .double h_askedAt, .int h_isStopping, .double h_wished, .double h_gap, .double h_braking, .double h_pull, .int h_lead, .double h_left, .double h_leadX, .int h_stage, .int h_mode, .double h_force, .double h_wheel, .ref h_counts_a, .int h_sign]))] := hD
  refine lv_iload_n hx hb dX9_limit_5 rfl (lv_at hl 1 rfl) ?_
  refine lv_if_lt (tgt := 14) hx hb dX9_limit_6 (by decide) (fun c1 => ?_) (fun c1 => ?_)
  · have ef0 := ift ef0 c1
    refine lv_iconst (v := (-1 : Int32)) hx hb dX9_limit_14 (by decide) ?_
    have q0 := Option.some.inj ef0
    obtain ⟨t0, q1⟩ := Prod.mk.inj q0
    obtain ⟨t1, q2⟩ := Prod.mk.inj q1
    obtain ⟨t2, q3⟩ := Prod.mk.inj q2
    obtain ⟨t3, q4⟩ := Prod.mk.inj q3
    obtain ⟨t4, q5⟩ := Prod.mk.inj q4
    exact xIret t0 (by rw [← t1, ← t2, ← t3, ← t4, ← q5]) hx hb hr hlk hP hD hS dX9_limit_15
  · have ef0 := iff_ ef0 c1
    refine lv_iload_n hx hb dX9_limit_9 rfl (lv_at hl 1 rfl) ?_
    refine lv_iconst (v := (3 : Int32)) hx hb dX9_limit_10 (by decide) ?_
    refine lv_icmp_le (tgt := 16) hx hb dX9_limit_11 (by decide) (fun c2 => ?_) (fun c2 => ?_)
    · have ef0 := ift ef0 c2
      refine lv_iload_n hx hb dX9_limit_16 rfl (lv_at hl 1 rfl) ?_
      refine xCut (ι := Int32) (fun z H locs ls => f_X9_limit_j1 h_wished h_gap h_braking h_pull p0 p1 z = some (r0, r1, r2, r3, r4, r5) ∧ va_P D vwCl [(h_a, .inr (9, [.int (0 : Int32), .double h_now, .double h_speed, .ref h_isThere_a, .ref h_x_a, .ref h_y_a, .ref h_v_a, .ref h_sure_a, .ref h_coast_a, .ref h_many_a, .ref h_mx_a, .ref h_my_a, .ref h_mv_a, .ref h_taken_a, .ref h_way_a, .ref h_toldFirst_a, .ref h_toldSecond_a, .ref h_speedFirst_a, .int h_differs, .int h_differing, .double h_offset, .double h_slope, .double h_curve, .double h_pedal, .double h_brake, .double h_steer, .int h_isOn, .double h_offAt, .int h_isAsked, .double h_askedAt, .int h_isStopping, .double h_wished, .double h_gap, .double h_braking, .double h_pull, .int h_lead, .double h_left, .double h_leadX, .int h_stage, .int h_mode, .double h_force, .double h_wheel, .ref h_counts_a, .int h_sign]))] H ∧ va_D A [(h_a, .inr (9, [.int (0 : Int32), .double h_now, .double h_speed, .ref h_isThere_a, .ref h_x_a, .ref h_y_a, .ref h_v_a, .ref h_sure_a, .ref h_coast_a, .ref h_many_a, .ref h_mx_a, .ref h_my_a, .ref h_mv_a, .ref h_taken_a, .ref h_way_a, .ref h_toldFirst_a, .ref h_toldSecond_a, .ref h_speedFirst_a, .int h_differs, .int h_differing, .double h_offset, .double h_slope, .double h_curve, .double h_pedal, .double h_brake, .double h_steer, .int h_isOn, .double h_offAt, .int h_isAsked, .double h_askedAt, .int h_isStopping, .double h_wished, .double h_gap, .double h_braking, .double h_pull, .int h_lead, .double h_left, .double h_leadX, .int h_stage, .int h_mode, .double h_force, .double h_wheel, .ref h_counts_a, .int h_sign]))] ∧ va_S A s.heap H locs ∧ lv_has ls 5 [(0, .ref h_a), (1, .int p0), (2, .double p1)]) 73 (fun z => [.int z]) ?_ (fun K1 => ?_)
      · intro z H locs ls hz
        obtain ⟨b10, rfl⟩ : ∃ q, q = z := ⟨z, rfl⟩
        obtain ⟨ef0, hP, hD, hS, hl⟩ := hz
        have ef0 : f_X9_limit_j1 h_wished h_gap h_braking h_pull p0 p1 b10 = some (r0, r1, r2, r3, r4, r5) := ef0
        have hP : va_P D vwCl [(h_a, .inr (9, [.int (0 : Int32), .double h_now, .double h_speed, .ref h_isThere_a, .ref h_x_a, .ref h_y_a, .ref h_v_a, .ref h_sure_a, .ref h_coast_a, .ref h_many_a, .ref h_mx_a, .ref h_my_a, .ref h_mv_a, .ref h_taken_a, .ref h_way_a, .ref h_toldFirst_a, .ref h_toldSecond_a, .ref h_speedFirst_a, .int h_differs, .int h_differing, .double h_offset, .double h_slope, .double h_curve, .double h_pedal, .double h_brake, .double h_steer, .int h_isOn, .double h_offAt, .int h_isAsked, .double h_askedAt, .int h_isStopping, .double h_wished, .double h_gap, .double h_braking, .double h_pull, .int h_lead, .double h_left, .double h_leadX, .int h_stage, .int h_mode, .double h_force, .double h_wheel, .ref h_counts_a, .int h_sign]))] H := hP
        have hD : va_D A [(h_a, .inr (9, [.int (0 : Int32), .double h_now, .double h_speed, .ref h_isThere_a, .ref h_x_a, .ref h_y_a, .ref h_v_a, .ref h_sure_a, .ref h_coast_a, .ref h_many_a, .ref h_mx_a, .ref h_my_a, .ref h_mv_a, .ref h_taken_a, .ref h_way_a, .ref h_toldFirst_a, .ref h_toldSecond_a, .ref h_speedFirst_a, .int h_differs, .int h_differing, .double h_offset, .double h_slope, .double h_curve, .double h_pedal, .double h_brake, .double h_steer, .int h_isOn, .double h_offAt, .int h_isAsked, .double h_askedAt, .int h_isStopping, .double h_wished, .double h_gap, .double h_braking, .double h_pull, .int h_lead, .double h_left, .double h_leadX, .int h_stage, .int h_mode, .double h_force, .double h_wheel, .ref h_counts_a, .int h_sign]))] := hD
        have hl : lv_has ls 5 [(0, .ref h_a), (1, .int p0), (2, .double p1)] := hl
        rewrite [f_X9_limit_j1] at ef0
        refine W.eq (g2 := F0 m 73 ls [.int b10]) rfl ?_
        refine lv_istore (lv' := [(4, .int b10), (0, .ref h_a), (1, .int p0), (2, .double p1)]) hx hb dX9_limit_73 hl (by decide) rfl (fun ls hl => ?_)
        refine lv_iload hx hb dX9_limit_75 (lv_at hl 0 rfl) ?_
        refine lv_if_ne (tgt := 83) hx hb dX9_limit_77 (by decide) (fun c11 => ?_) (fun c11 => ?_)
        · have ef0 := iff_ ef0 c11
          refine lv_iload_n hx hb dX9_limit_83 rfl (lv_at hl 2 rfl) ?_
          refine lv_if_ne (tgt := 95) hx hb dX9_limit_84 (by decide) (fun c12 => ?_) (fun c12 => ?_)
          · have ef0 := iff_ ef0 c12
            refine lv_iload_n hx hb dX9_limit_95 rfl (lv_at hl 2 rfl) ?_
            refine lv_iconst (v := (1 : Int32)) hx hb dX9_limit_96 (by decide) ?_
            refine lv_icmp_ne (tgt := 108) hx hb dX9_limit_97 (by decide) (fun c13 => ?_) (fun c13 => ?_)
            · have ef0 := iff_ ef0 c13
              refine lv_iload_n hx hb dX9_limit_108 rfl (lv_at hl 2 rfl) ?_
              refine lv_iconst (v := (2 : Int32)) hx hb dX9_limit_109 (by decide) ?_
              refine lv_icmp_ne (tgt := 121) hx hb dX9_limit_110 (by decide) (fun c14 => ?_) (fun c14 => ?_)
              · have ef0 := iff_ ef0 c14
                refine lv_aload_n hx hb dX9_limit_121 rfl (lv_at hl 1 rfl) ?_
                refine lv_dload_n hx hb dX9_limit_122 rfl (lv_at hl 3 rfl) ?_
                refine va_put (D := D) (ci := 9) (v := .double p1) (ty := .double) (C := RX9) (T := TX9) (N := 44) hx hb hts in_wsX9_limit_X9 tyX9 tyX9_ok nmX9 hown hK hP hD hS 0 rfl rfl 34 (by decide) (hts (.fieldLink RX9 74 "AssistRowsModel" "pull" "D") (List.mem_of_getElem? (i := 9) rfl)) (fun _ h9 => h9) rfl (by decide +kernel) rfl rfl (Nat.le_of_ble_eq_true rfl) dX9_limit_123 (fun H locs hP hD hS => ?_)
                have hP : va_P D vwCl [(h_a, .inr (9, [.int (0 : Int32), .double h_now, .double h_speed, .ref h_isThere_a, .ref h_x_a, .ref h_y_a, .ref h_v_a, .ref h_sure_a, .ref h_coast_a, .ref h_many_a, .ref h_mx_a, .ref h_my_a, .ref h_mv_a, .ref h_taken_a, .ref h_way_a, .ref h_toldFirst_a, .ref h_toldSecond_a, .ref h_speedFirst_a, .int h_differs, .int h_differing, .double h_offset, .double h_slope, .double h_curve, .double h_pedal, .double h_brake, .double h_steer, .int h_isOn, .double h_offAt, .int h_isAsked, .double h_askedAt, .int h_isStopping, .double h_wished, .double h_gap, .double h_braking, .double p1, .int h_lead, .double h_left, .double h_leadX, .int h_stage, .int h_mode, .double h_force, .double h_wheel, .ref h_counts_a, .int h_sign]))] H := hP
                have hD : va_D A [(h_a, .inr (9, [.int (0 : Int32), .double h_now, .double h_speed, .ref h_isThere_a, .ref h_x_a, .ref h_y_a, .ref h_v_a, .ref h_sure_a, .ref h_coast_a, .ref h_many_a, .ref h_mx_a, .ref h_my_a, .ref h_mv_a, .ref h_taken_a, .ref h_way_a, .ref h_toldFirst_a, .ref h_toldSecond_a, .ref h_speedFirst_a, .int h_differs, .int h_differing, .double h_offset, .double h_slope, .double h_curve, .double h_pedal, .double h_brake, .double h_steer, .int h_isOn, .double h_offAt, .int h_isAsked, .double h_askedAt, .int h_isStopping, .double h_wished, .double h_gap, .double h_braking, .double p1, .int h_lead, .double h_left, .double h_leadX, .int h_stage, .int h_mode, .double h_force, .double h_wheel, .ref h_counts_a, .int h_sign]))] := hD
                refine lv_iconst (v := (1 : Int32)) hx hb dX9_limit_126 (by decide) ?_
                have q0 := Option.some.inj ef0
                obtain ⟨t0, q1⟩ := Prod.mk.inj q0
                obtain ⟨t1, q2⟩ := Prod.mk.inj q1
                obtain ⟨t2, q3⟩ := Prod.mk.inj q2
                obtain ⟨t3, q4⟩ := Prod.mk.inj q3
                obtain ⟨t4, q5⟩ := Prod.mk.inj q4
                exact xIret t0 (by rw [← t1, ← t2, ← t3, ← t4, ← q5]) hx hb hr hlk hP hD hS dX9_limit_127
              · have ef0 := ift ef0 c14
                refine lv_aload_n hx hb dX9_limit_113 rfl (lv_at hl 1 rfl) ?_
                refine lv_dload_n hx hb dX9_limit_114 rfl (lv_at hl 3 rfl) ?_
                refine va_put (D := D) (ci := 9) (v := .double p1) (ty := .double) (C := RX9) (T := TX9) (N := 44) hx hb hts in_wsX9_limit_X9 tyX9 tyX9_ok nmX9 hown hK hP hD hS 0 rfl rfl 33 (by decide) (hts (.fieldLink RX9 69 "AssistRowsModel" "braking" "D") (List.mem_of_getElem? (i := 8) rfl)) (fun _ h9 => h9) rfl (by decide +kernel) rfl rfl (Nat.le_of_ble_eq_true rfl) dX9_limit_115 (fun H locs hP hD hS => ?_)
                have hP : va_P D vwCl [(h_a, .inr (9, [.int (0 : Int32), .double h_now, .double h_speed, .ref h_isThere_a, .ref h_x_a, .ref h_y_a, .ref h_v_a, .ref h_sure_a, .ref h_coast_a, .ref h_many_a, .ref h_mx_a, .ref h_my_a, .ref h_mv_a, .ref h_taken_a, .ref h_way_a, .ref h_toldFirst_a, .ref h_toldSecond_a, .ref h_speedFirst_a, .int h_differs, .int h_differing, .double h_offset, .double h_slope, .double h_curve, .double h_pedal, .double h_brake, .double h_steer, .int h_isOn, .double h_offAt, .int h_isAsked, .double h_askedAt, .int h_isStopping, .double h_wished, .double h_gap, .double p1, .double h_pull, .int h_lead, .double h_left, .double h_leadX, .int h_stage, .int h_mode, .double h_force, .double h_wheel, .ref h_counts_a, .int h_sign]))] H := hP
                have hD : va_D A [(h_a, .inr (9, [.int (0 : Int32), .double h_now, .double h_speed, .ref h_isThere_a, .ref h_x_a, .ref h_y_a, .ref h_v_a, .ref h_sure_a, .ref h_coast_a, .ref h_many_a, .ref h_mx_a, .ref h_my_a, .ref h_mv_a, .ref h_taken_a, .ref h_way_a, .ref h_toldFirst_a, .ref h_toldSecond_a, .ref h_speedFirst_a, .int h_differs, .int h_differing, .double h_offset, .double h_slope, .double h_curve, .double h_pedal, .double h_brake, .double h_steer, .int h_isOn, .double h_offAt, .int h_isAsked, .double h_askedAt, .int h_isStopping, .double h_wished, .double h_gap, .double p1, .double h_pull, .int h_lead, .double h_left, .double h_leadX, .int h_stage, .int h_mode, .double h_force, .double h_wheel, .ref h_counts_a, .int h_sign]))] := hD
                refine lv_goto (tgt := 126) hx hb dX9_limit_118 (by decide) ?_
                refine lv_iconst (v := (1 : Int32)) hx hb dX9_limit_126 (by decide) ?_
                have q0 := Option.some.inj ef0
                obtain ⟨t0, q1⟩ := Prod.mk.inj q0
                obtain ⟨t1, q2⟩ := Prod.mk.inj q1
                obtain ⟨t2, q3⟩ := Prod.mk.inj q2
                obtain ⟨t3, q4⟩ := Prod.mk.inj q3
                obtain ⟨t4, q5⟩ := Prod.mk.inj q4
                exact xIret t0 (by rw [← t1, ← t2, ← t3, ← t4, ← q5]) hx hb hr hlk hP hD hS dX9_limit_127
            · have ef0 := ift ef0 c13
              refine lv_aload_n hx hb dX9_limit_100 rfl (lv_at hl 1 rfl) ?_
              refine lv_dload_n hx hb dX9_limit_101 rfl (lv_at hl 3 rfl) ?_
              refine va_put (D := D) (ci := 9) (v := .double p1) (ty := .double) (C := RX9) (T := TX9) (N := 44) hx hb hts in_wsX9_limit_X9 tyX9 tyX9_ok nmX9 hown hK hP hD hS 0 rfl rfl 32 (by decide) (hts (.fieldLink RX9 63 "AssistRowsModel" "gap" "D") (List.mem_of_getElem? (i := 7) rfl)) (fun _ h9 => h9) rfl (by decide +kernel) rfl rfl (Nat.le_of_ble_eq_true rfl) dX9_limit_102 (fun H locs hP hD hS => ?_)
              have hP : va_P D vwCl [(h_a, .inr (9, [.int (0 : Int32), .double h_now, .double h_speed, .ref h_isThere_a, .ref h_x_a, .ref h_y_a, .ref h_v_a, .ref h_sure_a, .ref h_coast_a, .ref h_many_a, .ref h_mx_a, .ref h_my_a, .ref h_mv_a, .ref h_taken_a, .ref h_way_a, .ref h_toldFirst_a, .ref h_toldSecond_a, .ref h_speedFirst_a, .int h_differs, .int h_differing, .double h_offset, .double h_slope, .double h_curve, .double h_pedal, .double h_brake, .double h_steer, .int h_isOn, .double h_offAt, .int h_isAsked, .double h_askedAt, .int h_isStopping, .double h_wished, .double p1, .double h_braking, .double h_pull, .int h_lead, .double h_left, .double h_leadX, .int h_stage, .int h_mode, .double h_force, .double h_wheel, .ref h_counts_a, .int h_sign]))] H := hP
              have hD : va_D A [(h_a, .inr (9, [.int (0 : Int32), .double h_now, .double h_speed, .ref h_isThere_a, .ref h_x_a, .ref h_y_a, .ref h_v_a, .ref h_sure_a, .ref h_coast_a, .ref h_many_a, .ref h_mx_a, .ref h_my_a, .ref h_mv_a, .ref h_taken_a, .ref h_way_a, .ref h_toldFirst_a, .ref h_toldSecond_a, .ref h_speedFirst_a, .int h_differs, .int h_differing, .double h_offset, .double h_slope, .double h_curve, .double h_pedal, .double h_brake, .double h_steer, .int h_isOn, .double h_offAt, .int h_isAsked, .double h_askedAt, .int h_isStopping, .double h_wished, .double p1, .double h_braking, .double h_pull, .int h_lead, .double h_left, .double h_leadX, .int h_stage, .int h_mode, .double h_force, .double h_wheel, .ref h_counts_a, .int h_sign]))] := hD
              refine lv_goto (tgt := 126) hx hb dX9_limit_105 (by decide) ?_
              refine lv_iconst (v := (1 : Int32)) hx hb dX9_limit_126 (by decide) ?_
              have q0 := Option.some.inj ef0
              obtain ⟨t0, q1⟩ := Prod.mk.inj q0
              obtain ⟨t1, q2⟩ := Prod.mk.inj q1
              obtain ⟨t2, q3⟩ := Prod.mk.inj q2
              obtain ⟨t3, q4⟩ := Prod.mk.inj q3
              obtain ⟨t4, q5⟩ := Prod.mk.inj q4
              exact xIret t0 (by rw [← t1, ← t2, ← t3, ← t4, ← q5]) hx hb hr hlk hP hD hS dX9_limit_127
          · have ef0 := ift ef0 c12
            refine lv_aload_n hx hb dX9_limit_87 rfl (lv_at hl 1 rfl) ?_
            refine lv_dload_n hx hb dX9_limit_88 rfl (lv_at hl 3 rfl) ?_
            refine va_put (D := D) (ci := 9) (v := .double p1) (ty := .double) (C := RX9) (T := TX9) (N := 44) hx hb hts in_wsX9_limit_X9 tyX9 tyX9_ok nmX9 hown hK hP hD hS 0 rfl rfl 31 (by decide) (hts (.fieldLink RX9 146 "AssistRowsModel" "wished" "D") (List.mem_of_getElem? (i := 6) rfl)) (fun _ h9 => h9) rfl (by decide +kernel) rfl rfl (Nat.le_of_ble_eq_true rfl) dX9_limit_89 (fun H locs hP hD hS => ?_)
            have hP : va_P D vwCl [(h_a, .inr (9, [.int (0 : Int32), .double h_now, .double h_speed, .ref h_isThere_a, .ref h_x_a, .ref h_y_a, .ref h_v_a, .ref h_sure_a, .ref h_coast_a, .ref h_many_a, .ref h_mx_a, .ref h_my_a, .ref h_mv_a, .ref h_taken_a, .ref h_way_a, .ref h_toldFirst_a, .ref h_toldSecond_a, .ref h_speedFirst_a, .int h_differs, .int h_differing, .double h_offset, .double h_slope, .double h_curve, .double h_pedal, .double h_brake, .double h_steer, .int h_isOn, .double h_offAt, .int h_isAsked, .double h_askedAt, .int h_isStopping, .double p1, .double h_gap, .double h_braking, .double h_pull, .int h_lead, .double h_left, .double h_leadX, .int h_stage, .int h_mode, .double h_force, .double h_wheel, .ref h_counts_a, .int h_sign]))] H := hP
            have hD : va_D A [(h_a, .inr (9, [.int (0 : Int32), .double h_now, .double h_speed, .ref h_isThere_a, .ref h_x_a, .ref h_y_a, .ref h_v_a, .ref h_sure_a, .ref h_coast_a, .ref h_many_a, .ref h_mx_a, .ref h_my_a, .ref h_mv_a, .ref h_taken_a, .ref h_way_a, .ref h_toldFirst_a, .ref h_toldSecond_a, .ref h_speedFirst_a, .int h_differs, .int h_differing, .double h_offset, .double h_slope, .double h_curve, .double h_pedal, .double h_brake, .double h_steer, .int h_isOn, .double h_offAt, .int h_isAsked, .double h_askedAt, .int h_isStopping, .double p1, .double h_gap, .double h_braking, .double h_pull, .int h_lead, .double h_left, .double h_leadX, .int h_stage, .int h_mode, .double h_force, .double h_wheel, .ref h_counts_a, .int h_sign]))] := hD
            refine lv_goto (tgt := 126) hx hb dX9_limit_92 (by decide) ?_
            refine lv_iconst (v := (1 : Int32)) hx hb dX9_limit_126 (by decide) ?_
            have q0 := Option.some.inj ef0
            obtain ⟨t0, q1⟩ := Prod.mk.inj q0
            obtain ⟨t1, q2⟩ := Prod.mk.inj q1
            obtain ⟨t2, q3⟩ := Prod.mk.inj q2
            obtain ⟨t3, q4⟩ := Prod.mk.inj q3
            obtain ⟨t4, q5⟩ := Prod.mk.inj q4
            exact xIret t0 (by rw [← t1, ← t2, ← t3, ← t4, ← q5]) hx hb hr hlk hP hD hS dX9_limit_127
        · have ef0 := ift ef0 c11
          refine lv_bipush (v := (-2 : Int32)) hx hb dX9_limit_80 (by decide) ?_
          have q0 := Option.some.inj ef0
          obtain ⟨t0, q1⟩ := Prod.mk.inj q0
          obtain ⟨t1, q2⟩ := Prod.mk.inj q1
          obtain ⟨t2, q3⟩ := Prod.mk.inj q2
          obtain ⟨t3, q4⟩ := Prod.mk.inj q3
          obtain ⟨t4, q5⟩ := Prod.mk.inj q4
          exact xIret t0 (by rw [← t1, ← t2, ← t3, ← t4, ← q5]) hx hb hr hlk hP hD hS dX9_limit_82
      refine lv_if_ne (tgt := 31) hx hb dX9_limit_17 (by decide) (fun c3 => ?_) (fun c3 => ?_)
      · have ef0 := iff_ ef0 c3
        refine lv_iload_n hx hb dX9_limit_31 rfl (lv_at hl 1 rfl) ?_
        refine lv_iconst (v := (1 : Int32)) hx hb dX9_limit_32 (by decide) ?_
        refine lv_icmp_ne (tgt := 49) hx hb dX9_limit_33 (by decide) (fun c4 => ?_) (fun c4 => ?_)
        · have ef0 := iff_ ef0 c4
          refine lv_iload_n hx hb dX9_limit_49 rfl (lv_at hl 1 rfl) ?_
          refine lv_iconst (v := (2 : Int32)) hx hb dX9_limit_50 (by decide) ?_
          refine lv_icmp_ne (tgt := 65) hx hb dX9_limit_51 (by decide) (fun c5 => ?_) (fun c5 => ?_)
          · have ef0 := iff_ ef0 c5
            refine lv_dload_n hx hb dX9_limit_65 rfl (lv_at hl 2 rfl) ?_
            refine lv_dconst0 hx hb dX9_limit_66 ?_
            refine lv_ldc2d hx hb hown (hts (.constantDouble RX9 144 (4613937818241073152)) (List.mem_of_getElem? (i := 4) rfl)) dX9_limit_67 ?_
            obtain ⟨u6, hu6, ef0⟩ := bd_of ef0
            refine xCalli (wr := [(h_a, .inr (9, [.int (0 : Int32), .double h_now, .double h_speed, .ref h_isThere_a, .ref h_x_a, .ref h_y_a, .ref h_v_a, .ref h_sure_a, .ref h_coast_a, .ref h_many_a, .ref h_mx_a, .ref h_my_a, .ref h_mv_a, .ref h_taken_a, .ref h_way_a, .ref h_toldFirst_a, .ref h_toldSecond_a, .ref h_speedFirst_a, .int h_differs, .int h_differing, .double h_offset, .double h_slope, .double h_curve, .double h_pedal, .double h_brake, .double h_steer, .int h_isOn, .double h_offAt, .int h_isAsked, .double h_askedAt, .int h_isStopping, .double h_wished, .double h_gap, .double h_braking, .double h_pull, .int h_lead, .double h_left, .double h_leadX, .int h_stage, .int h_mode, .double h_force, .double h_wheel, .ref h_counts_a, .int h_sign]))]) (wn := [(h_a, .inr (9, [.int (0 : Int32), .double h_now, .double h_speed, .ref h_isThere_a, .ref h_x_a, .ref h_y_a, .ref h_v_a, .ref h_sure_a, .ref h_coast_a, .ref h_many_a, .ref h_mx_a, .ref h_my_a, .ref h_mv_a, .ref h_taken_a, .ref h_way_a, .ref h_toldFirst_a, .ref h_toldSecond_a, .ref h_speedFirst_a, .int h_differs, .int h_differing, .double h_offset, .double h_slope, .double h_curve, .double h_pedal, .double h_brake, .double h_steer, .int h_isOn, .double h_offAt, .int h_isAsked, .double h_askedAt, .int h_isStopping, .double h_wished, .double h_gap, .double h_braking, .double h_pull, .int h_lead, .double h_left, .double h_leadX, .int h_stage, .int h_mode, .double h_force, .double h_wheel, .ref h_counts_a, .int h_sign]))]) [] [0] [0] (va_runS (As := [.double p1, .double FP.dconst0, .double (4613937818241073152 : UInt64)]) (rest := []) ⟨hx, hb, hml, hown, hts⟩ (c_X9_in l D H.size p1 FP.dconst0 (4613937818241073152 : UInt64) u6 hu6) (va_cwS 3 hts gX9_limit_X9_in rfl rfl rfl (by decide +kernel) ⟨Nat.le_of_ble_eq_true rfl, Nat.le_of_ble_eq_true rfl⟩) (xPreS hP hD hK hN [] rfl rfl [] rfl) rfl rfl hl.1 rfl (lv_room (Nat.le_of_ble_eq_true rfl)) dX9_limit_70 ⟨Nat.zero_le _, Nat.zero_le _⟩) hP hD hS hA rfl rfl rfl (by decide) rfl rfl (fun H locs hP hD hS => ?_)
            exact K1 u6 _ _ _ ⟨ef0, hP, hD, hS, lv_sub hl [0, 1, 2] rfl⟩
          · have ef0 := ift ef0 c5
            refine lv_dload_n hx hb dX9_limit_54 rfl (lv_at hl 2 rfl) ?_
            refine lv_dconst1 hx hb dX9_limit_55 ?_
            refine lv_ldc2d hx hb hown (hts (.constantDouble RX9 67 (4621256167635550208)) (List.mem_of_getElem? (i := 5) rfl)) dX9_limit_56 ?_
            obtain ⟨u7, hu7, ef0⟩ := bd_of ef0
            refine xCalli (wr := [(h_a, .inr (9, [.int (0 : Int32), .double h_now, .double h_speed, .ref h_isThere_a, .ref h_x_a, .ref h_y_a, .ref h_v_a, .ref h_sure_a, .ref h_coast_a, .ref h_many_a, .ref h_mx_a, .ref h_my_a, .ref h_mv_a, .ref h_taken_a, .ref h_way_a, .ref h_toldFirst_a, .ref h_toldSecond_a, .ref h_speedFirst_a, .int h_differs, .int h_differing, .double h_offset, .double h_slope, .double h_curve, .double h_pedal, .double h_brake, .double h_steer, .int h_isOn, .double h_offAt, .int h_isAsked, .double h_askedAt, .int h_isStopping, .double h_wished, .double h_gap, .double h_braking, .double h_pull, .int h_lead, .double h_left, .double h_leadX, .int h_stage, .int h_mode, .double h_force, .double h_wheel, .ref h_counts_a, .int h_sign]))]) (wn := [(h_a, .inr (9, [.int (0 : Int32), .double h_now, .double h_speed, .ref h_isThere_a, .ref h_x_a, .ref h_y_a, .ref h_v_a, .ref h_sure_a, .ref h_coast_a, .ref h_many_a, .ref h_mx_a, .ref h_my_a, .ref h_mv_a, .ref h_taken_a, .ref h_way_a, .ref h_toldFirst_a, .ref h_toldSecond_a, .ref h_speedFirst_a, .int h_differs, .int h_differing, .double h_offset, .double h_slope, .double h_curve, .double h_pedal, .double h_brake, .double h_steer, .int h_isOn, .double h_offAt, .int h_isAsked, .double h_askedAt, .int h_isStopping, .double h_wished, .double h_gap, .double h_braking, .double h_pull, .int h_lead, .double h_left, .double h_leadX, .int h_stage, .int h_mode, .double h_force, .double h_wheel, .ref h_counts_a, .int h_sign]))]) [] [0] [0] (va_runS (As := [.double p1, .double FP.dconst1, .double (4621256167635550208 : UInt64)]) (rest := []) ⟨hx, hb, hml, hown, hts⟩ (c_X9_in l D H.size p1 FP.dconst1 (4621256167635550208 : UInt64) u7 hu7) (va_cwS 3 hts gX9_limit_X9_in rfl rfl rfl (by decide +kernel) ⟨Nat.le_of_ble_eq_true rfl, Nat.le_of_ble_eq_true rfl⟩) (xPreS hP hD hK hN [] rfl rfl [] rfl) rfl rfl hl.1 rfl (lv_room (Nat.le_of_ble_eq_true rfl)) dX9_limit_59 ⟨Nat.zero_le _, Nat.zero_le _⟩) hP hD hS hA rfl rfl rfl (by decide) rfl rfl (fun H locs hP hD hS => ?_)
            refine lv_goto (tgt := 73) hx hb dX9_limit_62 (by decide) ?_
            exact K1 u7 _ _ _ ⟨ef0, hP, hD, hS, lv_sub hl [0, 1, 2] rfl⟩
        · have ef0 := ift ef0 c4
          refine lv_dload_n hx hb dX9_limit_36 rfl (lv_at hl 2 rfl) ?_
          refine lv_ldc2d hx hb hown (hts (.constantDouble RX9 142 (4602678819172646912)) (List.mem_of_getElem? (i := 3) rfl)) dX9_limit_37 ?_
          refine lv_ldc2d hx hb hown (hts (.constantDouble RX9 144 (4613937818241073152)) (List.mem_of_getElem? (i := 4) rfl)) dX9_limit_40 ?_
          obtain ⟨u8, hu8, ef0⟩ := bd_of ef0
          refine xCalli (wr := [(h_a, .inr (9, [.int (0 : Int32), .double h_now, .double h_speed, .ref h_isThere_a, .ref h_x_a, .ref h_y_a, .ref h_v_a, .ref h_sure_a, .ref h_coast_a, .ref h_many_a, .ref h_mx_a, .ref h_my_a, .ref h_mv_a, .ref h_taken_a, .ref h_way_a, .ref h_toldFirst_a, .ref h_toldSecond_a, .ref h_speedFirst_a, .int h_differs, .int h_differing, .double h_offset, .double h_slope, .double h_curve, .double h_pedal, .double h_brake, .double h_steer, .int h_isOn, .double h_offAt, .int h_isAsked, .double h_askedAt, .int h_isStopping, .double h_wished, .double h_gap, .double h_braking, .double h_pull, .int h_lead, .double h_left, .double h_leadX, .int h_stage, .int h_mode, .double h_force, .double h_wheel, .ref h_counts_a, .int h_sign]))]) (wn := [(h_a, .inr (9, [.int (0 : Int32), .double h_now, .double h_speed, .ref h_isThere_a, .ref h_x_a, .ref h_y_a, .ref h_v_a, .ref h_sure_a, .ref h_coast_a, .ref h_many_a, .ref h_mx_a, .ref h_my_a, .ref h_mv_a, .ref h_taken_a, .ref h_way_a, .ref h_toldFirst_a, .ref h_toldSecond_a, .ref h_speedFirst_a, .int h_differs, .int h_differing, .double h_offset, .double h_slope, .double h_curve, .double h_pedal, .double h_brake, .double h_steer, .int h_isOn, .double h_offAt, .int h_isAsked, .double h_askedAt, .int h_isStopping, .double h_wished, .double h_gap, .double h_braking, .double h_pull, .int h_lead, .double h_left, .double h_leadX, .int h_stage, .int h_mode, .double h_force, .double h_wheel, .ref h_counts_a, .int h_sign]))]) [] [0] [0] (va_runS (As := [.double p1, .double (4602678819172646912 : UInt64), .double (4613937818241073152 : UInt64)]) (rest := []) ⟨hx, hb, hml, hown, hts⟩ (c_X9_in l D H.size p1 (4602678819172646912 : UInt64) (4613937818241073152 : UInt64) u8 hu8) (va_cwS 3 hts gX9_limit_X9_in rfl rfl rfl (by decide +kernel) ⟨Nat.le_of_ble_eq_true rfl, Nat.le_of_ble_eq_true rfl⟩) (xPreS hP hD hK hN [] rfl rfl [] rfl) rfl rfl hl.1 rfl (lv_room (Nat.le_of_ble_eq_true rfl)) dX9_limit_43 ⟨Nat.zero_le _, Nat.zero_le _⟩) hP hD hS hA rfl rfl rfl (by decide) rfl rfl (fun H locs hP hD hS => ?_)
          refine lv_goto (tgt := 73) hx hb dX9_limit_46 (by decide) ?_
          exact K1 u8 _ _ _ ⟨ef0, hP, hD, hS, lv_sub hl [0, 1, 2] rfl⟩
      · have ef0 := ift ef0 c3
        refine lv_dload_n hx hb dX9_limit_20 rfl (lv_at hl 2 rfl) ?_
        refine lv_dconst0 hx hb dX9_limit_21 ?_
        refine lv_ldc2d hx hb hown (hts (.constantDouble RX9 140 (4633641066610819072)) (List.mem_of_getElem? (i := 2) rfl)) dX9_limit_22 ?_
        obtain ⟨u9, hu9, ef0⟩ := bd_of ef0
        refine xCalli (wr := [(h_a, .inr (9, [.int (0 : Int32), .double h_now, .double h_speed, .ref h_isThere_a, .ref h_x_a, .ref h_y_a, .ref h_v_a, .ref h_sure_a, .ref h_coast_a, .ref h_many_a, .ref h_mx_a, .ref h_my_a, .ref h_mv_a, .ref h_taken_a, .ref h_way_a, .ref h_toldFirst_a, .ref h_toldSecond_a, .ref h_speedFirst_a, .int h_differs, .int h_differing, .double h_offset, .double h_slope, .double h_curve, .double h_pedal, .double h_brake, .double h_steer, .int h_isOn, .double h_offAt, .int h_isAsked, .double h_askedAt, .int h_isStopping, .double h_wished, .double h_gap, .double h_braking, .double h_pull, .int h_lead, .double h_left, .double h_leadX, .int h_stage, .int h_mode, .double h_force, .double h_wheel, .ref h_counts_a, .int h_sign]))]) (wn := [(h_a, .inr (9, [.int (0 : Int32), .double h_now, .double h_speed, .ref h_isThere_a, .ref h_x_a, .ref h_y_a, .ref h_v_a, .ref h_sure_a, .ref h_coast_a, .ref h_many_a, .ref h_mx_a, .ref h_my_a, .ref h_mv_a, .ref h_taken_a, .ref h_way_a, .ref h_toldFirst_a, .ref h_toldSecond_a, .ref h_speedFirst_a, .int h_differs, .int h_differing, .double h_offset, .double h_slope, .double h_curve, .double h_pedal, .double h_brake, .double h_steer, .int h_isOn, .double h_offAt, .int h_isAsked, .double h_askedAt, .int h_isStopping, .double h_wished, .double h_gap, .double h_braking, .double h_pull, .int h_lead, .double h_left, .double h_leadX, .int h_stage, .int h_mode, .double h_force, .double h_wheel, .ref h_counts_a, .int h_sign]))]) [] [0] [0] (va_runS (As := [.double p1, .double FP.dconst0, .double (4633641066610819072 : UInt64)]) (rest := []) ⟨hx, hb, hml, hown, hts⟩ (c_X9_in l D H.size p1 FP.dconst0 (4633641066610819072 : UInt64) u9 hu9) (va_cwS 3 hts gX9_limit_X9_in rfl rfl rfl (by decide +kernel) ⟨Nat.le_of_ble_eq_true rfl, Nat.le_of_ble_eq_true rfl⟩) (xPreS hP hD hK hN [] rfl rfl [] rfl) rfl rfl hl.1 rfl (lv_room (Nat.le_of_ble_eq_true rfl)) dX9_limit_25 ⟨Nat.zero_le _, Nat.zero_le _⟩) hP hD hS hA rfl rfl rfl (by decide) rfl rfl (fun H locs hP hD hS => ?_)
        refine lv_goto (tgt := 73) hx hb dX9_limit_28 (by decide) ?_
        exact K1 u9 _ _ _ ⟨ef0, hP, hD, hS, lv_sub hl [0, 1, 2] rfl⟩
    · have ef0 := iff_ ef0 c2
      refine lv_iconst (v := (-1 : Int32)) hx hb dX9_limit_14 (by decide) ?_
      have q0 := Option.some.inj ef0
      obtain ⟨t0, q1⟩ := Prod.mk.inj q0
      obtain ⟨t1, q2⟩ := Prod.mk.inj q1
      obtain ⟨t2, q3⟩ := Prod.mk.inj q2
      obtain ⟨t3, q4⟩ := Prod.mk.inj q3
      obtain ⟨t4, q5⟩ := Prod.mk.inj q4
      exact xIret t0 (by rw [← t1, ← t2, ← t3, ← t4, ← q5]) hx hb hr hlk hP hD hS dX9_limit_15

theorem in_wsX9_hands_X9 : ∀ w ∈ wsX90, w ∈ wsX9_hands := fun _ h => List.mem_cons_of_mem _ (List.mem_append_right _ h)
def f_X9_hands (p0 : Int32) (p1 : UInt64) (h_now : UInt64) (h_isOn : Int32) (h_offAt : UInt64) : Option (Int32 × Int32 × Int32 × UInt64) :=
  (f_X9_in p1 h_now (4681608360884174848 : UInt64)).bind fun u1 =>
  if u1 = 0 then (
  some ((-2 : Int32), (0 : Int32), h_isOn, h_offAt)) else
  if p0 = h_isOn then (
  some ((0 : Int32), (0 : Int32), h_isOn, h_offAt)) else
  ck (zb p0 = true) <|
  some ((1 : Int32), (0 : Int32), p0, p1)
set_option maxHeartbeats 4000000 in
set_option maxRecDepth 100000 in
theorem c_X9_hands (l : Launch) (D : va_G) (sz : Nat) (h_a : Nat) (h_isThere_a : Nat) (h_x_a : Nat) (h_y_a : Nat) (h_v_a : Nat) (h_sure_a : Nat) (h_coast_a : Nat) (h_many_a : Nat) (h_mx_a : Nat) (h_my_a : Nat) (h_mv_a : Nat) (h_taken_a : Nat) (h_way_a : Nat) (h_toldFirst_a : Nat) (h_toldSecond_a : Nat) (h_speedFirst_a : Nat) (h_counts_a : Nat) (p0 : Int32) (p1 : UInt64) (h_fault : Int32) (h_now : UInt64) (h_speed : UInt64) (h_differs : Int32) (h_differing : Int32) (h_offset : UInt64) (h_slope : UInt64) (h_curve : UInt64) (h_pedal : UInt64) (h_brake : UInt64) (h_steer : UInt64) (h_isOn : Int32) (h_offAt : UInt64) (h_isAsked : Int32) (h_askedAt : UInt64) (h_isStopping : Int32) (h_wished : UInt64) (h_gap : UInt64) (h_braking : UInt64) (h_pull : UInt64) (h_lead : Int32) (h_left : UInt64) (h_leadX : UInt64) (h_stage : Int32) (h_mode : Int32) (h_force : UInt64) (h_wheel : UInt64) (h_sign : Int32) (r0 : Int32) (r1 : Int32) (r2 : Int32) (r3 : UInt64) (hf : f_X9_hands p0 p1 h_now h_isOn h_offAt = some (r0, r1, r2, r3)) : Met l yX9_hands wsX9_hands { frames := 1, cells := 0, slots := 0, locals := 25 } (va_Pc [.ref h_a, .int p0, .double p1] (xPre D [(h_a, .inr (9, [.int h_fault, .double h_now, .double h_speed, .ref h_isThere_a, .ref h_x_a, .ref h_y_a, .ref h_v_a, .ref h_sure_a, .ref h_coast_a, .ref h_many_a, .ref h_mx_a, .ref h_my_a, .ref h_mv_a, .ref h_taken_a, .ref h_way_a, .ref h_toldFirst_a, .ref h_toldSecond_a, .ref h_speedFirst_a, .int h_differs, .int h_differing, .double h_offset, .double h_slope, .double h_curve, .double h_pedal, .double h_brake, .double h_steer, .int h_isOn, .double h_offAt, .int h_isAsked, .double h_askedAt, .int h_isStopping, .double h_wished, .double h_gap, .double h_braking, .double h_pull, .int h_lead, .double h_left, .double h_leadX, .int h_stage, .int h_mode, .double h_force, .double h_wheel, .ref h_counts_a, .int h_sign]))] [] sz)) (va_Qi (fun (x : Int32) (_ : Unit) => x = r0) (fun _ => xB D (va_A [(h_a, .inr (9, [.int h_fault, .double h_now, .double h_speed, .ref h_isThere_a, .ref h_x_a, .ref h_y_a, .ref h_v_a, .ref h_sure_a, .ref h_coast_a, .ref h_many_a, .ref h_mx_a, .ref h_my_a, .ref h_mv_a, .ref h_taken_a, .ref h_way_a, .ref h_toldFirst_a, .ref h_toldSecond_a, .ref h_speedFirst_a, .int h_differs, .int h_differing, .double h_offset, .double h_slope, .double h_curve, .double h_pedal, .double h_brake, .double h_steer, .int h_isOn, .double h_offAt, .int h_isAsked, .double h_askedAt, .int h_isStopping, .double h_wished, .double h_gap, .double h_braking, .double h_pull, .int h_lead, .double h_left, .double h_leadX, .int h_stage, .int h_mode, .double h_force, .double h_wheel, .ref h_counts_a, .int h_sign]))] sz) [(h_a, .inr (9, [.int r1, .double h_now, .double h_speed, .ref h_isThere_a, .ref h_x_a, .ref h_y_a, .ref h_v_a, .ref h_sure_a, .ref h_coast_a, .ref h_many_a, .ref h_mx_a, .ref h_my_a, .ref h_mv_a, .ref h_taken_a, .ref h_way_a, .ref h_toldFirst_a, .ref h_toldSecond_a, .ref h_speedFirst_a, .int h_differs, .int h_differing, .double h_offset, .double h_slope, .double h_curve, .double h_pedal, .double h_brake, .double h_steer, .int r2, .double r3, .int h_isAsked, .double h_askedAt, .int h_isStopping, .double h_wished, .double h_gap, .double h_braking, .double h_pull, .int h_lead, .double h_left, .double h_leadX, .int h_stage, .int h_mode, .double h_force, .double h_wheel, .ref h_counts_a, .int h_sign]))]) (va_A [(h_a, .inr (9, [.int h_fault, .double h_now, .double h_speed, .ref h_isThere_a, .ref h_x_a, .ref h_y_a, .ref h_v_a, .ref h_sure_a, .ref h_coast_a, .ref h_many_a, .ref h_mx_a, .ref h_my_a, .ref h_mv_a, .ref h_taken_a, .ref h_way_a, .ref h_toldFirst_a, .ref h_toldSecond_a, .ref h_speedFirst_a, .int h_differs, .int h_differing, .double h_offset, .double h_slope, .double h_curve, .double h_pedal, .double h_brake, .double h_steer, .int h_isOn, .double h_offAt, .int h_isAsked, .double h_askedAt, .int h_isStopping, .double h_wished, .double h_gap, .double h_braking, .double h_pull, .int h_lead, .double h_left, .double h_leadX, .int h_stage, .int h_mode, .double h_force, .double h_wheel, .ref h_counts_a, .int h_sign]))] sz)) 0 0 (va_A [(h_a, .inr (9, [.int h_fault, .double h_now, .double h_speed, .ref h_isThere_a, .ref h_x_a, .ref h_y_a, .ref h_v_a, .ref h_sure_a, .ref h_coast_a, .ref h_many_a, .ref h_mx_a, .ref h_my_a, .ref h_mv_a, .ref h_taken_a, .ref h_way_a, .ref h_toldFirst_a, .ref h_toldSecond_a, .ref h_speedFirst_a, .int h_differs, .int h_differing, .double h_offset, .double h_slope, .double h_curve, .double h_pedal, .double h_brake, .double h_steer, .int h_isOn, .double h_offAt, .int h_isAsked, .double h_askedAt, .int h_isStopping, .double h_wished, .double h_gap, .double h_braking, .double h_pull, .int h_lead, .double h_left, .double h_leadX, .int h_stage, .int h_mode, .double h_force, .double h_wheel, .ref h_counts_a, .int h_sign]))] sz) := by
  refine xOfW (l := l) (y := yX9_hands) (ws := wsX9_hands) (D := D) (cells := [(h_a, .inr (9, [.int h_fault, .double h_now, .double h_speed, .ref h_isThere_a, .ref h_x_a, .ref h_y_a, .ref h_v_a, .ref h_sure_a, .ref h_coast_a, .ref h_many_a, .ref h_mx_a, .ref h_my_a, .ref h_mv_a, .ref h_taken_a, .ref h_way_a, .ref h_toldFirst_a, .ref h_toldSecond_a, .ref h_speedFirst_a, .int h_differs, .int h_differing, .double h_offset, .double h_slope, .double h_curve, .double h_pedal, .double h_brake, .double h_steer, .int h_isOn, .double h_offAt, .int h_isAsked, .double h_askedAt, .int h_isStopping, .double h_wished, .double h_gap, .double h_braking, .double h_pull, .int h_lead, .double h_left, .double h_leadX, .int h_stage, .int h_mode, .double h_force, .double h_wheel, .ref h_counts_a, .int h_sign]))]) (tys := []) (sz := sz) (av := [.ref h_a, .int p0, .double p1]) (cc := cX9_hands) (maxL := 4) (ret := (some .int)) (fun A => va_Qi (fun (x : Int32) (_ : Unit) => x = r0) (fun _ => xB D A [(h_a, .inr (9, [.int r1, .double h_now, .double h_speed, .ref h_isThere_a, .ref h_x_a, .ref h_y_a, .ref h_v_a, .ref h_sure_a, .ref h_coast_a, .ref h_many_a, .ref h_mx_a, .ref h_my_a, .ref h_mv_a, .ref h_taken_a, .ref h_way_a, .ref h_toldFirst_a, .ref h_toldSecond_a, .ref h_speedFirst_a, .int h_differs, .int h_differing, .double h_offset, .double h_slope, .double h_curve, .double h_pedal, .double h_brake, .double h_steer, .int r2, .double r3, .int h_isAsked, .double h_askedAt, .int h_isStopping, .double h_wished, .double h_gap, .double h_braking, .double h_pull, .int h_lead, .double h_left, .double h_leadX, .int h_stage, .int h_mode, .double h_force, .double h_wheel, .ref h_counts_a, .int h_sign]))]) A) (by decide) rfl (Nat.le_of_ble_eq_true rfl) ?_
  intro p e s m below meth c A H ls hx hb hr hml hown hlk hts hP hK hD hS hA hN hl
  have hl : lv_has ls 4 [(0, .ref h_a), (1, .int p0), (2, .double p1)] := hl
  have hown : s.vm.findClass RX9 = some m.cls := hown
  have ef0 : f_X9_hands p0 p1 h_now h_isOn h_offAt = some (r0, r1, r2, r3) := hf
  rewrite [f_X9_hands] at ef0
  refine lv_aload_n hx hb dX9_hands_0 rfl (lv_at hl 0 rfl) ?_
  refine lv_iconst (v := (0 : Int32)) hx hb dX9_hands_1 (by decide) ?_
  refine va_put (D := D) (ci := 9) (v := .int (0 : Int32)) (ty := .int) (C := RX9) (T := TX9) (N := 44) hx hb hts in_wsX9_hands_X9 tyX9 tyX9_ok nmX9 hown hK hP hD hS 0 rfl rfl 0 (by decide) (hts (.fieldLink RX9 92 "AssistRowsModel" "fault" "I") (List.mem_of_getElem? (i := 1) rfl)) (fun _ h9 => h9) rfl (by decide +kernel) rfl rfl (Nat.le_of_ble_eq_true rfl) dX9_hands_2 (fun H locs hP hD hS => ?_)
  have hP : va_P D vwCl [(h_a, .inr (9, [.int (0 : Int32), .double h_now, .double h_speed, .ref h_isThere_a, .ref h_x_a, .ref h_y_a, .ref h_v_a, .ref h_sure_a, .ref h_coast_a, .ref h_many_a, .ref h_mx_a, .ref h_my_a, .ref h_mv_a, .ref h_taken_a, .ref h_way_a, .ref h_toldFirst_a, .ref h_toldSecond_a, .ref h_speedFirst_a, .int h_differs, .int h_differing, .double h_offset, .double h_slope, .double h_curve, .double h_pedal, .double h_brake, .double h_steer, .int h_isOn, .double h_offAt, .int h_isAsked, .double h_askedAt, .int h_isStopping, .double h_wished, .double h_gap, .double h_braking, .double h_pull, .int h_lead, .double h_left, .double h_leadX, .int h_stage, .int h_mode, .double h_force, .double h_wheel, .ref h_counts_a, .int h_sign]))] H := hP
  have hD : va_D A [(h_a, .inr (9, [.int (0 : Int32), .double h_now, .double h_speed, .ref h_isThere_a, .ref h_x_a, .ref h_y_a, .ref h_v_a, .ref h_sure_a, .ref h_coast_a, .ref h_many_a, .ref h_mx_a, .ref h_my_a, .ref h_mv_a, .ref h_taken_a, .ref h_way_a, .ref h_toldFirst_a, .ref h_toldSecond_a, .ref h_speedFirst_a, .int h_differs, .int h_differing, .double h_offset, .double h_slope, .double h_curve, .double h_pedal, .double h_brake, .double h_steer, .int h_isOn, .double h_offAt, .int h_isAsked, .double h_askedAt, .int h_isStopping, .double h_wished, .double h_gap, .double h_braking, .double h_pull, .int h_lead, .double h_left, .double h_leadX, .int h_stage, .int h_mode, .double h_force, .double h_wheel, .ref h_counts_a, .int h_sign]))] := hD
  refine lv_dload_n hx hb dX9_hands_5 rfl (lv_at hl 2 rfl) ?_
  refine lv_aload_n hx hb dX9_hands_6 rfl (lv_at hl 0 rfl) ?_
  refine va_get (D := D) (ci := 9) (v := .double h_now) (C := RX9) (T := TX9) (N := 44) hx hb hts in_wsX9_hands_X9 hown hK hP 0 rfl rfl 1 (by decide) (hts (.fieldLink RX9 109 "AssistRowsModel" "now" "D") (List.mem_of_getElem? (i := 2) rfl)) (fun _ h9 => h9) rfl dX9_hands_7 ?_
  refine lv_ldc2d hx hb hown (hts (.constantDouble RX9 112 (4681608360884174848)) (List.mem_of_getElem? (i := 3) rfl)) dX9_hands_10 ?_
  obtain ⟨u1, hu1, ef0⟩ := bd_of ef0
  refine xCalli (wr := [(h_a, .inr (9, [.int (0 : Int32), .double h_now, .double h_speed, .ref h_isThere_a, .ref h_x_a, .ref h_y_a, .ref h_v_a, .ref h_sure_a, .ref h_coast_a, .ref h_many_a, .ref h_mx_a, .ref h_my_a, .ref h_mv_a, .ref h_taken_a, .ref h_way_a, .ref h_toldFirst_a, .ref h_toldSecond_a, .ref h_speedFirst_a, .int h_differs, .int h_differing, .double h_offset, .double h_slope, .double h_curve, .double h_pedal, .double h_brake, .double h_steer, .int h_isOn, .double h_offAt, .int h_isAsked, .double h_askedAt, .int h_isStopping, .double h_wished, .double h_gap, .double h_braking, .double h_pull, .int h_lead, .double h_left, .double h_leadX, .int h_stage, .int h_mode, .double h_force, .double h_wheel, .ref h_counts_a, .int h_sign]))]) (wn := [(h_a, .inr (9, [.int (0 : Int32), .double h_now, .double h_speed, .ref h_isThere_a, .ref h_x_a, .ref h_y_a, .ref h_v_a, .ref h_sure_a, .ref h_coast_a, .ref h_many_a, .ref h_mx_a, .ref h_my_a, .ref h_mv_a, .ref h_taken_a, .ref h_way_a, .ref h_toldFirst_a, .ref h_toldSecond_a, .ref h_speedFirst_a, .int h_differs, .int h_differing, .double h_offset, .double h_slope, .double h_curve, .double h_pedal, .double h_brake, .double h_steer, .int h_isOn, .double h_offAt, .int h_isAsked, .double h_askedAt, .int h_isStopping, .double h_wished, .double h_gap, .double h_braking, .double h_pull, .int h_lead, .double h_left, .double h_leadX, .int h_stage, .int h_mode, .double h_force, .double h_wheel, .ref h_counts_a, .int h_sign]))]) [] [0] [0] (va_runS (As := [.double p1, .double h_now, .double (4681608360884174848 : UInt64)]) (rest := []) ⟨hx, hb, hml, hown, hts⟩ (c_X9_in l D H.size p1 h_now (4681608360884174848 : UInt64) u1 hu1) (va_cwS 3 hts gX9_hands_X9_in rfl rfl rfl (by decide +kernel) ⟨Nat.le_of_ble_eq_true rfl, Nat.le_of_ble_eq_true rfl⟩) (xPreS hP hD hK hN [] rfl rfl [] rfl) rfl rfl hl.1 rfl (lv_room (Nat.le_of_ble_eq_true rfl)) dX9_hands_13 ⟨Nat.zero_le _, Nat.zero_le _⟩) hP hD hS hA rfl rfl rfl (by decide) rfl rfl (fun H locs hP hD hS => ?_)
  refine lv_if_ne (tgt := 22) hx hb dX9_hands_16 (by decide) (fun c2 => ?_) (fun c2 => ?_)
  · have ef0 := iff_ ef0 c2
    refine lv_iload_n hx hb dX9_hands_22 rfl (lv_at hl 1 rfl) ?_
    refine lv_aload_n hx hb dX9_hands_23 rfl (lv_at hl 0 rfl) ?_
    refine va_get (D := D) (ci := 9) (v := .int h_isOn) (C := RX9) (T := TX9) (N := 44) hx hb hts in_wsX9_hands_X9 hown hK hP 0 rfl rfl 26 (by decide) (hts (.fieldLink RX9 57 "AssistRowsModel" "isOn" "Z") (List.mem_of_getElem? (i := 4) rfl)) (fun _ h9 => h9) rfl dX9_hands_24 ?_
    refine lv_icmp_ne (tgt := 32) hx hb dX9_hands_27 (by decide) (fun c3 => ?_) (fun c3 => ?_)
    · have ef0 := iff_ ef0 c3
      refine lv_aload_n hx hb dX9_hands_32 rfl (lv_at hl 0 rfl) ?_
      refine lv_iload_n hx hb dX9_hands_33 rfl (lv_at hl 1 rfl) ?_
      obtain ⟨h4, ef0⟩ := ck_of ef0
      refine va_put (D := D) (ci := 9) (v := .int p0) (ty := .boolean) (C := RX9) (T := TX9) (N := 44) hx hb hts in_wsX9_hands_X9 tyX9 tyX9_ok nmX9 hown hK hP hD hS 0 rfl rfl 26 (by decide) (hts (.fieldLink RX9 57 "AssistRowsModel" "isOn" "Z") (List.mem_of_getElem? (i := 4) rfl)) (fun _ h9 => h9) rfl (by decide +kernel) (zb_nar h4) (zb_fit h4) (Nat.le_of_ble_eq_true rfl) dX9_hands_34 (fun H locs hP hD hS => ?_)
      have hP : va_P D vwCl [(h_a, .inr (9, [.int (0 : Int32), .double h_now, .double h_speed, .ref h_isThere_a, .ref h_x_a, .ref h_y_a, .ref h_v_a, .ref h_sure_a, .ref h_coast_a, .ref h_many_a, .ref h_mx_a, .ref h_my_a, .ref h_mv_a, .ref h_taken_a, .ref h_way_a, .ref h_toldFirst_a, .ref h_toldSecond_a, .ref h_speedFirst_a, .int h_differs, .int h_differing, .double h_offset, .double h_slope, .double h_curve, .double h_pedal, .double h_brake, .double h_steer, .int p0, .double h_offAt, .int h_isAsked, .double h_askedAt, .int h_isStopping, .double h_wished, .double h_gap, .double h_braking, .double h_pull, .int h_lead, .double h_left, .double h_leadX, .int h_stage, .int h_mode, .double h_force, .double h_wheel, .ref h_counts_a, .int h_sign]))] H := hP
      have hD : va_D A [(h_a, .inr (9, [.int (0 : Int32), .double h_now, .double h_speed, .ref h_isThere_a, .ref h_x_a, .ref h_y_a, .ref h_v_a, .ref h_sure_a, .ref h_coast_a, .ref h_many_a, .ref h_mx_a, .ref h_my_a, .ref h_mv_a, .ref h_taken_a, .ref h_way_a, .ref h_toldFirst_a, .ref h_toldSecond_a, .ref h_speedFirst_a, .int h_differs, .int h_differing, .double h_offset, .double h_slope, .double h_curve, .double h_pedal, .double h_brake, .double h_steer, .int p0, .double h_offAt, .int h_isAsked, .double h_askedAt, .int h_isStopping, .double h_wished, .double h_gap, .double h_braking, .double h_pull, .int h_lead, .double h_left, .double h_leadX, .int h_stage, .int h_mode, .double h_force, .double h_wheel, .ref h_counts_a, .int h_sign]))] := hD
      refine lv_aload_n hx hb dX9_hands_37 rfl (lv_at hl 0 rfl) ?_
      refine lv_dload_n hx hb dX9_hands_38 rfl (lv_at hl 2 rfl) ?_
      refine va_put (D := D) (ci := 9) (v := .double p1) (ty := .double) (C := RX9) (T := TX9) (N := 44) hx hb hts in_wsX9_hands_X9 tyX9 tyX9_ok nmX9 hown hK hP hD hS 0 rfl rfl 27 (by decide) (hts (.fieldLink RX9 149 "AssistRowsModel" "offAt" "D") (List.mem_of_getElem? (i := 5) rfl)) (fun _ h9 => h9) rfl (by decide +kernel) rfl rfl (Nat.le_of_ble_eq_true rfl) dX9_hands_39 (fun H locs hP hD hS => ?_)
      have hP : va_P D vwCl [(h_a, .inr (9, [.int (0 : Int32), .double h_now, .double h_speed, .ref h_isThere_a, .ref h_x_a, .ref h_y_a, .ref h_v_a, .ref h_sure_a, .ref h_coast_a, .ref h_many_a, .ref h_mx_a, .ref h_my_a, .ref h_mv_a, .ref h_taken_a, .ref h_way_a, .ref h_toldFirst_a, .ref h_toldSecond_a, .ref h_speedFirst_a, .int h_differs, .int h_differing, .double h_offset, .double h_slope, .double h_curve, .double h_pedal, .double h_brake, .double h_steer, .int p0, .double p1, .int h_isAsked, .double h_askedAt, .int h_isStopping, .double h_wished, .double h_gap, .double h_braking, .double h_pull, .int h_lead, .double h_left, .double h_leadX, .int h_stage, .int h_mode, .double h_force, .double h_wheel, .ref h_counts_a, .int h_sign]))] H := hP
      have hD : va_D A [(h_a, .inr (9, [.int (0 : Int32), .double h_now, .double h_speed, .ref h_isThere_a, .ref h_x_a, .ref h_y_a, .ref h_v_a, .ref h_sure_a, .ref h_coast_a, .ref h_many_a, .ref h_mx_a, .ref h_my_a, .ref h_mv_a, .ref h_taken_a, .ref h_way_a, .ref h_toldFirst_a, .ref h_toldSecond_a, .ref h_speedFirst_a, .int h_differs, .int h_differing, .double h_offset, .double h_slope, .double h_curve, .double h_pedal, .double h_brake, .double h_steer, .int p0, .double p1, .int h_isAsked, .double h_askedAt, .int h_isStopping, .double h_wished, .double h_gap, .double h_braking, .double h_pull, .int h_lead, .double h_left, .double h_leadX, .int h_stage, .int h_mode, .double h_force, .double h_wheel, .ref h_counts_a, .int h_sign]))] := hD
      refine lv_iconst (v := (1 : Int32)) hx hb dX9_hands_42 (by decide) ?_
      have q0 := Option.some.inj ef0
      obtain ⟨t0, q1⟩ := Prod.mk.inj q0
      obtain ⟨t1, q2⟩ := Prod.mk.inj q1
      obtain ⟨t2, q3⟩ := Prod.mk.inj q2
      exact xIret t0 (by rw [← t1, ← t2, ← q3]) hx hb hr hlk hP hD hS dX9_hands_43
    · have ef0 := ift ef0 c3
      refine lv_iconst (v := (0 : Int32)) hx hb dX9_hands_30 (by decide) ?_
      have q0 := Option.some.inj ef0
      obtain ⟨t0, q1⟩ := Prod.mk.inj q0
      obtain ⟨t1, q2⟩ := Prod.mk.inj q1
      obtain ⟨t2, q3⟩ := Prod.mk.inj q2
      exact xIret t0 (by rw [← t1, ← t2, ← q3]) hx hb hr hlk hP hD hS dX9_hands_31
  · have ef0 := ift ef0 c2
    refine lv_bipush (v := (-2 : Int32)) hx hb dX9_hands_19 (by decide) ?_
    have q0 := Option.some.inj ef0
    obtain ⟨t0, q1⟩ := Prod.mk.inj q0
    obtain ⟨t1, q2⟩ := Prod.mk.inj q1
    obtain ⟨t2, q3⟩ := Prod.mk.inj q2
    exact xIret t0 (by rw [← t1, ← t2, ← q3]) hx hb hr hlk hP hD hS dX9_hands_21

theorem in_wsX9_handOver_X9 : ∀ w ∈ wsX90, w ∈ wsX9_handOver := fun _ h => List.mem_cons_of_mem _ (List.mem_append_right _ h)
def f_X9_handOver (p0 : UInt64) (h_now : UInt64) (h_isOn : Int32) (h_isAsked : Int32) (h_askedAt : UInt64) (h_isStopping : Int32) : Option (Int32 × Int32 × Int32 × UInt64) :=
  (f_X9_in p0 h_now (4681608360884174848 : UInt64)).bind fun u1 =>
  if u1 = 0 then (
  some ((-2 : Int32), (0 : Int32), h_isAsked, h_askedAt)) else
  if h_isAsked = 0 then (
  if h_isOn = 0 then (
  if h_isStopping = 0 then (
  some ((1 : Int32), (0 : Int32), (1 : Int32), p0)) else
  some ((-3 : Int32), (0 : Int32), h_isAsked, h_askedAt)) else
  some ((-3 : Int32), (0 : Int32), h_isAsked, h_askedAt)) else
  some ((-3 : Int32), (0 : Int32), h_isAsked, h_askedAt)
set_option maxHeartbeats 4000000 in
set_option maxRecDepth 100000 in
theorem c_X9_handOver (l : Launch) (D : va_G) (sz : Nat) (h_a : Nat) (h_isThere_a : Nat) (h_x_a : Nat) (h_y_a : Nat) (h_v_a : Nat) (h_sure_a : Nat) (h_coast_a : Nat) (h_many_a : Nat) (h_mx_a : Nat) (h_my_a : Nat) (h_mv_a : Nat) (h_taken_a : Nat) (h_way_a : Nat) (h_toldFirst_a : Nat) (h_toldSecond_a : Nat) (h_speedFirst_a : Nat) (h_counts_a : Nat) (p0 : UInt64) (h_fault : Int32) (h_now : UInt64) (h_speed : UInt64) (h_differs : Int32) (h_differing : Int32) (h_offset : UInt64) (h_slope : UInt64) (h_curve : UInt64) (h_pedal : UInt64) (h_brake : UInt64) (h_steer : UInt64) (h_isOn : Int32) (h_offAt : UInt64) (h_isAsked : Int32) (h_askedAt : UInt64) (h_isStopping : Int32) (h_wished : UInt64) (h_gap : UInt64) (h_braking : UInt64) (h_pull : UInt64) (h_lead : Int32) (h_left : UInt64) (h_leadX : UInt64) (h_stage : Int32) (h_mode : Int32) (h_force : UInt64) (h_wheel : UInt64) (h_sign : Int32) (r0 : Int32) (r1 : Int32) (r2 : Int32) (r3 : UInt64) (hf : f_X9_handOver p0 h_now h_isOn h_isAsked h_askedAt h_isStopping = some (r0, r1, r2, r3)) : Met l yX9_handOver wsX9_handOver { frames := 1, cells := 0, slots := 0, locals := 25 } (va_Pc [.ref h_a, .double p0] (xPre D [(h_a, .inr (9, [.int h_fault, .double h_now, .double h_speed, .ref h_isThere_a, .ref h_x_a, .ref h_y_a, .ref h_v_a, .ref h_sure_a, .ref h_coast_a, .ref h_many_a, .ref h_mx_a, .ref h_my_a, .ref h_mv_a, .ref h_taken_a, .ref h_way_a, .ref h_toldFirst_a, .ref h_toldSecond_a, .ref h_speedFirst_a, .int h_differs, .int h_differing, .double h_offset, .double h_slope, .double h_curve, .double h_pedal, .double h_brake, .double h_steer, .int h_isOn, .double h_offAt, .int h_isAsked, .double h_askedAt, .int h_isStopping, .double h_wished, .double h_gap, .double h_braking, .double h_pull, .int h_lead, .double h_left, .double h_leadX, .int h_stage, .int h_mode, .double h_force, .double h_wheel, .ref h_counts_a, .int h_sign]))] [] sz)) (va_Qi (fun (x : Int32) (_ : Unit) => x = r0) (fun _ => xB D (va_A [(h_a, .inr (9, [.int h_fault, .double h_now, .double h_speed, .ref h_isThere_a, .ref h_x_a, .ref h_y_a, .ref h_v_a, .ref h_sure_a, .ref h_coast_a, .ref h_many_a, .ref h_mx_a, .ref h_my_a, .ref h_mv_a, .ref h_taken_a, .ref h_way_a, .ref h_toldFirst_a, .ref h_toldSecond_a, .ref h_speedFirst_a, .int h_differs, .int h_differing, .double h_offset, .double h_slope, .double h_curve, .double h_pedal, .double h_brake, .double h_steer, .int h_isOn, .double h_offAt, .int h_isAsked, .double h_askedAt, .int h_isStopping, .double h_wished, .double h_gap, .double h_braking, .double h_pull, .int h_lead, .double h_left, .double h_leadX, .int h_stage, .int h_mode, .double h_force, .double h_wheel, .ref h_counts_a, .int h_sign]))] sz) [(h_a, .inr (9, [.int r1, .double h_now, .double h_speed, .ref h_isThere_a, .ref h_x_a, .ref h_y_a, .ref h_v_a, .ref h_sure_a, .ref h_coast_a, .ref h_many_a, .ref h_mx_a, .ref h_my_a, .ref h_mv_a, .ref h_taken_a, .ref h_way_a, .ref h_toldFirst_a, .ref h_toldSecond_a, .ref h_speedFirst_a, .int h_differs, .int h_differing, .double h_offset, .double h_slope, .double h_curve, .double h_pedal, .double h_brake, .double h_steer, .int h_isOn, .double h_offAt, .int r2, .double r3, .int h_isStopping, .double h_wished, .double h_gap, .double h_braking, .double h_pull, .int h_lead, .double h_left, .double h_leadX, .int h_stage, .int h_mode, .double h_force, .double h_wheel, .ref h_counts_a, .int h_sign]))]) (va_A [(h_a, .inr (9, [.int h_fault, .double h_now, .double h_speed, .ref h_isThere_a, .ref h_x_a, .ref h_y_a, .ref h_v_a, .ref h_sure_a, .ref h_coast_a, .ref h_many_a, .ref h_mx_a, .ref h_my_a, .ref h_mv_a, .ref h_taken_a, .ref h_way_a, .ref h_toldFirst_a, .ref h_toldSecond_a, .ref h_speedFirst_a, .int h_differs, .int h_differing, .double h_offset, .double h_slope, .double h_curve, .double h_pedal, .double h_brake, .double h_steer, .int h_isOn, .double h_offAt, .int h_isAsked, .double h_askedAt, .int h_isStopping, .double h_wished, .double h_gap, .double h_braking, .double h_pull, .int h_lead, .double h_left, .double h_leadX, .int h_stage, .int h_mode, .double h_force, .double h_wheel, .ref h_counts_a, .int h_sign]))] sz)) 0 0 (va_A [(h_a, .inr (9, [.int h_fault, .double h_now, .double h_speed, .ref h_isThere_a, .ref h_x_a, .ref h_y_a, .ref h_v_a, .ref h_sure_a, .ref h_coast_a, .ref h_many_a, .ref h_mx_a, .ref h_my_a, .ref h_mv_a, .ref h_taken_a, .ref h_way_a, .ref h_toldFirst_a, .ref h_toldSecond_a, .ref h_speedFirst_a, .int h_differs, .int h_differing, .double h_offset, .double h_slope, .double h_curve, .double h_pedal, .double h_brake, .double h_steer, .int h_isOn, .double h_offAt, .int h_isAsked, .double h_askedAt, .int h_isStopping, .double h_wished, .double h_gap, .double h_braking, .double h_pull, .int h_lead, .double h_left, .double h_leadX, .int h_stage, .int h_mode, .double h_force, .double h_wheel, .ref h_counts_a, .int h_sign]))] sz) := by
  refine xOfW (l := l) (y := yX9_handOver) (ws := wsX9_handOver) (D := D) (cells := [(h_a, .inr (9, [.int h_fault, .double h_now, .double h_speed, .ref h_isThere_a, .ref h_x_a, .ref h_y_a, .ref h_v_a, .ref h_sure_a, .ref h_coast_a, .ref h_many_a, .ref h_mx_a, .ref h_my_a, .ref h_mv_a, .ref h_taken_a, .ref h_way_a, .ref h_toldFirst_a, .ref h_toldSecond_a, .ref h_speedFirst_a, .int h_differs, .int h_differing, .double h_offset, .double h_slope, .double h_curve, .double h_pedal, .double h_brake, .double h_steer, .int h_isOn, .double h_offAt, .int h_isAsked, .double h_askedAt, .int h_isStopping, .double h_wished, .double h_gap, .double h_braking, .double h_pull, .int h_lead, .double h_left, .double h_leadX, .int h_stage, .int h_mode, .double h_force, .double h_wheel, .ref h_counts_a, .int h_sign]))]) (tys := []) (sz := sz) (av := [.ref h_a, .double p0]) (cc := cX9_handOver) (maxL := 3) (ret := (some .int)) (fun A => va_Qi (fun (x : Int32) (_ : Unit) => x = r0) (fun _ => xB D A [(h_a, .inr (9, [.int r1, .double h_now, .double h_speed, .ref h_isThere_a, .ref h_x_a, .ref h_y_a, .ref h_v_a, .ref h_sure_a, .ref h_coast_a, .ref h_many_a, .ref h_mx_a, .ref h_my_a, .ref h_mv_a, .ref h_taken_a, .ref h_way_a, .ref h_toldFirst_a, .ref h_toldSecond_a, .ref h_speedFirst_a, .int h_differs, .int h_differing, .double h_offset, .double h_slope, .double h_curve, .double h_pedal, .double h_brake, .double h_steer, .int h_isOn, .double h_offAt, .int r2, .double r3, .int h_isStopping, .double h_wished, .double h_gap, .double h_braking, .double h_pull, .int h_lead, .double h_left, .double h_leadX, .int h_stage, .int h_mode, .double h_force, .double h_wheel, .ref h_counts_a, .int h_sign]))]) A) (by decide) rfl (Nat.le_of_ble_eq_true rfl) ?_
  intro p e s m below meth c A H ls hx hb hr hml hown hlk hts hP hK hD hS hA hN hl
  have hl : lv_has ls 3 [(0, .ref h_a), (1, .double p0)] := hl
  have hown : s.vm.findClass RX9 = some m.cls := hown
  have ef0 : f_X9_handOver p0 h_now h_isOn h_isAsked h_askedAt h_isStopping = some (r0, r1, r2, r3) := hf
  rewrite [f_X9_handOver] at ef0
  refine lv_aload_n hx hb dX9_handOver_0 rfl (lv_at hl 0 rfl) ?_
  refine lv_iconst (v := (0 : Int32)) hx hb dX9_handOver_1 (by decide) ?_
  refine va_put (D := D) (ci := 9) (v := .int (0 : Int32)) (ty := .int) (C := RX9) (T := TX9) (N := 44) hx hb hts in_wsX9_handOver_X9 tyX9 tyX9_ok nmX9 hown hK hP hD hS 0 rfl rfl 0 (by decide) (hts (.fieldLink RX9 92 "AssistRowsModel" "fault" "I") (List.mem_of_getElem? (i := 1) rfl)) (fun _ h9 => h9) rfl (by decide +kernel) rfl rfl (Nat.le_of_ble_eq_true rfl) dX9_handOver_2 (fun H locs hP hD hS => ?_)
  have hP : va_P D vwCl [(h_a, .inr (9, [.int (0 : Int32), .double h_now, .double h_speed, .ref h_isThere_a, .ref h_x_a, .ref h_y_a, .ref h_v_a, .ref h_sure_a, .ref h_coast_a, .ref h_many_a, .ref h_mx_a, .ref h_my_a, .ref h_mv_a, .ref h_taken_a, .ref h_way_a, .ref h_toldFirst_a, .ref h_toldSecond_a, .ref h_speedFirst_a, .int h_differs, .int h_differing, .double h_offset, .double h_slope, .double h_curve, .double h_pedal, .double h_brake, .double h_steer, .int h_isOn, .double h_offAt, .int h_isAsked, .double h_askedAt, .int h_isStopping, .double h_wished, .double h_gap, .double h_braking, .double h_pull, .int h_lead, .double h_left, .double h_leadX, .int h_stage, .int h_mode, .double h_force, .double h_wheel, .ref h_counts_a, .int h_sign]))] H := hP
  have hD : va_D A [(h_a, .inr (9, [.int (0 : Int32), .double h_now, .double h_speed, .ref h_isThere_a, .ref h_x_a, .ref h_y_a, .ref h_v_a, .ref h_sure_a, .ref h_coast_a, .ref h_many_a, .ref h_mx_a, .ref h_my_a, .ref h_mv_a, .ref h_taken_a, .ref h_way_a, .ref h_toldFirst_a, .ref h_toldSecond_a, .ref h_speedFirst_a, .int h_differs, .int h_differing, .double h_offset, .double h_slope, .double h_curve, .double h_pedal, .double h_brake, .double h_steer, .int h_isOn, .double h_offAt, .int h_isAsked, .double h_askedAt, .int h_isStopping, .double h_wished, .double h_gap, .double h_braking, .double h_pull, .int h_lead, .double h_left, .double h_leadX, .int h_stage, .int h_mode, .double h_force, .double h_wheel, .ref h_counts_a, .int h_sign]))] := hD
  refine lv_dload_n hx hb dX9_handOver_5 rfl (lv_at hl 1 rfl) ?_
  refine lv_aload_n hx hb dX9_handOver_6 rfl (lv_at hl 0 rfl) ?_
  refine va_get (D := D) (ci := 9) (v := .double h_now) (C := RX9) (T := TX9) (N := 44) hx hb hts in_wsX9_handOver_X9 hown hK hP 0 rfl rfl 1 (by decide) (hts (.fieldLink RX9 109 "AssistRowsModel" "now" "D") (List.mem_of_getElem? (i := 2) rfl)) (fun _ h9 => h9) rfl dX9_handOver_7 ?_
  refine lv_ldc2d hx hb hown (hts (.constantDouble RX9 112 (4681608360884174848)) (List.mem_of_getElem? (i := 3) rfl)) dX9_handOver_10 ?_
  obtain ⟨u1, hu1, ef0⟩ := bd_of ef0
  refine xCalli (wr := [(h_a, .inr (9, [.int (0 : Int32), .double h_now, .double h_speed, .ref h_isThere_a, .ref h_x_a, .ref h_y_a, .ref h_v_a, .ref h_sure_a, .ref h_coast_a, .ref h_many_a, .ref h_mx_a, .ref h_my_a, .ref h_mv_a, .ref h_taken_a, .ref h_way_a, .ref h_toldFirst_a, .ref h_toldSecond_a, .ref h_speedFirst_a, .int h_differs, .int h_differing, .double h_offset, .double h_slope, .double h_curve, .double h_pedal, .double h_brake, .double h_steer, .int h_isOn, .double h_offAt, .int h_isAsked, .double h_askedAt, .int h_isStopping, .double h_wished, .double h_gap, .double h_braking, .double h_pull, .int h_lead, .double h_left, .double h_leadX, .int h_stage, .int h_mode, .double h_force, .double h_wheel, .ref h_counts_a, .int h_sign]))]) (wn := [(h_a, .inr (9, [.int (0 : Int32), .double h_now, .double h_speed, .ref h_isThere_a, .ref h_x_a, .ref h_y_a, .ref h_v_a, .ref h_sure_a, .ref h_coast_a, .ref h_many_a, .ref h_mx_a, .ref h_my_a, .ref h_mv_a, .ref h_taken_a, .ref h_way_a, .ref h_toldFirst_a, .ref h_toldSecond_a, .ref h_speedFirst_a, .int h_differs, .int h_differing, .double h_offset, .double h_slope, .double h_curve, .double h_pedal, .double h_brake, .double h_steer, .int h_isOn, .double h_offAt, .int h_isAsked, .double h_askedAt, .int h_isStopping, .double h_wished, .double h_gap, .double h_braking, .double h_pull, .int h_lead, .double h_left, .double h_leadX, .int h_stage, .int h_mode, .double h_force, .double h_wheel, .ref h_counts_a, .int h_sign]))]) [] [0] [0] (va_runS (As := [.double p0, .double h_now, .double (4681608360884174848 : UInt64)]) (rest := []) ⟨hx, hb, hml, hown, hts⟩ (c_X9_in l D H.size p0 h_now (4681608360884174848 : UInt64) u1 hu1) (va_cwS 3 hts gX9_handOver_X9_in rfl rfl rfl (by decide +kernel) ⟨Nat.le_of_ble_eq_true rfl, Nat.le_of_ble_eq_true rfl⟩) (xPreS hP hD hK hN [] rfl rfl [] rfl) rfl rfl hl.1 rfl (lv_room (Nat.le_of_ble_eq_true rfl)) dX9_handOver_13 ⟨Nat.zero_le _, Nat.zero_le _⟩) hP hD hS hA rfl rfl rfl (by decide) rfl rfl (fun H locs hP hD hS => ?_)
  refine lv_if_ne (tgt := 22) hx hb dX9_handOver_16 (by decide) (fun c2 => ?_) (fun c2 => ?_)
  · have ef0 := iff_ ef0 c2
    refine lv_aload_n hx hb dX9_handOver_22 rfl (lv_at hl 0 rfl) ?_
    refine va_get (D := D) (ci := 9) (v := .int h_isAsked) (C := RX9) (T := TX9) (N := 44) hx hb hts in_wsX9_handOver_X9 hown hK hP 0 rfl rfl 28 (by decide) (hts (.fieldLink RX9 152 "AssistRowsModel" "isAsked" "Z") (List.mem_of_getElem? (i := 4) rfl)) (fun _ h9 => h9) rfl dX9_handOver_23 ?_
    refine lv_if_ne (tgt := 43) hx hb dX9_handOver_26 (by decide) (fun c3 => ?_) (fun c3 => ?_)
    · have ef0 := iff_ ef0 c3
      refine lv_bipush (v := (-3 : Int32)) hx hb dX9_handOver_43 (by decide) ?_
      have q0 := Option.some.inj ef0
      obtain ⟨t0, q1⟩ := Prod.mk.inj q0
      obtain ⟨t1, q2⟩ := Prod.mk.inj q1
      obtain ⟨t2, q3⟩ := Prod.mk.inj q2
      exact xIret t0 (by rw [← t1, ← t2, ← q3]) hx hb hr hlk hP hD hS dX9_handOver_45
    · have ef0 := ift ef0 c3
      refine lv_aload_n hx hb dX9_handOver_29 rfl (lv_at hl 0 rfl) ?_
      refine va_get (D := D) (ci := 9) (v := .int h_isOn) (C := RX9) (T := TX9) (N := 44) hx hb hts in_wsX9_handOver_X9 hown hK hP 0 rfl rfl 26 (by decide) (hts (.fieldLink RX9 57 "AssistRowsModel" "isOn" "Z") (List.mem_of_getElem? (i := 5) rfl)) (fun _ h9 => h9) rfl dX9_handOver_30 ?_
      refine lv_if_ne (tgt := 43) hx hb dX9_handOver_33 (by decide) (fun c4 => ?_) (fun c4 => ?_)
      · have ef0 := iff_ ef0 c4
        refine lv_bipush (v := (-3 : Int32)) hx hb dX9_handOver_43 (by decide) ?_
        have q0 := Option.some.inj ef0
        obtain ⟨t0, q1⟩ := Prod.mk.inj q0
        obtain ⟨t1, q2⟩ := Prod.mk.inj q1
        obtain ⟨t2, q3⟩ := Prod.mk.inj q2
        exact xIret t0 (by rw [← t1, ← t2, ← q3]) hx hb hr hlk hP hD hS dX9_handOver_45
      · have ef0 := ift ef0 c4
        refine lv_aload_n hx hb dX9_handOver_36 rfl (lv_at hl 0 rfl) ?_
        refine va_get (D := D) (ci := 9) (v := .int h_isStopping) (C := RX9) (T := TX9) (N := 44) hx hb hts in_wsX9_handOver_X9 hown hK hP 0 rfl rfl 30 (by decide) (hts (.fieldLink RX9 155 "AssistRowsModel" "isStopping" "Z") (List.mem_of_getElem? (i := 6) rfl)) (fun _ h9 => h9) rfl dX9_handOver_37 ?_
        refine lv_if_eq (tgt := 46) hx hb dX9_handOver_40 (by decide) (fun c5 => ?_) (fun c5 => ?_)
        · have ef0 := ift ef0 c5
          refine lv_aload_n hx hb dX9_handOver_46 rfl (lv_at hl 0 rfl) ?_
          refine lv_iconst (v := (1 : Int32)) hx hb dX9_handOver_47 (by decide) ?_
          refine va_put (D := D) (ci := 9) (v := .int (1 : Int32)) (ty := .boolean) (C := RX9) (T := TX9) (N := 44) hx hb hts in_wsX9_handOver_X9 tyX9 tyX9_ok nmX9 hown hK hP hD hS 0 rfl rfl 28 (by decide) (hts (.fieldLink RX9 152 "AssistRowsModel" "isAsked" "Z") (List.mem_of_getElem? (i := 4) rfl)) (fun _ h9 => h9) rfl (by decide +kernel) rfl rfl (Nat.le_of_ble_eq_true rfl) dX9_handOver_48 (fun H locs hP hD hS => ?_)
          have hP : va_P D vwCl [(h_a, .inr (9, [.int (0 : Int32), .double h_now, .double h_speed, .ref h_isThere_a, .ref h_x_a, .ref h_y_a, .ref h_v_a, .ref h_sure_a, .ref h_coast_a, .ref h_many_a, .ref h_mx_a, .ref h_my_a, .ref h_mv_a, .ref h_taken_a, .ref h_way_a, .ref h_toldFirst_a, .ref h_toldSecond_a, .ref h_speedFirst_a, .int h_differs, .int h_differing, .double h_offset, .double h_slope, .double h_curve, .double h_pedal, .double h_brake, .double h_steer, .int h_isOn, .double h_offAt, .int (1 : Int32), .double h_askedAt, .int h_isStopping, .double h_wished, .double h_gap, .double h_braking, .double h_pull, .int h_lead, .double h_left, .double h_leadX, .int h_stage, .int h_mode, .double h_force, .double h_wheel, .ref h_counts_a, .int h_sign]))] H := hP
          have hD : va_D A [(h_a, .inr (9, [.int (0 : Int32), .double h_now, .double h_speed, .ref h_isThere_a, .ref h_x_a, .ref h_y_a, .ref h_v_a, .ref h_sure_a, .ref h_coast_a, .ref h_many_a, .ref h_mx_a, .ref h_my_a, .ref h_mv_a, .ref h_taken_a, .ref h_way_a, .ref h_toldFirst_a, .ref h_toldSecond_a, .ref h_speedFirst_a, .int h_differs, .int h_differing, .double h_offset, .double h_slope, .double h_curve, .double h_pedal, .double h_brake, .double h_steer, .int h_isOn, .double h_offAt, .int (1 : Int32), .double h_askedAt, .int h_isStopping, .double h_wished, .double h_gap, .double h_braking, .double h_pull, .int h_lead, .double h_left, .double h_leadX, .int h_stage, .int h_mode, .double h_force, .double h_wheel, .ref h_counts_a, .int h_sign]))] := hD
          refine lv_aload_n hx hb dX9_handOver_51 rfl (lv_at hl 0 rfl) ?_
          refine lv_dload_n hx hb dX9_handOver_52 rfl (lv_at hl 1 rfl) ?_
          refine va_put (D := D) (ci := 9) (v := .double p0) (ty := .double) (C := RX9) (T := TX9) (N := 44) hx hb hts in_wsX9_handOver_X9 tyX9 tyX9_ok nmX9 hown hK hP hD hS 0 rfl rfl 29 (by decide) (hts (.fieldLink RX9 158 "AssistRowsModel" "askedAt" "D") (List.mem_of_getElem? (i := 7) rfl)) (fun _ h9 => h9) rfl (by decide +kernel) rfl rfl (Nat.le_of_ble_eq_true rfl) dX9_handOver_53 (fun H locs hP hD hS => ?_)
          have hP : va_P D vwCl [(h_a, .inr (9, [.int (0 : Int32), .double h_now, .double h_speed, .ref h_isThere_a, .ref h_x_a, .ref h_y_a, .ref h_v_a, .ref h_sure_a, .ref h_coast_a, .ref h_many_a, .ref h_mx_a, .ref h_my_a, .ref h_mv_a, .ref h_taken_a, .ref h_way_a, .ref h_toldFirst_a, .ref h_toldSecond_a, .ref h_speedFirst_a, .int h_differs, .int h_differing, .double h_offset, .double h_slope, .double h_curve, .double h_pedal, .double h_brake, .double h_steer, .int h_isOn, .double h_offAt, .int (1 : Int32), .double p0, .int h_isStopping, .double h_wished, .double h_gap, .double h_braking, .double h_pull, .int h_lead, .double h_left, .double h_leadX, .int h_stage, .int h_mode, .double h_force, .double h_wheel, .ref h_counts_a, .int h_sign]))] H := hP
          have hD : va_D A [(h_a, .inr (9, [.int (0 : Int32), .double h_now, .double h_speed, .ref h_isThere_a, .ref h_x_a, .ref h_y_a, .ref h_v_a, .ref h_sure_a, .ref h_coast_a, .ref h_many_a, .ref h_mx_a, .ref h_my_a, .ref h_mv_a, .ref h_taken_a, .ref h_way_a, .ref h_toldFirst_a, .ref h_toldSecond_a, .ref h_speedFirst_a, .int h_differs, .int h_differing, .double h_offset, .double h_slope, .double h_curve, .double h_pedal, .double h_brake, .double h_steer, .int h_isOn, .double h_offAt, .int (1 : Int32), .double p0, .int h_isStopping, .double h_wished, .double h_gap, .double h_braking, .double h_pull, .int h_lead, .double h_left, .double h_leadX, .int h_stage, .int h_mode, .double h_force, .double h_wheel, .ref h_counts_a, .int h_sign]))] := hD
          refine lv_iconst (v := (1 : Int32)) hx hb dX9_handOver_56 (by decide) ?_
          have q0 := Option.some.inj ef0
          obtain ⟨t0, q1⟩ := Prod.mk.inj q0
          obtain ⟨t1, q2⟩ := Prod.mk.inj q1
          obtain ⟨t2, q3⟩ := Prod.mk.inj q2
          exact xIret t0 (by rw [← t1, ← t2, ← q3]) hx hb hr hlk hP hD hS dX9_handOver_57
        · have ef0 := iff_ ef0 c5
          refine lv_bipush (v := (-3 : Int32)) hx hb dX9_handOver_43 (by decide) ?_
          have q0 := Option.some.inj ef0
          obtain ⟨t0, q1⟩ := Prod.mk.inj q0
          obtain ⟨t1, q2⟩ := Prod.mk.inj q1
          obtain ⟨t2, q3⟩ := Prod.mk.inj q2
          exact xIret t0 (by rw [← t1, ← t2, ← q3]) hx hb hr hlk hP hD hS dX9_handOver_45
  · have ef0 := ift ef0 c2
    refine lv_bipush (v := (-2 : Int32)) hx hb dX9_handOver_19 (by decide) ?_
    have q0 := Option.some.inj ef0
    obtain ⟨t0, q1⟩ := Prod.mk.inj q0
    obtain ⟨t1, q2⟩ := Prod.mk.inj q1
    obtain ⟨t2, q3⟩ := Prod.mk.inj q2
    exact xIret t0 (by rw [← t1, ← t2, ← q3]) hx hb hr hlk hP hD hS dX9_handOver_21

theorem in_wsX9_sign_X9 : ∀ w ∈ wsX90, w ∈ wsX9_sign := fun _ h => List.mem_cons_of_mem _ (List.mem_append_right _ h)
def f_X9_sign_l1 (p0 : Int32) (p1 : Int32) : Nat → Int32 → (Nat → Int32) → Option ((Nat → Int32))
  | 0, _, _ => none
  | n + 1, a18, a19 =>
  if (13 : Int32) < a18 then (
  some a19) else
  if a18 = p0 then (
  ck (inb a18 14 = true) <|
  if p1 < (60 : Int32) then (
  if p1 < (30 : Int32) then (
  ck (inb a18 14 = true) <|
  (f_X9_sign_l1 p0 p1 n) (a18 + 1) (upd a19 a18.toNatClampNeg ((a19 a18.toNatClampNeg) + (0 : Int32)))) else
  ck (inb a18 14 = true) <|
  (f_X9_sign_l1 p0 p1 n) (a18 + 1) (upd a19 a18.toNatClampNeg ((a19 a18.toNatClampNeg) + (1 : Int32)))) else
  ck (inb a18 14 = true) <|
  (f_X9_sign_l1 p0 p1 n) (a18 + 1) (upd a19 a18.toNatClampNeg ((a19 a18.toNatClampNeg) + (2 : Int32)))) else
  ck (inb a18 14 = true) <|
  if (a19 a18.toNatClampNeg) ≤ 0 then (
  ck (inb a18 14 = true) <|
  (f_X9_sign_l1 p0 p1 n) (a18 + 1) (upd a19 a18.toNatClampNeg (0 : Int32))) else
  ck (inb a18 14 = true) <|
  ck (inb a18 14 = true) <|
  (f_X9_sign_l1 p0 p1 n) (a18 + 1) (upd a19 a18.toNatClampNeg ((a19 a18.toNatClampNeg) - (1 : Int32)))
def f_X9_sign_l2 : Nat → Int32 → (Nat → Int32) → Option ((Nat → Int32))
  | 0, _, _ => none
  | n + 1, a38, a39 =>
  if (13 : Int32) < a38 then (
  some a39) else
  ck (inb a38 14 = true) <|
  (f_X9_sign_l2 n) (a38 + 1) (upd a39 a38.toNatClampNeg (0 : Int32))
def f_X9_sign (p0 : Int32) (p1 : Int32) (h_sign : Int32) (h_counts : Nat → Int32) : Option (Int32 × Int32 × Int32 × (Nat → Int32)) :=
  if p0 < (1 : Int32) then (
  some ((-1 : Int32), (0 : Int32), h_sign, h_counts)) else
  if p0 ≤ (13 : Int32) then (
  if p1 < 0 then (
  some ((-2 : Int32), (0 : Int32), h_sign, h_counts)) else
  if p1 ≤ (100 : Int32) then (
  (f_X9_sign_l1 p0 p1 16 (1 : Int32) h_counts).bind fun w33 =>
  ck (inb p0 14 = true) <|
  if (w33 p0.toNatClampNeg) < (4 : Int32) then (
  some (h_sign, (0 : Int32), h_sign, w33)) else
  (f_X9_sign_l2 16 (1 : Int32) w33).bind fun w42 =>
  some (p0, (0 : Int32), p0, w42)) else
  some ((-2 : Int32), (0 : Int32), h_sign, h_counts)) else
  some ((-1 : Int32), (0 : Int32), h_sign, h_counts)
set_option maxHeartbeats 4000000 in
set_option maxRecDepth 100000 in
theorem c_X9_sign (l : Launch) (D : va_G) (sz : Nat) (h_a : Nat) (h_isThere_a : Nat) (h_x_a : Nat) (h_y_a : Nat) (h_v_a : Nat) (h_sure_a : Nat) (h_coast_a : Nat) (h_many_a : Nat) (h_mx_a : Nat) (h_my_a : Nat) (h_mv_a : Nat) (h_taken_a : Nat) (h_way_a : Nat) (h_toldFirst_a : Nat) (h_toldSecond_a : Nat) (h_speedFirst_a : Nat) (h_counts_a : Nat) (h_counts_k : ClassId) (p0 : Int32) (p1 : Int32) (h_fault : Int32) (h_now : UInt64) (h_speed : UInt64) (h_differs : Int32) (h_differing : Int32) (h_offset : UInt64) (h_slope : UInt64) (h_curve : UInt64) (h_pedal : UInt64) (h_brake : UInt64) (h_steer : UInt64) (h_isOn : Int32) (h_offAt : UInt64) (h_isAsked : Int32) (h_askedAt : UInt64) (h_isStopping : Int32) (h_wished : UInt64) (h_gap : UInt64) (h_braking : UInt64) (h_pull : UInt64) (h_lead : Int32) (h_left : UInt64) (h_leadX : UInt64) (h_stage : Int32) (h_mode : Int32) (h_force : UInt64) (h_wheel : UInt64) (h_sign : Int32) (h_counts : Nat → Int32) (r0 : Int32) (r1 : Int32) (r2 : Int32) (r3 : Nat → Int32) (hf : f_X9_sign p0 p1 h_sign h_counts = some (r0, r1, r2, r3)) : Met l yX9_sign wsX9_sign { frames := 0, cells := 0, slots := 0, locals := 0 } (va_Pc [.ref h_a, .int p0, .int p1] (xPre D [(h_a, .inr (9, [.int h_fault, .double h_now, .double h_speed, .ref h_isThere_a, .ref h_x_a, .ref h_y_a, .ref h_v_a, .ref h_sure_a, .ref h_coast_a, .ref h_many_a, .ref h_mx_a, .ref h_my_a, .ref h_mv_a, .ref h_taken_a, .ref h_way_a, .ref h_toldFirst_a, .ref h_toldSecond_a, .ref h_speedFirst_a, .int h_differs, .int h_differing, .double h_offset, .double h_slope, .double h_curve, .double h_pedal, .double h_brake, .double h_steer, .int h_isOn, .double h_offAt, .int h_isAsked, .double h_askedAt, .int h_isStopping, .double h_wished, .double h_gap, .double h_braking, .double h_pull, .int h_lead, .double h_left, .double h_leadX, .int h_stage, .int h_mode, .double h_force, .double h_wheel, .ref h_counts_a, .int h_sign])), (h_counts_a, .inl (h_counts_k, 14, .inl h_counts))] [(h_counts_k, .int)] sz)) (va_Qi (fun (x : Int32) (_ : Unit) => x = r0) (fun _ => xB D (va_A [(h_a, .inr (9, [.int h_fault, .double h_now, .double h_speed, .ref h_isThere_a, .ref h_x_a, .ref h_y_a, .ref h_v_a, .ref h_sure_a, .ref h_coast_a, .ref h_many_a, .ref h_mx_a, .ref h_my_a, .ref h_mv_a, .ref h_taken_a, .ref h_way_a, .ref h_toldFirst_a, .ref h_toldSecond_a, .ref h_speedFirst_a, .int h_differs, .int h_differing, .double h_offset, .double h_slope, .double h_curve, .double h_pedal, .double h_brake, .double h_steer, .int h_isOn, .double h_offAt, .int h_isAsked, .double h_askedAt, .int h_isStopping, .double h_wished, .double h_gap, .double h_braking, .double h_pull, .int h_lead, .double h_left, .double h_leadX, .int h_stage, .int h_mode, .double h_force, .double h_wheel, .ref h_counts_a, .int h_sign])), (h_counts_a, .inl (h_counts_k, 14, .inl h_counts))] sz) [(h_a, .inr (9, [.int r1, .double h_now, .double h_speed, .ref h_isThere_a, .ref h_x_a, .ref h_y_a, .ref h_v_a, .ref h_sure_a, .ref h_coast_a, .ref h_many_a, .ref h_mx_a, .ref h_my_a, .ref h_mv_a, .ref h_taken_a, .ref h_way_a, .ref h_toldFirst_a, .ref h_toldSecond_a, .ref h_speedFirst_a, .int h_differs, .int h_differing, .double h_offset, .double h_slope, .double h_curve, .double h_pedal, .double h_brake, .double h_steer, .int h_isOn, .double h_offAt, .int h_isAsked, .double h_askedAt, .int h_isStopping, .double h_wished, .double h_gap, .double h_braking, .double h_pull, .int h_lead, .double h_left, .double h_leadX, .int h_stage, .int h_mode, .double h_force, .double h_wheel, .ref h_counts_a, .int r2])), (h_counts_a, .inl (h_counts_k, 14, .inl r3))]) (va_A [(h_a, .inr (9, [.int h_fault, .double h_now, .double h_speed, .ref h_isThere_a, .ref h_x_a, .ref h_y_a, .ref h_v_a, .ref h_sure_a, .ref h_coast_a, .ref h_many_a, .ref h_mx_a, .ref h_my_a, .ref h_mv_a, .ref h_taken_a, .ref h_way_a, .ref h_toldFirst_a, .ref h_toldSecond_a, .ref h_speedFirst_a, .int h_differs, .int h_differing, .double h_offset, .double h_slope, .double h_curve, .double h_pedal, .double h_brake, .double h_steer, .int h_isOn, .double h_offAt, .int h_isAsked, .double h_askedAt, .int h_isStopping, .double h_wished, .double h_gap, .double h_braking, .double h_pull, .int h_lead, .double h_left, .double h_leadX, .int h_stage, .int h_mode, .double h_force, .double h_wheel, .ref h_counts_a, .int h_sign])), (h_counts_a, .inl (h_counts_k, 14, .inl h_counts))] sz)) 0 0 (va_A [(h_a, .inr (9, [.int h_fault, .double h_now, .double h_speed, .ref h_isThere_a, .ref h_x_a, .ref h_y_a, .ref h_v_a, .ref h_sure_a, .ref h_coast_a, .ref h_many_a, .ref h_mx_a, .ref h_my_a, .ref h_mv_a, .ref h_taken_a, .ref h_way_a, .ref h_toldFirst_a, .ref h_toldSecond_a, .ref h_speedFirst_a, .int h_differs, .int h_differing, .double h_offset, .double h_slope, .double h_curve, .double h_pedal, .double h_brake, .double h_steer, .int h_isOn, .double h_offAt, .int h_isAsked, .double h_askedAt, .int h_isStopping, .double h_wished, .double h_gap, .double h_braking, .double h_pull, .int h_lead, .double h_left, .double h_leadX, .int h_stage, .int h_mode, .double h_force, .double h_wheel, .ref h_counts_a, .int h_sign])), (h_counts_a, .inl (h_counts_k, 14, .inl h_counts))] sz) := by
  refine xOfW (l := l) (y := yX9_sign) (ws := wsX9_sign) (D := D) (cells := [(h_a, .inr (9, [.int h_fault, .double h_now, .double h_speed, .ref h_isThere_a, .ref h_x_a, .ref h_y_a, .ref h_v_a, .ref h_sure_a, .ref h_coast_a, .ref h_many_a, .ref h_mx_a, .ref h_my_a, .ref h_mv_a, .ref h_taken_a, .ref h_way_a, .ref h_toldFirst_a, .ref h_toldSecond_a, .ref h_speedFirst_a, .int h_differs, .int h_differing, .double h_offset, .double h_slope, .double h_curve, .double h_pedal, .double h_brake, .double h_steer, .int h_isOn, .double h_offAt, .int h_isAsked, .double h_askedAt, .int h_isStopping, .double h_wished, .double h_gap, .double h_braking, .double h_pull, .int h_lead, .double h_left, .double h_leadX, .int h_stage, .int h_mode, .double h_force, .double h_wheel, .ref h_counts_a, .int h_sign])), (h_counts_a, .inl (h_counts_k, 14, .inl h_counts))]) (tys := [(h_counts_k, .int)]) (sz := sz) (av := [.ref h_a, .int p0, .int p1]) (cc := cX9_sign) (maxL := 4) (ret := (some .int)) (fun A => va_Qi (fun (x : Int32) (_ : Unit) => x = r0) (fun _ => xB D A [(h_a, .inr (9, [.int r1, .double h_now, .double h_speed, .ref h_isThere_a, .ref h_x_a, .ref h_y_a, .ref h_v_a, .ref h_sure_a, .ref h_coast_a, .ref h_many_a, .ref h_mx_a, .ref h_my_a, .ref h_mv_a, .ref h_taken_a, .ref h_way_a, .ref h_toldFirst_a, .ref h_toldSecond_a, .ref h_speedFirst_a, .int h_differs, .int h_differing, .double h_offset, .double h_slope, .double h_curve, .double h_pedal, .double h_brake, .double h_steer, .int h_isOn, .double h_offAt, .int h_isAsked, .double h_askedAt, .int h_isStopping, .double h_wished, .double h_gap, .double h_braking, .double h_pull, .int h_lead, .double h_left, .double h_leadX, .int h_stage, .int h_mode, .double h_force, .double h_wheel, .ref h_counts_a, .int r2])), (h_counts_a, .inl (h_counts_k, 14, .inl r3))]) A) (by decide) rfl (Nat.le_of_ble_eq_true rfl) ?_
  intro p e s m below meth c A H ls hx hb hr hml hown hlk hts hP hK hD hS hA hN hl
  have hl : lv_has ls 4 [(0, .ref h_a), (1, .int p0), (2, .int p1)] := hl
  have hown : s.vm.findClass RX9 = some m.cls := hown
  have ef0 : f_X9_sign p0 p1 h_sign h_counts = some (r0, r1, r2, r3) := hf
  rewrite [f_X9_sign] at ef0
  refine lv_aload_n hx hb dX9_sign_0 rfl (lv_at hl 0 rfl) ?_
  refine lv_iconst (v := (0 : Int32)) hx hb dX9_sign_1 (by decide) ?_
  refine va_put (D := D) (ci := 9) (v := .int (0 : Int32)) (ty := .int) (C := RX9) (T := TX9) (N := 44) hx hb hts in_wsX9_sign_X9 tyX9 tyX9_ok nmX9 hown hK hP hD hS 0 rfl rfl 0 (by decide) (hts (.fieldLink RX9 92 "AssistRowsModel" "fault" "I") (List.mem_of_getElem? (i := 1) rfl)) (fun _ h9 => h9) rfl (by decide +kernel) rfl rfl (Nat.le_of_ble_eq_true rfl) dX9_sign_2 (fun H locs hP hD hS => ?_)
  have hP : va_P D vwCl [(h_a, .inr (9, [.int (0 : Int32), .double h_now, .double h_speed, .ref h_isThere_a, .ref h_x_a, .ref h_y_a, .ref h_v_a, .ref h_sure_a, .ref h_coast_a, .ref h_many_a, .ref h_mx_a, .ref h_my_a, .ref h_mv_a, .ref h_taken_a, .ref h_way_a, .ref h_toldFirst_a, .ref h_toldSecond_a, .ref h_speedFirst_a, .int h_differs, .int h_differing, .double h_offset, .double h_slope, .double h_curve, .double h_pedal, .double h_brake, .double h_steer, .int h_isOn, .double h_offAt, .int h_isAsked, .double h_askedAt, .int h_isStopping, .double h_wished, .double h_gap, .double h_braking, .double h_pull, .int h_lead, .double h_left, .double h_leadX, .int h_stage, .int h_mode, .double h_force, .double h_wheel, .ref h_counts_a, .int h_sign])), (h_counts_a, .inl (h_counts_k, 14, .inl h_counts))] H := hP
  have hD : va_D A [(h_a, .inr (9, [.int (0 : Int32), .double h_now, .double h_speed, .ref h_isThere_a, .ref h_x_a, .ref h_y_a, .ref h_v_a, .ref h_sure_a, .ref h_coast_a, .ref h_many_a, .ref h_mx_a, .ref h_my_a, .ref h_mv_a, .ref h_taken_a, .ref h_way_a, .ref h_toldFirst_a, .ref h_toldSecond_a, .ref h_speedFirst_a, .int h_differs, .int h_differing, .double h_offset, .double h_slope, .double h_curve, .double h_pedal, .double h_brake, .double h_steer, .int h_isOn, .double h_offAt, .int h_isAsked, .double h_askedAt, .int h_isStopping, .double h_wished, .double h_gap, .double h_braking, .double h_pull, .int h_lead, .double h_left, .double h_leadX, .int h_stage, .int h_mode, .double h_force, .double h_wheel, .ref h_counts_a, .int h_sign])), (h_counts_a, .inl (h_counts_k, 14, .inl h_counts))] := hD
  refine lv_iload_n hx hb dX9_sign_5 rfl (lv_at hl 1 rfl) ?_
  refine lv_iconst (v := (1 : Int32)) hx hb dX9_sign_6 (by decide) ?_
  refine lv_icmp_lt (tgt := 16) hx hb dX9_sign_7 (by decide) (fun c1 => ?_) (fun c1 => ?_)
  · have ef0 := ift ef0 c1
    refine lv_iconst (v := (-1 : Int32)) hx hb dX9_sign_16 (by decide) ?_
    have q0 := Option.some.inj ef0
    obtain ⟨t0, q1⟩ := Prod.mk.inj q0
    obtain ⟨t1, q2⟩ := Prod.mk.inj q1
    obtain ⟨t2, q3⟩ := Prod.mk.inj q2
    exact xIret t0 (by rw [← t1, ← t2, ← q3]) hx hb hr hlk hP hD hS dX9_sign_17
  · have ef0 := iff_ ef0 c1
    refine lv_iload_n hx hb dX9_sign_10 rfl (lv_at hl 1 rfl) ?_
    refine lv_bipush (v := (13 : Int32)) hx hb dX9_sign_11 (by decide) ?_
    refine lv_icmp_le (tgt := 18) hx hb dX9_sign_13 (by decide) (fun c2 => ?_) (fun c2 => ?_)
    · have ef0 := ift ef0 c2
      refine lv_iload_n hx hb dX9_sign_18 rfl (lv_at hl 2 rfl) ?_
      refine lv_if_lt (tgt := 28) hx hb dX9_sign_19 (by decide) (fun c3 => ?_) (fun c3 => ?_)
      · have ef0 := ift ef0 c3
        refine lv_bipush (v := (-2 : Int32)) hx hb dX9_sign_28 (by decide) ?_
        have q0 := Option.some.inj ef0
        obtain ⟨t0, q1⟩ := Prod.mk.inj q0
        obtain ⟨t1, q2⟩ := Prod.mk.inj q1
        obtain ⟨t2, q3⟩ := Prod.mk.inj q2
        exact xIret t0 (by rw [← t1, ← t2, ← q3]) hx hb hr hlk hP hD hS dX9_sign_30
      · have ef0 := iff_ ef0 c3
        refine lv_iload_n hx hb dX9_sign_22 rfl (lv_at hl 2 rfl) ?_
        refine lv_bipush (v := (100 : Int32)) hx hb dX9_sign_23 (by decide) ?_
        refine lv_icmp_le (tgt := 31) hx hb dX9_sign_25 (by decide) (fun c4 => ?_) (fun c4 => ?_)
        · have ef0 := ift ef0 c4
          refine lv_iconst (v := (1 : Int32)) hx hb dX9_sign_31 (by decide) ?_
          refine lv_istore_n (lv' := [(3, .int (1 : Int32)), (0, .ref h_a), (1, .int p0), (2, .int p1)]) hx hb dX9_sign_32 rfl hl (by decide) rfl (fun ls hl => ?_)
          obtain ⟨zw33, hw33, ef0⟩ := bd_of ef0
          refine xCut (ι := (Nat → Int32)) (fun z H locs ls => z = zw33 ∧ va_P D vwCl [(h_a, .inr (9, [.int (0 : Int32), .double h_now, .double h_speed, .ref h_isThere_a, .ref h_x_a, .ref h_y_a, .ref h_v_a, .ref h_sure_a, .ref h_coast_a, .ref h_many_a, .ref h_mx_a, .ref h_my_a, .ref h_mv_a, .ref h_taken_a, .ref h_way_a, .ref h_toldFirst_a, .ref h_toldSecond_a, .ref h_speedFirst_a, .int h_differs, .int h_differing, .double h_offset, .double h_slope, .double h_curve, .double h_pedal, .double h_brake, .double h_steer, .int h_isOn, .double h_offAt, .int h_isAsked, .double h_askedAt, .int h_isStopping, .double h_wished, .double h_gap, .double h_braking, .double h_pull, .int h_lead, .double h_left, .double h_leadX, .int h_stage, .int h_mode, .double h_force, .double h_wheel, .ref h_counts_a, .int h_sign])), (h_counts_a, .inl (h_counts_k, 14, .inl z))] H ∧ va_D A [(h_a, .inr (9, [.int (0 : Int32), .double h_now, .double h_speed, .ref h_isThere_a, .ref h_x_a, .ref h_y_a, .ref h_v_a, .ref h_sure_a, .ref h_coast_a, .ref h_many_a, .ref h_mx_a, .ref h_my_a, .ref h_mv_a, .ref h_taken_a, .ref h_way_a, .ref h_toldFirst_a, .ref h_toldSecond_a, .ref h_speedFirst_a, .int h_differs, .int h_differing, .double h_offset, .double h_slope, .double h_curve, .double h_pedal, .double h_brake, .double h_steer, .int h_isOn, .double h_offAt, .int h_isAsked, .double h_askedAt, .int h_isStopping, .double h_wished, .double h_gap, .double h_braking, .double h_pull, .int h_lead, .double h_left, .double h_leadX, .int h_stage, .int h_mode, .double h_force, .double h_wheel, .ref h_counts_a, .int h_sign])), (h_counts_a, .inl (h_counts_k, 14, .inl z))] ∧ va_S A s.heap H locs ∧ lv_has ls 4 [(0, .ref h_a), (1, .int p0)]) 110 (fun _ => []) ?_ (fun E1 => ?_)
          · intro w33 H locs ls hz
            obtain ⟨hz, hP, hD, hS, hl⟩ := hz
            subst hz
            refine lv_aload_n hx hb dX9_sign_110 rfl (lv_at hl 0 rfl) ?_
            refine va_get (D := D) (ci := 9) (v := .ref h_counts_a) (C := RX9) (T := TX9) (N := 44) hx hb hts in_wsX9_sign_X9 hown hK hP 0 rfl rfl 42 (by decide) (hts (.fieldLink RX9 89 "AssistRowsModel" "counts" "[I") (List.mem_of_getElem? (i := 2) rfl)) (fun _ h9 => h9) rfl dX9_sign_111 ?_
            refine lv_iload_n hx hb dX9_sign_114 rfl (lv_at hl 1 rfl) ?_
            obtain ⟨h34, ef0⟩ := ck_of ef0
            refine va_iald hx hb hK hP 1 0 rfl rfl (inb_of h34) dX9_sign_115 ?_
            refine lv_iconst (v := (4 : Int32)) hx hb dX9_sign_116 (by decide) ?_
            refine lv_icmp_lt (tgt := 146) hx hb dX9_sign_117 (by decide) (fun c35 => ?_) (fun c35 => ?_)
            · have ef0 := ift ef0 c35
              refine lv_aload_n hx hb dX9_sign_146 rfl (lv_at hl 0 rfl) ?_
              refine va_get (D := D) (ci := 9) (v := .int h_sign) (C := RX9) (T := TX9) (N := 44) hx hb hts in_wsX9_sign_X9 hown hK hP 0 rfl rfl 43 (by decide) (hts (.fieldLink RX9 161 "AssistRowsModel" "sign" "I") (List.mem_of_getElem? (i := 3) rfl)) (fun _ h9 => h9) rfl dX9_sign_147 ?_
              have q0 := Option.some.inj ef0
              obtain ⟨t0, q1⟩ := Prod.mk.inj q0
              obtain ⟨t1, q2⟩ := Prod.mk.inj q1
              obtain ⟨t2, q3⟩ := Prod.mk.inj q2
              exact xIret t0 (by rw [← t1, ← t2, ← q3]) hx hb hr hlk hP hD hS dX9_sign_150
            · have ef0 := iff_ ef0 c35
              refine lv_aload_n hx hb dX9_sign_120 rfl (lv_at hl 0 rfl) ?_
              refine lv_iload_n hx hb dX9_sign_121 rfl (lv_at hl 1 rfl) ?_
              refine va_put (D := D) (ci := 9) (v := .int p0) (ty := .int) (C := RX9) (T := TX9) (N := 44) hx hb hts in_wsX9_sign_X9 tyX9 tyX9_ok nmX9 hown hK hP hD hS 0 rfl rfl 43 (by decide) (hts (.fieldLink RX9 161 "AssistRowsModel" "sign" "I") (List.mem_of_getElem? (i := 3) rfl)) (fun _ h9 => h9) rfl (by decide +kernel) rfl rfl (Nat.le_of_ble_eq_true rfl) dX9_sign_122 (fun H locs hP hD hS => ?_)
              have hP : va_P D vwCl [(h_a, .inr (9, [.int (0 : Int32), .double h_now, .double h_speed, .ref h_isThere_a, .ref h_x_a, .ref h_y_a, .ref h_v_a, .ref h_sure_a, .ref h_coast_a, .ref h_many_a, .ref h_mx_a, .ref h_my_a, .ref h_mv_a, .ref h_taken_a, .ref h_way_a, .ref h_toldFirst_a, .ref h_toldSecond_a, .ref h_speedFirst_a, .int h_differs, .int h_differing, .double h_offset, .double h_slope, .double h_curve, .double h_pedal, .double h_brake, .double h_steer, .int h_isOn, .double h_offAt, .int h_isAsked, .double h_askedAt, .int h_isStopping, .double h_wished, .double h_gap, .double h_braking, .double h_pull, .int h_lead, .double h_left, .double h_leadX, .int h_stage, .int h_mode, .double h_force, .double h_wheel, .ref h_counts_a, .int p0])), (h_counts_a, .inl (h_counts_k, 14, .inl w33))] H := hP
              have hD : va_D A [(h_a, .inr (9, [.int (0 : Int32), .double h_now, .double h_speed, .ref h_isThere_a, .ref h_x_a, .ref h_y_a, .ref h_v_a, .ref h_sure_a, .ref h_coast_a, .ref h_many_a, .ref h_mx_a, .ref h_my_a, .ref h_mv_a, .ref h_taken_a, .ref h_way_a, .ref h_toldFirst_a, .ref h_toldSecond_a, .ref h_speedFirst_a, .int h_differs, .int h_differing, .double h_offset, .double h_slope, .double h_curve, .double h_pedal, .double h_brake, .double h_steer, .int h_isOn, .double h_offAt, .int h_isAsked, .double h_askedAt, .int h_isStopping, .double h_wished, .double h_gap, .double h_braking, .double h_pull, .int h_lead, .double h_left, .double h_leadX, .int h_stage, .int h_mode, .double h_force, .double h_wheel, .ref h_counts_a, .int p0])), (h_counts_a, .inl (h_counts_k, 14, .inl w33))] := hD
              refine lv_iconst (v := (1 : Int32)) hx hb dX9_sign_125 (by decide) ?_
              refine lv_istore_n (lv' := [(3, .int (1 : Int32)), (0, .ref h_a), (1, .int p0)]) hx hb dX9_sign_126 rfl hl (by decide) rfl (fun ls hl => ?_)
              obtain ⟨zw42, hw42, ef0⟩ := bd_of ef0
              refine xCut (ι := (Nat → Int32)) (fun z H locs ls => z = zw42 ∧ va_P D vwCl [(h_a, .inr (9, [.int (0 : Int32), .double h_now, .double h_speed, .ref h_isThere_a, .ref h_x_a, .ref h_y_a, .ref h_v_a, .ref h_sure_a, .ref h_coast_a, .ref h_many_a, .ref h_mx_a, .ref h_my_a, .ref h_mv_a, .ref h_taken_a, .ref h_way_a, .ref h_toldFirst_a, .ref h_toldSecond_a, .ref h_speedFirst_a, .int h_differs, .int h_differing, .double h_offset, .double h_slope, .double h_curve, .double h_pedal, .double h_brake, .double h_steer, .int h_isOn, .double h_offAt, .int h_isAsked, .double h_askedAt, .int h_isStopping, .double h_wished, .double h_gap, .double h_braking, .double h_pull, .int h_lead, .double h_left, .double h_leadX, .int h_stage, .int h_mode, .double h_force, .double h_wheel, .ref h_counts_a, .int p0])), (h_counts_a, .inl (h_counts_k, 14, .inl z))] H ∧ va_D A [(h_a, .inr (9, [.int (0 : Int32), .double h_now, .double h_speed, .ref h_isThere_a, .ref h_x_a, .ref h_y_a, .ref h_v_a, .ref h_sure_a, .ref h_coast_a, .ref h_many_a, .ref h_mx_a, .ref h_my_a, .ref h_mv_a, .ref h_taken_a, .ref h_way_a, .ref h_toldFirst_a, .ref h_toldSecond_a, .ref h_speedFirst_a, .int h_differs, .int h_differing, .double h_offset, .double h_slope, .double h_curve, .double h_pedal, .double h_brake, .double h_steer, .int h_isOn, .double h_offAt, .int h_isAsked, .double h_askedAt, .int h_isStopping, .double h_wished, .double h_gap, .double h_braking, .double h_pull, .int h_lead, .double h_left, .double h_leadX, .int h_stage, .int h_mode, .double h_force, .double h_wheel, .ref h_counts_a, .int p0])), (h_counts_a, .inl (h_counts_k, 14, .inl z))] ∧ va_S A s.heap H locs ∧ lv_has ls 4 [(0, .ref h_a)]) 146 (fun _ => []) ?_ (fun E2 => ?_)
              · intro w42 H locs ls hz
                obtain ⟨hz, hP, hD, hS, hl⟩ := hz
                subst hz
                refine lv_aload_n hx hb dX9_sign_146 rfl (lv_at hl 0 rfl) ?_
                refine va_get (D := D) (ci := 9) (v := .int p0) (C := RX9) (T := TX9) (N := 44) hx hb hts in_wsX9_sign_X9 hown hK hP 0 rfl rfl 43 (by decide) (hts (.fieldLink RX9 161 "AssistRowsModel" "sign" "I") (List.mem_of_getElem? (i := 3) rfl)) (fun _ h9 => h9) rfl dX9_sign_147 ?_
                have q0 := Option.some.inj ef0
                obtain ⟨t0, q1⟩ := Prod.mk.inj q0
                obtain ⟨t1, q2⟩ := Prod.mk.inj q1
                obtain ⟨t2, q3⟩ := Prod.mk.inj q2
                exact xIret t0 (by rw [← t1, ← t2, ← q3]) hx hb hr hlk hP hD hS dX9_sign_150
              · refine xLoop (ι := Int32 × (Nat → Int32)) (fun n z H locs ls => f_X9_sign_l2 n z.1 z.2 = some zw42 ∧ va_P D vwCl [(h_a, .inr (9, [.int (0 : Int32), .double h_now, .double h_speed, .ref h_isThere_a, .ref h_x_a, .ref h_y_a, .ref h_v_a, .ref h_sure_a, .ref h_coast_a, .ref h_many_a, .ref h_mx_a, .ref h_my_a, .ref h_mv_a, .ref h_taken_a, .ref h_way_a, .ref h_toldFirst_a, .ref h_toldSecond_a, .ref h_speedFirst_a, .int h_differs, .int h_differing, .double h_offset, .double h_slope, .double h_curve, .double h_pedal, .double h_brake, .double h_steer, .int h_isOn, .double h_offAt, .int h_isAsked, .double h_askedAt, .int h_isStopping, .double h_wished, .double h_gap, .double h_braking, .double h_pull, .int h_lead, .double h_left, .double h_leadX, .int h_stage, .int h_mode, .double h_force, .double h_wheel, .ref h_counts_a, .int p0])), (h_counts_a, .inl (h_counts_k, 14, .inl z.2))] H ∧ va_D A [(h_a, .inr (9, [.int (0 : Int32), .double h_now, .double h_speed, .ref h_isThere_a, .ref h_x_a, .ref h_y_a, .ref h_v_a, .ref h_sure_a, .ref h_coast_a, .ref h_many_a, .ref h_mx_a, .ref h_my_a, .ref h_mv_a, .ref h_taken_a, .ref h_way_a, .ref h_toldFirst_a, .ref h_toldSecond_a, .ref h_speedFirst_a, .int h_differs, .int h_differing, .double h_offset, .double h_slope, .double h_curve, .double h_pedal, .double h_brake, .double h_steer, .int h_isOn, .double h_offAt, .int h_isAsked, .double h_askedAt, .int h_isStopping, .double h_wished, .double h_gap, .double h_braking, .double h_pull, .int h_lead, .double h_left, .double h_leadX, .int h_stage, .int h_mode, .double h_force, .double h_wheel, .ref h_counts_a, .int p0])), (h_counts_a, .inl (h_counts_k, 14, .inl z.2))] ∧ va_S A s.heap H locs ∧ lv_has ls 4 [(0, .ref h_a), (3, .int z.1)]) 127 (fun _ => []) (fun z _ _ _ h => absurd (show (none : Option ((Nat → Int32))) = some _ from h.1) (fun h => nomatch h)) ?_ (fun L2 => ?_)
                · intro n L2 z H locs ls hz
                  obtain ⟨a38, a39⟩ := z
                  obtain ⟨ef1, hP, hD, hS, hl⟩ := hz
                  have ef1 : f_X9_sign_l2 (n + 1) a38 a39 = some zw42 := ef1
                  have hP : va_P D vwCl [(h_a, .inr (9, [.int (0 : Int32), .double h_now, .double h_speed, .ref h_isThere_a, .ref h_x_a, .ref h_y_a, .ref h_v_a, .ref h_sure_a, .ref h_coast_a, .ref h_many_a, .ref h_mx_a, .ref h_my_a, .ref h_mv_a, .ref h_taken_a, .ref h_way_a, .ref h_toldFirst_a, .ref h_toldSecond_a, .ref h_speedFirst_a, .int h_differs, .int h_differing, .double h_offset, .double h_slope, .double h_curve, .double h_pedal, .double h_brake, .double h_steer, .int h_isOn, .double h_offAt, .int h_isAsked, .double h_askedAt, .int h_isStopping, .double h_wished, .double h_gap, .double h_braking, .double h_pull, .int h_lead, .double h_left, .double h_leadX, .int h_stage, .int h_mode, .double h_force, .double h_wheel, .ref h_counts_a, .int p0])), (h_counts_a, .inl (h_counts_k, 14, .inl a39))] H := hP
                  have hD : va_D A [(h_a, .inr (9, [.int (0 : Int32), .double h_now, .double h_speed, .ref h_isThere_a, .ref h_x_a, .ref h_y_a, .ref h_v_a, .ref h_sure_a, .ref h_coast_a, .ref h_many_a, .ref h_mx_a, .ref h_my_a, .ref h_mv_a, .ref h_taken_a, .ref h_way_a, .ref h_toldFirst_a, .ref h_toldSecond_a, .ref h_speedFirst_a, .int h_differs, .int h_differing, .double h_offset, .double h_slope, .double h_curve, .double h_pedal, .double h_brake, .double h_steer, .int h_isOn, .double h_offAt, .int h_isAsked, .double h_askedAt, .int h_isStopping, .double h_wished, .double h_gap, .double h_braking, .double h_pull, .int h_lead, .double h_left, .double h_leadX, .int h_stage, .int h_mode, .double h_force, .double h_wheel, .ref h_counts_a, .int p0])), (h_counts_a, .inl (h_counts_k, 14, .inl a39))] := hD
                  have hl : lv_has ls 4 [(0, .ref h_a), (3, .int a38)] := hl
                  rewrite [f_X9_sign_l2] at ef1
                  refine lv_iload_n hx hb dX9_sign_127 rfl (lv_at hl 1 rfl) ?_
                  refine lv_bipush (v := (13 : Int32)) hx hb dX9_sign_128 (by decide) ?_
                  refine lv_icmp_gt (tgt := 146) hx hb dX9_sign_130 (by decide) (fun c40 => ?_) (fun c40 => ?_)
                  · have ef1 := ift ef1 c40
                    exact E2 a39 _ _ _ ⟨Option.some.inj ef1, hP, hD, hS, lv_sub hl [0] rfl⟩
                  · have ef1 := iff_ ef1 c40
                    refine lv_aload_n hx hb dX9_sign_133 rfl (lv_at hl 0 rfl) ?_
                    refine va_get (D := D) (ci := 9) (v := .ref h_counts_a) (C := RX9) (T := TX9) (N := 44) hx hb hts in_wsX9_sign_X9 hown hK hP 0 rfl rfl 42 (by decide) (hts (.fieldLink RX9 89 "AssistRowsModel" "counts" "[I") (List.mem_of_getElem? (i := 2) rfl)) (fun _ h9 => h9) rfl dX9_sign_134 ?_
                    refine lv_iload_n hx hb dX9_sign_137 rfl (lv_at hl 1 rfl) ?_
                    refine lv_iconst (v := (0 : Int32)) hx hb dX9_sign_138 (by decide) ?_
                    obtain ⟨h41, ef1⟩ := ck_of ef1
                    refine va_iast hx hb hK hP hD hS 1 0 rfl rfl (inb_of h41) dX9_sign_139 (fun H locs hP hD hS => ?_)
                    have hP : va_P D vwCl [(h_a, .inr (9, [.int (0 : Int32), .double h_now, .double h_speed, .ref h_isThere_a, .ref h_x_a, .ref h_y_a, .ref h_v_a, .ref h_sure_a, .ref h_coast_a, .ref h_many_a, .ref h_mx_a, .ref h_my_a, .ref h_mv_a, .ref h_taken_a, .ref h_way_a, .ref h_toldFirst_a, .ref h_toldSecond_a, .ref h_speedFirst_a, .int h_differs, .int h_differing, .double h_offset, .double h_slope, .double h_curve, .double h_pedal, .double h_brake, .double h_steer, .int h_isOn, .double h_offAt, .int h_isAsked, .double h_askedAt, .int h_isStopping, .double h_wished, .double h_gap, .double h_braking, .double h_pull, .int h_lead, .double h_left, .double h_leadX, .int h_stage, .int h_mode, .double h_force, .double h_wheel, .ref h_counts_a, .int p0])), (h_counts_a, .inl (h_counts_k, 14, .inl (upd a39 a38.toNatClampNeg (0 : Int32))))] H := hP
                    have hD : va_D A [(h_a, .inr (9, [.int (0 : Int32), .double h_now, .double h_speed, .ref h_isThere_a, .ref h_x_a, .ref h_y_a, .ref h_v_a, .ref h_sure_a, .ref h_coast_a, .ref h_many_a, .ref h_mx_a, .ref h_my_a, .ref h_mv_a, .ref h_taken_a, .ref h_way_a, .ref h_toldFirst_a, .ref h_toldSecond_a, .ref h_speedFirst_a, .int h_differs, .int h_differing, .double h_offset, .double h_slope, .double h_curve, .double h_pedal, .double h_brake, .double h_steer, .int h_isOn, .double h_offAt, .int h_isAsked, .double h_askedAt, .int h_isStopping, .double h_wished, .double h_gap, .double h_braking, .double h_pull, .int h_lead, .double h_left, .double h_leadX, .int h_stage, .int h_mode, .double h_force, .double h_wheel, .ref h_counts_a, .int p0])), (h_counts_a, .inl (h_counts_k, 14, .inl (upd a39 a38.toNatClampNeg (0 : Int32))))] := hD
                    refine lv_iinc (v := (a38 + 1)) (lv' := [(3, .int (a38 + 1)), (0, .ref h_a)]) hx hb dX9_sign_140 hl (k := 1) rfl rfl (by decide) rfl (fun ls hl => ?_)
                    refine lv_goto (tgt := 127) hx hb dX9_sign_143 (by decide) ?_
                    exact L2 ((a38 + 1), (upd a39 a38.toNatClampNeg (0 : Int32))) _ _ _ ⟨ef1, hP, hD, hS, lv_sub hl [1, 0] rfl⟩
                · exact L2 16 ((1 : Int32), w33) _ _ _ ⟨hw42, hP, hD, hS, lv_sub hl [1, 0] rfl⟩
          · refine xLoop (ι := Int32 × (Nat → Int32)) (fun n z H locs ls => f_X9_sign_l1 p0 p1 n z.1 z.2 = some zw33 ∧ va_P D vwCl [(h_a, .inr (9, [.int (0 : Int32), .double h_now, .double h_speed, .ref h_isThere_a, .ref h_x_a, .ref h_y_a, .ref h_v_a, .ref h_sure_a, .ref h_coast_a, .ref h_many_a, .ref h_mx_a, .ref h_my_a, .ref h_mv_a, .ref h_taken_a, .ref h_way_a, .ref h_toldFirst_a, .ref h_toldSecond_a, .ref h_speedFirst_a, .int h_differs, .int h_differing, .double h_offset, .double h_slope, .double h_curve, .double h_pedal, .double h_brake, .double h_steer, .int h_isOn, .double h_offAt, .int h_isAsked, .double h_askedAt, .int h_isStopping, .double h_wished, .double h_gap, .double h_braking, .double h_pull, .int h_lead, .double h_left, .double h_leadX, .int h_stage, .int h_mode, .double h_force, .double h_wheel, .ref h_counts_a, .int h_sign])), (h_counts_a, .inl (h_counts_k, 14, .inl z.2))] H ∧ va_D A [(h_a, .inr (9, [.int (0 : Int32), .double h_now, .double h_speed, .ref h_isThere_a, .ref h_x_a, .ref h_y_a, .ref h_v_a, .ref h_sure_a, .ref h_coast_a, .ref h_many_a, .ref h_mx_a, .ref h_my_a, .ref h_mv_a, .ref h_taken_a, .ref h_way_a, .ref h_toldFirst_a, .ref h_toldSecond_a, .ref h_speedFirst_a, .int h_differs, .int h_differing, .double h_offset, .double h_slope, .double h_curve, .double h_pedal, .double h_brake, .double h_steer, .int h_isOn, .double h_offAt, .int h_isAsked, .double h_askedAt, .int h_isStopping, .double h_wished, .double h_gap, .double h_braking, .double h_pull, .int h_lead, .double h_left, .double h_leadX, .int h_stage, .int h_mode, .double h_force, .double h_wheel, .ref h_counts_a, .int h_sign])), (h_counts_a, .inl (h_counts_k, 14, .inl z.2))] ∧ va_S A s.heap H locs ∧ lv_has ls 4 [(0, .ref h_a), (1, .int p0), (2, .int p1), (3, .int z.1)]) 33 (fun _ => []) (fun z _ _ _ h => absurd (show (none : Option ((Nat → Int32))) = some _ from h.1) (fun h => nomatch h)) ?_ (fun L1 => ?_)
            · intro n L1 z H locs ls hz
              obtain ⟨a18, a19⟩ := z
              obtain ⟨ef1, hP, hD, hS, hl⟩ := hz
              have ef1 : f_X9_sign_l1 p0 p1 (n + 1) a18 a19 = some zw33 := ef1
              have hP : va_P D vwCl [(h_a, .inr (9, [.int (0 : Int32), .double h_now, .double h_speed, .ref h_isThere_a, .ref h_x_a, .ref h_y_a, .ref h_v_a, .ref h_sure_a, .ref h_coast_a, .ref h_many_a, .ref h_mx_a, .ref h_my_a, .ref h_mv_a, .ref h_taken_a, .ref h_way_a, .ref h_toldFirst_a, .ref h_toldSecond_a, .ref h_speedFirst_a, .int h_differs, .int h_differing, .double h_offset, .double h_slope, .double h_curve, .double h_pedal, .double h_brake, .double h_steer, .int h_isOn, .double h_offAt, .int h_isAsked, .double h_askedAt, .int h_isStopping, .double h_wished, .double h_gap, .double h_braking, .double h_pull, .int h_lead, .double h_left, .double h_leadX, .int h_stage, .int h_mode, .double h_force, .double h_wheel, .ref h_counts_a, .int h_sign])), (h_counts_a, .inl (h_counts_k, 14, .inl a19))] H := hP
              have hD : va_D A [(h_a, .inr (9, [.int (0 : Int32), .double h_now, .double h_speed, .ref h_isThere_a, .ref h_x_a, .ref h_y_a, .ref h_v_a, .ref h_sure_a, .ref h_coast_a, .ref h_many_a, .ref h_mx_a, .ref h_my_a, .ref h_mv_a, .ref h_taken_a, .ref h_way_a, .ref h_toldFirst_a, .ref h_toldSecond_a, .ref h_speedFirst_a, .int h_differs, .int h_differing, .double h_offset, .double h_slope, .double h_curve, .double h_pedal, .double h_brake, .double h_steer, .int h_isOn, .double h_offAt, .int h_isAsked, .double h_askedAt, .int h_isStopping, .double h_wished, .double h_gap, .double h_braking, .double h_pull, .int h_lead, .double h_left, .double h_leadX, .int h_stage, .int h_mode, .double h_force, .double h_wheel, .ref h_counts_a, .int h_sign])), (h_counts_a, .inl (h_counts_k, 14, .inl a19))] := hD
              have hl : lv_has ls 4 [(0, .ref h_a), (1, .int p0), (2, .int p1), (3, .int a18)] := hl
              rewrite [f_X9_sign_l1] at ef1
              refine lv_iload_n hx hb dX9_sign_33 rfl (lv_at hl 3 rfl) ?_
              refine lv_bipush (v := (13 : Int32)) hx hb dX9_sign_34 (by decide) ?_
              refine lv_icmp_gt (tgt := 110) hx hb dX9_sign_36 (by decide) (fun c20 => ?_) (fun c20 => ?_)
              · have ef1 := ift ef1 c20
                exact E1 a19 _ _ _ ⟨Option.some.inj ef1, hP, hD, hS, lv_sub hl [0, 1] rfl⟩
              · have ef1 := iff_ ef1 c20
                refine lv_iload_n hx hb dX9_sign_39 rfl (lv_at hl 3 rfl) ?_
                refine lv_iload_n hx hb dX9_sign_40 rfl (lv_at hl 1 rfl) ?_
                refine lv_icmp_ne (tgt := 77) hx hb dX9_sign_41 (by decide) (fun c21 => ?_) (fun c21 => ?_)
                · have ef1 := iff_ ef1 c21
                  refine lv_aload_n hx hb dX9_sign_77 rfl (lv_at hl 0 rfl) ?_
                  refine va_get (D := D) (ci := 9) (v := .ref h_counts_a) (C := RX9) (T := TX9) (N := 44) hx hb hts in_wsX9_sign_X9 hown hK hP 0 rfl rfl 42 (by decide) (hts (.fieldLink RX9 89 "AssistRowsModel" "counts" "[I") (List.mem_of_getElem? (i := 2) rfl)) (fun _ h9 => h9) rfl dX9_sign_78 ?_
                  refine lv_iload_n hx hb dX9_sign_81 rfl (lv_at hl 3 rfl) ?_
                  refine lv_aload_n hx hb dX9_sign_82 rfl (lv_at hl 0 rfl) ?_
                  refine va_get (D := D) (ci := 9) (v := .ref h_counts_a) (C := RX9) (T := TX9) (N := 44) hx hb hts in_wsX9_sign_X9 hown hK hP 0 rfl rfl 42 (by decide) (hts (.fieldLink RX9 89 "AssistRowsModel" "counts" "[I") (List.mem_of_getElem? (i := 2) rfl)) (fun _ h9 => h9) rfl dX9_sign_83 ?_
                  refine lv_iload_n hx hb dX9_sign_86 rfl (lv_at hl 3 rfl) ?_
                  obtain ⟨h22, ef1⟩ := ck_of ef1
                  refine va_iald hx hb hK hP 1 0 rfl rfl (inb_of h22) dX9_sign_87 ?_
                  refine lv_if_le (tgt := 102) hx hb dX9_sign_88 (by decide) (fun c23 => ?_) (fun c23 => ?_)
                  · have ef1 := ift ef1 c23
                    refine lv_iconst (v := (0 : Int32)) hx hb dX9_sign_102 (by decide) ?_
                    obtain ⟨h24, ef1⟩ := ck_of ef1
                    refine va_iast hx hb hK hP hD hS 1 0 rfl rfl (inb_of h24) dX9_sign_103 (fun H locs hP hD hS => ?_)
                    have hP : va_P D vwCl [(h_a, .inr (9, [.int (0 : Int32), .double h_now, .double h_speed, .ref h_isThere_a, .ref h_x_a, .ref h_y_a, .ref h_v_a, .ref h_sure_a, .ref h_coast_a, .ref h_many_a, .ref h_mx_a, .ref h_my_a, .ref h_mv_a, .ref h_taken_a, .ref h_way_a, .ref h_toldFirst_a, .ref h_toldSecond_a, .ref h_speedFirst_a, .int h_differs, .int h_differing, .double h_offset, .double h_slope, .double h_curve, .double h_pedal, .double h_brake, .double h_steer, .int h_isOn, .double h_offAt, .int h_isAsked, .double h_askedAt, .int h_isStopping, .double h_wished, .double h_gap, .double h_braking, .double h_pull, .int h_lead, .double h_left, .double h_leadX, .int h_stage, .int h_mode, .double h_force, .double h_wheel, .ref h_counts_a, .int h_sign])), (h_counts_a, .inl (h_counts_k, 14, .inl (upd a19 a18.toNatClampNeg (0 : Int32))))] H := hP
                    have hD : va_D A [(h_a, .inr (9, [.int (0 : Int32), .double h_now, .double h_speed, .ref h_isThere_a, .ref h_x_a, .ref h_y_a, .ref h_v_a, .ref h_sure_a, .ref h_coast_a, .ref h_many_a, .ref h_mx_a, .ref h_my_a, .ref h_mv_a, .ref h_taken_a, .ref h_way_a, .ref h_toldFirst_a, .ref h_toldSecond_a, .ref h_speedFirst_a, .int h_differs, .int h_differing, .double h_offset, .double h_slope, .double h_curve, .double h_pedal, .double h_brake, .double h_steer, .int h_isOn, .double h_offAt, .int h_isAsked, .double h_askedAt, .int h_isStopping, .double h_wished, .double h_gap, .double h_braking, .double h_pull, .int h_lead, .double h_left, .double h_leadX, .int h_stage, .int h_mode, .double h_force, .double h_wheel, .ref h_counts_a, .int h_sign])), (h_counts_a, .inl (h_counts_k, 14, .inl (upd a19 a18.toNatClampNeg (0 : Int32))))] := hD
                    refine lv_iinc (v := (a18 + 1)) (lv' := [(3, .int (a18 + 1)), (0, .ref h_a), (1, .int p0), (2, .int p1)]) hx hb dX9_sign_104 hl (k := 3) rfl rfl (by decide) rfl (fun ls hl => ?_)
                    refine lv_goto (tgt := 33) hx hb dX9_sign_107 (by decide) ?_
                    exact L1 ((a18 + 1), (upd a19 a18.toNatClampNeg (0 : Int32))) _ _ _ ⟨ef1, hP, hD, hS, lv_sub hl [1, 2, 3, 0] rfl⟩
                  · have ef1 := iff_ ef1 c23
                    refine lv_aload_n hx hb dX9_sign_91 rfl (lv_at hl 0 rfl) ?_
                    refine va_get (D := D) (ci := 9) (v := .ref h_counts_a) (C := RX9) (T := TX9) (N := 44) hx hb hts in_wsX9_sign_X9 hown hK hP 0 rfl rfl 42 (by decide) (hts (.fieldLink RX9 89 "AssistRowsModel" "counts" "[I") (List.mem_of_getElem? (i := 2) rfl)) (fun _ h9 => h9) rfl dX9_sign_92 ?_
                    refine lv_iload_n hx hb dX9_sign_95 rfl (lv_at hl 3 rfl) ?_
                    obtain ⟨h25, ef1⟩ := ck_of ef1
                    refine va_iald hx hb hK hP 1 0 rfl rfl (inb_of h25) dX9_sign_96 ?_
                    refine lv_iconst (v := (1 : Int32)) hx hb dX9_sign_97 (by decide) ?_
                    refine lv_isub hx hb dX9_sign_98 ?_
                    refine lv_goto (tgt := 103) hx hb dX9_sign_99 (by decide) ?_
                    obtain ⟨h26, ef1⟩ := ck_of ef1
                    refine va_iast hx hb hK hP hD hS 1 0 rfl rfl (inb_of h26) dX9_sign_103 (fun H locs hP hD hS => ?_)
                    have hP : va_P D vwCl [(h_a, .inr (9, [.int (0 : Int32), .double h_now, .double h_speed, .ref h_isThere_a, .ref h_x_a, .ref h_y_a, .ref h_v_a, .ref h_sure_a, .ref h_coast_a, .ref h_many_a, .ref h_mx_a, .ref h_my_a, .ref h_mv_a, .ref h_taken_a, .ref h_way_a, .ref h_toldFirst_a, .ref h_toldSecond_a, .ref h_speedFirst_a, .int h_differs, .int h_differing, .double h_offset, .double h_slope, .double h_curve, .double h_pedal, .double h_brake, .double h_steer, .int h_isOn, .double h_offAt, .int h_isAsked, .double h_askedAt, .int h_isStopping, .double h_wished, .double h_gap, .double h_braking, .double h_pull, .int h_lead, .double h_left, .double h_leadX, .int h_stage, .int h_mode, .double h_force, .double h_wheel, .ref h_counts_a, .int h_sign])), (h_counts_a, .inl (h_counts_k, 14, .inl (upd a19 a18.toNatClampNeg ((a19 a18.toNatClampNeg) - (1 : Int32)))))] H := hP
                    have hD : va_D A [(h_a, .inr (9, [.int (0 : Int32), .double h_now, .double h_speed, .ref h_isThere_a, .ref h_x_a, .ref h_y_a, .ref h_v_a, .ref h_sure_a, .ref h_coast_a, .ref h_many_a, .ref h_mx_a, .ref h_my_a, .ref h_mv_a, .ref h_taken_a, .ref h_way_a, .ref h_toldFirst_a, .ref h_toldSecond_a, .ref h_speedFirst_a, .int h_differs, .int h_differing, .double h_offset, .double h_slope, .double h_curve, .double h_pedal, .double h_brake, .double h_steer, .int h_isOn, .double h_offAt, .int h_isAsked, .double h_askedAt, .int h_isStopping, .double h_wished, .double h_gap, .double h_braking, .double h_pull, .int h_lead, .double h_left, .double h_leadX, .int h_stage, .int h_mode, .double h_force, .double h_wheel, .ref h_counts_a, .int h_sign])), (h_counts_a, .inl (h_counts_k, 14, .inl (upd a19 a18.toNatClampNeg ((a19 a18.toNatClampNeg) - (1 : Int32)))))] := hD
                    refine lv_iinc (v := (a18 + 1)) (lv' := [(3, .int (a18 + 1)), (0, .ref h_a), (1, .int p0), (2, .int p1)]) hx hb dX9_sign_104 hl (k := 3) rfl rfl (by decide) rfl (fun ls hl => ?_)
                    refine lv_goto (tgt := 33) hx hb dX9_sign_107 (by decide) ?_
                    exact L1 ((a18 + 1), (upd a19 a18.toNatClampNeg ((a19 a18.toNatClampNeg) - (1 : Int32)))) _ _ _ ⟨ef1, hP, hD, hS, lv_sub hl [1, 2, 3, 0] rfl⟩
                · have ef1 := ift ef1 c21
                  refine lv_aload_n hx hb dX9_sign_44 rfl (lv_at hl 0 rfl) ?_
                  refine va_get (D := D) (ci := 9) (v := .ref h_counts_a) (C := RX9) (T := TX9) (N := 44) hx hb hts in_wsX9_sign_X9 hown hK hP 0 rfl rfl 42 (by decide) (hts (.fieldLink RX9 89 "AssistRowsModel" "counts" "[I") (List.mem_of_getElem? (i := 2) rfl)) (fun _ h9 => h9) rfl dX9_sign_45 ?_
                  refine lv_iload_n hx hb dX9_sign_48 rfl (lv_at hl 3 rfl) ?_
                  refine lv_dup2_11 hx hb dX9_sign_49 rfl rfl ?_
                  obtain ⟨h27, ef1⟩ := ck_of ef1
                  refine va_iald hx hb hK hP 1 0 rfl rfl (inb_of h27) dX9_sign_50 ?_
                  refine lv_iload_n hx hb dX9_sign_51 rfl (lv_at hl 2 rfl) ?_
                  refine lv_bipush (v := (60 : Int32)) hx hb dX9_sign_52 (by decide) ?_
                  refine lv_icmp_lt (tgt := 61) hx hb dX9_sign_54 (by decide) (fun c28 => ?_) (fun c28 => ?_)
                  · have ef1 := ift ef1 c28
                    refine lv_iload_n hx hb dX9_sign_61 rfl (lv_at hl 2 rfl) ?_
                    refine lv_bipush (v := (30 : Int32)) hx hb dX9_sign_62 (by decide) ?_
                    refine lv_icmp_lt (tgt := 71) hx hb dX9_sign_64 (by decide) (fun c29 => ?_) (fun c29 => ?_)
                    · have ef1 := ift ef1 c29
                      refine lv_iconst (v := (0 : Int32)) hx hb dX9_sign_71 (by decide) ?_
                      refine lv_iadd hx hb dX9_sign_72 ?_
                      obtain ⟨h30, ef1⟩ := ck_of ef1
                      refine va_iast hx hb hK hP hD hS 1 0 rfl rfl (inb_of h30) dX9_sign_73 (fun H locs hP hD hS => ?_)
                      have hP : va_P D vwCl [(h_a, .inr (9, [.int (0 : Int32), .double h_now, .double h_speed, .ref h_isThere_a, .ref h_x_a, .ref h_y_a, .ref h_v_a, .ref h_sure_a, .ref h_coast_a, .ref h_many_a, .ref h_mx_a, .ref h_my_a, .ref h_mv_a, .ref h_taken_a, .ref h_way_a, .ref h_toldFirst_a, .ref h_toldSecond_a, .ref h_speedFirst_a, .int h_differs, .int h_differing, .double h_offset, .double h_slope, .double h_curve, .double h_pedal, .double h_brake, .double h_steer, .int h_isOn, .double h_offAt, .int h_isAsked, .double h_askedAt, .int h_isStopping, .double h_wished, .double h_gap, .double h_braking, .double h_pull, .int h_lead, .double h_left, .double h_leadX, .int h_stage, .int h_mode, .double h_force, .double h_wheel, .ref h_counts_a, .int h_sign])), (h_counts_a, .inl (h_counts_k, 14, .inl (upd a19 a18.toNatClampNeg ((a19 a18.toNatClampNeg) + (0 : Int32)))))] H := hP
                      have hD : va_D A [(h_a, .inr (9, [.int (0 : Int32), .double h_now, .double h_speed, .ref h_isThere_a, .ref h_x_a, .ref h_y_a, .ref h_v_a, .ref h_sure_a, .ref h_coast_a, .ref h_many_a, .ref h_mx_a, .ref h_my_a, .ref h_mv_a, .ref h_taken_a, .ref h_way_a, .ref h_toldFirst_a, .ref h_toldSecond_a, .ref h_speedFirst_a, .int h_differs, .int h_differing, .double h_offset, .double h_slope, .double h_curve, .double h_pedal, .double h_brake, .double h_steer, .int h_isOn, .double h_offAt, .int h_isAsked, .double h_askedAt, .int h_isStopping, .double h_wished, .double h_gap, .double h_braking, .double h_pull, .int h_lead, .double h_left, .double h_leadX, .int h_stage, .int h_mode, .double h_force, .double h_wheel, .ref h_counts_a, .int h_sign])), (h_counts_a, .inl (h_counts_k, 14, .inl (upd a19 a18.toNatClampNeg ((a19 a18.toNatClampNeg) + (0 : Int32)))))] := hD
                      refine lv_goto (tgt := 104) hx hb dX9_sign_74 (by decide) ?_
                      refine lv_iinc (v := (a18 + 1)) (lv' := [(3, .int (a18 + 1)), (0, .ref h_a), (1, .int p0), (2, .int p1)]) hx hb dX9_sign_104 hl (k := 3) rfl rfl (by decide) rfl (fun ls hl => ?_)
                      refine lv_goto (tgt := 33) hx hb dX9_sign_107 (by decide) ?_
                      exact L1 ((a18 + 1), (upd a19 a18.toNatClampNeg ((a19 a18.toNatClampNeg) + (0 : Int32)))) _ _ _ ⟨ef1, hP, hD, hS, lv_sub hl [1, 2, 3, 0] rfl⟩
                    · have ef1 := iff_ ef1 c29
                      refine lv_iconst (v := (1 : Int32)) hx hb dX9_sign_67 (by decide) ?_
                      refine lv_goto (tgt := 72) hx hb dX9_sign_68 (by decide) ?_
                      refine lv_iadd hx hb dX9_sign_72 ?_
                      obtain ⟨h31, ef1⟩ := ck_of ef1
                      refine va_iast hx hb hK hP hD hS 1 0 rfl rfl (inb_of h31) dX9_sign_73 (fun H locs hP hD hS => ?_)
                      have hP : va_P D vwCl [(h_a, .inr (9, [.int (0 : Int32), .double h_now, .double h_speed, .ref h_isThere_a, .ref h_x_a, .ref h_y_a, .ref h_v_a, .ref h_sure_a, .ref h_coast_a, .ref h_many_a, .ref h_mx_a, .ref h_my_a, .ref h_mv_a, .ref h_taken_a, .ref h_way_a, .ref h_toldFirst_a, .ref h_toldSecond_a, .ref h_speedFirst_a, .int h_differs, .int h_differing, .double h_offset, .double h_slope, .double h_curve, .double h_pedal, .double h_brake, .double h_steer, .int h_isOn, .double h_offAt, .int h_isAsked, .double h_askedAt, .int h_isStopping, .double h_wished, .double h_gap, .double h_braking, .double h_pull, .int h_lead, .double h_left, .double h_leadX, .int h_stage, .int h_mode, .double h_force, .double h_wheel, .ref h_counts_a, .int h_sign])), (h_counts_a, .inl (h_counts_k, 14, .inl (upd a19 a18.toNatClampNeg ((a19 a18.toNatClampNeg) + (1 : Int32)))))] H := hP
                      have hD : va_D A [(h_a, .inr (9, [.int (0 : Int32), .double h_now, .double h_speed, .ref h_isThere_a, .ref h_x_a, .ref h_y_a, .ref h_v_a, .ref h_sure_a, .ref h_coast_a, .ref h_many_a, .ref h_mx_a, .ref h_my_a, .ref h_mv_a, .ref h_taken_a, .ref h_way_a, .ref h_toldFirst_a, .ref h_toldSecond_a, .ref h_speedFirst_a, .int h_differs, .int h_differing, .double h_offset, .double h_slope, .double h_curve, .double h_pedal, .double h_brake, .double h_steer, .int h_isOn, .double h_offAt, .int h_isAsked, .double h_askedAt, .int h_isStopping, .double h_wished, .double h_gap, .double h_braking, .double h_pull, .int h_lead, .double h_left, .double h_leadX, .int h_stage, .int h_mode, .double h_force, .double h_wheel, .ref h_counts_a, .int h_sign])), (h_counts_a, .inl (h_counts_k, 14, .inl (upd a19 a18.toNatClampNeg ((a19 a18.toNatClampNeg) + (1 : Int32)))))] := hD
                      refine lv_goto (tgt := 104) hx hb dX9_sign_74 (by decide) ?_
                      refine lv_iinc (v := (a18 + 1)) (lv' := [(3, .int (a18 + 1)), (0, .ref h_a), (1, .int p0), (2, .int p1)]) hx hb dX9_sign_104 hl (k := 3) rfl rfl (by decide) rfl (fun ls hl => ?_)
                      refine lv_goto (tgt := 33) hx hb dX9_sign_107 (by decide) ?_
                      exact L1 ((a18 + 1), (upd a19 a18.toNatClampNeg ((a19 a18.toNatClampNeg) + (1 : Int32)))) _ _ _ ⟨ef1, hP, hD, hS, lv_sub hl [1, 2, 3, 0] rfl⟩
                  · have ef1 := iff_ ef1 c28
                    refine lv_iconst (v := (2 : Int32)) hx hb dX9_sign_57 (by decide) ?_
                    refine lv_goto (tgt := 72) hx hb dX9_sign_58 (by decide) ?_
                    refine lv_iadd hx hb dX9_sign_72 ?_
                    obtain ⟨h32, ef1⟩ := ck_of ef1
                    refine va_iast hx hb hK hP hD hS 1 0 rfl rfl (inb_of h32) dX9_sign_73 (fun H locs hP hD hS => ?_)
                    have hP : va_P D vwCl [(h_a, .inr (9, [.int (0 : Int32), .double h_now, .double h_speed, .ref h_isThere_a, .ref h_x_a, .ref h_y_a, .ref h_v_a, .ref h_sure_a, .ref h_coast_a, .ref h_many_a, .ref h_mx_a, .ref h_my_a, .ref h_mv_a, .ref h_taken_a, .ref h_way_a, .ref h_toldFirst_a, .ref h_toldSecond_a, .ref h_speedFirst_a, .int h_differs, .int h_differing, .double h_offset, .double h_slope, .double h_curve, .double h_pedal, .double h_brake, .double h_steer, .int h_isOn, .double h_offAt, .int h_isAsked, .double h_askedAt, .int h_isStopping, .double h_wished, .double h_gap, .double h_braking, .double h_pull, .int h_lead, .double h_left, .double h_leadX, .int h_stage, .int h_mode, .double h_force, .double h_wheel, .ref h_counts_a, .int h_sign])), (h_counts_a, .inl (h_counts_k, 14, .inl (upd a19 a18.toNatClampNeg ((a19 a18.toNatClampNeg) + (2 : Int32)))))] H := hP
                    have hD : va_D A [(h_a, .inr (9, [.int (0 : Int32), .double h_now, .double h_speed, .ref h_isThere_a, .ref h_x_a, .ref h_y_a, .ref h_v_a, .ref h_sure_a, .ref h_coast_a, .ref h_many_a, .ref h_mx_a, .ref h_my_a, .ref h_mv_a, .ref h_taken_a, .ref h_way_a, .ref h_toldFirst_a, .ref h_toldSecond_a, .ref h_speedFirst_a, .int h_differs, .int h_differing, .double h_offset, .double h_slope, .double h_curve, .double h_pedal, .double h_brake, .double h_steer, .int h_isOn, .double h_offAt, .int h_isAsked, .double h_askedAt, .int h_isStopping, .double h_wished, .double h_gap, .double h_braking, .double h_pull, .int h_lead, .double h_left, .double h_leadX, .int h_stage, .int h_mode, .double h_force, .double h_wheel, .ref h_counts_a, .int h_sign])), (h_counts_a, .inl (h_counts_k, 14, .inl (upd a19 a18.toNatClampNeg ((a19 a18.toNatClampNeg) + (2 : Int32)))))] := hD
                    refine lv_goto (tgt := 104) hx hb dX9_sign_74 (by decide) ?_
                    refine lv_iinc (v := (a18 + 1)) (lv' := [(3, .int (a18 + 1)), (0, .ref h_a), (1, .int p0), (2, .int p1)]) hx hb dX9_sign_104 hl (k := 3) rfl rfl (by decide) rfl (fun ls hl => ?_)
                    refine lv_goto (tgt := 33) hx hb dX9_sign_107 (by decide) ?_
                    exact L1 ((a18 + 1), (upd a19 a18.toNatClampNeg ((a19 a18.toNatClampNeg) + (2 : Int32)))) _ _ _ ⟨ef1, hP, hD, hS, lv_sub hl [1, 2, 3, 0] rfl⟩
            · exact L1 16 ((1 : Int32), h_counts) _ _ _ ⟨hw33, hP, hD, hS, lv_sub hl [1, 2, 3, 0] rfl⟩
        · have ef0 := iff_ ef0 c4
          refine lv_bipush (v := (-2 : Int32)) hx hb dX9_sign_28 (by decide) ?_
          have q0 := Option.some.inj ef0
          obtain ⟨t0, q1⟩ := Prod.mk.inj q0
          obtain ⟨t1, q2⟩ := Prod.mk.inj q1
          obtain ⟨t2, q3⟩ := Prod.mk.inj q2
          exact xIret t0 (by rw [← t1, ← t2, ← q3]) hx hb hr hlk hP hD hS dX9_sign_30
    · have ef0 := iff_ ef0 c2
      refine lv_iconst (v := (-1 : Int32)) hx hb dX9_sign_16 (by decide) ?_
      have q0 := Option.some.inj ef0
      obtain ⟨t0, q1⟩ := Prod.mk.inj q0
      obtain ⟨t1, q2⟩ := Prod.mk.inj q1
      obtain ⟨t2, q3⟩ := Prod.mk.inj q2
      exact xIret t0 (by rw [← t1, ← t2, ← q3]) hx hb hr hlk hP hD hS dX9_sign_17

def f_X9_plain (p0 : UInt64) : Option UInt64 :=
  if (Op.cmpValue (FP.dcmp p0 FP.dconst0) .l) = 0 then (
  some FP.dconst0) else
  some p0
set_option maxHeartbeats 4000000 in
set_option maxRecDepth 100000 in
theorem c_X9_plain (l : Launch) (D : va_G) (sz : Nat) (p0 : UInt64) (r0 : UInt64) (hf : f_X9_plain p0 = some r0) : Met l yX9_plain wsX9_plain { frames := 0, cells := 0, slots := 0, locals := 0 } (va_Pc [.double p0] (xPre D [] [] sz)) (va_Qd (fun (x : UInt64) (_ : Unit) => x = r0) (fun _ => xB D (va_A [] sz) []) (va_A [] sz)) 0 0 (va_A [] sz) := by
  refine xOfW (l := l) (y := yX9_plain) (ws := wsX9_plain) (D := D) (cells := []) (tys := []) (sz := sz) (av := [.double p0]) (cc := cX9_plain) (maxL := 2) (ret := (some .double)) (fun A => va_Qd (fun (x : UInt64) (_ : Unit) => x = r0) (fun _ => xB D A []) A) (by decide) rfl (Nat.le_of_ble_eq_true rfl) ?_
  intro p e s m below meth c A H ls hx hb hr hml hown hlk hts hP hK hD hS hA hN hl
  have hl : lv_has ls 2 [(0, .double p0)] := hl
  have hown : s.vm.findClass RX9 = some m.cls := hown
  have ef0 : f_X9_plain p0 = some r0 := hf
  rewrite [f_X9_plain] at ef0
  refine lv_dload_n hx hb dX9_plain_0 rfl (lv_at hl 0 rfl) ?_
  refine lv_dconst0 hx hb dX9_plain_1 ?_
  refine lv_dcmp hx hb dX9_plain_2 ?_
  refine lv_if_ne (tgt := 10) hx hb dX9_plain_3 (by decide) (fun c1 => ?_) (fun c1 => ?_)
  · have ef0 := iff_ ef0 c1
    refine lv_dload_n hx hb dX9_plain_10 rfl (lv_at hl 0 rfl) ?_
    have q0 := Option.some.inj ef0
    exact xDret q0 rfl hx hb hr hlk hP hD hS dX9_plain_11
  · have ef0 := ift ef0 c1
    refine lv_dconst0 hx hb dX9_plain_6 ?_
    refine lv_goto (tgt := 11) hx hb dX9_plain_7 (by decide) ?_
    have q0 := Option.some.inj ef0
    exact xDret q0 rfl hx hb hr hlk hP hD hS dX9_plain_11

theorem in_wsX9_wish_X9 : ∀ w ∈ wsX90, w ∈ wsX9_wish := fun _ h => List.mem_cons_of_mem _ (List.mem_append_right _ h)
def f_X9_wish (p0 : Int32) (h_left : UInt64) (h_leadX : UInt64) (h_force : UInt64) (h_wheel : UInt64) : Option (UInt64 × Int32) :=
  if p0 = 0 then (
  (f_X9_plain h_force).bind fun u8 =>
  some (u8, (0 : Int32))) else
  if p0 = (1 : Int32) then (
  (f_X9_plain h_wheel).bind fun u7 =>
  some (u7, (0 : Int32))) else
  if p0 = (2 : Int32) then (
  (f_X9_plain h_left).bind fun u6 =>
  some (u6, (0 : Int32))) else
  if p0 = (3 : Int32) then (
  (f_X9_plain h_leadX).bind fun u5 =>
  some (u5, (0 : Int32))) else
  some (FP.dconst0, (0 : Int32))
set_option maxHeartbeats 4000000 in
set_option maxRecDepth 100000 in
theorem c_X9_wish (l : Launch) (D : va_G) (sz : Nat) (h_a : Nat) (h_isThere_a : Nat) (h_x_a : Nat) (h_y_a : Nat) (h_v_a : Nat) (h_sure_a : Nat) (h_coast_a : Nat) (h_many_a : Nat) (h_mx_a : Nat) (h_my_a : Nat) (h_mv_a : Nat) (h_taken_a : Nat) (h_way_a : Nat) (h_toldFirst_a : Nat) (h_toldSecond_a : Nat) (h_speedFirst_a : Nat) (h_counts_a : Nat) (p0 : Int32) (h_fault : Int32) (h_now : UInt64) (h_speed : UInt64) (h_differs : Int32) (h_differing : Int32) (h_offset : UInt64) (h_slope : UInt64) (h_curve : UInt64) (h_pedal : UInt64) (h_brake : UInt64) (h_steer : UInt64) (h_isOn : Int32) (h_offAt : UInt64) (h_isAsked : Int32) (h_askedAt : UInt64) (h_isStopping : Int32) (h_wished : UInt64) (h_gap : UInt64) (h_braking : UInt64) (h_pull : UInt64) (h_lead : Int32) (h_left : UInt64) (h_leadX : UInt64) (h_stage : Int32) (h_mode : Int32) (h_force : UInt64) (h_wheel : UInt64) (h_sign : Int32) (r0 : UInt64) (r1 : Int32) (hf : f_X9_wish p0 h_left h_leadX h_force h_wheel = some (r0, r1)) : Met l yX9_wish wsX9_wish { frames := 1, cells := 0, slots := 0, locals := 21 } (va_Pc [.ref h_a, .int p0] (xPre D [(h_a, .inr (9, [.int h_fault, .double h_now, .double h_speed, .ref h_isThere_a, .ref h_x_a, .ref h_y_a, .ref h_v_a, .ref h_sure_a, .ref h_coast_a, .ref h_many_a, .ref h_mx_a, .ref h_my_a, .ref h_mv_a, .ref h_taken_a, .ref h_way_a, .ref h_toldFirst_a, .ref h_toldSecond_a, .ref h_speedFirst_a, .int h_differs, .int h_differing, .double h_offset, .double h_slope, .double h_curve, .double h_pedal, .double h_brake, .double h_steer, .int h_isOn, .double h_offAt, .int h_isAsked, .double h_askedAt, .int h_isStopping, .double h_wished, .double h_gap, .double h_braking, .double h_pull, .int h_lead, .double h_left, .double h_leadX, .int h_stage, .int h_mode, .double h_force, .double h_wheel, .ref h_counts_a, .int h_sign]))] [] sz)) (va_Qd (fun (x : UInt64) (_ : Unit) => x = r0) (fun _ => xB D (va_A [(h_a, .inr (9, [.int h_fault, .double h_now, .double h_speed, .ref h_isThere_a, .ref h_x_a, .ref h_y_a, .ref h_v_a, .ref h_sure_a, .ref h_coast_a, .ref h_many_a, .ref h_mx_a, .ref h_my_a, .ref h_mv_a, .ref h_taken_a, .ref h_way_a, .ref h_toldFirst_a, .ref h_toldSecond_a, .ref h_speedFirst_a, .int h_differs, .int h_differing, .double h_offset, .double h_slope, .double h_curve, .double h_pedal, .double h_brake, .double h_steer, .int h_isOn, .double h_offAt, .int h_isAsked, .double h_askedAt, .int h_isStopping, .double h_wished, .double h_gap, .double h_braking, .double h_pull, .int h_lead, .double h_left, .double h_leadX, .int h_stage, .int h_mode, .double h_force, .double h_wheel, .ref h_counts_a, .int h_sign]))] sz) [(h_a, .inr (9, [.int r1, .double h_now, .double h_speed, .ref h_isThere_a, .ref h_x_a, .ref h_y_a, .ref h_v_a, .ref h_sure_a, .ref h_coast_a, .ref h_many_a, .ref h_mx_a, .ref h_my_a, .ref h_mv_a, .ref h_taken_a, .ref h_way_a, .ref h_toldFirst_a, .ref h_toldSecond_a, .ref h_speedFirst_a, .int h_differs, .int h_differing, .double h_offset, .double h_slope, .double h_curve, .double h_pedal, .double h_brake, .double h_steer, .int h_isOn, .double h_offAt, .int h_isAsked, .double h_askedAt, .int h_isStopping, .double h_wished, .double h_gap, .double h_braking, .double h_pull, .int h_lead, .double h_left, .double h_leadX, .int h_stage, .int h_mode, .double h_force, .double h_wheel, .ref h_counts_a, .int h_sign]))]) (va_A [(h_a, .inr (9, [.int h_fault, .double h_now, .double h_speed, .ref h_isThere_a, .ref h_x_a, .ref h_y_a, .ref h_v_a, .ref h_sure_a, .ref h_coast_a, .ref h_many_a, .ref h_mx_a, .ref h_my_a, .ref h_mv_a, .ref h_taken_a, .ref h_way_a, .ref h_toldFirst_a, .ref h_toldSecond_a, .ref h_speedFirst_a, .int h_differs, .int h_differing, .double h_offset, .double h_slope, .double h_curve, .double h_pedal, .double h_brake, .double h_steer, .int h_isOn, .double h_offAt, .int h_isAsked, .double h_askedAt, .int h_isStopping, .double h_wished, .double h_gap, .double h_braking, .double h_pull, .int h_lead, .double h_left, .double h_leadX, .int h_stage, .int h_mode, .double h_force, .double h_wheel, .ref h_counts_a, .int h_sign]))] sz)) 0 0 (va_A [(h_a, .inr (9, [.int h_fault, .double h_now, .double h_speed, .ref h_isThere_a, .ref h_x_a, .ref h_y_a, .ref h_v_a, .ref h_sure_a, .ref h_coast_a, .ref h_many_a, .ref h_mx_a, .ref h_my_a, .ref h_mv_a, .ref h_taken_a, .ref h_way_a, .ref h_toldFirst_a, .ref h_toldSecond_a, .ref h_speedFirst_a, .int h_differs, .int h_differing, .double h_offset, .double h_slope, .double h_curve, .double h_pedal, .double h_brake, .double h_steer, .int h_isOn, .double h_offAt, .int h_isAsked, .double h_askedAt, .int h_isStopping, .double h_wished, .double h_gap, .double h_braking, .double h_pull, .int h_lead, .double h_left, .double h_leadX, .int h_stage, .int h_mode, .double h_force, .double h_wheel, .ref h_counts_a, .int h_sign]))] sz) := by
  refine xOfW (l := l) (y := yX9_wish) (ws := wsX9_wish) (D := D) (cells := [(h_a, .inr (9, [.int h_fault, .double h_now, .double h_speed, .ref h_isThere_a, .ref h_x_a, .ref h_y_a, .ref h_v_a, .ref h_sure_a, .ref h_coast_a, .ref h_many_a, .ref h_mx_a, .ref h_my_a, .ref h_mv_a, .ref h_taken_a, .ref h_way_a, .ref h_toldFirst_a, .ref h_toldSecond_a, .ref h_speedFirst_a, .int h_differs, .int h_differing, .double h_offset, .double h_slope, .double h_curve, .double h_pedal, .double h_brake, .double h_steer, .int h_isOn, .double h_offAt, .int h_isAsked, .double h_askedAt, .int h_isStopping, .double h_wished, .double h_gap, .double h_braking, .double h_pull, .int h_lead, .double h_left, .double h_leadX, .int h_stage, .int h_mode, .double h_force, .double h_wheel, .ref h_counts_a, .int h_sign]))]) (tys := []) (sz := sz) (av := [.ref h_a, .int p0]) (cc := cX9_wish) (maxL := 2) (ret := (some .double)) (fun A => va_Qd (fun (x : UInt64) (_ : Unit) => x = r0) (fun _ => xB D A [(h_a, .inr (9, [.int r1, .double h_now, .double h_speed, .ref h_isThere_a, .ref h_x_a, .ref h_y_a, .ref h_v_a, .ref h_sure_a, .ref h_coast_a, .ref h_many_a, .ref h_mx_a, .ref h_my_a, .ref h_mv_a, .ref h_taken_a, .ref h_way_a, .ref h_toldFirst_a, .ref h_toldSecond_a, .ref h_speedFirst_a, .int h_differs, .int h_differing, .double h_offset, .double h_slope, .double h_curve, .double h_pedal, .double h_brake, .double h_steer, .int h_isOn, .double h_offAt, .int h_isAsked, .double h_askedAt, .int h_isStopping, .double h_wished, .double h_gap, .double h_braking, .double h_pull, .int h_lead, .double h_left, .double h_leadX, .int h_stage, .int h_mode, .double h_force, .double h_wheel, .ref h_counts_a, .int h_sign]))]) A) (by decide) rfl (Nat.le_of_ble_eq_true rfl) ?_
  intro p e s m below meth c A H ls hx hb hr hml hown hlk hts hP hK hD hS hA hN hl
  have hl : lv_has ls 2 [(0, .ref h_a), (1, .int p0)] := hl
  have hown : s.vm.findClass RX9 = some m.cls := hown
  have ef0 : f_X9_wish p0 h_left h_leadX h_force h_wheel = some (r0, r1) := hf
  rewrite [f_X9_wish] at ef0
  refine lv_aload_n hx hb dX9_wish_0 rfl (lv_at hl 0 rfl) ?_
  refine lv_iconst (v := (0 : Int32)) hx hb dX9_wish_1 (by decide) ?_
  refine va_put (D := D) (ci := 9) (v := .int (0 : Int32)) (ty := .int) (C := RX9) (T := TX9) (N := 44) hx hb hts in_wsX9_wish_X9 tyX9 tyX9_ok nmX9 hown hK hP hD hS 0 rfl rfl 0 (by decide) (hts (.fieldLink RX9 92 "AssistRowsModel" "fault" "I") (List.mem_of_getElem? (i := 1) rfl)) (fun _ h9 => h9) rfl (by decide +kernel) rfl rfl (Nat.le_of_ble_eq_true rfl) dX9_wish_2 (fun H locs hP hD hS => ?_)
  have hP : va_P D vwCl [(h_a, .inr (9, [.int (0 : Int32), .double h_now, .double h_speed, .ref h_isThere_a, .ref h_x_a, .ref h_y_a, .ref h_v_a, .ref h_sure_a, .ref h_coast_a, .ref h_many_a, .ref h_mx_a, .ref h_my_a, .ref h_mv_a, .ref h_taken_a, .ref h_way_a, .ref h_toldFirst_a, .ref h_toldSecond_a, .ref h_speedFirst_a, .int h_differs, .int h_differing, .double h_offset, .double h_slope, .double h_curve, .double h_pedal, .double h_brake, .double h_steer, .int h_isOn, .double h_offAt, .int h_isAsked, .double h_askedAt, .int h_isStopping, .double h_wished, .double h_gap, .double h_braking, .double h_pull, .int h_lead, .double h_left, .double h_leadX, .int h_stage, .int h_mode, .double h_force, .double h_wheel, .ref h_counts_a, .int h_sign]))] H := hP
  have hD : va_D A [(h_a, .inr (9, [.int (0 : Int32), .double h_now, .double h_speed, .ref h_isThere_a, .ref h_x_a, .ref h_y_a, .ref h_v_a, .ref h_sure_a, .ref h_coast_a, .ref h_many_a, .ref h_mx_a, .ref h_my_a, .ref h_mv_a, .ref h_taken_a, .ref h_way_a, .ref h_toldFirst_a, .ref h_toldSecond_a, .ref h_speedFirst_a, .int h_differs, .int h_differing, .double h_offset, .double h_slope, .double h_curve, .double h_pedal, .double h_brake, .double h_steer, .int h_isOn, .double h_offAt, .int h_isAsked, .double h_askedAt, .int h_isStopping, .double h_wished, .double h_gap, .double h_braking, .double h_pull, .int h_lead, .double h_left, .double h_leadX, .int h_stage, .int h_mode, .double h_force, .double h_wheel, .ref h_counts_a, .int h_sign]))] := hD
  refine lv_iload_n hx hb dX9_wish_5 rfl (lv_at hl 1 rfl) ?_
  refine lv_if_ne (tgt := 19) hx hb dX9_wish_6 (by decide) (fun c1 => ?_) (fun c1 => ?_)
  · have ef0 := iff_ ef0 c1
    refine lv_iload_n hx hb dX9_wish_19 rfl (lv_at hl 1 rfl) ?_
    refine lv_iconst (v := (1 : Int32)) hx hb dX9_wish_20 (by decide) ?_
    refine lv_icmp_ne (tgt := 34) hx hb dX9_wish_21 (by decide) (fun c2 => ?_) (fun c2 => ?_)
    · have ef0 := iff_ ef0 c2
      refine lv_iload_n hx hb dX9_wish_34 rfl (lv_at hl 1 rfl) ?_
      refine lv_iconst (v := (2 : Int32)) hx hb dX9_wish_35 (by decide) ?_
      refine lv_icmp_ne (tgt := 49) hx hb dX9_wish_36 (by decide) (fun c3 => ?_) (fun c3 => ?_)
      · have ef0 := iff_ ef0 c3
        refine lv_iload_n hx hb dX9_wish_49 rfl (lv_at hl 1 rfl) ?_
        refine lv_iconst (v := (3 : Int32)) hx hb dX9_wish_50 (by decide) ?_
        refine lv_icmp_ne (tgt := 64) hx hb dX9_wish_51 (by decide) (fun c4 => ?_) (fun c4 => ?_)
        · have ef0 := iff_ ef0 c4
          refine lv_dconst0 hx hb dX9_wish_64 ?_
          have q0 := Option.some.inj ef0
          obtain ⟨t0, q1⟩ := Prod.mk.inj q0
          exact xDret t0 (by rw [← q1]) hx hb hr hlk hP hD hS dX9_wish_65
        · have ef0 := ift ef0 c4
          refine lv_aload_n hx hb dX9_wish_54 rfl (lv_at hl 0 rfl) ?_
          refine va_get (D := D) (ci := 9) (v := .double h_leadX) (C := RX9) (T := TX9) (N := 44) hx hb hts in_wsX9_wish_X9 hown hK hP 0 rfl rfl 37 (by decide) (hts (.fieldLink RX9 86 "AssistRowsModel" "leadX" "D") (List.mem_of_getElem? (i := 5) rfl)) (fun _ h9 => h9) rfl dX9_wish_55 ?_
          obtain ⟨u5, hu5, ef0⟩ := bd_of ef0
          refine xCalld (wr := [(h_a, .inr (9, [.int (0 : Int32), .double h_now, .double h_speed, .ref h_isThere_a, .ref h_x_a, .ref h_y_a, .ref h_v_a, .ref h_sure_a, .ref h_coast_a, .ref h_many_a, .ref h_mx_a, .ref h_my_a, .ref h_mv_a, .ref h_taken_a, .ref h_way_a, .ref h_toldFirst_a, .ref h_toldSecond_a, .ref h_speedFirst_a, .int h_differs, .int h_differing, .double h_offset, .double h_slope, .double h_curve, .double h_pedal, .double h_brake, .double h_steer, .int h_isOn, .double h_offAt, .int h_isAsked, .double h_askedAt, .int h_isStopping, .double h_wished, .double h_gap, .double h_braking, .double h_pull, .int h_lead, .double h_left, .double h_leadX, .int h_stage, .int h_mode, .double h_force, .double h_wheel, .ref h_counts_a, .int h_sign]))]) (wn := [(h_a, .inr (9, [.int (0 : Int32), .double h_now, .double h_speed, .ref h_isThere_a, .ref h_x_a, .ref h_y_a, .ref h_v_a, .ref h_sure_a, .ref h_coast_a, .ref h_many_a, .ref h_mx_a, .ref h_my_a, .ref h_mv_a, .ref h_taken_a, .ref h_way_a, .ref h_toldFirst_a, .ref h_toldSecond_a, .ref h_speedFirst_a, .int h_differs, .int h_differing, .double h_offset, .double h_slope, .double h_curve, .double h_pedal, .double h_brake, .double h_steer, .int h_isOn, .double h_offAt, .int h_isAsked, .double h_askedAt, .int h_isStopping, .double h_wished, .double h_gap, .double h_braking, .double h_pull, .int h_lead, .double h_left, .double h_leadX, .int h_stage, .int h_mode, .double h_force, .double h_wheel, .ref h_counts_a, .int h_sign]))]) [] [0] [0] (va_runS (As := [.double h_leadX]) (rest := []) ⟨hx, hb, hml, hown, hts⟩ (c_X9_plain l D H.size h_leadX u5 hu5) (va_cwS 1 hts gX9_wish_X9_plain rfl rfl rfl (by decide +kernel) ⟨Nat.le_of_ble_eq_true rfl, Nat.le_of_ble_eq_true rfl⟩) (xPreS hP hD hK hN [] rfl rfl [] rfl) rfl rfl hl.1 rfl (lv_room (Nat.le_of_ble_eq_true rfl)) dX9_wish_58 ⟨Nat.zero_le _, Nat.zero_le _⟩) hP hD hS hA rfl rfl rfl (by decide) rfl rfl (fun H locs hP hD hS => ?_)
          refine lv_goto (tgt := 65) hx hb dX9_wish_61 (by decide) ?_
          have q0 := Option.some.inj ef0
          obtain ⟨t0, q1⟩ := Prod.mk.inj q0
          exact xDret t0 (by rw [← q1]) hx hb hr hlk hP hD hS dX9_wish_65
      · have ef0 := ift ef0 c3
        refine lv_aload_n hx hb dX9_wish_39 rfl (lv_at hl 0 rfl) ?_
        refine va_get (D := D) (ci := 9) (v := .double h_left) (C := RX9) (T := TX9) (N := 44) hx hb hts in_wsX9_wish_X9 hown hK hP 0 rfl rfl 36 (by decide) (hts (.fieldLink RX9 83 "AssistRowsModel" "left" "D") (List.mem_of_getElem? (i := 4) rfl)) (fun _ h9 => h9) rfl dX9_wish_40 ?_
        obtain ⟨u6, hu6, ef0⟩ := bd_of ef0
        refine xCalld (wr := [(h_a, .inr (9, [.int (0 : Int32), .double h_now, .double h_speed, .ref h_isThere_a, .ref h_x_a, .ref h_y_a, .ref h_v_a, .ref h_sure_a, .ref h_coast_a, .ref h_many_a, .ref h_mx_a, .ref h_my_a, .ref h_mv_a, .ref h_taken_a, .ref h_way_a, .ref h_toldFirst_a, .ref h_toldSecond_a, .ref h_speedFirst_a, .int h_differs, .int h_differing, .double h_offset, .double h_slope, .double h_curve, .double h_pedal, .double h_brake, .double h_steer, .int h_isOn, .double h_offAt, .int h_isAsked, .double h_askedAt, .int h_isStopping, .double h_wished, .double h_gap, .double h_braking, .double h_pull, .int h_lead, .double h_left, .double h_leadX, .int h_stage, .int h_mode, .double h_force, .double h_wheel, .ref h_counts_a, .int h_sign]))]) (wn := [(h_a, .inr (9, [.int (0 : Int32), .double h_now, .double h_speed, .ref h_isThere_a, .ref h_x_a, .ref h_y_a, .ref h_v_a, .ref h_sure_a, .ref h_coast_a, .ref h_many_a, .ref h_mx_a, .ref h_my_a, .ref h_mv_a, .ref h_taken_a, .ref h_way_a, .ref h_toldFirst_a, .ref h_toldSecond_a, .ref h_speedFirst_a, .int h_differs, .int h_differing, .double h_offset, .double h_slope, .double h_curve, .double h_pedal, .double h_brake, .double h_steer, .int h_isOn, .double h_offAt, .int h_isAsked, .double h_askedAt, .int h_isStopping, .double h_wished, .double h_gap, .double h_braking, .double h_pull, .int h_lead, .double h_left, .double h_leadX, .int h_stage, .int h_mode, .double h_force, .double h_wheel, .ref h_counts_a, .int h_sign]))]) [] [0] [0] (va_runS (As := [.double h_left]) (rest := []) ⟨hx, hb, hml, hown, hts⟩ (c_X9_plain l D H.size h_left u6 hu6) (va_cwS 1 hts gX9_wish_X9_plain rfl rfl rfl (by decide +kernel) ⟨Nat.le_of_ble_eq_true rfl, Nat.le_of_ble_eq_true rfl⟩) (xPreS hP hD hK hN [] rfl rfl [] rfl) rfl rfl hl.1 rfl (lv_room (Nat.le_of_ble_eq_true rfl)) dX9_wish_43 ⟨Nat.zero_le _, Nat.zero_le _⟩) hP hD hS hA rfl rfl rfl (by decide) rfl rfl (fun H locs hP hD hS => ?_)
        refine lv_goto (tgt := 65) hx hb dX9_wish_46 (by decide) ?_
        have q0 := Option.some.inj ef0
        obtain ⟨t0, q1⟩ := Prod.mk.inj q0
        exact xDret t0 (by rw [← q1]) hx hb hr hlk hP hD hS dX9_wish_65
    · have ef0 := ift ef0 c2
      refine lv_aload_n hx hb dX9_wish_24 rfl (lv_at hl 0 rfl) ?_
      refine va_get (D := D) (ci := 9) (v := .double h_wheel) (C := RX9) (T := TX9) (N := 44) hx hb hts in_wsX9_wish_X9 hown hK hP 0 rfl rfl 41 (by decide) (hts (.fieldLink RX9 255 "AssistRowsModel" "wheel" "D") (List.mem_of_getElem? (i := 3) rfl)) (fun _ h9 => h9) rfl dX9_wish_25 ?_
      obtain ⟨u7, hu7, ef0⟩ := bd_of ef0
      refine xCalld (wr := [(h_a, .inr (9, [.int (0 : Int32), .double h_now, .double h_speed, .ref h_isThere_a, .ref h_x_a, .ref h_y_a, .ref h_v_a, .ref h_sure_a, .ref h_coast_a, .ref h_many_a, .ref h_mx_a, .ref h_my_a, .ref h_mv_a, .ref h_taken_a, .ref h_way_a, .ref h_toldFirst_a, .ref h_toldSecond_a, .ref h_speedFirst_a, .int h_differs, .int h_differing, .double h_offset, .double h_slope, .double h_curve, .double h_pedal, .double h_brake, .double h_steer, .int h_isOn, .double h_offAt, .int h_isAsked, .double h_askedAt, .int h_isStopping, .double h_wished, .double h_gap, .double h_braking, .double h_pull, .int h_lead, .double h_left, .double h_leadX, .int h_stage, .int h_mode, .double h_force, .double h_wheel, .ref h_counts_a, .int h_sign]))]) (wn := [(h_a, .inr (9, [.int (0 : Int32), .double h_now, .double h_speed, .ref h_isThere_a, .ref h_x_a, .ref h_y_a, .ref h_v_a, .ref h_sure_a, .ref h_coast_a, .ref h_many_a, .ref h_mx_a, .ref h_my_a, .ref h_mv_a, .ref h_taken_a, .ref h_way_a, .ref h_toldFirst_a, .ref h_toldSecond_a, .ref h_speedFirst_a, .int h_differs, .int h_differing, .double h_offset, .double h_slope, .double h_curve, .double h_pedal, .double h_brake, .double h_steer, .int h_isOn, .double h_offAt, .int h_isAsked, .double h_askedAt, .int h_isStopping, .double h_wished, .double h_gap, .double h_braking, .double h_pull, .int h_lead, .double h_left, .double h_leadX, .int h_stage, .int h_mode, .double h_force, .double h_wheel, .ref h_counts_a, .int h_sign]))]) [] [0] [0] (va_runS (As := [.double h_wheel]) (rest := []) ⟨hx, hb, hml, hown, hts⟩ (c_X9_plain l D H.size h_wheel u7 hu7) (va_cwS 1 hts gX9_wish_X9_plain rfl rfl rfl (by decide +kernel) ⟨Nat.le_of_ble_eq_true rfl, Nat.le_of_ble_eq_true rfl⟩) (xPreS hP hD hK hN [] rfl rfl [] rfl) rfl rfl hl.1 rfl (lv_room (Nat.le_of_ble_eq_true rfl)) dX9_wish_28 ⟨Nat.zero_le _, Nat.zero_le _⟩) hP hD hS hA rfl rfl rfl (by decide) rfl rfl (fun H locs hP hD hS => ?_)
      refine lv_goto (tgt := 65) hx hb dX9_wish_31 (by decide) ?_
      have q0 := Option.some.inj ef0
      obtain ⟨t0, q1⟩ := Prod.mk.inj q0
      exact xDret t0 (by rw [← q1]) hx hb hr hlk hP hD hS dX9_wish_65
  · have ef0 := ift ef0 c1
    refine lv_aload_n hx hb dX9_wish_9 rfl (lv_at hl 0 rfl) ?_
    refine va_get (D := D) (ci := 9) (v := .double h_force) (C := RX9) (T := TX9) (N := 44) hx hb hts in_wsX9_wish_X9 hown hK hP 0 rfl rfl 40 (by decide) (hts (.fieldLink RX9 280 "AssistRowsModel" "force" "D") (List.mem_of_getElem? (i := 2) rfl)) (fun _ h9 => h9) rfl dX9_wish_10 ?_
    obtain ⟨u8, hu8, ef0⟩ := bd_of ef0
    refine xCalld (wr := [(h_a, .inr (9, [.int (0 : Int32), .double h_now, .double h_speed, .ref h_isThere_a, .ref h_x_a, .ref h_y_a, .ref h_v_a, .ref h_sure_a, .ref h_coast_a, .ref h_many_a, .ref h_mx_a, .ref h_my_a, .ref h_mv_a, .ref h_taken_a, .ref h_way_a, .ref h_toldFirst_a, .ref h_toldSecond_a, .ref h_speedFirst_a, .int h_differs, .int h_differing, .double h_offset, .double h_slope, .double h_curve, .double h_pedal, .double h_brake, .double h_steer, .int h_isOn, .double h_offAt, .int h_isAsked, .double h_askedAt, .int h_isStopping, .double h_wished, .double h_gap, .double h_braking, .double h_pull, .int h_lead, .double h_left, .double h_leadX, .int h_stage, .int h_mode, .double h_force, .double h_wheel, .ref h_counts_a, .int h_sign]))]) (wn := [(h_a, .inr (9, [.int (0 : Int32), .double h_now, .double h_speed, .ref h_isThere_a, .ref h_x_a, .ref h_y_a, .ref h_v_a, .ref h_sure_a, .ref h_coast_a, .ref h_many_a, .ref h_mx_a, .ref h_my_a, .ref h_mv_a, .ref h_taken_a, .ref h_way_a, .ref h_toldFirst_a, .ref h_toldSecond_a, .ref h_speedFirst_a, .int h_differs, .int h_differing, .double h_offset, .double h_slope, .double h_curve, .double h_pedal, .double h_brake, .double h_steer, .int h_isOn, .double h_offAt, .int h_isAsked, .double h_askedAt, .int h_isStopping, .double h_wished, .double h_gap, .double h_braking, .double h_pull, .int h_lead, .double h_left, .double h_leadX, .int h_stage, .int h_mode, .double h_force, .double h_wheel, .ref h_counts_a, .int h_sign]))]) [] [0] [0] (va_runS (As := [.double h_force]) (rest := []) ⟨hx, hb, hml, hown, hts⟩ (c_X9_plain l D H.size h_force u8 hu8) (va_cwS 1 hts gX9_wish_X9_plain rfl rfl rfl (by decide +kernel) ⟨Nat.le_of_ble_eq_true rfl, Nat.le_of_ble_eq_true rfl⟩) (xPreS hP hD hK hN [] rfl rfl [] rfl) rfl rfl hl.1 rfl (lv_room (Nat.le_of_ble_eq_true rfl)) dX9_wish_13 ⟨Nat.zero_le _, Nat.zero_le _⟩) hP hD hS hA rfl rfl rfl (by decide) rfl rfl (fun H locs hP hD hS => ?_)
    refine lv_goto (tgt := 65) hx hb dX9_wish_16 (by decide) ?_
    have q0 := Option.some.inj ef0
    obtain ⟨t0, q1⟩ := Prod.mk.inj q0
    exact xDret t0 (by rw [← q1]) hx hb hr hlk hP hD hS dX9_wish_65

theorem in_wsX9_stage_X9 : ∀ w ∈ wsX90, w ∈ wsX9_stage := fun _ h => List.mem_cons_of_mem _ (List.mem_append_right _ h)
def f_X9_stage (h_stage : Int32) : Option (Int32 × Int32) :=
  some (h_stage, (0 : Int32))
set_option maxHeartbeats 4000000 in
set_option maxRecDepth 100000 in
theorem c_X9_stage (l : Launch) (D : va_G) (sz : Nat) (h_a : Nat) (h_isThere_a : Nat) (h_x_a : Nat) (h_y_a : Nat) (h_v_a : Nat) (h_sure_a : Nat) (h_coast_a : Nat) (h_many_a : Nat) (h_mx_a : Nat) (h_my_a : Nat) (h_mv_a : Nat) (h_taken_a : Nat) (h_way_a : Nat) (h_toldFirst_a : Nat) (h_toldSecond_a : Nat) (h_speedFirst_a : Nat) (h_counts_a : Nat) (h_fault : Int32) (h_now : UInt64) (h_speed : UInt64) (h_differs : Int32) (h_differing : Int32) (h_offset : UInt64) (h_slope : UInt64) (h_curve : UInt64) (h_pedal : UInt64) (h_brake : UInt64) (h_steer : UInt64) (h_isOn : Int32) (h_offAt : UInt64) (h_isAsked : Int32) (h_askedAt : UInt64) (h_isStopping : Int32) (h_wished : UInt64) (h_gap : UInt64) (h_braking : UInt64) (h_pull : UInt64) (h_lead : Int32) (h_left : UInt64) (h_leadX : UInt64) (h_stage : Int32) (h_mode : Int32) (h_force : UInt64) (h_wheel : UInt64) (h_sign : Int32) (r0 : Int32) (r1 : Int32) (hf : f_X9_stage h_stage = some (r0, r1)) : Met l yX9_stage wsX9_stage { frames := 0, cells := 0, slots := 0, locals := 0 } (va_Pc [.ref h_a] (xPre D [(h_a, .inr (9, [.int h_fault, .double h_now, .double h_speed, .ref h_isThere_a, .ref h_x_a, .ref h_y_a, .ref h_v_a, .ref h_sure_a, .ref h_coast_a, .ref h_many_a, .ref h_mx_a, .ref h_my_a, .ref h_mv_a, .ref h_taken_a, .ref h_way_a, .ref h_toldFirst_a, .ref h_toldSecond_a, .ref h_speedFirst_a, .int h_differs, .int h_differing, .double h_offset, .double h_slope, .double h_curve, .double h_pedal, .double h_brake, .double h_steer, .int h_isOn, .double h_offAt, .int h_isAsked, .double h_askedAt, .int h_isStopping, .double h_wished, .double h_gap, .double h_braking, .double h_pull, .int h_lead, .double h_left, .double h_leadX, .int h_stage, .int h_mode, .double h_force, .double h_wheel, .ref h_counts_a, .int h_sign]))] [] sz)) (va_Qi (fun (x : Int32) (_ : Unit) => x = r0) (fun _ => xB D (va_A [(h_a, .inr (9, [.int h_fault, .double h_now, .double h_speed, .ref h_isThere_a, .ref h_x_a, .ref h_y_a, .ref h_v_a, .ref h_sure_a, .ref h_coast_a, .ref h_many_a, .ref h_mx_a, .ref h_my_a, .ref h_mv_a, .ref h_taken_a, .ref h_way_a, .ref h_toldFirst_a, .ref h_toldSecond_a, .ref h_speedFirst_a, .int h_differs, .int h_differing, .double h_offset, .double h_slope, .double h_curve, .double h_pedal, .double h_brake, .double h_steer, .int h_isOn, .double h_offAt, .int h_isAsked, .double h_askedAt, .int h_isStopping, .double h_wished, .double h_gap, .double h_braking, .double h_pull, .int h_lead, .double h_left, .double h_leadX, .int h_stage, .int h_mode, .double h_force, .double h_wheel, .ref h_counts_a, .int h_sign]))] sz) [(h_a, .inr (9, [.int r1, .double h_now, .double h_speed, .ref h_isThere_a, .ref h_x_a, .ref h_y_a, .ref h_v_a, .ref h_sure_a, .ref h_coast_a, .ref h_many_a, .ref h_mx_a, .ref h_my_a, .ref h_mv_a, .ref h_taken_a, .ref h_way_a, .ref h_toldFirst_a, .ref h_toldSecond_a, .ref h_speedFirst_a, .int h_differs, .int h_differing, .double h_offset, .double h_slope, .double h_curve, .double h_pedal, .double h_brake, .double h_steer, .int h_isOn, .double h_offAt, .int h_isAsked, .double h_askedAt, .int h_isStopping, .double h_wished, .double h_gap, .double h_braking, .double h_pull, .int h_lead, .double h_left, .double h_leadX, .int h_stage, .int h_mode, .double h_force, .double h_wheel, .ref h_counts_a, .int h_sign]))]) (va_A [(h_a, .inr (9, [.int h_fault, .double h_now, .double h_speed, .ref h_isThere_a, .ref h_x_a, .ref h_y_a, .ref h_v_a, .ref h_sure_a, .ref h_coast_a, .ref h_many_a, .ref h_mx_a, .ref h_my_a, .ref h_mv_a, .ref h_taken_a, .ref h_way_a, .ref h_toldFirst_a, .ref h_toldSecond_a, .ref h_speedFirst_a, .int h_differs, .int h_differing, .double h_offset, .double h_slope, .double h_curve, .double h_pedal, .double h_brake, .double h_steer, .int h_isOn, .double h_offAt, .int h_isAsked, .double h_askedAt, .int h_isStopping, .double h_wished, .double h_gap, .double h_braking, .double h_pull, .int h_lead, .double h_left, .double h_leadX, .int h_stage, .int h_mode, .double h_force, .double h_wheel, .ref h_counts_a, .int h_sign]))] sz)) 0 0 (va_A [(h_a, .inr (9, [.int h_fault, .double h_now, .double h_speed, .ref h_isThere_a, .ref h_x_a, .ref h_y_a, .ref h_v_a, .ref h_sure_a, .ref h_coast_a, .ref h_many_a, .ref h_mx_a, .ref h_my_a, .ref h_mv_a, .ref h_taken_a, .ref h_way_a, .ref h_toldFirst_a, .ref h_toldSecond_a, .ref h_speedFirst_a, .int h_differs, .int h_differing, .double h_offset, .double h_slope, .double h_curve, .double h_pedal, .double h_brake, .double h_steer, .int h_isOn, .double h_offAt, .int h_isAsked, .double h_askedAt, .int h_isStopping, .double h_wished, .double h_gap, .double h_braking, .double h_pull, .int h_lead, .double h_left, .double h_leadX, .int h_stage, .int h_mode, .double h_force, .double h_wheel, .ref h_counts_a, .int h_sign]))] sz) := by
  refine xOfW (l := l) (y := yX9_stage) (ws := wsX9_stage) (D := D) (cells := [(h_a, .inr (9, [.int h_fault, .double h_now, .double h_speed, .ref h_isThere_a, .ref h_x_a, .ref h_y_a, .ref h_v_a, .ref h_sure_a, .ref h_coast_a, .ref h_many_a, .ref h_mx_a, .ref h_my_a, .ref h_mv_a, .ref h_taken_a, .ref h_way_a, .ref h_toldFirst_a, .ref h_toldSecond_a, .ref h_speedFirst_a, .int h_differs, .int h_differing, .double h_offset, .double h_slope, .double h_curve, .double h_pedal, .double h_brake, .double h_steer, .int h_isOn, .double h_offAt, .int h_isAsked, .double h_askedAt, .int h_isStopping, .double h_wished, .double h_gap, .double h_braking, .double h_pull, .int h_lead, .double h_left, .double h_leadX, .int h_stage, .int h_mode, .double h_force, .double h_wheel, .ref h_counts_a, .int h_sign]))]) (tys := []) (sz := sz) (av := [.ref h_a]) (cc := cX9_stage) (maxL := 1) (ret := (some .int)) (fun A => va_Qi (fun (x : Int32) (_ : Unit) => x = r0) (fun _ => xB D A [(h_a, .inr (9, [.int r1, .double h_now, .double h_speed, .ref h_isThere_a, .ref h_x_a, .ref h_y_a, .ref h_v_a, .ref h_sure_a, .ref h_coast_a, .ref h_many_a, .ref h_mx_a, .ref h_my_a, .ref h_mv_a, .ref h_taken_a, .ref h_way_a, .ref h_toldFirst_a, .ref h_toldSecond_a, .ref h_speedFirst_a, .int h_differs, .int h_differing, .double h_offset, .double h_slope, .double h_curve, .double h_pedal, .double h_brake, .double h_steer, .int h_isOn, .double h_offAt, .int h_isAsked, .double h_askedAt, .int h_isStopping, .double h_wished, .double h_gap, .double h_braking, .double h_pull, .int h_lead, .double h_left, .double h_leadX, .int h_stage, .int h_mode, .double h_force, .double h_wheel, .ref h_counts_a, .int h_sign]))]) A) (by decide) rfl (Nat.le_of_ble_eq_true rfl) ?_
  intro p e s m below meth c A H ls hx hb hr hml hown hlk hts hP hK hD hS hA hN hl
  have hl : lv_has ls 1 [(0, .ref h_a)] := hl
  have hown : s.vm.findClass RX9 = some m.cls := hown
  have ef0 : f_X9_stage h_stage = some (r0, r1) := hf
  rewrite [f_X9_stage] at ef0
  refine lv_aload_n hx hb dX9_stage_0 rfl (lv_at hl 0 rfl) ?_
  refine lv_iconst (v := (0 : Int32)) hx hb dX9_stage_1 (by decide) ?_
  refine va_put (D := D) (ci := 9) (v := .int (0 : Int32)) (ty := .int) (C := RX9) (T := TX9) (N := 44) hx hb hts in_wsX9_stage_X9 tyX9 tyX9_ok nmX9 hown hK hP hD hS 0 rfl rfl 0 (by decide) (hts (.fieldLink RX9 92 "AssistRowsModel" "fault" "I") (List.mem_of_getElem? (i := 1) rfl)) (fun _ h9 => h9) rfl (by decide +kernel) rfl rfl (Nat.le_of_ble_eq_true rfl) dX9_stage_2 (fun H locs hP hD hS => ?_)
  have hP : va_P D vwCl [(h_a, .inr (9, [.int (0 : Int32), .double h_now, .double h_speed, .ref h_isThere_a, .ref h_x_a, .ref h_y_a, .ref h_v_a, .ref h_sure_a, .ref h_coast_a, .ref h_many_a, .ref h_mx_a, .ref h_my_a, .ref h_mv_a, .ref h_taken_a, .ref h_way_a, .ref h_toldFirst_a, .ref h_toldSecond_a, .ref h_speedFirst_a, .int h_differs, .int h_differing, .double h_offset, .double h_slope, .double h_curve, .double h_pedal, .double h_brake, .double h_steer, .int h_isOn, .double h_offAt, .int h_isAsked, .double h_askedAt, .int h_isStopping, .double h_wished, .double h_gap, .double h_braking, .double h_pull, .int h_lead, .double h_left, .double h_leadX, .int h_stage, .int h_mode, .double h_force, .double h_wheel, .ref h_counts_a, .int h_sign]))] H := hP
  have hD : va_D A [(h_a, .inr (9, [.int (0 : Int32), .double h_now, .double h_speed, .ref h_isThere_a, .ref h_x_a, .ref h_y_a, .ref h_v_a, .ref h_sure_a, .ref h_coast_a, .ref h_many_a, .ref h_mx_a, .ref h_my_a, .ref h_mv_a, .ref h_taken_a, .ref h_way_a, .ref h_toldFirst_a, .ref h_toldSecond_a, .ref h_speedFirst_a, .int h_differs, .int h_differing, .double h_offset, .double h_slope, .double h_curve, .double h_pedal, .double h_brake, .double h_steer, .int h_isOn, .double h_offAt, .int h_isAsked, .double h_askedAt, .int h_isStopping, .double h_wished, .double h_gap, .double h_braking, .double h_pull, .int h_lead, .double h_left, .double h_leadX, .int h_stage, .int h_mode, .double h_force, .double h_wheel, .ref h_counts_a, .int h_sign]))] := hD
  refine lv_aload_n hx hb dX9_stage_5 rfl (lv_at hl 0 rfl) ?_
  refine va_get (D := D) (ci := 9) (v := .int h_stage) (C := RX9) (T := TX9) (N := 44) hx hb hts in_wsX9_stage_X9 hown hK hP 0 rfl rfl 38 (by decide) (hts (.fieldLink RX9 214 "AssistRowsModel" "stage" "I") (List.mem_of_getElem? (i := 2) rfl)) (fun _ h9 => h9) rfl dX9_stage_6 ?_
  have q0 := Option.some.inj ef0
  obtain ⟨t0, q1⟩ := Prod.mk.inj q0
  exact xIret t0 (by rw [← q1]) hx hb hr hlk hP hD hS dX9_stage_9

theorem in_wsX9_mode_X9 : ∀ w ∈ wsX90, w ∈ wsX9_mode := fun _ h => List.mem_cons_of_mem _ (List.mem_append_right _ h)
def f_X9_mode (h_mode : Int32) : Option (Int32 × Int32) :=
  some (h_mode, (0 : Int32))
set_option maxHeartbeats 4000000 in
set_option maxRecDepth 100000 in
theorem c_X9_mode (l : Launch) (D : va_G) (sz : Nat) (h_a : Nat) (h_isThere_a : Nat) (h_x_a : Nat) (h_y_a : Nat) (h_v_a : Nat) (h_sure_a : Nat) (h_coast_a : Nat) (h_many_a : Nat) (h_mx_a : Nat) (h_my_a : Nat) (h_mv_a : Nat) (h_taken_a : Nat) (h_way_a : Nat) (h_toldFirst_a : Nat) (h_toldSecond_a : Nat) (h_speedFirst_a : Nat) (h_counts_a : Nat) (h_fault : Int32) (h_now : UInt64) (h_speed : UInt64) (h_differs : Int32) (h_differing : Int32) (h_offset : UInt64) (h_slope : UInt64) (h_curve : UInt64) (h_pedal : UInt64) (h_brake : UInt64) (h_steer : UInt64) (h_isOn : Int32) (h_offAt : UInt64) (h_isAsked : Int32) (h_askedAt : UInt64) (h_isStopping : Int32) (h_wished : UInt64) (h_gap : UInt64) (h_braking : UInt64) (h_pull : UInt64) (h_lead : Int32) (h_left : UInt64) (h_leadX : UInt64) (h_stage : Int32) (h_mode : Int32) (h_force : UInt64) (h_wheel : UInt64) (h_sign : Int32) (r0 : Int32) (r1 : Int32) (hf : f_X9_mode h_mode = some (r0, r1)) : Met l yX9_mode wsX9_mode { frames := 0, cells := 0, slots := 0, locals := 0 } (va_Pc [.ref h_a] (xPre D [(h_a, .inr (9, [.int h_fault, .double h_now, .double h_speed, .ref h_isThere_a, .ref h_x_a, .ref h_y_a, .ref h_v_a, .ref h_sure_a, .ref h_coast_a, .ref h_many_a, .ref h_mx_a, .ref h_my_a, .ref h_mv_a, .ref h_taken_a, .ref h_way_a, .ref h_toldFirst_a, .ref h_toldSecond_a, .ref h_speedFirst_a, .int h_differs, .int h_differing, .double h_offset, .double h_slope, .double h_curve, .double h_pedal, .double h_brake, .double h_steer, .int h_isOn, .double h_offAt, .int h_isAsked, .double h_askedAt, .int h_isStopping, .double h_wished, .double h_gap, .double h_braking, .double h_pull, .int h_lead, .double h_left, .double h_leadX, .int h_stage, .int h_mode, .double h_force, .double h_wheel, .ref h_counts_a, .int h_sign]))] [] sz)) (va_Qi (fun (x : Int32) (_ : Unit) => x = r0) (fun _ => xB D (va_A [(h_a, .inr (9, [.int h_fault, .double h_now, .double h_speed, .ref h_isThere_a, .ref h_x_a, .ref h_y_a, .ref h_v_a, .ref h_sure_a, .ref h_coast_a, .ref h_many_a, .ref h_mx_a, .ref h_my_a, .ref h_mv_a, .ref h_taken_a, .ref h_way_a, .ref h_toldFirst_a, .ref h_toldSecond_a, .ref h_speedFirst_a, .int h_differs, .int h_differing, .double h_offset, .double h_slope, .double h_curve, .double h_pedal, .double h_brake, .double h_steer, .int h_isOn, .double h_offAt, .int h_isAsked, .double h_askedAt, .int h_isStopping, .double h_wished, .double h_gap, .double h_braking, .double h_pull, .int h_lead, .double h_left, .double h_leadX, .int h_stage, .int h_mode, .double h_force, .double h_wheel, .ref h_counts_a, .int h_sign]))] sz) [(h_a, .inr (9, [.int r1, .double h_now, .double h_speed, .ref h_isThere_a, .ref h_x_a, .ref h_y_a, .ref h_v_a, .ref h_sure_a, .ref h_coast_a, .ref h_many_a, .ref h_mx_a, .ref h_my_a, .ref h_mv_a, .ref h_taken_a, .ref h_way_a, .ref h_toldFirst_a, .ref h_toldSecond_a, .ref h_speedFirst_a, .int h_differs, .int h_differing, .double h_offset, .double h_slope, .double h_curve, .double h_pedal, .double h_brake, .double h_steer, .int h_isOn, .double h_offAt, .int h_isAsked, .double h_askedAt, .int h_isStopping, .double h_wished, .double h_gap, .double h_braking, .double h_pull, .int h_lead, .double h_left, .double h_leadX, .int h_stage, .int h_mode, .double h_force, .double h_wheel, .ref h_counts_a, .int h_sign]))]) (va_A [(h_a, .inr (9, [.int h_fault, .double h_now, .double h_speed, .ref h_isThere_a, .ref h_x_a, .ref h_y_a, .ref h_v_a, .ref h_sure_a, .ref h_coast_a, .ref h_many_a, .ref h_mx_a, .ref h_my_a, .ref h_mv_a, .ref h_taken_a, .ref h_way_a, .ref h_toldFirst_a, .ref h_toldSecond_a, .ref h_speedFirst_a, .int h_differs, .int h_differing, .double h_offset, .double h_slope, .double h_curve, .double h_pedal, .double h_brake, .double h_steer, .int h_isOn, .double h_offAt, .int h_isAsked, .double h_askedAt, .int h_isStopping, .double h_wished, .double h_gap, .double h_braking, .double h_pull, .int h_lead, .double h_left, .double h_leadX, .int h_stage, .int h_mode, .double h_force, .double h_wheel, .ref h_counts_a, .int h_sign]))] sz)) 0 0 (va_A [(h_a, .inr (9, [.int h_fault, .double h_now, .double h_speed, .ref h_isThere_a, .ref h_x_a, .ref h_y_a, .ref h_v_a, .ref h_sure_a, .ref h_coast_a, .ref h_many_a, .ref h_mx_a, .ref h_my_a, .ref h_mv_a, .ref h_taken_a, .ref h_way_a, .ref h_toldFirst_a, .ref h_toldSecond_a, .ref h_speedFirst_a, .int h_differs, .int h_differing, .double h_offset, .double h_slope, .double h_curve, .double h_pedal, .double h_brake, .double h_steer, .int h_isOn, .double h_offAt, .int h_isAsked, .double h_askedAt, .int h_isStopping, .double h_wished, .double h_gap, .double h_braking, .double h_pull, .int h_lead, .double h_left, .double h_leadX, .int h_stage, .int h_mode, .double h_force, .double h_wheel, .ref h_counts_a, .int h_sign]))] sz) := by
  refine xOfW (l := l) (y := yX9_mode) (ws := wsX9_mode) (D := D) (cells := [(h_a, .inr (9, [.int h_fault, .double h_now, .double h_speed, .ref h_isThere_a, .ref h_x_a, .ref h_y_a, .ref h_v_a, .ref h_sure_a, .ref h_coast_a, .ref h_many_a, .ref h_mx_a, .ref h_my_a, .ref h_mv_a, .ref h_taken_a, .ref h_way_a, .ref h_toldFirst_a, .ref h_toldSecond_a, .ref h_speedFirst_a, .int h_differs, .int h_differing, .double h_offset, .double h_slope, .double h_curve, .double h_pedal, .double h_brake, .double h_steer, .int h_isOn, .double h_offAt, .int h_isAsked, .double h_askedAt, .int h_isStopping, .double h_wished, .double h_gap, .double h_braking, .double h_pull, .int h_lead, .double h_left, .double h_leadX, .int h_stage, .int h_mode, .double h_force, .double h_wheel, .ref h_counts_a, .int h_sign]))]) (tys := []) (sz := sz) (av := [.ref h_a]) (cc := cX9_mode) (maxL := 1) (ret := (some .int)) (fun A => va_Qi (fun (x : Int32) (_ : Unit) => x = r0) (fun _ => xB D A [(h_a, .inr (9, [.int r1, .double h_now, .double h_speed, .ref h_isThere_a, .ref h_x_a, .ref h_y_a, .ref h_v_a, .ref h_sure_a, .ref h_coast_a, .ref h_many_a, .ref h_mx_a, .ref h_my_a, .ref h_mv_a, .ref h_taken_a, .ref h_way_a, .ref h_toldFirst_a, .ref h_toldSecond_a, .ref h_speedFirst_a, .int h_differs, .int h_differing, .double h_offset, .double h_slope, .double h_curve, .double h_pedal, .double h_brake, .double h_steer, .int h_isOn, .double h_offAt, .int h_isAsked, .double h_askedAt, .int h_isStopping, .double h_wished, .double h_gap, .double h_braking, .double h_pull, .int h_lead, .double h_left, .double h_leadX, .int h_stage, .int h_mode, .double h_force, .double h_wheel, .ref h_counts_a, .int h_sign]))]) A) (by decide) rfl (Nat.le_of_ble_eq_true rfl) ?_
  intro p e s m below meth c A H ls hx hb hr hml hown hlk hts hP hK hD hS hA hN hl
  have hl : lv_has ls 1 [(0, .ref h_a)] := hl
  have hown : s.vm.findClass RX9 = some m.cls := hown
  have ef0 : f_X9_mode h_mode = some (r0, r1) := hf
  rewrite [f_X9_mode] at ef0
  refine lv_aload_n hx hb dX9_mode_0 rfl (lv_at hl 0 rfl) ?_
  refine lv_iconst (v := (0 : Int32)) hx hb dX9_mode_1 (by decide) ?_
  refine va_put (D := D) (ci := 9) (v := .int (0 : Int32)) (ty := .int) (C := RX9) (T := TX9) (N := 44) hx hb hts in_wsX9_mode_X9 tyX9 tyX9_ok nmX9 hown hK hP hD hS 0 rfl rfl 0 (by decide) (hts (.fieldLink RX9 92 "AssistRowsModel" "fault" "I") (List.mem_of_getElem? (i := 1) rfl)) (fun _ h9 => h9) rfl (by decide +kernel) rfl rfl (Nat.le_of_ble_eq_true rfl) dX9_mode_2 (fun H locs hP hD hS => ?_)
  have hP : va_P D vwCl [(h_a, .inr (9, [.int (0 : Int32), .double h_now, .double h_speed, .ref h_isThere_a, .ref h_x_a, .ref h_y_a, .ref h_v_a, .ref h_sure_a, .ref h_coast_a, .ref h_many_a, .ref h_mx_a, .ref h_my_a, .ref h_mv_a, .ref h_taken_a, .ref h_way_a, .ref h_toldFirst_a, .ref h_toldSecond_a, .ref h_speedFirst_a, .int h_differs, .int h_differing, .double h_offset, .double h_slope, .double h_curve, .double h_pedal, .double h_brake, .double h_steer, .int h_isOn, .double h_offAt, .int h_isAsked, .double h_askedAt, .int h_isStopping, .double h_wished, .double h_gap, .double h_braking, .double h_pull, .int h_lead, .double h_left, .double h_leadX, .int h_stage, .int h_mode, .double h_force, .double h_wheel, .ref h_counts_a, .int h_sign]))] H := hP
  have hD : va_D A [(h_a, .inr (9, [.int (0 : Int32), .double h_now, .double h_speed, .ref h_isThere_a, .ref h_x_a, .ref h_y_a, .ref h_v_a, .ref h_sure_a, .ref h_coast_a, .ref h_many_a, .ref h_mx_a, .ref h_my_a, .ref h_mv_a, .ref h_taken_a, .ref h_way_a, .ref h_toldFirst_a, .ref h_toldSecond_a, .ref h_speedFirst_a, .int h_differs, .int h_differing, .double h_offset, .double h_slope, .double h_curve, .double h_pedal, .double h_brake, .double h_steer, .int h_isOn, .double h_offAt, .int h_isAsked, .double h_askedAt, .int h_isStopping, .double h_wished, .double h_gap, .double h_braking, .double h_pull, .int h_lead, .double h_left, .double h_leadX, .int h_stage, .int h_mode, .double h_force, .double h_wheel, .ref h_counts_a, .int h_sign]))] := hD
  refine lv_aload_n hx hb dX9_mode_5 rfl (lv_at hl 0 rfl) ?_
  refine va_get (D := D) (ci := 9) (v := .int h_mode) (C := RX9) (T := TX9) (N := 44) hx hb hts in_wsX9_mode_X9 hown hK hP 0 rfl rfl 39 (by decide) (hts (.fieldLink RX9 234 "AssistRowsModel" "mode" "I") (List.mem_of_getElem? (i := 2) rfl)) (fun _ h9 => h9) rfl dX9_mode_6 ?_
  have q0 := Option.some.inj ef0
  obtain ⟨t0, q1⟩ := Prod.mk.inj q0
  exact xIret t0 (by rw [← q1]) hx hb hr hlk hP hD hS dX9_mode_9

theorem in_wsX9_time_X9 : ∀ w ∈ wsX90, w ∈ wsX9_time := fun _ h => List.mem_cons_of_mem _ (List.mem_append_right _ h)
def f_X9_time (p0 : Int32) (h_speed : UInt64) (h_isThere : Nat → Int32) (h_x : Nat → UInt64) (h_v : Nat → UInt64) : Option (UInt64 × Int32) :=
  if p0 < 0 then (
  some ((13830554455654793216 : UInt64), (0 : Int32))) else
  if (8 : Int32) ≤ p0 then (
  some ((13830554455654793216 : UInt64), (0 : Int32))) else
  ck (inb p0 8 = true) <|
  if (h_isThere p0.toNatClampNeg) = 0 then (
  some ((13830554455654793216 : UInt64), (0 : Int32))) else
  ck (inb p0 8 = true) <|
  if (Op.cmpValue (FP.dcmp h_speed (h_v p0.toNatClampNeg)) .l) ≤ 0 then (
  some ((13830554455654793216 : UInt64), (0 : Int32))) else
  ck (inb p0 8 = true) <|
  ck (inb p0 8 = true) <|
  ck (nnb (FP.dsub h_speed (h_v p0.toNatClampNeg)) = true) <|
  ck (nnb (FP.ddiv (h_x p0.toNatClampNeg) (FP.dsub h_speed (h_v p0.toNatClampNeg))) = true) <|
  (f_X9_plain (FP.ddiv (h_x p0.toNatClampNeg) (FP.dsub h_speed (h_v p0.toNatClampNeg)))).bind fun u11 =>
  some (u11, (0 : Int32))
set_option maxHeartbeats 4000000 in
set_option maxRecDepth 100000 in
theorem c_X9_time (l : Launch) (D : va_G) (sz : Nat) (h_a : Nat) (h_isThere_a : Nat) (h_x_a : Nat) (h_y_a : Nat) (h_v_a : Nat) (h_sure_a : Nat) (h_coast_a : Nat) (h_many_a : Nat) (h_mx_a : Nat) (h_my_a : Nat) (h_mv_a : Nat) (h_taken_a : Nat) (h_way_a : Nat) (h_toldFirst_a : Nat) (h_toldSecond_a : Nat) (h_speedFirst_a : Nat) (h_counts_a : Nat) (h_isThere_k : ClassId) (h_x_k : ClassId) (h_v_k : ClassId) (p0 : Int32) (h_fault : Int32) (h_now : UInt64) (h_speed : UInt64) (h_differs : Int32) (h_differing : Int32) (h_offset : UInt64) (h_slope : UInt64) (h_curve : UInt64) (h_pedal : UInt64) (h_brake : UInt64) (h_steer : UInt64) (h_isOn : Int32) (h_offAt : UInt64) (h_isAsked : Int32) (h_askedAt : UInt64) (h_isStopping : Int32) (h_wished : UInt64) (h_gap : UInt64) (h_braking : UInt64) (h_pull : UInt64) (h_lead : Int32) (h_left : UInt64) (h_leadX : UInt64) (h_stage : Int32) (h_mode : Int32) (h_force : UInt64) (h_wheel : UInt64) (h_sign : Int32) (h_isThere : Nat → Int32) (h_x : Nat → UInt64) (h_v : Nat → UInt64) (r0 : UInt64) (r1 : Int32) (hf : f_X9_time p0 h_speed h_isThere h_x h_v = some (r0, r1)) : Met l yX9_time wsX9_time { frames := 1, cells := 0, slots := 0, locals := 21 } (va_Pc [.ref h_a, .int p0] (xPre D [(h_a, .inr (9, [.int h_fault, .double h_now, .double h_speed, .ref h_isThere_a, .ref h_x_a, .ref h_y_a, .ref h_v_a, .ref h_sure_a, .ref h_coast_a, .ref h_many_a, .ref h_mx_a, .ref h_my_a, .ref h_mv_a, .ref h_taken_a, .ref h_way_a, .ref h_toldFirst_a, .ref h_toldSecond_a, .ref h_speedFirst_a, .int h_differs, .int h_differing, .double h_offset, .double h_slope, .double h_curve, .double h_pedal, .double h_brake, .double h_steer, .int h_isOn, .double h_offAt, .int h_isAsked, .double h_askedAt, .int h_isStopping, .double h_wished, .double h_gap, .double h_braking, .double h_pull, .int h_lead, .double h_left, .double h_leadX, .int h_stage, .int h_mode, .double h_force, .double h_wheel, .ref h_counts_a, .int h_sign])), (h_isThere_a, .inl (h_isThere_k, 8, .inl h_isThere)), (h_x_a, .inl (h_x_k, 8, .inr (.inr (.inr (.inl h_x))))), (h_v_a, .inl (h_v_k, 8, .inr (.inr (.inr (.inl h_v)))))] [(h_isThere_k, .boolean), (h_x_k, .double), (h_v_k, .double)] sz)) (va_Qd (fun (x : UInt64) (_ : Unit) => x = r0) (fun _ => xB D (va_A [(h_a, .inr (9, [.int h_fault, .double h_now, .double h_speed, .ref h_isThere_a, .ref h_x_a, .ref h_y_a, .ref h_v_a, .ref h_sure_a, .ref h_coast_a, .ref h_many_a, .ref h_mx_a, .ref h_my_a, .ref h_mv_a, .ref h_taken_a, .ref h_way_a, .ref h_toldFirst_a, .ref h_toldSecond_a, .ref h_speedFirst_a, .int h_differs, .int h_differing, .double h_offset, .double h_slope, .double h_curve, .double h_pedal, .double h_brake, .double h_steer, .int h_isOn, .double h_offAt, .int h_isAsked, .double h_askedAt, .int h_isStopping, .double h_wished, .double h_gap, .double h_braking, .double h_pull, .int h_lead, .double h_left, .double h_leadX, .int h_stage, .int h_mode, .double h_force, .double h_wheel, .ref h_counts_a, .int h_sign])), (h_isThere_a, .inl (h_isThere_k, 8, .inl h_isThere)), (h_x_a, .inl (h_x_k, 8, .inr (.inr (.inr (.inl h_x))))), (h_v_a, .inl (h_v_k, 8, .inr (.inr (.inr (.inl h_v)))))] sz) [(h_a, .inr (9, [.int r1, .double h_now, .double h_speed, .ref h_isThere_a, .ref h_x_a, .ref h_y_a, .ref h_v_a, .ref h_sure_a, .ref h_coast_a, .ref h_many_a, .ref h_mx_a, .ref h_my_a, .ref h_mv_a, .ref h_taken_a, .ref h_way_a, .ref h_toldFirst_a, .ref h_toldSecond_a, .ref h_speedFirst_a, .int h_differs, .int h_differing, .double h_offset, .double h_slope, .double h_curve, .double h_pedal, .double h_brake, .double h_steer, .int h_isOn, .double h_offAt, .int h_isAsked, .double h_askedAt, .int h_isStopping, .double h_wished, .double h_gap, .double h_braking, .double h_pull, .int h_lead, .double h_left, .double h_leadX, .int h_stage, .int h_mode, .double h_force, .double h_wheel, .ref h_counts_a, .int h_sign])), (h_isThere_a, .inl (h_isThere_k, 8, .inl h_isThere)), (h_x_a, .inl (h_x_k, 8, .inr (.inr (.inr (.inl h_x))))), (h_v_a, .inl (h_v_k, 8, .inr (.inr (.inr (.inl h_v)))))]) (va_A [(h_a, .inr (9, [.int h_fault, .double h_now, .double h_speed, .ref h_isThere_a, .ref h_x_a, .ref h_y_a, .ref h_v_a, .ref h_sure_a, .ref h_coast_a, .ref h_many_a, .ref h_mx_a, .ref h_my_a, .ref h_mv_a, .ref h_taken_a, .ref h_way_a, .ref h_toldFirst_a, .ref h_toldSecond_a, .ref h_speedFirst_a, .int h_differs, .int h_differing, .double h_offset, .double h_slope, .double h_curve, .double h_pedal, .double h_brake, .double h_steer, .int h_isOn, .double h_offAt, .int h_isAsked, .double h_askedAt, .int h_isStopping, .double h_wished, .double h_gap, .double h_braking, .double h_pull, .int h_lead, .double h_left, .double h_leadX, .int h_stage, .int h_mode, .double h_force, .double h_wheel, .ref h_counts_a, .int h_sign])), (h_isThere_a, .inl (h_isThere_k, 8, .inl h_isThere)), (h_x_a, .inl (h_x_k, 8, .inr (.inr (.inr (.inl h_x))))), (h_v_a, .inl (h_v_k, 8, .inr (.inr (.inr (.inl h_v)))))] sz)) 0 0 (va_A [(h_a, .inr (9, [.int h_fault, .double h_now, .double h_speed, .ref h_isThere_a, .ref h_x_a, .ref h_y_a, .ref h_v_a, .ref h_sure_a, .ref h_coast_a, .ref h_many_a, .ref h_mx_a, .ref h_my_a, .ref h_mv_a, .ref h_taken_a, .ref h_way_a, .ref h_toldFirst_a, .ref h_toldSecond_a, .ref h_speedFirst_a, .int h_differs, .int h_differing, .double h_offset, .double h_slope, .double h_curve, .double h_pedal, .double h_brake, .double h_steer, .int h_isOn, .double h_offAt, .int h_isAsked, .double h_askedAt, .int h_isStopping, .double h_wished, .double h_gap, .double h_braking, .double h_pull, .int h_lead, .double h_left, .double h_leadX, .int h_stage, .int h_mode, .double h_force, .double h_wheel, .ref h_counts_a, .int h_sign])), (h_isThere_a, .inl (h_isThere_k, 8, .inl h_isThere)), (h_x_a, .inl (h_x_k, 8, .inr (.inr (.inr (.inl h_x))))), (h_v_a, .inl (h_v_k, 8, .inr (.inr (.inr (.inl h_v)))))] sz) := by
  refine xOfW (l := l) (y := yX9_time) (ws := wsX9_time) (D := D) (cells := [(h_a, .inr (9, [.int h_fault, .double h_now, .double h_speed, .ref h_isThere_a, .ref h_x_a, .ref h_y_a, .ref h_v_a, .ref h_sure_a, .ref h_coast_a, .ref h_many_a, .ref h_mx_a, .ref h_my_a, .ref h_mv_a, .ref h_taken_a, .ref h_way_a, .ref h_toldFirst_a, .ref h_toldSecond_a, .ref h_speedFirst_a, .int h_differs, .int h_differing, .double h_offset, .double h_slope, .double h_curve, .double h_pedal, .double h_brake, .double h_steer, .int h_isOn, .double h_offAt, .int h_isAsked, .double h_askedAt, .int h_isStopping, .double h_wished, .double h_gap, .double h_braking, .double h_pull, .int h_lead, .double h_left, .double h_leadX, .int h_stage, .int h_mode, .double h_force, .double h_wheel, .ref h_counts_a, .int h_sign])), (h_isThere_a, .inl (h_isThere_k, 8, .inl h_isThere)), (h_x_a, .inl (h_x_k, 8, .inr (.inr (.inr (.inl h_x))))), (h_v_a, .inl (h_v_k, 8, .inr (.inr (.inr (.inl h_v)))))]) (tys := [(h_isThere_k, .boolean), (h_x_k, .double), (h_v_k, .double)]) (sz := sz) (av := [.ref h_a, .int p0]) (cc := cX9_time) (maxL := 2) (ret := (some .double)) (fun A => va_Qd (fun (x : UInt64) (_ : Unit) => x = r0) (fun _ => xB D A [(h_a, .inr (9, [.int r1, .double h_now, .double h_speed, .ref h_isThere_a, .ref h_x_a, .ref h_y_a, .ref h_v_a, .ref h_sure_a, .ref h_coast_a, .ref h_many_a, .ref h_mx_a, .ref h_my_a, .ref h_mv_a, .ref h_taken_a, .ref h_way_a, .ref h_toldFirst_a, .ref h_toldSecond_a, .ref h_speedFirst_a, .int h_differs, .int h_differing, .double h_offset, .double h_slope, .double h_curve, .double h_pedal, .double h_brake, .double h_steer, .int h_isOn, .double h_offAt, .int h_isAsked, .double h_askedAt, .int h_isStopping, .double h_wished, .double h_gap, .double h_braking, .double h_pull, .int h_lead, .double h_left, .double h_leadX, .int h_stage, .int h_mode, .double h_force, .double h_wheel, .ref h_counts_a, .int h_sign])), (h_isThere_a, .inl (h_isThere_k, 8, .inl h_isThere)), (h_x_a, .inl (h_x_k, 8, .inr (.inr (.inr (.inl h_x))))), (h_v_a, .inl (h_v_k, 8, .inr (.inr (.inr (.inl h_v)))))]) A) (by decide) rfl (Nat.le_of_ble_eq_true rfl) ?_
  intro p e s m below meth c A H ls hx hb hr hml hown hlk hts hP hK hD hS hA hN hl
  have hl : lv_has ls 2 [(0, .ref h_a), (1, .int p0)] := hl
  have hown : s.vm.findClass RX9 = some m.cls := hown
  have ef0 : f_X9_time p0 h_speed h_isThere h_x h_v = some (r0, r1) := hf
  rewrite [f_X9_time] at ef0
  refine lv_aload_n hx hb dX9_time_0 rfl (lv_at hl 0 rfl) ?_
  refine lv_iconst (v := (0 : Int32)) hx hb dX9_time_1 (by decide) ?_
  refine va_put (D := D) (ci := 9) (v := .int (0 : Int32)) (ty := .int) (C := RX9) (T := TX9) (N := 44) hx hb hts in_wsX9_time_X9 tyX9 tyX9_ok nmX9 hown hK hP hD hS 0 rfl rfl 0 (by decide) (hts (.fieldLink RX9 92 "AssistRowsModel" "fault" "I") (List.mem_of_getElem? (i := 1) rfl)) (fun _ h9 => h9) rfl (by decide +kernel) rfl rfl (Nat.le_of_ble_eq_true rfl) dX9_time_2 (fun H locs hP hD hS => ?_)
  have hP : va_P D vwCl [(h_a, .inr (9, [.int (0 : Int32), .double h_now, .double h_speed, .ref h_isThere_a, .ref h_x_a, .ref h_y_a, .ref h_v_a, .ref h_sure_a, .ref h_coast_a, .ref h_many_a, .ref h_mx_a, .ref h_my_a, .ref h_mv_a, .ref h_taken_a, .ref h_way_a, .ref h_toldFirst_a, .ref h_toldSecond_a, .ref h_speedFirst_a, .int h_differs, .int h_differing, .double h_offset, .double h_slope, .double h_curve, .double h_pedal, .double h_brake, .double h_steer, .int h_isOn, .double h_offAt, .int h_isAsked, .double h_askedAt, .int h_isStopping, .double h_wished, .double h_gap, .double h_braking, .double h_pull, .int h_lead, .double h_left, .double h_leadX, .int h_stage, .int h_mode, .double h_force, .double h_wheel, .ref h_counts_a, .int h_sign])), (h_isThere_a, .inl (h_isThere_k, 8, .inl h_isThere)), (h_x_a, .inl (h_x_k, 8, .inr (.inr (.inr (.inl h_x))))), (h_v_a, .inl (h_v_k, 8, .inr (.inr (.inr (.inl h_v)))))] H := hP
  have hD : va_D A [(h_a, .inr (9, [.int (0 : Int32), .double h_now, .double h_speed, .ref h_isThere_a, .ref h_x_a, .ref h_y_a, .ref h_v_a, .ref h_sure_a, .ref h_coast_a, .ref h_many_a, .ref h_mx_a, .ref h_my_a, .ref h_mv_a, .ref h_taken_a, .ref h_way_a, .ref h_toldFirst_a, .ref h_toldSecond_a, .ref h_speedFirst_a, .int h_differs, .int h_differing, .double h_offset, .double h_slope, .double h_curve, .double h_pedal, .double h_brake, .double h_steer, .int h_isOn, .double h_offAt, .int h_isAsked, .double h_askedAt, .int h_isStopping, .double h_wished, .double h_gap, .double h_braking, .double h_pull, .int h_lead, .double h_left, .double h_leadX, .int h_stage, .int h_mode, .double h_force, .double h_wheel, .ref h_counts_a, .int h_sign])), (h_isThere_a, .inl (h_isThere_k, 8, .inl h_isThere)), (h_x_a, .inl (h_x_k, 8, .inr (.inr (.inr (.inl h_x))))), (h_v_a, .inl (h_v_k, 8, .inr (.inr (.inr (.inl h_v)))))] := hD
  refine lv_iload_n hx hb dX9_time_5 rfl (lv_at hl 1 rfl) ?_
  refine lv_if_lt (tgt := 62) hx hb dX9_time_6 (by decide) (fun c1 => ?_) (fun c1 => ?_)
  · have ef0 := ift ef0 c1
    refine lv_ldc2d hx hb hown (hts (.constantDouble RX9 81 (13830554455654793216)) (List.mem_of_getElem? (i := 6) rfl)) dX9_time_62 ?_
    have q0 := Option.some.inj ef0
    obtain ⟨t0, q1⟩ := Prod.mk.inj q0
    exact xDret t0 (by rw [← q1]) hx hb hr hlk hP hD hS dX9_time_65
  · have ef0 := iff_ ef0 c1
    refine lv_iload_n hx hb dX9_time_9 rfl (lv_at hl 1 rfl) ?_
    refine lv_bipush (v := (8 : Int32)) hx hb dX9_time_10 (by decide) ?_
    refine lv_icmp_ge (tgt := 62) hx hb dX9_time_12 (by decide) (fun c2 => ?_) (fun c2 => ?_)
    · have ef0 := ift ef0 c2
      refine lv_ldc2d hx hb hown (hts (.constantDouble RX9 81 (13830554455654793216)) (List.mem_of_getElem? (i := 6) rfl)) dX9_time_62 ?_
      have q0 := Option.some.inj ef0
      obtain ⟨t0, q1⟩ := Prod.mk.inj q0
      exact xDret t0 (by rw [← q1]) hx hb hr hlk hP hD hS dX9_time_65
    · have ef0 := iff_ ef0 c2
      refine lv_aload_n hx hb dX9_time_15 rfl (lv_at hl 0 rfl) ?_
      refine va_get (D := D) (ci := 9) (v := .ref h_isThere_a) (C := RX9) (T := TX9) (N := 44) hx hb hts in_wsX9_time_X9 hown hK hP 0 rfl rfl 3 (by decide) (hts (.fieldLink RX9 7 "AssistRowsModel" "isThere" "[Z") (List.mem_of_getElem? (i := 2) rfl)) (fun _ h9 => h9) rfl dX9_time_16 ?_
      refine lv_iload_n hx hb dX9_time_19 rfl (lv_at hl 1 rfl) ?_
      obtain ⟨h3, ef0⟩ := ck_of ef0
      refine va_zald hx hb hK hP 1 0 rfl rfl (inb_of h3) dX9_time_20 ?_
      refine lv_if_eq (tgt := 62) hx hb dX9_time_21 (by decide) (fun c4 => ?_) (fun c4 => ?_)
      · have ef0 := ift ef0 c4
        refine lv_ldc2d hx hb hown (hts (.constantDouble RX9 81 (13830554455654793216)) (List.mem_of_getElem? (i := 6) rfl)) dX9_time_62 ?_
        have q0 := Option.some.inj ef0
        obtain ⟨t0, q1⟩ := Prod.mk.inj q0
        exact xDret t0 (by rw [← q1]) hx hb hr hlk hP hD hS dX9_time_65
      · have ef0 := iff_ ef0 c4
        refine lv_aload_n hx hb dX9_time_24 rfl (lv_at hl 0 rfl) ?_
        refine va_get (D := D) (ci := 9) (v := .double h_speed) (C := RX9) (T := TX9) (N := 44) hx hb hts in_wsX9_time_X9 hown hK hP 0 rfl rfl 2 (by decide) (hts (.fieldLink RX9 203 "AssistRowsModel" "speed" "D") (List.mem_of_getElem? (i := 3) rfl)) (fun _ h9 => h9) rfl dX9_time_25 ?_
        refine lv_aload_n hx hb dX9_time_28 rfl (lv_at hl 0 rfl) ?_
        refine va_get (D := D) (ci := 9) (v := .ref h_v_a) (C := RX9) (T := TX9) (N := 44) hx hb hts in_wsX9_time_X9 hown hK hP 0 rfl rfl 6 (by decide) (hts (.fieldLink RX9 20 "AssistRowsModel" "v" "[D") (List.mem_of_getElem? (i := 4) rfl)) (fun _ h9 => h9) rfl dX9_time_29 ?_
        refine lv_iload_n hx hb dX9_time_32 rfl (lv_at hl 1 rfl) ?_
        obtain ⟨h5, ef0⟩ := ck_of ef0
        refine va_dald hx hb hK hP 3 2 rfl rfl (inb_of h5) dX9_time_33 ?_
        refine lv_dcmp hx hb dX9_time_34 ?_
        refine lv_if_le (tgt := 62) hx hb dX9_time_35 (by decide) (fun c6 => ?_) (fun c6 => ?_)
        · have ef0 := ift ef0 c6
          refine lv_ldc2d hx hb hown (hts (.constantDouble RX9 81 (13830554455654793216)) (List.mem_of_getElem? (i := 6) rfl)) dX9_time_62 ?_
          have q0 := Option.some.inj ef0
          obtain ⟨t0, q1⟩ := Prod.mk.inj q0
          exact xDret t0 (by rw [← q1]) hx hb hr hlk hP hD hS dX9_time_65
        · have ef0 := iff_ ef0 c6
          refine lv_aload_n hx hb dX9_time_38 rfl (lv_at hl 0 rfl) ?_
          refine va_get (D := D) (ci := 9) (v := .ref h_x_a) (C := RX9) (T := TX9) (N := 44) hx hb hts in_wsX9_time_X9 hown hK hP 0 rfl rfl 4 (by decide) (hts (.fieldLink RX9 13 "AssistRowsModel" "x" "[D") (List.mem_of_getElem? (i := 5) rfl)) (fun _ h9 => h9) rfl dX9_time_39 ?_
          refine lv_iload_n hx hb dX9_time_42 rfl (lv_at hl 1 rfl) ?_
          obtain ⟨h7, ef0⟩ := ck_of ef0
          refine va_dald hx hb hK hP 2 1 rfl rfl (inb_of h7) dX9_time_43 ?_
          refine lv_aload_n hx hb dX9_time_44 rfl (lv_at hl 0 rfl) ?_
          refine va_get (D := D) (ci := 9) (v := .double h_speed) (C := RX9) (T := TX9) (N := 44) hx hb hts in_wsX9_time_X9 hown hK hP 0 rfl rfl 2 (by decide) (hts (.fieldLink RX9 203 "AssistRowsModel" "speed" "D") (List.mem_of_getElem? (i := 3) rfl)) (fun _ h9 => h9) rfl dX9_time_45 ?_
          refine lv_aload_n hx hb dX9_time_48 rfl (lv_at hl 0 rfl) ?_
          refine va_get (D := D) (ci := 9) (v := .ref h_v_a) (C := RX9) (T := TX9) (N := 44) hx hb hts in_wsX9_time_X9 hown hK hP 0 rfl rfl 6 (by decide) (hts (.fieldLink RX9 20 "AssistRowsModel" "v" "[D") (List.mem_of_getElem? (i := 4) rfl)) (fun _ h9 => h9) rfl dX9_time_49 ?_
          refine lv_iload_n hx hb dX9_time_52 rfl (lv_at hl 1 rfl) ?_
          obtain ⟨h8, ef0⟩ := ck_of ef0
          refine va_dald hx hb hK hP 3 2 rfl rfl (inb_of h8) dX9_time_53 ?_
          obtain ⟨h9, ef0⟩ := ck_of ef0
          refine lv_dsub hx hb dX9_time_54 (nn_of h9) ?_
          obtain ⟨h10, ef0⟩ := ck_of ef0
          refine lv_ddiv hx hb dX9_time_55 (nn_of h10) ?_
          obtain ⟨u11, hu11, ef0⟩ := bd_of ef0
          refine xCalld (wr := [(h_a, .inr (9, [.int (0 : Int32), .double h_now, .double h_speed, .ref h_isThere_a, .ref h_x_a, .ref h_y_a, .ref h_v_a, .ref h_sure_a, .ref h_coast_a, .ref h_many_a, .ref h_mx_a, .ref h_my_a, .ref h_mv_a, .ref h_taken_a, .ref h_way_a, .ref h_toldFirst_a, .ref h_toldSecond_a, .ref h_speedFirst_a, .int h_differs, .int h_differing, .double h_offset, .double h_slope, .double h_curve, .double h_pedal, .double h_brake, .double h_steer, .int h_isOn, .double h_offAt, .int h_isAsked, .double h_askedAt, .int h_isStopping, .double h_wished, .double h_gap, .double h_braking, .double h_pull, .int h_lead, .double h_left, .double h_leadX, .int h_stage, .int h_mode, .double h_force, .double h_wheel, .ref h_counts_a, .int h_sign])), (h_isThere_a, .inl (h_isThere_k, 8, .inl h_isThere)), (h_x_a, .inl (h_x_k, 8, .inr (.inr (.inr (.inl h_x))))), (h_v_a, .inl (h_v_k, 8, .inr (.inr (.inr (.inl h_v)))))]) (wn := [(h_a, .inr (9, [.int (0 : Int32), .double h_now, .double h_speed, .ref h_isThere_a, .ref h_x_a, .ref h_y_a, .ref h_v_a, .ref h_sure_a, .ref h_coast_a, .ref h_many_a, .ref h_mx_a, .ref h_my_a, .ref h_mv_a, .ref h_taken_a, .ref h_way_a, .ref h_toldFirst_a, .ref h_toldSecond_a, .ref h_speedFirst_a, .int h_differs, .int h_differing, .double h_offset, .double h_slope, .double h_curve, .double h_pedal, .double h_brake, .double h_steer, .int h_isOn, .double h_offAt, .int h_isAsked, .double h_askedAt, .int h_isStopping, .double h_wished, .double h_gap, .double h_braking, .double h_pull, .int h_lead, .double h_left, .double h_leadX, .int h_stage, .int h_mode, .double h_force, .double h_wheel, .ref h_counts_a, .int h_sign])), (h_isThere_a, .inl (h_isThere_k, 8, .inl h_isThere)), (h_x_a, .inl (h_x_k, 8, .inr (.inr (.inr (.inl h_x))))), (h_v_a, .inl (h_v_k, 8, .inr (.inr (.inr (.inl h_v)))))]) [] [0, 1, 2, 3] [0, 1, 2, 3] (va_runS (As := [.double (FP.ddiv (h_x p0.toNatClampNeg) (FP.dsub h_speed (h_v p0.toNatClampNeg)))]) (rest := []) ⟨hx, hb, hml, hown, hts⟩ (c_X9_plain l D H.size (FP.ddiv (h_x p0.toNatClampNeg) (FP.dsub h_speed (h_v p0.toNatClampNeg))) u11 hu11) (va_cwS 1 hts gX9_time_X9_plain rfl rfl rfl (by decide +kernel) ⟨Nat.le_of_ble_eq_true rfl, Nat.le_of_ble_eq_true rfl⟩) (xPreS hP hD hK hN [] rfl rfl [] rfl) rfl rfl hl.1 rfl (lv_room (Nat.le_of_ble_eq_true rfl)) dX9_time_56 ⟨Nat.zero_le _, Nat.zero_le _⟩) hP hD hS hA rfl rfl rfl (by decide) rfl rfl (fun H locs hP hD hS => ?_)
          refine lv_goto (tgt := 65) hx hb dX9_time_59 (by decide) ?_
          have q0 := Option.some.inj ef0
          obtain ⟨t0, q1⟩ := Prod.mk.inj q0
          exact xDret t0 (by rw [← q1]) hx hb hr hlk hP hD hS dX9_time_65

theorem in_wsX9_whole_X9 : ∀ w ∈ wsX90, w ∈ wsX9_whole := fun _ h => List.mem_cons_of_mem _ (List.mem_append_right _ h)
def f_X9_whole_j1 (p0 : Int64) (p1 : Int64) (b2 : Int32) : Option (Int64 × Int32) :=
  if (lg_cmp p1 (0 : Int64)) = 0 then (
  some ((0 : Int64), b2)) else
  ck (¬ p1 = 0) <|
  some ((p0 / p1), b2)
def f_X9_whole (p0 : Int64) (p1 : Int64) : Option (Int64 × Int32) :=
  if (lg_cmp p1 (0 : Int64)) = 0 then (
  f_X9_whole_j1 p0 p1 (1 : Int32)) else
  f_X9_whole_j1 p0 p1 (0 : Int32)
set_option maxHeartbeats 4000000 in
set_option maxRecDepth 100000 in
theorem c_X9_whole (l : Launch) (D : va_G) (sz : Nat) (h_a : Nat) (h_isThere_a : Nat) (h_x_a : Nat) (h_y_a : Nat) (h_v_a : Nat) (h_sure_a : Nat) (h_coast_a : Nat) (h_many_a : Nat) (h_mx_a : Nat) (h_my_a : Nat) (h_mv_a : Nat) (h_taken_a : Nat) (h_way_a : Nat) (h_toldFirst_a : Nat) (h_toldSecond_a : Nat) (h_speedFirst_a : Nat) (h_counts_a : Nat) (p0 : Int64) (p1 : Int64) (h_fault : Int32) (h_now : UInt64) (h_speed : UInt64) (h_differs : Int32) (h_differing : Int32) (h_offset : UInt64) (h_slope : UInt64) (h_curve : UInt64) (h_pedal : UInt64) (h_brake : UInt64) (h_steer : UInt64) (h_isOn : Int32) (h_offAt : UInt64) (h_isAsked : Int32) (h_askedAt : UInt64) (h_isStopping : Int32) (h_wished : UInt64) (h_gap : UInt64) (h_braking : UInt64) (h_pull : UInt64) (h_lead : Int32) (h_left : UInt64) (h_leadX : UInt64) (h_stage : Int32) (h_mode : Int32) (h_force : UInt64) (h_wheel : UInt64) (h_sign : Int32) (r0 : Int64) (r1 : Int32) (hf : f_X9_whole p0 p1 = some (r0, r1)) : Met l yX9_whole wsX9_whole { frames := 0, cells := 0, slots := 0, locals := 0 } (va_Pc [.ref h_a, .long p0, .long p1] (xPre D [(h_a, .inr (9, [.int h_fault, .double h_now, .double h_speed, .ref h_isThere_a, .ref h_x_a, .ref h_y_a, .ref h_v_a, .ref h_sure_a, .ref h_coast_a, .ref h_many_a, .ref h_mx_a, .ref h_my_a, .ref h_mv_a, .ref h_taken_a, .ref h_way_a, .ref h_toldFirst_a, .ref h_toldSecond_a, .ref h_speedFirst_a, .int h_differs, .int h_differing, .double h_offset, .double h_slope, .double h_curve, .double h_pedal, .double h_brake, .double h_steer, .int h_isOn, .double h_offAt, .int h_isAsked, .double h_askedAt, .int h_isStopping, .double h_wished, .double h_gap, .double h_braking, .double h_pull, .int h_lead, .double h_left, .double h_leadX, .int h_stage, .int h_mode, .double h_force, .double h_wheel, .ref h_counts_a, .int h_sign]))] [] sz)) (va_Ql (fun (x : Int64) (_ : Unit) => x = r0) (fun _ => xB D (va_A [(h_a, .inr (9, [.int h_fault, .double h_now, .double h_speed, .ref h_isThere_a, .ref h_x_a, .ref h_y_a, .ref h_v_a, .ref h_sure_a, .ref h_coast_a, .ref h_many_a, .ref h_mx_a, .ref h_my_a, .ref h_mv_a, .ref h_taken_a, .ref h_way_a, .ref h_toldFirst_a, .ref h_toldSecond_a, .ref h_speedFirst_a, .int h_differs, .int h_differing, .double h_offset, .double h_slope, .double h_curve, .double h_pedal, .double h_brake, .double h_steer, .int h_isOn, .double h_offAt, .int h_isAsked, .double h_askedAt, .int h_isStopping, .double h_wished, .double h_gap, .double h_braking, .double h_pull, .int h_lead, .double h_left, .double h_leadX, .int h_stage, .int h_mode, .double h_force, .double h_wheel, .ref h_counts_a, .int h_sign]))] sz) [(h_a, .inr (9, [.int r1, .double h_now, .double h_speed, .ref h_isThere_a, .ref h_x_a, .ref h_y_a, .ref h_v_a, .ref h_sure_a, .ref h_coast_a, .ref h_many_a, .ref h_mx_a, .ref h_my_a, .ref h_mv_a, .ref h_taken_a, .ref h_way_a, .ref h_toldFirst_a, .ref h_toldSecond_a, .ref h_speedFirst_a, .int h_differs, .int h_differing, .double h_offset, .double h_slope, .double h_curve, .double h_pedal, .double h_brake, .double h_steer, .int h_isOn, .double h_offAt, .int h_isAsked, .double h_askedAt, .int h_isStopping, .double h_wished, .double h_gap, .double h_braking, .double h_pull, .int h_lead, .double h_left, .double h_leadX, .int h_stage, .int h_mode, .double h_force, .double h_wheel, .ref h_counts_a, .int h_sign]))]) (va_A [(h_a, .inr (9, [.int h_fault, .double h_now, .double h_speed, .ref h_isThere_a, .ref h_x_a, .ref h_y_a, .ref h_v_a, .ref h_sure_a, .ref h_coast_a, .ref h_many_a, .ref h_mx_a, .ref h_my_a, .ref h_mv_a, .ref h_taken_a, .ref h_way_a, .ref h_toldFirst_a, .ref h_toldSecond_a, .ref h_speedFirst_a, .int h_differs, .int h_differing, .double h_offset, .double h_slope, .double h_curve, .double h_pedal, .double h_brake, .double h_steer, .int h_isOn, .double h_offAt, .int h_isAsked, .double h_askedAt, .int h_isStopping, .double h_wished, .double h_gap, .double h_braking, .double h_pull, .int h_lead, .double h_left, .double h_leadX, .int h_stage, .int h_mode, .double h_force, .double h_wheel, .ref h_counts_a, .int h_sign]))] sz)) 0 0 (va_A [(h_a, .inr (9, [.int h_fault, .double h_now, .double h_speed, .ref h_isThere_a, .ref h_x_a, .ref h_y_a, .ref h_v_a, .ref h_sure_a, .ref h_coast_a, .ref h_many_a, .ref h_mx_a, .ref h_my_a, .ref h_mv_a, .ref h_taken_a, .ref h_way_a, .ref h_toldFirst_a, .ref h_toldSecond_a, .ref h_speedFirst_a, .int h_differs, .int h_differing, .double h_offset, .double h_slope, .double h_curve, .double h_pedal, .double h_brake, .double h_steer, .int h_isOn, .double h_offAt, .int h_isAsked, .double h_askedAt, .int h_isStopping, .double h_wished, .double h_gap, .double h_braking, .double h_pull, .int h_lead, .double h_left, .double h_leadX, .int h_stage, .int h_mode, .double h_force, .double h_wheel, .ref h_counts_a, .int h_sign]))] sz) := by
  refine xOfW (l := l) (y := yX9_whole) (ws := wsX9_whole) (D := D) (cells := [(h_a, .inr (9, [.int h_fault, .double h_now, .double h_speed, .ref h_isThere_a, .ref h_x_a, .ref h_y_a, .ref h_v_a, .ref h_sure_a, .ref h_coast_a, .ref h_many_a, .ref h_mx_a, .ref h_my_a, .ref h_mv_a, .ref h_taken_a, .ref h_way_a, .ref h_toldFirst_a, .ref h_toldSecond_a, .ref h_speedFirst_a, .int h_differs, .int h_differing, .double h_offset, .double h_slope, .double h_curve, .double h_pedal, .double h_brake, .double h_steer, .int h_isOn, .double h_offAt, .int h_isAsked, .double h_askedAt, .int h_isStopping, .double h_wished, .double h_gap, .double h_braking, .double h_pull, .int h_lead, .double h_left, .double h_leadX, .int h_stage, .int h_mode, .double h_force, .double h_wheel, .ref h_counts_a, .int h_sign]))]) (tys := []) (sz := sz) (av := [.ref h_a, .long p0, .long p1]) (cc := cX9_whole) (maxL := 5) (ret := (some .long)) (fun A => va_Ql (fun (x : Int64) (_ : Unit) => x = r0) (fun _ => xB D A [(h_a, .inr (9, [.int r1, .double h_now, .double h_speed, .ref h_isThere_a, .ref h_x_a, .ref h_y_a, .ref h_v_a, .ref h_sure_a, .ref h_coast_a, .ref h_many_a, .ref h_mx_a, .ref h_my_a, .ref h_mv_a, .ref h_taken_a, .ref h_way_a, .ref h_toldFirst_a, .ref h_toldSecond_a, .ref h_speedFirst_a, .int h_differs, .int h_differing, .double h_offset, .double h_slope, .double h_curve, .double h_pedal, .double h_brake, .double h_steer, .int h_isOn, .double h_offAt, .int h_isAsked, .double h_askedAt, .int h_isStopping, .double h_wished, .double h_gap, .double h_braking, .double h_pull, .int h_lead, .double h_left, .double h_leadX, .int h_stage, .int h_mode, .double h_force, .double h_wheel, .ref h_counts_a, .int h_sign]))]) A) (by decide) rfl (Nat.le_of_ble_eq_true rfl) ?_
  intro p e s m below meth c A H ls hx hb hr hml hown hlk hts hP hK hD hS hA hN hl
  have hl : lv_has ls 5 [(0, .ref h_a), (1, .long p0), (3, .long p1)] := hl
  have hown : s.vm.findClass RX9 = some m.cls := hown
  have ef0 : f_X9_whole p0 p1 = some (r0, r1) := hf
  rewrite [f_X9_whole] at ef0
  refine lv_aload_n hx hb dX9_whole_0 rfl (lv_at hl 0 rfl) ?_
  refine lv_lload_n hx hb dX9_whole_1 rfl (lv_at hl 2 rfl) ?_
  refine lv_lconst (v := (0 : Int64)) hx hb dX9_whole_2 (by decide) ?_
  refine W.lcmp hx hb dX9_whole_3 ?_
  refine xCut (ι := Int32) (fun z H locs ls => f_X9_whole_j1 p0 p1 z = some (r0, r1) ∧ va_P D vwCl [(h_a, .inr (9, [.int h_fault, .double h_now, .double h_speed, .ref h_isThere_a, .ref h_x_a, .ref h_y_a, .ref h_v_a, .ref h_sure_a, .ref h_coast_a, .ref h_many_a, .ref h_mx_a, .ref h_my_a, .ref h_mv_a, .ref h_taken_a, .ref h_way_a, .ref h_toldFirst_a, .ref h_toldSecond_a, .ref h_speedFirst_a, .int h_differs, .int h_differing, .double h_offset, .double h_slope, .double h_curve, .double h_pedal, .double h_brake, .double h_steer, .int h_isOn, .double h_offAt, .int h_isAsked, .double h_askedAt, .int h_isStopping, .double h_wished, .double h_gap, .double h_braking, .double h_pull, .int h_lead, .double h_left, .double h_leadX, .int h_stage, .int h_mode, .double h_force, .double h_wheel, .ref h_counts_a, .int h_sign]))] H ∧ va_D A [(h_a, .inr (9, [.int h_fault, .double h_now, .double h_speed, .ref h_isThere_a, .ref h_x_a, .ref h_y_a, .ref h_v_a, .ref h_sure_a, .ref h_coast_a, .ref h_many_a, .ref h_mx_a, .ref h_my_a, .ref h_mv_a, .ref h_taken_a, .ref h_way_a, .ref h_toldFirst_a, .ref h_toldSecond_a, .ref h_speedFirst_a, .int h_differs, .int h_differing, .double h_offset, .double h_slope, .double h_curve, .double h_pedal, .double h_brake, .double h_steer, .int h_isOn, .double h_offAt, .int h_isAsked, .double h_askedAt, .int h_isStopping, .double h_wished, .double h_gap, .double h_braking, .double h_pull, .int h_lead, .double h_left, .double h_leadX, .int h_stage, .int h_mode, .double h_force, .double h_wheel, .ref h_counts_a, .int h_sign]))] ∧ va_S A s.heap H locs ∧ lv_has ls 5 [(1, .long p0), (3, .long p1)]) 12 (fun z => [.int z, .ref h_a]) ?_ (fun K1 => ?_)
  · intro z H locs ls hz
    obtain ⟨b2, rfl⟩ : ∃ q, q = z := ⟨z, rfl⟩
    obtain ⟨ef0, hP, hD, hS, hl⟩ := hz
    have ef0 : f_X9_whole_j1 p0 p1 b2 = some (r0, r1) := ef0
    have hP : va_P D vwCl [(h_a, .inr (9, [.int h_fault, .double h_now, .double h_speed, .ref h_isThere_a, .ref h_x_a, .ref h_y_a, .ref h_v_a, .ref h_sure_a, .ref h_coast_a, .ref h_many_a, .ref h_mx_a, .ref h_my_a, .ref h_mv_a, .ref h_taken_a, .ref h_way_a, .ref h_toldFirst_a, .ref h_toldSecond_a, .ref h_speedFirst_a, .int h_differs, .int h_differing, .double h_offset, .double h_slope, .double h_curve, .double h_pedal, .double h_brake, .double h_steer, .int h_isOn, .double h_offAt, .int h_isAsked, .double h_askedAt, .int h_isStopping, .double h_wished, .double h_gap, .double h_braking, .double h_pull, .int h_lead, .double h_left, .double h_leadX, .int h_stage, .int h_mode, .double h_force, .double h_wheel, .ref h_counts_a, .int h_sign]))] H := hP
    have hD : va_D A [(h_a, .inr (9, [.int h_fault, .double h_now, .double h_speed, .ref h_isThere_a, .ref h_x_a, .ref h_y_a, .ref h_v_a, .ref h_sure_a, .ref h_coast_a, .ref h_many_a, .ref h_mx_a, .ref h_my_a, .ref h_mv_a, .ref h_taken_a, .ref h_way_a, .ref h_toldFirst_a, .ref h_toldSecond_a, .ref h_speedFirst_a, .int h_differs, .int h_differing, .double h_offset, .double h_slope, .double h_curve, .double h_pedal, .double h_brake, .double h_steer, .int h_isOn, .double h_offAt, .int h_isAsked, .double h_askedAt, .int h_isStopping, .double h_wished, .double h_gap, .double h_braking, .double h_pull, .int h_lead, .double h_left, .double h_leadX, .int h_stage, .int h_mode, .double h_force, .double h_wheel, .ref h_counts_a, .int h_sign]))] := hD
    have hl : lv_has ls 5 [(1, .long p0), (3, .long p1)] := hl
    rewrite [f_X9_whole_j1] at ef0
    refine W.eq (g2 := F0 m 12 ls [.int b2, .ref h_a]) rfl ?_
    refine va_put (D := D) (ci := 9) (v := .int b2) (ty := .int) (C := RX9) (T := TX9) (N := 44) hx hb hts in_wsX9_whole_X9 tyX9 tyX9_ok nmX9 hown hK hP hD hS 0 rfl rfl 0 (by decide) (hts (.fieldLink RX9 92 "AssistRowsModel" "fault" "I") (List.mem_of_getElem? (i := 1) rfl)) (fun _ h9 => h9) rfl (by decide +kernel) rfl rfl (Nat.le_of_ble_eq_true rfl) dX9_whole_12 (fun H locs hP hD hS => ?_)
    have hP : va_P D vwCl [(h_a, .inr (9, [.int b2, .double h_now, .double h_speed, .ref h_isThere_a, .ref h_x_a, .ref h_y_a, .ref h_v_a, .ref h_sure_a, .ref h_coast_a, .ref h_many_a, .ref h_mx_a, .ref h_my_a, .ref h_mv_a, .ref h_taken_a, .ref h_way_a, .ref h_toldFirst_a, .ref h_toldSecond_a, .ref h_speedFirst_a, .int h_differs, .int h_differing, .double h_offset, .double h_slope, .double h_curve, .double h_pedal, .double h_brake, .double h_steer, .int h_isOn, .double h_offAt, .int h_isAsked, .double h_askedAt, .int h_isStopping, .double h_wished, .double h_gap, .double h_braking, .double h_pull, .int h_lead, .double h_left, .double h_leadX, .int h_stage, .int h_mode, .double h_force, .double h_wheel, .ref h_counts_a, .int h_sign]))] H := hP
    have hD : va_D A [(h_a, .inr (9, [.int b2, .double h_now, .double h_speed, .ref h_isThere_a, .ref h_x_a, .ref h_y_a, .ref h_v_a, .ref h_sure_a, .ref h_coast_a, .ref h_many_a, .ref h_mx_a, .ref h_my_a, .ref h_mv_a, .ref h_taken_a, .ref h_way_a, .ref h_toldFirst_a, .ref h_toldSecond_a, .ref h_speedFirst_a, .int h_differs, .int h_differing, .double h_offset, .double h_slope, .double h_curve, .double h_pedal, .double h_brake, .double h_steer, .int h_isOn, .double h_offAt, .int h_isAsked, .double h_askedAt, .int h_isStopping, .double h_wished, .double h_gap, .double h_braking, .double h_pull, .int h_lead, .double h_left, .double h_leadX, .int h_stage, .int h_mode, .double h_force, .double h_wheel, .ref h_counts_a, .int h_sign]))] := hD
    refine lv_lload_n hx hb dX9_whole_15 rfl (lv_at hl 1 rfl) ?_
    refine lv_lconst (v := (0 : Int64)) hx hb dX9_whole_16 (by decide) ?_
    refine W.lcmp hx hb dX9_whole_17 ?_
    refine lv_if_ne (tgt := 25) hx hb dX9_whole_18 (by decide) (fun c3 => ?_) (fun c3 => ?_)
    · have ef0 := iff_ ef0 c3
      refine lv_lload_n hx hb dX9_whole_25 rfl (lv_at hl 0 rfl) ?_
      refine lv_lload_n hx hb dX9_whole_26 rfl (lv_at hl 1 rfl) ?_
      obtain ⟨h4, ef0⟩ := ck_of ef0
      refine lv_ldiv hx hb dX9_whole_27 h4 ?_
      have q0 := Option.some.inj ef0
      obtain ⟨t0, q1⟩ := Prod.mk.inj q0
      exact xLret t0 (by rw [← q1]) hx hb hr hlk hP hD hS dX9_whole_28
    · have ef0 := ift ef0 c3
      refine lv_lconst (v := (0 : Int64)) hx hb dX9_whole_21 (by decide) ?_
      refine lv_goto (tgt := 28) hx hb dX9_whole_22 (by decide) ?_
      have q0 := Option.some.inj ef0
      obtain ⟨t0, q1⟩ := Prod.mk.inj q0
      exact xLret t0 (by rw [← q1]) hx hb hr hlk hP hD hS dX9_whole_28
  refine lv_if_ne (tgt := 11) hx hb dX9_whole_4 (by decide) (fun c1 => ?_) (fun c1 => ?_)
  · have ef0 := iff_ ef0 c1
    refine lv_iconst (v := (0 : Int32)) hx hb dX9_whole_11 (by decide) ?_
    exact K1 (0 : Int32) _ _ _ ⟨ef0, hP, hD, hS, lv_sub hl [1, 2] rfl⟩
  · have ef0 := ift ef0 c1
    refine lv_iconst (v := (1 : Int32)) hx hb dX9_whole_7 (by decide) ?_
    refine lv_goto (tgt := 12) hx hb dX9_whole_8 (by decide) ?_
    exact K1 (1 : Int32) _ _ _ ⟨ef0, hP, hD, hS, lv_sub hl [1, 2] rfl⟩

theorem in_wsX9_track_X9 : ∀ w ∈ wsX90, w ∈ wsX9_track := fun _ h => List.mem_cons_of_mem _ (List.mem_append_right _ h)
def f_X9_track (p0 : Int32) (p1 : Int32) (h_isThere : Nat → Int32) (h_x : Nat → UInt64) (h_y : Nat → UInt64) (h_v : Nat → UInt64) (h_sure : Nat → Int32) (h_coast : Nat → Int32) : Option (Int32 × Int32) :=
  if p0 < 0 then (
  some ((-1 : Int32), (0 : Int32))) else
  if p0 < (8 : Int32) then (
  if p1 < 0 then (
  some ((-2 : Int32), (0 : Int32))) else
  if p1 ≤ (5 : Int32) then (
  ck (inb p0 8 = true) <|
  if (h_isThere p0.toNatClampNeg) = 0 then (
  some ((0 : Int32), (0 : Int32))) else
  if p1 = (0 : Int32) then (
  some ((1 : Int32), (0 : Int32))) else
  if p1 = (1 : Int32) then (
  ck (inb p0 8 = true) <|
  some ((h_sure p0.toNatClampNeg), (0 : Int32))) else
  if p1 = (2 : Int32) then (
  ck (inb p0 8 = true) <|
  some ((h_coast p0.toNatClampNeg), (0 : Int32))) else
  if p1 = (3 : Int32) then (
  ck (inb p0 8 = true) <|
  ck (nnb (FP.dmul (h_x p0.toNatClampNeg) (4636737291354636288 : UInt64)) = true) <|
  some ((FP.d2i (FP.dmul (h_x p0.toNatClampNeg) (4636737291354636288 : UInt64))), (0 : Int32))) else
  if p1 = (4 : Int32) then (
  ck (inb p0 8 = true) <|
  ck (nnb (FP.dmul (h_y p0.toNatClampNeg) (4636737291354636288 : UInt64)) = true) <|
  some ((FP.d2i (FP.dmul (h_y p0.toNatClampNeg) (4636737291354636288 : UInt64))), (0 : Int32))) else
  ck (inb p0 8 = true) <|
  ck (nnb (FP.dmul (h_v p0.toNatClampNeg) (4636737291354636288 : UInt64)) = true) <|
  some ((FP.d2i (FP.dmul (h_v p0.toNatClampNeg) (4636737291354636288 : UInt64))), (0 : Int32))) else
  some ((-2 : Int32), (0 : Int32))) else
  some ((-1 : Int32), (0 : Int32))
set_option maxHeartbeats 4000000 in
set_option maxRecDepth 100000 in
theorem c_X9_track (l : Launch) (D : va_G) (sz : Nat) (h_a : Nat) (h_isThere_a : Nat) (h_x_a : Nat) (h_y_a : Nat) (h_v_a : Nat) (h_sure_a : Nat) (h_coast_a : Nat) (h_many_a : Nat) (h_mx_a : Nat) (h_my_a : Nat) (h_mv_a : Nat) (h_taken_a : Nat) (h_way_a : Nat) (h_toldFirst_a : Nat) (h_toldSecond_a : Nat) (h_speedFirst_a : Nat) (h_counts_a : Nat) (h_isThere_k : ClassId) (h_x_k : ClassId) (h_y_k : ClassId) (h_v_k : ClassId) (h_sure_k : ClassId) (h_coast_k : ClassId) (p0 : Int32) (p1 : Int32) (h_fault : Int32) (h_now : UInt64) (h_speed : UInt64) (h_differs : Int32) (h_differing : Int32) (h_offset : UInt64) (h_slope : UInt64) (h_curve : UInt64) (h_pedal : UInt64) (h_brake : UInt64) (h_steer : UInt64) (h_isOn : Int32) (h_offAt : UInt64) (h_isAsked : Int32) (h_askedAt : UInt64) (h_isStopping : Int32) (h_wished : UInt64) (h_gap : UInt64) (h_braking : UInt64) (h_pull : UInt64) (h_lead : Int32) (h_left : UInt64) (h_leadX : UInt64) (h_stage : Int32) (h_mode : Int32) (h_force : UInt64) (h_wheel : UInt64) (h_sign : Int32) (h_isThere : Nat → Int32) (h_x : Nat → UInt64) (h_y : Nat → UInt64) (h_v : Nat → UInt64) (h_sure : Nat → Int32) (h_coast : Nat → Int32) (r0 : Int32) (r1 : Int32) (hf : f_X9_track p0 p1 h_isThere h_x h_y h_v h_sure h_coast = some (r0, r1)) : Met l yX9_track wsX9_track { frames := 0, cells := 0, slots := 0, locals := 0 } (va_Pc [.ref h_a, .int p0, .int p1] (xPre D [(h_a, .inr (9, [.int h_fault, .double h_now, .double h_speed, .ref h_isThere_a, .ref h_x_a, .ref h_y_a, .ref h_v_a, .ref h_sure_a, .ref h_coast_a, .ref h_many_a, .ref h_mx_a, .ref h_my_a, .ref h_mv_a, .ref h_taken_a, .ref h_way_a, .ref h_toldFirst_a, .ref h_toldSecond_a, .ref h_speedFirst_a, .int h_differs, .int h_differing, .double h_offset, .double h_slope, .double h_curve, .double h_pedal, .double h_brake, .double h_steer, .int h_isOn, .double h_offAt, .int h_isAsked, .double h_askedAt, .int h_isStopping, .double h_wished, .double h_gap, .double h_braking, .double h_pull, .int h_lead, .double h_left, .double h_leadX, .int h_stage, .int h_mode, .double h_force, .double h_wheel, .ref h_counts_a, .int h_sign])), (h_isThere_a, .inl (h_isThere_k, 8, .inl h_isThere)), (h_x_a, .inl (h_x_k, 8, .inr (.inr (.inr (.inl h_x))))), (h_y_a, .inl (h_y_k, 8, .inr (.inr (.inr (.inl h_y))))), (h_v_a, .inl (h_v_k, 8, .inr (.inr (.inr (.inl h_v))))), (h_sure_a, .inl (h_sure_k, 8, .inl h_sure)), (h_coast_a, .inl (h_coast_k, 8, .inl h_coast))] [(h_isThere_k, .boolean), (h_x_k, .double), (h_y_k, .double), (h_v_k, .double), (h_sure_k, .int), (h_coast_k, .int)] sz)) (va_Qi (fun (x : Int32) (_ : Unit) => x = r0) (fun _ => xB D (va_A [(h_a, .inr (9, [.int h_fault, .double h_now, .double h_speed, .ref h_isThere_a, .ref h_x_a, .ref h_y_a, .ref h_v_a, .ref h_sure_a, .ref h_coast_a, .ref h_many_a, .ref h_mx_a, .ref h_my_a, .ref h_mv_a, .ref h_taken_a, .ref h_way_a, .ref h_toldFirst_a, .ref h_toldSecond_a, .ref h_speedFirst_a, .int h_differs, .int h_differing, .double h_offset, .double h_slope, .double h_curve, .double h_pedal, .double h_brake, .double h_steer, .int h_isOn, .double h_offAt, .int h_isAsked, .double h_askedAt, .int h_isStopping, .double h_wished, .double h_gap, .double h_braking, .double h_pull, .int h_lead, .double h_left, .double h_leadX, .int h_stage, .int h_mode, .double h_force, .double h_wheel, .ref h_counts_a, .int h_sign])), (h_isThere_a, .inl (h_isThere_k, 8, .inl h_isThere)), (h_x_a, .inl (h_x_k, 8, .inr (.inr (.inr (.inl h_x))))), (h_y_a, .inl (h_y_k, 8, .inr (.inr (.inr (.inl h_y))))), (h_v_a, .inl (h_v_k, 8, .inr (.inr (.inr (.inl h_v))))), (h_sure_a, .inl (h_sure_k, 8, .inl h_sure)), (h_coast_a, .inl (h_coast_k, 8, .inl h_coast))] sz) [(h_a, .inr (9, [.int r1, .double h_now, .double h_speed, .ref h_isThere_a, .ref h_x_a, .ref h_y_a, .ref h_v_a, .ref h_sure_a, .ref h_coast_a, .ref h_many_a, .ref h_mx_a, .ref h_my_a, .ref h_mv_a, .ref h_taken_a, .ref h_way_a, .ref h_toldFirst_a, .ref h_toldSecond_a, .ref h_speedFirst_a, .int h_differs, .int h_differing, .double h_offset, .double h_slope, .double h_curve, .double h_pedal, .double h_brake, .double h_steer, .int h_isOn, .double h_offAt, .int h_isAsked, .double h_askedAt, .int h_isStopping, .double h_wished, .double h_gap, .double h_braking, .double h_pull, .int h_lead, .double h_left, .double h_leadX, .int h_stage, .int h_mode, .double h_force, .double h_wheel, .ref h_counts_a, .int h_sign])), (h_isThere_a, .inl (h_isThere_k, 8, .inl h_isThere)), (h_x_a, .inl (h_x_k, 8, .inr (.inr (.inr (.inl h_x))))), (h_y_a, .inl (h_y_k, 8, .inr (.inr (.inr (.inl h_y))))), (h_v_a, .inl (h_v_k, 8, .inr (.inr (.inr (.inl h_v))))), (h_sure_a, .inl (h_sure_k, 8, .inl h_sure)), (h_coast_a, .inl (h_coast_k, 8, .inl h_coast))]) (va_A [(h_a, .inr (9, [.int h_fault, .double h_now, .double h_speed, .ref h_isThere_a, .ref h_x_a, .ref h_y_a, .ref h_v_a, .ref h_sure_a, .ref h_coast_a, .ref h_many_a, .ref h_mx_a, .ref h_my_a, .ref h_mv_a, .ref h_taken_a, .ref h_way_a, .ref h_toldFirst_a, .ref h_toldSecond_a, .ref h_speedFirst_a, .int h_differs, .int h_differing, .double h_offset, .double h_slope, .double h_curve, .double h_pedal, .double h_brake, .double h_steer, .int h_isOn, .double h_offAt, .int h_isAsked, .double h_askedAt, .int h_isStopping, .double h_wished, .double h_gap, .double h_braking, .double h_pull, .int h_lead, .double h_left, .double h_leadX, .int h_stage, .int h_mode, .double h_force, .double h_wheel, .ref h_counts_a, .int h_sign])), (h_isThere_a, .inl (h_isThere_k, 8, .inl h_isThere)), (h_x_a, .inl (h_x_k, 8, .inr (.inr (.inr (.inl h_x))))), (h_y_a, .inl (h_y_k, 8, .inr (.inr (.inr (.inl h_y))))), (h_v_a, .inl (h_v_k, 8, .inr (.inr (.inr (.inl h_v))))), (h_sure_a, .inl (h_sure_k, 8, .inl h_sure)), (h_coast_a, .inl (h_coast_k, 8, .inl h_coast))] sz)) 0 0 (va_A [(h_a, .inr (9, [.int h_fault, .double h_now, .double h_speed, .ref h_isThere_a, .ref h_x_a, .ref h_y_a, .ref h_v_a, .ref h_sure_a, .ref h_coast_a, .ref h_many_a, .ref h_mx_a, .ref h_my_a, .ref h_mv_a, .ref h_taken_a, .ref h_way_a, .ref h_toldFirst_a, .ref h_toldSecond_a, .ref h_speedFirst_a, .int h_differs, .int h_differing, .double h_offset, .double h_slope, .double h_curve, .double h_pedal, .double h_brake, .double h_steer, .int h_isOn, .double h_offAt, .int h_isAsked, .double h_askedAt, .int h_isStopping, .double h_wished, .double h_gap, .double h_braking, .double h_pull, .int h_lead, .double h_left, .double h_leadX, .int h_stage, .int h_mode, .double h_force, .double h_wheel, .ref h_counts_a, .int h_sign])), (h_isThere_a, .inl (h_isThere_k, 8, .inl h_isThere)), (h_x_a, .inl (h_x_k, 8, .inr (.inr (.inr (.inl h_x))))), (h_y_a, .inl (h_y_k, 8, .inr (.inr (.inr (.inl h_y))))), (h_v_a, .inl (h_v_k, 8, .inr (.inr (.inr (.inl h_v))))), (h_sure_a, .inl (h_sure_k, 8, .inl h_sure)), (h_coast_a, .inl (h_coast_k, 8, .inl h_coast))] sz) := by
  refine xOfW (l := l) (y := yX9_track) (ws := wsX9_track) (D := D) (cells := [(h_a, .inr (9, [.int h_fault, .double h_now, .double h_speed, .ref h_isThere_a, .ref h_x_a, .ref h_y_a, .ref h_v_a, .ref h_sure_a, .ref h_coast_a, .ref h_many_a, .ref h_mx_a, .ref h_my_a, .ref h_mv_a, .ref h_taken_a, .ref h_way_a, .ref h_toldFirst_a, .ref h_toldSecond_a, .ref h_speedFirst_a, .int h_differs, .int h_differing, .double h_offset, .double h_slope, .double h_curve, .double h_pedal, .double h_brake, .double h_steer, .int h_isOn, .double h_offAt, .int h_isAsked, .double h_askedAt, .int h_isStopping, .double h_wished, .double h_gap, .double h_braking, .double h_pull, .int h_lead, .double h_left, .double h_leadX, .int h_stage, .int h_mode, .double h_force, .double h_wheel, .ref h_counts_a, .int h_sign])), (h_isThere_a, .inl (h_isThere_k, 8, .inl h_isThere)), (h_x_a, .inl (h_x_k, 8, .inr (.inr (.inr (.inl h_x))))), (h_y_a, .inl (h_y_k, 8, .inr (.inr (.inr (.inl h_y))))), (h_v_a, .inl (h_v_k, 8, .inr (.inr (.inr (.inl h_v))))), (h_sure_a, .inl (h_sure_k, 8, .inl h_sure)), (h_coast_a, .inl (h_coast_k, 8, .inl h_coast))]) (tys := [(h_isThere_k, .boolean), (h_x_k, .double), (h_y_k, .double), (h_v_k, .double), (h_sure_k, .int), (h_coast_k, .int)]) (sz := sz) (av := [.ref h_a, .int p0, .int p1]) (cc := cX9_track) (maxL := 3) (ret := (some .int)) (fun A => va_Qi (fun (x : Int32) (_ : Unit) => x = r0) (fun _ => xB D A [(h_a, .inr (9, [.int r1, .double h_now, .double h_speed, .ref h_isThere_a, .ref h_x_a, .ref h_y_a, .ref h_v_a, .ref h_sure_a, .ref h_coast_a, .ref h_many_a, .ref h_mx_a, .ref h_my_a, .ref h_mv_a, .ref h_taken_a, .ref h_way_a, .ref h_toldFirst_a, .ref h_toldSecond_a, .ref h_speedFirst_a, .int h_differs, .int h_differing, .double h_offset, .double h_slope, .double h_curve, .double h_pedal, .double h_brake, .double h_steer, .int h_isOn, .double h_offAt, .int h_isAsked, .double h_askedAt, .int h_isStopping, .double h_wished, .double h_gap, .double h_braking, .double h_pull, .int h_lead, .double h_left, .double h_leadX, .int h_stage, .int h_mode, .double h_force, .double h_wheel, .ref h_counts_a, .int h_sign])), (h_isThere_a, .inl (h_isThere_k, 8, .inl h_isThere)), (h_x_a, .inl (h_x_k, 8, .inr (.inr (.inr (.inl h_x))))), (h_y_a, .inl (h_y_k, 8, .inr (.inr (.inr (.inl h_y))))), (h_v_a, .inl (h_v_k, 8, .inr (.inr (.inr (.inl h_v))))), (h_sure_a, .inl (h_sure_k, 8, .inl h_sure)), (h_coast_a, .inl (h_coast_k, 8, .inl h_coast))]) A) (by decide) rfl (Nat.le_of_ble_eq_true rfl) ?_
  intro p e s m below meth c A H ls hx hb hr hml hown hlk hts hP hK hD hS hA hN hl
  have hl : lv_has ls 3 [(0, .ref h_a), (1, .int p0), (2, .int p1)] := hl
  have hown : s.vm.findClass RX9 = some m.cls := hown
  have ef0 : f_X9_track p0 p1 h_isThere h_x h_y h_v h_sure h_coast = some (r0, r1) := hf
  rewrite [f_X9_track] at ef0
  refine lv_aload_n hx hb dX9_track_0 rfl (lv_at hl 0 rfl) ?_
  refine lv_iconst (v := (0 : Int32)) hx hb dX9_track_1 (by decide) ?_
  refine va_put (D := D) (ci := 9) (v := .int (0 : Int32)) (ty := .int) (C := RX9) (T := TX9) (N := 44) hx hb hts in_wsX9_track_X9 tyX9 tyX9_ok nmX9 hown hK hP hD hS 0 rfl rfl 0 (by decide) (hts (.fieldLink RX9 92 "AssistRowsModel" "fault" "I") (List.mem_of_getElem? (i := 1) rfl)) (fun _ h9 => h9) rfl (by decide +kernel) rfl rfl (Nat.le_of_ble_eq_true rfl) dX9_track_2 (fun H locs hP hD hS => ?_)
  have hP : va_P D vwCl [(h_a, .inr (9, [.int (0 : Int32), .double h_now, .double h_speed, .ref h_isThere_a, .ref h_x_a, .ref h_y_a, .ref h_v_a, .ref h_sure_a, .ref h_coast_a, .ref h_many_a, .ref h_mx_a, .ref h_my_a, .ref h_mv_a, .ref h_taken_a, .ref h_way_a, .ref h_toldFirst_a, .ref h_toldSecond_a, .ref h_speedFirst_a, .int h_differs, .int h_differing, .double h_offset, .double h_slope, .double h_curve, .double h_pedal, .double h_brake, .double h_steer, .int h_isOn, .double h_offAt, .int h_isAsked, .double h_askedAt, .int h_isStopping, .double h_wished, .double h_gap, .double h_braking, .double h_pull, .int h_lead, .double h_left, .double h_leadX, .int h_stage, .int h_mode, .double h_force, .double h_wheel, .ref h_counts_a, .int h_sign])), (h_isThere_a, .inl (h_isThere_k, 8, .inl h_isThere)), (h_x_a, .inl (h_x_k, 8, .inr (.inr (.inr (.inl h_x))))), (h_y_a, .inl (h_y_k, 8, .inr (.inr (.inr (.inl h_y))))), (h_v_a, .inl (h_v_k, 8, .inr (.inr (.inr (.inl h_v))))), (h_sure_a, .inl (h_sure_k, 8, .inl h_sure)), (h_coast_a, .inl (h_coast_k, 8, .inl h_coast))] H := hP
  have hD : va_D A [(h_a, .inr (9, [.int (0 : Int32), .double h_now, .double h_speed, .ref h_isThere_a, .ref h_x_a, .ref h_y_a, .ref h_v_a, .ref h_sure_a, .ref h_coast_a, .ref h_many_a, .ref h_mx_a, .ref h_my_a, .ref h_mv_a, .ref h_taken_a, .ref h_way_a, .ref h_toldFirst_a, .ref h_toldSecond_a, .ref h_speedFirst_a, .int h_differs, .int h_differing, .double h_offset, .double h_slope, .double h_curve, .double h_pedal, .double h_brake, .double h_steer, .int h_isOn, .double h_offAt, .int h_isAsked, .double h_askedAt, .int h_isStopping, .double h_wished, .double h_gap, .double h_braking, .double h_pull, .int h_lead, .double h_left, .double h_leadX, .int h_stage, .int h_mode, .double h_force, .double h_wheel, .ref h_counts_a, .int h_sign])), (h_isThere_a, .inl (h_isThere_k, 8, .inl h_isThere)), (h_x_a, .inl (h_x_k, 8, .inr (.inr (.inr (.inl h_x))))), (h_y_a, .inl (h_y_k, 8, .inr (.inr (.inr (.inl h_y))))), (h_v_a, .inl (h_v_k, 8, .inr (.inr (.inr (.inl h_v))))), (h_sure_a, .inl (h_sure_k, 8, .inl h_sure)), (h_coast_a, .inl (h_coast_k, 8, .inl h_coast))] := hD
  refine lv_iload_n hx hb dX9_track_5 rfl (lv_at hl 1 rfl) ?_
  refine lv_if_lt (tgt := 15) hx hb dX9_track_6 (by decide) (fun c1 => ?_) (fun c1 => ?_)
  · have ef0 := ift ef0 c1
    refine lv_iconst (v := (-1 : Int32)) hx hb dX9_track_15 (by decide) ?_
    have q0 := Option.some.inj ef0
    obtain ⟨t0, q1⟩ := Prod.mk.inj q0
    exact xIret t0 (by rw [← q1]) hx hb hr hlk hP hD hS dX9_track_16
  · have ef0 := iff_ ef0 c1
    refine lv_iload_n hx hb dX9_track_9 rfl (lv_at hl 1 rfl) ?_
    refine lv_bipush (v := (8 : Int32)) hx hb dX9_track_10 (by decide) ?_
    refine lv_icmp_lt (tgt := 17) hx hb dX9_track_12 (by decide) (fun c2 => ?_) (fun c2 => ?_)
    · have ef0 := ift ef0 c2
      refine lv_iload_n hx hb dX9_track_17 rfl (lv_at hl 2 rfl) ?_
      refine lv_if_lt (tgt := 26) hx hb dX9_track_18 (by decide) (fun c3 => ?_) (fun c3 => ?_)
      · have ef0 := ift ef0 c3
        refine lv_bipush (v := (-2 : Int32)) hx hb dX9_track_26 (by decide) ?_
        have q0 := Option.some.inj ef0
        obtain ⟨t0, q1⟩ := Prod.mk.inj q0
        exact xIret t0 (by rw [← q1]) hx hb hr hlk hP hD hS dX9_track_28
      · have ef0 := iff_ ef0 c3
        refine lv_iload_n hx hb dX9_track_21 rfl (lv_at hl 2 rfl) ?_
        refine lv_iconst (v := (5 : Int32)) hx hb dX9_track_22 (by decide) ?_
        refine lv_icmp_le (tgt := 29) hx hb dX9_track_23 (by decide) (fun c4 => ?_) (fun c4 => ?_)
        · have ef0 := ift ef0 c4
          refine lv_aload_n hx hb dX9_track_29 rfl (lv_at hl 0 rfl) ?_
          refine va_get (D := D) (ci := 9) (v := .ref h_isThere_a) (C := RX9) (T := TX9) (N := 44) hx hb hts in_wsX9_track_X9 hown hK hP 0 rfl rfl 3 (by decide) (hts (.fieldLink RX9 7 "AssistRowsModel" "isThere" "[Z") (List.mem_of_getElem? (i := 2) rfl)) (fun _ h9 => h9) rfl dX9_track_30 ?_
          refine lv_iload_n hx hb dX9_track_33 rfl (lv_at hl 1 rfl) ?_
          obtain ⟨h5, ef0⟩ := ck_of ef0
          refine va_zald hx hb hK hP 1 0 rfl rfl (inb_of h5) dX9_track_34 ?_
          refine lv_if_ne (tgt := 40) hx hb dX9_track_35 (by decide) (fun c6 => ?_) (fun c6 => ?_)
          · have ef0 := iff_ ef0 c6
            refine lv_iload_n hx hb dX9_track_40 rfl (lv_at hl 2 rfl) ?_
            by_cases c7 : p1 = (0 : Int32)
            · have ef0 := ift ef0 c7
              refine lv_tableIn (tgt := 76) hx hb dX9_track_41 (by rw [c7]; decide) (by rw [c7]; decide) (by rw [c7]; rfl) (by decide) ?_
              refine lv_iconst (v := (1 : Int32)) hx hb dX9_track_76 (by decide) ?_
              have q0 := Option.some.inj ef0
              obtain ⟨t0, q1⟩ := Prod.mk.inj q0
              exact xIret t0 (by rw [← q1]) hx hb hr hlk hP hD hS dX9_track_77
            · have ef0 := iff_ ef0 c7
              by_cases c8 : p1 = (1 : Int32)
              · have ef0 := ift ef0 c8
                refine lv_tableIn (tgt := 78) hx hb dX9_track_41 (by rw [c8]; decide) (by rw [c8]; decide) (by rw [c8]; rfl) (by decide) ?_
                refine lv_aload_n hx hb dX9_track_78 rfl (lv_at hl 0 rfl) ?_
                refine va_get (D := D) (ci := 9) (v := .ref h_sure_a) (C := RX9) (T := TX9) (N := 44) hx hb hts in_wsX9_track_X9 hown hK hP 0 rfl rfl 7 (by decide) (hts (.fieldLink RX9 23 "AssistRowsModel" "sure" "[I") (List.mem_of_getElem? (i := 3) rfl)) (fun _ h9 => h9) rfl dX9_track_79 ?_
                refine lv_iload_n hx hb dX9_track_82 rfl (lv_at hl 1 rfl) ?_
                obtain ⟨h9, ef0⟩ := ck_of ef0
                refine va_iald hx hb hK hP 5 4 rfl rfl (inb_of h9) dX9_track_83 ?_
                have q0 := Option.some.inj ef0
                obtain ⟨t0, q1⟩ := Prod.mk.inj q0
                exact xIret t0 (by rw [← q1]) hx hb hr hlk hP hD hS dX9_track_84
              · have ef0 := iff_ ef0 c8
                by_cases c10 : p1 = (2 : Int32)
                · have ef0 := ift ef0 c10
                  refine lv_tableIn (tgt := 85) hx hb dX9_track_41 (by rw [c10]; decide) (by rw [c10]; decide) (by rw [c10]; rfl) (by decide) ?_
                  refine lv_aload_n hx hb dX9_track_85 rfl (lv_at hl 0 rfl) ?_
                  refine va_get (D := D) (ci := 9) (v := .ref h_coast_a) (C := RX9) (T := TX9) (N := 44) hx hb hts in_wsX9_track_X9 hown hK hP 0 rfl rfl 8 (by decide) (hts (.fieldLink RX9 27 "AssistRowsModel" "coast" "[I") (List.mem_of_getElem? (i := 4) rfl)) (fun _ h9 => h9) rfl dX9_track_86 ?_
                  refine lv_iload_n hx hb dX9_track_89 rfl (lv_at hl 1 rfl) ?_
                  obtain ⟨h11, ef0⟩ := ck_of ef0
                  refine va_iald hx hb hK hP 6 5 rfl rfl (inb_of h11) dX9_track_90 ?_
                  have q0 := Option.some.inj ef0
                  obtain ⟨t0, q1⟩ := Prod.mk.inj q0
                  exact xIret t0 (by rw [← q1]) hx hb hr hlk hP hD hS dX9_track_91
                · have ef0 := iff_ ef0 c10
                  by_cases c12 : p1 = (3 : Int32)
                  · have ef0 := ift ef0 c12
                    refine lv_tableIn (tgt := 92) hx hb dX9_track_41 (by rw [c12]; decide) (by rw [c12]; decide) (by rw [c12]; rfl) (by decide) ?_
                    refine lv_aload_n hx hb dX9_track_92 rfl (lv_at hl 0 rfl) ?_
                    refine va_get (D := D) (ci := 9) (v := .ref h_x_a) (C := RX9) (T := TX9) (N := 44) hx hb hts in_wsX9_track_X9 hown hK hP 0 rfl rfl 4 (by decide) (hts (.fieldLink RX9 13 "AssistRowsModel" "x" "[D") (List.mem_of_getElem? (i := 5) rfl)) (fun _ h9 => h9) rfl dX9_track_93 ?_
                    refine lv_iload_n hx hb dX9_track_96 rfl (lv_at hl 1 rfl) ?_
                    obtain ⟨h13, ef0⟩ := ck_of ef0
                    refine va_dald hx hb hK hP 2 1 rfl rfl (inb_of h13) dX9_track_97 ?_
                    refine lv_ldc2d hx hb hown (hts (.constantDouble RX9 168 (4636737291354636288)) (List.mem_of_getElem? (i := 6) rfl)) dX9_track_98 ?_
                    obtain ⟨h14, ef0⟩ := ck_of ef0
                    refine lv_dmul hx hb dX9_track_101 (nn_of h14) ?_
                    refine lv_d2i hx hb dX9_track_102 ?_
                    have q0 := Option.some.inj ef0
                    obtain ⟨t0, q1⟩ := Prod.mk.inj q0
                    exact xIret t0 (by rw [← q1]) hx hb hr hlk hP hD hS dX9_track_103
                  · have ef0 := iff_ ef0 c12
                    by_cases c15 : p1 = (4 : Int32)
                    · have ef0 := ift ef0 c15
                      refine lv_tableIn (tgt := 104) hx hb dX9_track_41 (by rw [c15]; decide) (by rw [c15]; decide) (by rw [c15]; rfl) (by decide) ?_
                      refine lv_aload_n hx hb dX9_track_104 rfl (lv_at hl 0 rfl) ?_
                      refine va_get (D := D) (ci := 9) (v := .ref h_y_a) (C := RX9) (T := TX9) (N := 44) hx hb hts in_wsX9_track_X9 hown hK hP 0 rfl rfl 5 (by decide) (hts (.fieldLink RX9 17 "AssistRowsModel" "y" "[D") (List.mem_of_getElem? (i := 7) rfl)) (fun _ h9 => h9) rfl dX9_track_105 ?_
                      refine lv_iload_n hx hb dX9_track_108 rfl (lv_at hl 1 rfl) ?_
                      obtain ⟨h16, ef0⟩ := ck_of ef0
                      refine va_dald hx hb hK hP 3 2 rfl rfl (inb_of h16) dX9_track_109 ?_
                      refine lv_ldc2d hx hb hown (hts (.constantDouble RX9 168 (4636737291354636288)) (List.mem_of_getElem? (i := 6) rfl)) dX9_track_110 ?_
                      obtain ⟨h17, ef0⟩ := ck_of ef0
                      refine lv_dmul hx hb dX9_track_113 (nn_of h17) ?_
                      refine lv_d2i hx hb dX9_track_114 ?_
                      have q0 := Option.some.inj ef0
                      obtain ⟨t0, q1⟩ := Prod.mk.inj q0
                      exact xIret t0 (by rw [← q1]) hx hb hr hlk hP hD hS dX9_track_115
                    · have ef0 := iff_ ef0 c15
                      have qc7 := toInt_ne c7 (z := 0) (by decide)
                      have qc8 := toInt_ne c8 (z := 1) (by decide)
                      have qc10 := toInt_ne c10 (z := 2) (by decide)
                      have qc12 := toInt_ne c12 (z := 3) (by decide)
                      have qc15 := toInt_ne c15 (z := 4) (by decide)
                      refine lv_tableOut (tgt := 116) hx hb dX9_track_41 (by omega) (by decide) ?_
                      refine lv_aload_n hx hb dX9_track_116 rfl (lv_at hl 0 rfl) ?_
                      refine va_get (D := D) (ci := 9) (v := .ref h_v_a) (C := RX9) (T := TX9) (N := 44) hx hb hts in_wsX9_track_X9 hown hK hP 0 rfl rfl 6 (by decide) (hts (.fieldLink RX9 20 "AssistRowsModel" "v" "[D") (List.mem_of_getElem? (i := 8) rfl)) (fun _ h9 => h9) rfl dX9_track_117 ?_
                      refine lv_iload_n hx hb dX9_track_120 rfl (lv_at hl 1 rfl) ?_
                      obtain ⟨h18, ef0⟩ := ck_of ef0
                      refine va_dald hx hb hK hP 4 3 rfl rfl (inb_of h18) dX9_track_121 ?_
                      refine lv_ldc2d hx hb hown (hts (.constantDouble RX9 168 (4636737291354636288)) (List.mem_of_getElem? (i := 6) rfl)) dX9_track_122 ?_
                      obtain ⟨h19, ef0⟩ := ck_of ef0
                      refine lv_dmul hx hb dX9_track_125 (nn_of h19) ?_
                      refine lv_d2i hx hb dX9_track_126 ?_
                      have q0 := Option.some.inj ef0
                      obtain ⟨t0, q1⟩ := Prod.mk.inj q0
                      exact xIret t0 (by rw [← q1]) hx hb hr hlk hP hD hS dX9_track_127
          · have ef0 := ift ef0 c6
            refine lv_iconst (v := (0 : Int32)) hx hb dX9_track_38 (by decide) ?_
            have q0 := Option.some.inj ef0
            obtain ⟨t0, q1⟩ := Prod.mk.inj q0
            exact xIret t0 (by rw [← q1]) hx hb hr hlk hP hD hS dX9_track_39
        · have ef0 := iff_ ef0 c4
          refine lv_bipush (v := (-2 : Int32)) hx hb dX9_track_26 (by decide) ?_
          have q0 := Option.some.inj ef0
          obtain ⟨t0, q1⟩ := Prod.mk.inj q0
          exact xIret t0 (by rw [← q1]) hx hb hr hlk hP hD hS dX9_track_28
    · have ef0 := iff_ ef0 c2
      refine lv_iconst (v := (-1 : Int32)) hx hb dX9_track_15 (by decide) ?_
      have q0 := Option.some.inj ef0
      obtain ⟨t0, q1⟩ := Prod.mk.inj q0
      exact xIret t0 (by rw [← q1]) hx hb hr hlk hP hD hS dX9_track_16

theorem in_wsX9_off_X9 : ∀ w ∈ wsX90, w ∈ wsX9_off := fun _ h => List.mem_cons_of_mem _ (List.mem_append_right _ h)
def f_X9_off (h_now : UInt64) (h_isOn : Int32) (h_offAt : UInt64) : Option UInt64 :=
  if h_isOn = 0 then (
  ck (nnb (FP.dsub h_now h_offAt) = true) <|
  some (FP.dsub h_now h_offAt)) else
  some FP.dconst0
set_option maxHeartbeats 4000000 in
set_option maxRecDepth 100000 in
theorem c_X9_off (l : Launch) (D : va_G) (sz : Nat) (h_a : Nat) (h_isThere_a : Nat) (h_x_a : Nat) (h_y_a : Nat) (h_v_a : Nat) (h_sure_a : Nat) (h_coast_a : Nat) (h_many_a : Nat) (h_mx_a : Nat) (h_my_a : Nat) (h_mv_a : Nat) (h_taken_a : Nat) (h_way_a : Nat) (h_toldFirst_a : Nat) (h_toldSecond_a : Nat) (h_speedFirst_a : Nat) (h_counts_a : Nat) (h_fault : Int32) (h_now : UInt64) (h_speed : UInt64) (h_differs : Int32) (h_differing : Int32) (h_offset : UInt64) (h_slope : UInt64) (h_curve : UInt64) (h_pedal : UInt64) (h_brake : UInt64) (h_steer : UInt64) (h_isOn : Int32) (h_offAt : UInt64) (h_isAsked : Int32) (h_askedAt : UInt64) (h_isStopping : Int32) (h_wished : UInt64) (h_gap : UInt64) (h_braking : UInt64) (h_pull : UInt64) (h_lead : Int32) (h_left : UInt64) (h_leadX : UInt64) (h_stage : Int32) (h_mode : Int32) (h_force : UInt64) (h_wheel : UInt64) (h_sign : Int32) (r0 : UInt64) (hf : f_X9_off h_now h_isOn h_offAt = some r0) : Met l yX9_off wsX9_off { frames := 0, cells := 0, slots := 0, locals := 0 } (va_Pc [.ref h_a] (xPre D [(h_a, .inr (9, [.int h_fault, .double h_now, .double h_speed, .ref h_isThere_a, .ref h_x_a, .ref h_y_a, .ref h_v_a, .ref h_sure_a, .ref h_coast_a, .ref h_many_a, .ref h_mx_a, .ref h_my_a, .ref h_mv_a, .ref h_taken_a, .ref h_way_a, .ref h_toldFirst_a, .ref h_toldSecond_a, .ref h_speedFirst_a, .int h_differs, .int h_differing, .double h_offset, .double h_slope, .double h_curve, .double h_pedal, .double h_brake, .double h_steer, .int h_isOn, .double h_offAt, .int h_isAsked, .double h_askedAt, .int h_isStopping, .double h_wished, .double h_gap, .double h_braking, .double h_pull, .int h_lead, .double h_left, .double h_leadX, .int h_stage, .int h_mode, .double h_force, .double h_wheel, .ref h_counts_a, .int h_sign]))] [] sz)) (va_Qd (fun (x : UInt64) (_ : Unit) => x = r0) (fun _ => xB D (va_A [(h_a, .inr (9, [.int h_fault, .double h_now, .double h_speed, .ref h_isThere_a, .ref h_x_a, .ref h_y_a, .ref h_v_a, .ref h_sure_a, .ref h_coast_a, .ref h_many_a, .ref h_mx_a, .ref h_my_a, .ref h_mv_a, .ref h_taken_a, .ref h_way_a, .ref h_toldFirst_a, .ref h_toldSecond_a, .ref h_speedFirst_a, .int h_differs, .int h_differing, .double h_offset, .double h_slope, .double h_curve, .double h_pedal, .double h_brake, .double h_steer, .int h_isOn, .double h_offAt, .int h_isAsked, .double h_askedAt, .int h_isStopping, .double h_wished, .double h_gap, .double h_braking, .double h_pull, .int h_lead, .double h_left, .double h_leadX, .int h_stage, .int h_mode, .double h_force, .double h_wheel, .ref h_counts_a, .int h_sign]))] sz) [(h_a, .inr (9, [.int h_fault, .double h_now, .double h_speed, .ref h_isThere_a, .ref h_x_a, .ref h_y_a, .ref h_v_a, .ref h_sure_a, .ref h_coast_a, .ref h_many_a, .ref h_mx_a, .ref h_my_a, .ref h_mv_a, .ref h_taken_a, .ref h_way_a, .ref h_toldFirst_a, .ref h_toldSecond_a, .ref h_speedFirst_a, .int h_differs, .int h_differing, .double h_offset, .double h_slope, .double h_curve, .double h_pedal, .double h_brake, .double h_steer, .int h_isOn, .double h_offAt, .int h_isAsked, .double h_askedAt, .int h_isStopping, .double h_wished, .double h_gap, .double h_braking, .double h_pull, .int h_lead, .double h_left, .double h_leadX, .int h_stage, .int h_mode, .double h_force, .double h_wheel, .ref h_counts_a, .int h_sign]))]) (va_A [(h_a, .inr (9, [.int h_fault, .double h_now, .double h_speed, .ref h_isThere_a, .ref h_x_a, .ref h_y_a, .ref h_v_a, .ref h_sure_a, .ref h_coast_a, .ref h_many_a, .ref h_mx_a, .ref h_my_a, .ref h_mv_a, .ref h_taken_a, .ref h_way_a, .ref h_toldFirst_a, .ref h_toldSecond_a, .ref h_speedFirst_a, .int h_differs, .int h_differing, .double h_offset, .double h_slope, .double h_curve, .double h_pedal, .double h_brake, .double h_steer, .int h_isOn, .double h_offAt, .int h_isAsked, .double h_askedAt, .int h_isStopping, .double h_wished, .double h_gap, .double h_braking, .double h_pull, .int h_lead, .double h_left, .double h_leadX, .int h_stage, .int h_mode, .double h_force, .double h_wheel, .ref h_counts_a, .int h_sign]))] sz)) 0 0 (va_A [(h_a, .inr (9, [.int h_fault, .double h_now, .double h_speed, .ref h_isThere_a, .ref h_x_a, .ref h_y_a, .ref h_v_a, .ref h_sure_a, .ref h_coast_a, .ref h_many_a, .ref h_mx_a, .ref h_my_a, .ref h_mv_a, .ref h_taken_a, .ref h_way_a, .ref h_toldFirst_a, .ref h_toldSecond_a, .ref h_speedFirst_a, .int h_differs, .int h_differing, .double h_offset, .double h_slope, .double h_curve, .double h_pedal, .double h_brake, .double h_steer, .int h_isOn, .double h_offAt, .int h_isAsked, .double h_askedAt, .int h_isStopping, .double h_wished, .double h_gap, .double h_braking, .double h_pull, .int h_lead, .double h_left, .double h_leadX, .int h_stage, .int h_mode, .double h_force, .double h_wheel, .ref h_counts_a, .int h_sign]))] sz) := by
  refine xOfW (l := l) (y := yX9_off) (ws := wsX9_off) (D := D) (cells := [(h_a, .inr (9, [.int h_fault, .double h_now, .double h_speed, .ref h_isThere_a, .ref h_x_a, .ref h_y_a, .ref h_v_a, .ref h_sure_a, .ref h_coast_a, .ref h_many_a, .ref h_mx_a, .ref h_my_a, .ref h_mv_a, .ref h_taken_a, .ref h_way_a, .ref h_toldFirst_a, .ref h_toldSecond_a, .ref h_speedFirst_a, .int h_differs, .int h_differing, .double h_offset, .double h_slope, .double h_curve, .double h_pedal, .double h_brake, .double h_steer, .int h_isOn, .double h_offAt, .int h_isAsked, .double h_askedAt, .int h_isStopping, .double h_wished, .double h_gap, .double h_braking, .double h_pull, .int h_lead, .double h_left, .double h_leadX, .int h_stage, .int h_mode, .double h_force, .double h_wheel, .ref h_counts_a, .int h_sign]))]) (tys := []) (sz := sz) (av := [.ref h_a]) (cc := cX9_off) (maxL := 1) (ret := (some .double)) (fun A => va_Qd (fun (x : UInt64) (_ : Unit) => x = r0) (fun _ => xB D A [(h_a, .inr (9, [.int h_fault, .double h_now, .double h_speed, .ref h_isThere_a, .ref h_x_a, .ref h_y_a, .ref h_v_a, .ref h_sure_a, .ref h_coast_a, .ref h_many_a, .ref h_mx_a, .ref h_my_a, .ref h_mv_a, .ref h_taken_a, .ref h_way_a, .ref h_toldFirst_a, .ref h_toldSecond_a, .ref h_speedFirst_a, .int h_differs, .int h_differing, .double h_offset, .double h_slope, .double h_curve, .double h_pedal, .double h_brake, .double h_steer, .int h_isOn, .double h_offAt, .int h_isAsked, .double h_askedAt, .int h_isStopping, .double h_wished, .double h_gap, .double h_braking, .double h_pull, .int h_lead, .double h_left, .double h_leadX, .int h_stage, .int h_mode, .double h_force, .double h_wheel, .ref h_counts_a, .int h_sign]))]) A) (by decide) rfl (Nat.le_of_ble_eq_true rfl) ?_
  intro p e s m below meth c A H ls hx hb hr hml hown hlk hts hP hK hD hS hA hN hl
  have hl : lv_has ls 1 [(0, .ref h_a)] := hl
  have hown : s.vm.findClass RX9 = some m.cls := hown
  have ef0 : f_X9_off h_now h_isOn h_offAt = some r0 := hf
  rewrite [f_X9_off] at ef0
  refine lv_aload_n hx hb dX9_off_0 rfl (lv_at hl 0 rfl) ?_
  refine va_get (D := D) (ci := 9) (v := .int h_isOn) (C := RX9) (T := TX9) (N := 44) hx hb hts in_wsX9_off_X9 hown hK hP 0 rfl rfl 26 (by decide) (hts (.fieldLink RX9 57 "AssistRowsModel" "isOn" "Z") (List.mem_of_getElem? (i := 1) rfl)) (fun _ h9 => h9) rfl dX9_off_1 ?_
  refine lv_if_eq (tgt := 11) hx hb dX9_off_4 (by decide) (fun c1 => ?_) (fun c1 => ?_)
  · have ef0 := ift ef0 c1
    refine lv_aload_n hx hb dX9_off_11 rfl (lv_at hl 0 rfl) ?_
    refine va_get (D := D) (ci := 9) (v := .double h_now) (C := RX9) (T := TX9) (N := 44) hx hb hts in_wsX9_off_X9 hown hK hP 0 rfl rfl 1 (by decide) (hts (.fieldLink RX9 109 "AssistRowsModel" "now" "D") (List.mem_of_getElem? (i := 2) rfl)) (fun _ h9 => h9) rfl dX9_off_12 ?_
    refine lv_aload_n hx hb dX9_off_15 rfl (lv_at hl 0 rfl) ?_
    refine va_get (D := D) (ci := 9) (v := .double h_offAt) (C := RX9) (T := TX9) (N := 44) hx hb hts in_wsX9_off_X9 hown hK hP 0 rfl rfl 27 (by decide) (hts (.fieldLink RX9 149 "AssistRowsModel" "offAt" "D") (List.mem_of_getElem? (i := 3) rfl)) (fun _ h9 => h9) rfl dX9_off_16 ?_
    obtain ⟨h2, ef0⟩ := ck_of ef0
    refine lv_dsub hx hb dX9_off_19 (nn_of h2) ?_
    have q0 := Option.some.inj ef0
    exact xDret q0 rfl hx hb hr hlk hP hD hS dX9_off_20
  · have ef0 := iff_ ef0 c1
    refine lv_dconst0 hx hb dX9_off_7 ?_
    refine lv_goto (tgt := 20) hx hb dX9_off_8 (by decide) ?_
    have q0 := Option.some.inj ef0
    exact xDret q0 rfl hx hb hr hlk hP hD hS dX9_off_20

theorem in_wsX9_lookAtHands_X9 : ∀ w ∈ wsX90, w ∈ wsX9_lookAtHands := fun _ h => List.mem_cons_of_mem _ (List.mem_append_right _ h)
def f_X9_lookAtHands_j3 (h_isOn : Int32) (h_isAsked : Int32) (b15 : Int32) : Option (Int32 × Int32) :=
  ck (zb b15 = true) <|
  if h_isAsked = 0 then (
  some ((0 : Int32), b15)) else
  if h_isOn = 0 then (
  if b15 = 0 then (
  some ((1 : Int32), b15)) else
  some ((0 : Int32), b15)) else
  some ((0 : Int32), b15)
def f_X9_lookAtHands_j2 (h_speed : UInt64) (h_isOn : Int32) (h_isAsked : Int32) (b10 : Int32) : Option (Int32 × Int32) :=
  ck (zb b10 = true) <|
  if b10 = 0 then (
  f_X9_lookAtHands_j3 h_isOn h_isAsked (0 : Int32)) else
  if h_isOn = 0 then (
  f_X9_lookAtHands_j3 h_isOn h_isAsked (1 : Int32)) else
  if (Op.cmpValue (FP.dcmp h_speed FP.dconst0) .l) = 0 then (
  f_X9_lookAtHands_j3 h_isOn h_isAsked (0 : Int32)) else
  f_X9_lookAtHands_j3 h_isOn h_isAsked (1 : Int32)
def f_X9_lookAtHands_j1 (h_speed : UInt64) (h_isOn : Int32) (h_isAsked : Int32) (h_isStopping : Int32) (b7 : Int32) : Option (Int32 × Int32) :=
  if h_isStopping = 0 then (
  if b7 = 0 then (
  f_X9_lookAtHands_j2 h_speed h_isOn h_isAsked (0 : Int32)) else
  f_X9_lookAtHands_j2 h_speed h_isOn h_isAsked (1 : Int32)) else
  f_X9_lookAtHands_j2 h_speed h_isOn h_isAsked (1 : Int32)
def f_X9_lookAtHands (h_now : UInt64) (h_speed : UInt64) (h_isOn : Int32) (h_offAt : UInt64) (h_isAsked : Int32) (h_askedAt : UInt64) (h_isStopping : Int32) : Option (Int32 × Int32) :=
  if h_isOn = 0 then (
  (f_X9_off h_now h_isOn h_offAt).bind fun u2 =>
  if 0 ≤ (Op.cmpValue (FP.dcmp u2 (4630826316843712512 : UInt64)) .l) then (
  f_X9_lookAtHands_j1 h_speed h_isOn h_isAsked h_isStopping (1 : Int32)) else
  if h_isAsked = 0 then (
  f_X9_lookAtHands_j1 h_speed h_isOn h_isAsked h_isStopping (0 : Int32)) else
  ck (nnb (FP.dsub h_now h_askedAt) = true) <|
  if (Op.cmpValue (FP.dcmp (FP.dsub h_now h_askedAt) (4621819117588971520 : UInt64)) .l) < 0 then (
  f_X9_lookAtHands_j1 h_speed h_isOn h_isAsked h_isStopping (0 : Int32)) else
  f_X9_lookAtHands_j1 h_speed h_isOn h_isAsked h_isStopping (1 : Int32)) else
  f_X9_lookAtHands_j1 h_speed h_isOn h_isAsked h_isStopping (0 : Int32)
set_option maxHeartbeats 4000000 in
set_option maxRecDepth 100000 in
theorem c_X9_lookAtHands (l : Launch) (D : va_G) (sz : Nat) (h_a : Nat) (h_isThere_a : Nat) (h_x_a : Nat) (h_y_a : Nat) (h_v_a : Nat) (h_sure_a : Nat) (h_coast_a : Nat) (h_many_a : Nat) (h_mx_a : Nat) (h_my_a : Nat) (h_mv_a : Nat) (h_taken_a : Nat) (h_way_a : Nat) (h_toldFirst_a : Nat) (h_toldSecond_a : Nat) (h_speedFirst_a : Nat) (h_counts_a : Nat) (h_fault : Int32) (h_now : UInt64) (h_speed : UInt64) (h_differs : Int32) (h_differing : Int32) (h_offset : UInt64) (h_slope : UInt64) (h_curve : UInt64) (h_pedal : UInt64) (h_brake : UInt64) (h_steer : UInt64) (h_isOn : Int32) (h_offAt : UInt64) (h_isAsked : Int32) (h_askedAt : UInt64) (h_isStopping : Int32) (h_wished : UInt64) (h_gap : UInt64) (h_braking : UInt64) (h_pull : UInt64) (h_lead : Int32) (h_left : UInt64) (h_leadX : UInt64) (h_stage : Int32) (h_mode : Int32) (h_force : UInt64) (h_wheel : UInt64) (h_sign : Int32) (r0 : Int32) (r1 : Int32) (hf : f_X9_lookAtHands h_now h_speed h_isOn h_offAt h_isAsked h_askedAt h_isStopping = some (r0, r1)) : Met l yX9_lookAtHands wsX9_lookAtHands { frames := 1, cells := 0, slots := 0, locals := 20 } (va_Pc [.ref h_a] (xPre D [(h_a, .inr (9, [.int h_fault, .double h_now, .double h_speed, .ref h_isThere_a, .ref h_x_a, .ref h_y_a, .ref h_v_a, .ref h_sure_a, .ref h_coast_a, .ref h_many_a, .ref h_mx_a, .ref h_my_a, .ref h_mv_a, .ref h_taken_a, .ref h_way_a, .ref h_toldFirst_a, .ref h_toldSecond_a, .ref h_speedFirst_a, .int h_differs, .int h_differing, .double h_offset, .double h_slope, .double h_curve, .double h_pedal, .double h_brake, .double h_steer, .int h_isOn, .double h_offAt, .int h_isAsked, .double h_askedAt, .int h_isStopping, .double h_wished, .double h_gap, .double h_braking, .double h_pull, .int h_lead, .double h_left, .double h_leadX, .int h_stage, .int h_mode, .double h_force, .double h_wheel, .ref h_counts_a, .int h_sign]))] [] sz)) (va_Qv (fun (_ : Unit) => True) (fun _ => xB D (va_A [(h_a, .inr (9, [.int h_fault, .double h_now, .double h_speed, .ref h_isThere_a, .ref h_x_a, .ref h_y_a, .ref h_v_a, .ref h_sure_a, .ref h_coast_a, .ref h_many_a, .ref h_mx_a, .ref h_my_a, .ref h_mv_a, .ref h_taken_a, .ref h_way_a, .ref h_toldFirst_a, .ref h_toldSecond_a, .ref h_speedFirst_a, .int h_differs, .int h_differing, .double h_offset, .double h_slope, .double h_curve, .double h_pedal, .double h_brake, .double h_steer, .int h_isOn, .double h_offAt, .int h_isAsked, .double h_askedAt, .int h_isStopping, .double h_wished, .double h_gap, .double h_braking, .double h_pull, .int h_lead, .double h_left, .double h_leadX, .int h_stage, .int h_mode, .double h_force, .double h_wheel, .ref h_counts_a, .int h_sign]))] sz) [(h_a, .inr (9, [.int h_fault, .double h_now, .double h_speed, .ref h_isThere_a, .ref h_x_a, .ref h_y_a, .ref h_v_a, .ref h_sure_a, .ref h_coast_a, .ref h_many_a, .ref h_mx_a, .ref h_my_a, .ref h_mv_a, .ref h_taken_a, .ref h_way_a, .ref h_toldFirst_a, .ref h_toldSecond_a, .ref h_speedFirst_a, .int h_differs, .int h_differing, .double h_offset, .double h_slope, .double h_curve, .double h_pedal, .double h_brake, .double h_steer, .int h_isOn, .double h_offAt, .int r0, .double h_askedAt, .int r1, .double h_wished, .double h_gap, .double h_braking, .double h_pull, .int h_lead, .double h_left, .double h_leadX, .int h_stage, .int h_mode, .double h_force, .double h_wheel, .ref h_counts_a, .int h_sign]))]) (va_A [(h_a, .inr (9, [.int h_fault, .double h_now, .double h_speed, .ref h_isThere_a, .ref h_x_a, .ref h_y_a, .ref h_v_a, .ref h_sure_a, .ref h_coast_a, .ref h_many_a, .ref h_mx_a, .ref h_my_a, .ref h_mv_a, .ref h_taken_a, .ref h_way_a, .ref h_toldFirst_a, .ref h_toldSecond_a, .ref h_speedFirst_a, .int h_differs, .int h_differing, .double h_offset, .double h_slope, .double h_curve, .double h_pedal, .double h_brake, .double h_steer, .int h_isOn, .double h_offAt, .int h_isAsked, .double h_askedAt, .int h_isStopping, .double h_wished, .double h_gap, .double h_braking, .double h_pull, .int h_lead, .double h_left, .double h_leadX, .int h_stage, .int h_mode, .double h_force, .double h_wheel, .ref h_counts_a, .int h_sign]))] sz)) 0 0 (va_A [(h_a, .inr (9, [.int h_fault, .double h_now, .double h_speed, .ref h_isThere_a, .ref h_x_a, .ref h_y_a, .ref h_v_a, .ref h_sure_a, .ref h_coast_a, .ref h_many_a, .ref h_mx_a, .ref h_my_a, .ref h_mv_a, .ref h_taken_a, .ref h_way_a, .ref h_toldFirst_a, .ref h_toldSecond_a, .ref h_speedFirst_a, .int h_differs, .int h_differing, .double h_offset, .double h_slope, .double h_curve, .double h_pedal, .double h_brake, .double h_steer, .int h_isOn, .double h_offAt, .int h_isAsked, .double h_askedAt, .int h_isStopping, .double h_wished, .double h_gap, .double h_braking, .double h_pull, .int h_lead, .double h_left, .double h_leadX, .int h_stage, .int h_mode, .double h_force, .double h_wheel, .ref h_counts_a, .int h_sign]))] sz) := by
  refine xOfW (l := l) (y := yX9_lookAtHands) (ws := wsX9_lookAtHands) (D := D) (cells := [(h_a, .inr (9, [.int h_fault, .double h_now, .double h_speed, .ref h_isThere_a, .ref h_x_a, .ref h_y_a, .ref h_v_a, .ref h_sure_a, .ref h_coast_a, .ref h_many_a, .ref h_mx_a, .ref h_my_a, .ref h_mv_a, .ref h_taken_a, .ref h_way_a, .ref h_toldFirst_a, .ref h_toldSecond_a, .ref h_speedFirst_a, .int h_differs, .int h_differing, .double h_offset, .double h_slope, .double h_curve, .double h_pedal, .double h_brake, .double h_steer, .int h_isOn, .double h_offAt, .int h_isAsked, .double h_askedAt, .int h_isStopping, .double h_wished, .double h_gap, .double h_braking, .double h_pull, .int h_lead, .double h_left, .double h_leadX, .int h_stage, .int h_mode, .double h_force, .double h_wheel, .ref h_counts_a, .int h_sign]))]) (tys := []) (sz := sz) (av := [.ref h_a]) (cc := cX9_lookAtHands) (maxL := 2) (ret := none) (fun A => va_Qv (fun (_ : Unit) => True) (fun _ => xB D A [(h_a, .inr (9, [.int h_fault, .double h_now, .double h_speed, .ref h_isThere_a, .ref h_x_a, .ref h_y_a, .ref h_v_a, .ref h_sure_a, .ref h_coast_a, .ref h_many_a, .ref h_mx_a, .ref h_my_a, .ref h_mv_a, .ref h_taken_a, .ref h_way_a, .ref h_toldFirst_a, .ref h_toldSecond_a, .ref h_speedFirst_a, .int h_differs, .int h_differing, .double h_offset, .double h_slope, .double h_curve, .double h_pedal, .double h_brake, .double h_steer, .int h_isOn, .double h_offAt, .int r0, .double h_askedAt, .int r1, .double h_wished, .double h_gap, .double h_braking, .double h_pull, .int h_lead, .double h_left, .double h_leadX, .int h_stage, .int h_mode, .double h_force, .double h_wheel, .ref h_counts_a, .int h_sign]))]) A) (by decide) rfl (Nat.le_of_ble_eq_true rfl) ?_
  intro p e s m below meth c A H ls hx hb hr hml hown hlk hts hP hK hD hS hA hN hl
  have hl : lv_has ls 2 [(0, .ref h_a)] := hl
  have hown : s.vm.findClass RX9 = some m.cls := hown
  have ef0 : f_X9_lookAtHands h_now h_speed h_isOn h_offAt h_isAsked h_askedAt h_isStopping = some (r0, r1) := hf
  rewrite [f_X9_lookAtHands] at ef0
  refine lv_aload_n hx hb dX9_lookAtHands_0 rfl (lv_at hl 0 rfl) ?_
  refine va_get (D := D) (ci := 9) (v := .int h_isOn) (C := RX9) (T := TX9) (N := 44) hx hb hts in_wsX9_lookAtHands_X9 hown hK hP 0 rfl rfl 26 (by decide) (hts (.fieldLink RX9 57 "AssistRowsModel" "isOn" "Z") (List.mem_of_getElem? (i := 1) rfl)) (fun _ h9 => h9) rfl dX9_lookAtHands_1 ?_
  refine xCut (ι := Int32) (fun z H locs ls => f_X9_lookAtHands_j1 h_speed h_isOn h_isAsked h_isStopping z = some (r0, r1) ∧ va_P D vwCl [(h_a, .inr (9, [.int h_fault, .double h_now, .double h_speed, .ref h_isThere_a, .ref h_x_a, .ref h_y_a, .ref h_v_a, .ref h_sure_a, .ref h_coast_a, .ref h_many_a, .ref h_mx_a, .ref h_my_a, .ref h_mv_a, .ref h_taken_a, .ref h_way_a, .ref h_toldFirst_a, .ref h_toldSecond_a, .ref h_speedFirst_a, .int h_differs, .int h_differing, .double h_offset, .double h_slope, .double h_curve, .double h_pedal, .double h_brake, .double h_steer, .int h_isOn, .double h_offAt, .int h_isAsked, .double h_askedAt, .int h_isStopping, .double h_wished, .double h_gap, .double h_braking, .double h_pull, .int h_lead, .double h_left, .double h_leadX, .int h_stage, .int h_mode, .double h_force, .double h_wheel, .ref h_counts_a, .int h_sign]))] H ∧ va_D A [(h_a, .inr (9, [.int h_fault, .double h_now, .double h_speed, .ref h_isThere_a, .ref h_x_a, .ref h_y_a, .ref h_v_a, .ref h_sure_a, .ref h_coast_a, .ref h_many_a, .ref h_mx_a, .ref h_my_a, .ref h_mv_a, .ref h_taken_a, .ref h_way_a, .ref h_toldFirst_a, .ref h_toldSecond_a, .ref h_speedFirst_a, .int h_differs, .int h_differing, .double h_offset, .double h_slope, .double h_curve, .double h_pedal, .double h_brake, .double h_steer, .int h_isOn, .double h_offAt, .int h_isAsked, .double h_askedAt, .int h_isStopping, .double h_wished, .double h_gap, .double h_braking, .double h_pull, .int h_lead, .double h_left, .double h_leadX, .int h_stage, .int h_mode, .double h_force, .double h_wheel, .ref h_counts_a, .int h_sign]))] ∧ va_S A s.heap H locs ∧ lv_has ls 2 [(0, .ref h_a)]) 46 (fun z => [.int z]) ?_ (fun K1 => ?_)
  · intro z H locs ls hz
    obtain ⟨b7, rfl⟩ : ∃ q, q = z := ⟨z, rfl⟩
    obtain ⟨ef0, hP, hD, hS, hl⟩ := hz
    have ef0 : f_X9_lookAtHands_j1 h_speed h_isOn h_isAsked h_isStopping b7 = some (r0, r1) := ef0
    have hP : va_P D vwCl [(h_a, .inr (9, [.int h_fault, .double h_now, .double h_speed, .ref h_isThere_a, .ref h_x_a, .ref h_y_a, .ref h_v_a, .ref h_sure_a, .ref h_coast_a, .ref h_many_a, .ref h_mx_a, .ref h_my_a, .ref h_mv_a, .ref h_taken_a, .ref h_way_a, .ref h_toldFirst_a, .ref h_toldSecond_a, .ref h_speedFirst_a, .int h_differs, .int h_differing, .double h_offset, .double h_slope, .double h_curve, .double h_pedal, .double h_brake, .double h_steer, .int h_isOn, .double h_offAt, .int h_isAsked, .double h_askedAt, .int h_isStopping, .double h_wished, .double h_gap, .double h_braking, .double h_pull, .int h_lead, .double h_left, .double h_leadX, .int h_stage, .int h_mode, .double h_force, .double h_wheel, .ref h_counts_a, .int h_sign]))] H := hP
    have hD : va_D A [(h_a, .inr (9, [.int h_fault, .double h_now, .double h_speed, .ref h_isThere_a, .ref h_x_a, .ref h_y_a, .ref h_v_a, .ref h_sure_a, .ref h_coast_a, .ref h_many_a, .ref h_mx_a, .ref h_my_a, .ref h_mv_a, .ref h_taken_a, .ref h_way_a, .ref h_toldFirst_a, .ref h_toldSecond_a, .ref h_speedFirst_a, .int h_differs, .int h_differing, .double h_offset, .double h_slope, .double h_curve, .double h_pedal, .double h_brake, .double h_steer, .int h_isOn, .double h_offAt, .int h_isAsked, .double h_askedAt, .int h_isStopping, .double h_wished, .double h_gap, .double h_braking, .double h_pull, .int h_lead, .double h_left, .double h_leadX, .int h_stage, .int h_mode, .double h_force, .double h_wheel, .ref h_counts_a, .int h_sign]))] := hD
    have hl : lv_has ls 2 [(0, .ref h_a)] := hl
    rewrite [f_X9_lookAtHands_j1] at ef0
    refine W.eq (g2 := F0 m 46 ls [.int b7]) rfl ?_
    refine lv_istore_n (lv' := [(1, .int b7), (0, .ref h_a)]) hx hb dX9_lookAtHands_46 rfl hl (by decide) rfl (fun ls hl => ?_)
    refine lv_aload_n hx hb dX9_lookAtHands_47 rfl (lv_at hl 1 rfl) ?_
    refine lv_aload_n hx hb dX9_lookAtHands_48 rfl (lv_at hl 1 rfl) ?_
    refine va_get (D := D) (ci := 9) (v := .int h_isStopping) (C := RX9) (T := TX9) (N := 44) hx hb hts in_wsX9_lookAtHands_X9 hown hK hP 0 rfl rfl 30 (by decide) (hts (.fieldLink RX9 155 "AssistRowsModel" "isStopping" "Z") (List.mem_of_getElem? (i := 7) rfl)) (fun _ h9 => h9) rfl dX9_lookAtHands_49 ?_
    refine xCut (ι := Int32) (fun z H locs ls => f_X9_lookAtHands_j2 h_speed h_isOn h_isAsked z = some (r0, r1) ∧ va_P D vwCl [(h_a, .inr (9, [.int h_fault, .double h_now, .double h_speed, .ref h_isThere_a, .ref h_x_a, .ref h_y_a, .ref h_v_a, .ref h_sure_a, .ref h_coast_a, .ref h_many_a, .ref h_mx_a, .ref h_my_a, .ref h_mv_a, .ref h_taken_a, .ref h_way_a, .ref h_toldFirst_a, .ref h_toldSecond_a, .ref h_speedFirst_a, .int h_differs, .int h_differing, .double h_offset, .double h_slope, .double h_curve, .double h_pedal, .double h_brake, .double h_steer, .int h_isOn, .double h_offAt, .int h_isAsked, .double h_askedAt, .int h_isStopping, .double h_wished, .double h_gap, .double h_braking, .double h_pull, .int h_lead, .double h_left, .double h_leadX, .int h_stage, .int h_mode, .double h_force, .double h_wheel, .ref h_counts_a, .int h_sign]))] H ∧ va_D A [(h_a, .inr (9, [.int h_fault, .double h_now, .double h_speed, .ref h_isThere_a, .ref h_x_a, .ref h_y_a, .ref h_v_a, .ref h_sure_a, .ref h_coast_a, .ref h_many_a, .ref h_mx_a, .ref h_my_a, .ref h_mv_a, .ref h_taken_a, .ref h_way_a, .ref h_toldFirst_a, .ref h_toldSecond_a, .ref h_speedFirst_a, .int h_differs, .int h_differing, .double h_offset, .double h_slope, .double h_curve, .double h_pedal, .double h_brake, .double h_steer, .int h_isOn, .double h_offAt, .int h_isAsked, .double h_askedAt, .int h_isStopping, .double h_wished, .double h_gap, .double h_braking, .double h_pull, .int h_lead, .double h_left, .double h_leadX, .int h_stage, .int h_mode, .double h_force, .double h_wheel, .ref h_counts_a, .int h_sign]))] ∧ va_S A s.heap H locs ∧ lv_has ls 2 [(0, .ref h_a)]) 64 (fun z => [.int z, .ref h_a]) ?_ (fun K2 => ?_)
    · intro z H locs ls hz
      obtain ⟨b10, rfl⟩ : ∃ q, q = z := ⟨z, rfl⟩
      obtain ⟨ef0, hP, hD, hS, hl⟩ := hz
      have ef0 : f_X9_lookAtHands_j2 h_speed h_isOn h_isAsked b10 = some (r0, r1) := ef0
      have hP : va_P D vwCl [(h_a, .inr (9, [.int h_fault, .double h_now, .double h_speed, .ref h_isThere_a, .ref h_x_a, .ref h_y_a, .ref h_v_a, .ref h_sure_a, .ref h_coast_a, .ref h_many_a, .ref h_mx_a, .ref h_my_a, .ref h_mv_a, .ref h_taken_a, .ref h_way_a, .ref h_toldFirst_a, .ref h_toldSecond_a, .ref h_speedFirst_a, .int h_differs, .int h_differing, .double h_offset, .double h_slope, .double h_curve, .double h_pedal, .double h_brake, .double h_steer, .int h_isOn, .double h_offAt, .int h_isAsked, .double h_askedAt, .int h_isStopping, .double h_wished, .double h_gap, .double h_braking, .double h_pull, .int h_lead, .double h_left, .double h_leadX, .int h_stage, .int h_mode, .double h_force, .double h_wheel, .ref h_counts_a, .int h_sign]))] H := hP
      have hD : va_D A [(h_a, .inr (9, [.int h_fault, .double h_now, .double h_speed, .ref h_isThere_a, .ref h_x_a, .ref h_y_a, .ref h_v_a, .ref h_sure_a, .ref h_coast_a, .ref h_many_a, .ref h_mx_a, .ref h_my_a, .ref h_mv_a, .ref h_taken_a, .ref h_way_a, .ref h_toldFirst_a, .ref h_toldSecond_a, .ref h_speedFirst_a, .int h_differs, .int h_differing, .double h_offset, .double h_slope, .double h_curve, .double h_pedal, .double h_brake, .double h_steer, .int h_isOn, .double h_offAt, .int h_isAsked, .double h_askedAt, .int h_isStopping, .double h_wished, .double h_gap, .double h_braking, .double h_pull, .int h_lead, .double h_left, .double h_leadX, .int h_stage, .int h_mode, .double h_force, .double h_wheel, .ref h_counts_a, .int h_sign]))] := hD
      have hl : lv_has ls 2 [(0, .ref h_a)] := hl
      rewrite [f_X9_lookAtHands_j2] at ef0
      refine W.eq (g2 := F0 m 64 ls [.int b10, .ref h_a]) rfl ?_
      obtain ⟨h11, ef0⟩ := ck_of ef0
      refine va_put (D := D) (ci := 9) (v := .int b10) (ty := .boolean) (C := RX9) (T := TX9) (N := 44) hx hb hts in_wsX9_lookAtHands_X9 tyX9 tyX9_ok nmX9 hown hK hP hD hS 0 rfl rfl 30 (by decide) (hts (.fieldLink RX9 155 "AssistRowsModel" "isStopping" "Z") (List.mem_of_getElem? (i := 7) rfl)) (fun _ h9 => h9) rfl (by decide +kernel) (zb_nar h11) (zb_fit h11) (Nat.le_of_ble_eq_true rfl) dX9_lookAtHands_64 (fun H locs hP hD hS => ?_)
      have hP : va_P D vwCl [(h_a, .inr (9, [.int h_fault, .double h_now, .double h_speed, .ref h_isThere_a, .ref h_x_a, .ref h_y_a, .ref h_v_a, .ref h_sure_a, .ref h_coast_a, .ref h_many_a, .ref h_mx_a, .ref h_my_a, .ref h_mv_a, .ref h_taken_a, .ref h_way_a, .ref h_toldFirst_a, .ref h_toldSecond_a, .ref h_speedFirst_a, .int h_differs, .int h_differing, .double h_offset, .double h_slope, .double h_curve, .double h_pedal, .double h_brake, .double h_steer, .int h_isOn, .double h_offAt, .int h_isAsked, .double h_askedAt, .int b10, .double h_wished, .double h_gap, .double h_braking, .double h_pull, .int h_lead, .double h_left, .double h_leadX, .int h_stage, .int h_mode, .double h_force, .double h_wheel, .ref h_counts_a, .int h_sign]))] H := hP
      have hD : va_D A [(h_a, .inr (9, [.int h_fault, .double h_now, .double h_speed, .ref h_isThere_a, .ref h_x_a, .ref h_y_a, .ref h_v_a, .ref h_sure_a, .ref h_coast_a, .ref h_many_a, .ref h_mx_a, .ref h_my_a, .ref h_mv_a, .ref h_taken_a, .ref h_way_a, .ref h_toldFirst_a, .ref h_toldSecond_a, .ref h_speedFirst_a, .int h_differs, .int h_differing, .double h_offset, .double h_slope, .double h_curve, .double h_pedal, .double h_brake, .double h_steer, .int h_isOn, .double h_offAt, .int h_isAsked, .double h_askedAt, .int b10, .double h_wished, .double h_gap, .double h_braking, .double h_pull, .int h_lead, .double h_left, .double h_leadX, .int h_stage, .int h_mode, .double h_force, .double h_wheel, .ref h_counts_a, .int h_sign]))] := hD
      refine lv_aload_n hx hb dX9_lookAtHands_67 rfl (lv_at hl 0 rfl) ?_
      refine lv_aload_n hx hb dX9_lookAtHands_68 rfl (lv_at hl 0 rfl) ?_
      refine va_get (D := D) (ci := 9) (v := .int b10) (C := RX9) (T := TX9) (N := 44) hx hb hts in_wsX9_lookAtHands_X9 hown hK hP 0 rfl rfl 30 (by decide) (hts (.fieldLink RX9 155 "AssistRowsModel" "isStopping" "Z") (List.mem_of_getElem? (i := 7) rfl)) (fun _ h9 => h9) rfl dX9_lookAtHands_69 ?_
      refine xCut (ι := Int32) (fun z H locs ls => f_X9_lookAtHands_j3 h_isOn h_isAsked z = some (r0, r1) ∧ va_P D vwCl [(h_a, .inr (9, [.int h_fault, .double h_now, .double h_speed, .ref h_isThere_a, .ref h_x_a, .ref h_y_a, .ref h_v_a, .ref h_sure_a, .ref h_coast_a, .ref h_many_a, .ref h_mx_a, .ref h_my_a, .ref h_mv_a, .ref h_taken_a, .ref h_way_a, .ref h_toldFirst_a, .ref h_toldSecond_a, .ref h_speedFirst_a, .int h_differs, .int h_differing, .double h_offset, .double h_slope, .double h_curve, .double h_pedal, .double h_brake, .double h_steer, .int h_isOn, .double h_offAt, .int h_isAsked, .double h_askedAt, .int b10, .double h_wished, .double h_gap, .double h_braking, .double h_pull, .int h_lead, .double h_left, .double h_leadX, .int h_stage, .int h_mode, .double h_force, .double h_wheel, .ref h_counts_a, .int h_sign]))] H ∧ va_D A [(h_a, .inr (9, [.int h_fault, .double h_now, .double h_speed, .ref h_isThere_a, .ref h_x_a, .ref h_y_a, .ref h_v_a, .ref h_sure_a, .ref h_coast_a, .ref h_many_a, .ref h_mx_a, .ref h_my_a, .ref h_mv_a, .ref h_taken_a, .ref h_way_a, .ref h_toldFirst_a, .ref h_toldSecond_a, .ref h_speedFirst_a, .int h_differs, .int h_differing, .double h_offset, .double h_slope, .double h_curve, .double h_pedal, .double h_brake, .double h_steer, .int h_isOn, .double h_offAt, .int h_isAsked, .double h_askedAt, .int b10, .double h_wished, .double h_gap, .double h_braking, .double h_pull, .int h_lead, .double h_left, .double h_leadX, .int h_stage, .int h_mode, .double h_force, .double h_wheel, .ref h_counts_a, .int h_sign]))] ∧ va_S A s.heap H locs ∧ lv_has ls 2 [(0, .ref h_a)]) 96 (fun z => [.int z, .ref h_a]) ?_ (fun K3 => ?_)
      · intro z H locs ls hz
        obtain ⟨b15, rfl⟩ : ∃ q, q = z := ⟨z, rfl⟩
        obtain ⟨ef0, hP, hD, hS, hl⟩ := hz
        have ef0 : f_X9_lookAtHands_j3 h_isOn h_isAsked b15 = some (r0, r1) := ef0
        have hP : va_P D vwCl [(h_a, .inr (9, [.int h_fault, .double h_now, .double h_speed, .ref h_isThere_a, .ref h_x_a, .ref h_y_a, .ref h_v_a, .ref h_sure_a, .ref h_coast_a, .ref h_many_a, .ref h_mx_a, .ref h_my_a, .ref h_mv_a, .ref h_taken_a, .ref h_way_a, .ref h_toldFirst_a, .ref h_toldSecond_a, .ref h_speedFirst_a, .int h_differs, .int h_differing, .double h_offset, .double h_slope, .double h_curve, .double h_pedal, .double h_brake, .double h_steer, .int h_isOn, .double h_offAt, .int h_isAsked, .double h_askedAt, .int b10, .double h_wished, .double h_gap, .double h_braking, .double h_pull, .int h_lead, .double h_left, .double h_leadX, .int h_stage, .int h_mode, .double h_force, .double h_wheel, .ref h_counts_a, .int h_sign]))] H := hP
        have hD : va_D A [(h_a, .inr (9, [.int h_fault, .double h_now, .double h_speed, .ref h_isThere_a, .ref h_x_a, .ref h_y_a, .ref h_v_a, .ref h_sure_a, .ref h_coast_a, .ref h_many_a, .ref h_mx_a, .ref h_my_a, .ref h_mv_a, .ref h_taken_a, .ref h_way_a, .ref h_toldFirst_a, .ref h_toldSecond_a, .ref h_speedFirst_a, .int h_differs, .int h_differing, .double h_offset, .double h_slope, .double h_curve, .double h_pedal, .double h_brake, .double h_steer, .int h_isOn, .double h_offAt, .int h_isAsked, .double h_askedAt, .int b10, .double h_wished, .double h_gap, .double h_braking, .double h_pull, .int h_lead, .double h_left, .double h_leadX, .int h_stage, .int h_mode, .double h_force, .double h_wheel, .ref h_counts_a, .int h_sign]))] := hD
        have hl : lv_has ls 2 [(0, .ref h_a)] := hl
        rewrite [f_X9_lookAtHands_j3] at ef0
        refine W.eq (g2 := F0 m 96 ls [.int b15, .ref h_a]) rfl ?_
        obtain ⟨h16, ef0⟩ := ck_of ef0
        refine va_put (D := D) (ci := 9) (v := .int b15) (ty := .boolean) (C := RX9) (T := TX9) (N := 44) hx hb hts in_wsX9_lookAtHands_X9 tyX9 tyX9_ok nmX9 hown hK hP hD hS 0 rfl rfl 30 (by decide) (hts (.fieldLink RX9 155 "AssistRowsModel" "isStopping" "Z") (List.mem_of_getElem? (i := 7) rfl)) (fun _ h9 => h9) rfl (by decide +kernel) (zb_nar h16) (zb_fit h16) (Nat.le_of_ble_eq_true rfl) dX9_lookAtHands_96 (fun H locs hP hD hS => ?_)
        have hP : va_P D vwCl [(h_a, .inr (9, [.int h_fault, .double h_now, .double h_speed, .ref h_isThere_a, .ref h_x_a, .ref h_y_a, .ref h_v_a, .ref h_sure_a, .ref h_coast_a, .ref h_many_a, .ref h_mx_a, .ref h_my_a, .ref h_mv_a, .ref h_taken_a, .ref h_way_a, .ref h_toldFirst_a, .ref h_toldSecond_a, .ref h_speedFirst_a, .int h_differs, .int h_differing, .double h_offset, .double h_slope, .double h_curve, .double h_pedal, .double h_brake, .double h_steer, .int h_isOn, .double h_offAt, .int h_isAsked, .double h_askedAt, .int b15, .double h_wished, .double h_gap, .double h_braking, .double h_pull, .int h_lead, .double h_left, .double h_leadX, .int h_stage, .int h_mode, .double h_force, .double h_wheel, .ref h_counts_a, .int h_sign]))] H := hP
        have hD : va_D A [(h_a, .inr (9, [.int h_fault, .double h_now, .double h_speed, .ref h_isThere_a, .ref h_x_a, .ref h_y_a, .ref h_v_a, .ref h_sure_a, .ref h_coast_a, .ref h_many_a, .ref h_mx_a, .ref h_my_a, .ref h_mv_a, .ref h_taken_a, .ref h_way_a, .ref h_toldFirst_a, .ref h_toldSecond_a, .ref h_speedFirst_a, .int h_differs, .int h_differing, .double h_offset, .double h_slope, .double h_curve, .double h_pedal, .double h_brake, .double h_steer, .int h_isOn, .double h_offAt, .int h_isAsked, .double h_askedAt, .int b15, .double h_wished, .double h_gap, .double h_braking, .double h_pull, .int h_lead, .double h_left, .double h_leadX, .int h_stage, .int h_mode, .double h_force, .double h_wheel, .ref h_counts_a, .int h_sign]))] := hD
        refine lv_aload_n hx hb dX9_lookAtHands_99 rfl (lv_at hl 0 rfl) ?_
        refine lv_aload_n hx hb dX9_lookAtHands_100 rfl (lv_at hl 0 rfl) ?_
        refine va_get (D := D) (ci := 9) (v := .int h_isAsked) (C := RX9) (T := TX9) (N := 44) hx hb hts in_wsX9_lookAtHands_X9 hown hK hP 0 rfl rfl 28 (by decide) (hts (.fieldLink RX9 152 "AssistRowsModel" "isAsked" "Z") (List.mem_of_getElem? (i := 3) rfl)) (fun _ h9 => h9) rfl dX9_lookAtHands_101 ?_
        refine lv_if_eq (tgt := 125) hx hb dX9_lookAtHands_104 (by decide) (fun c17 => ?_) (fun c17 => ?_)
        · have ef0 := ift ef0 c17
          refine lv_iconst (v := (0 : Int32)) hx hb dX9_lookAtHands_125 (by decide) ?_
          refine va_put (D := D) (ci := 9) (v := .int (0 : Int32)) (ty := .boolean) (C := RX9) (T := TX9) (N := 44) hx hb hts in_wsX9_lookAtHands_X9 tyX9 tyX9_ok nmX9 hown hK hP hD hS 0 rfl rfl 28 (by decide) (hts (.fieldLink RX9 152 "AssistRowsModel" "isAsked" "Z") (List.mem_of_getElem? (i := 3) rfl)) (fun _ h9 => h9) rfl (by decide +kernel) rfl rfl (Nat.le_of_ble_eq_true rfl) dX9_lookAtHands_126 (fun H locs hP hD hS => ?_)
          have hP : va_P D vwCl [(h_a, .inr (9, [.int h_fault, .double h_now, .double h_speed, .ref h_isThere_a, .ref h_x_a, .ref h_y_a, .ref h_v_a, .ref h_sure_a, .ref h_coast_a, .ref h_many_a, .ref h_mx_a, .ref h_my_a, .ref h_mv_a, .ref h_taken_a, .ref h_way_a, .ref h_toldFirst_a, .ref h_toldSecond_a, .ref h_speedFirst_a, .int h_differs, .int h_differing, .double h_offset, .double h_slope, .double h_curve, .double h_pedal, .double h_brake, .double h_steer, .int h_isOn, .double h_offAt, .int (0 : Int32), .double h_askedAt, .int b15, .double h_wished, .double h_gap, .double h_braking, .double h_pull, .int h_lead, .double h_left, .double h_leadX, .int h_stage, .int h_mode, .double h_force, .double h_wheel, .ref h_counts_a, .int h_sign]))] H := hP
          have hD : va_D A [(h_a, .inr (9, [.int h_fault, .double h_now, .double h_speed, .ref h_isThere_a, .ref h_x_a, .ref h_y_a, .ref h_v_a, .ref h_sure_a, .ref h_coast_a, .ref h_many_a, .ref h_mx_a, .ref h_my_a, .ref h_mv_a, .ref h_taken_a, .ref h_way_a, .ref h_toldFirst_a, .ref h_toldSecond_a, .ref h_speedFirst_a, .int h_differs, .int h_differing, .double h_offset, .double h_slope, .double h_curve, .double h_pedal, .double h_brake, .double h_steer, .int h_isOn, .double h_offAt, .int (0 : Int32), .double h_askedAt, .int b15, .double h_wished, .double h_gap, .double h_braking, .double h_pull, .int h_lead, .double h_left, .double h_leadX, .int h_stage, .int h_mode, .double h_force, .double h_wheel, .ref h_counts_a, .int h_sign]))] := hD
          have q0 := Option.some.inj ef0
          obtain ⟨t0, q1⟩ := Prod.mk.inj q0
          exact xVret (by rw [← t0, ← q1]) hx hb hr hlk hP hD hS dX9_lookAtHands_129
        · have ef0 := iff_ ef0 c17
          refine lv_aload_n hx hb dX9_lookAtHands_107 rfl (lv_at hl 0 rfl) ?_
          refine va_get (D := D) (ci := 9) (v := .int h_isOn) (C := RX9) (T := TX9) (N := 44) hx hb hts in_wsX9_lookAtHands_X9 hown hK hP 0 rfl rfl 26 (by decide) (hts (.fieldLink RX9 57 "AssistRowsModel" "isOn" "Z") (List.mem_of_getElem? (i := 1) rfl)) (fun _ h9 => h9) rfl dX9_lookAtHands_108 ?_
          refine lv_if_ne (tgt := 125) hx hb dX9_lookAtHands_111 (by decide) (fun c18 => ?_) (fun c18 => ?_)
          · have ef0 := iff_ ef0 c18
            refine lv_iconst (v := (0 : Int32)) hx hb dX9_lookAtHands_125 (by decide) ?_
            refine va_put (D := D) (ci := 9) (v := .int (0 : Int32)) (ty := .boolean) (C := RX9) (T := TX9) (N := 44) hx hb hts in_wsX9_lookAtHands_X9 tyX9 tyX9_ok nmX9 hown hK hP hD hS 0 rfl rfl 28 (by decide) (hts (.fieldLink RX9 152 "AssistRowsModel" "isAsked" "Z") (List.mem_of_getElem? (i := 3) rfl)) (fun _ h9 => h9) rfl (by decide +kernel) rfl rfl (Nat.le_of_ble_eq_true rfl) dX9_lookAtHands_126 (fun H locs hP hD hS => ?_)
            have hP : va_P D vwCl [(h_a, .inr (9, [.int h_fault, .double h_now, .double h_speed, .ref h_isThere_a, .ref h_x_a, .ref h_y_a, .ref h_v_a, .ref h_sure_a, .ref h_coast_a, .ref h_many_a, .ref h_mx_a, .ref h_my_a, .ref h_mv_a, .ref h_taken_a, .ref h_way_a, .ref h_toldFirst_a, .ref h_toldSecond_a, .ref h_speedFirst_a, .int h_differs, .int h_differing, .double h_offset, .double h_slope, .double h_curve, .double h_pedal, .double h_brake, .double h_steer, .int h_isOn, .double h_offAt, .int (0 : Int32), .double h_askedAt, .int b15, .double h_wished, .double h_gap, .double h_braking, .double h_pull, .int h_lead, .double h_left, .double h_leadX, .int h_stage, .int h_mode, .double h_force, .double h_wheel, .ref h_counts_a, .int h_sign]))] H := hP
            have hD : va_D A [(h_a, .inr (9, [.int h_fault, .double h_now, .double h_speed, .ref h_isThere_a, .ref h_x_a, .ref h_y_a, .ref h_v_a, .ref h_sure_a, .ref h_coast_a, .ref h_many_a, .ref h_mx_a, .ref h_my_a, .ref h_mv_a, .ref h_taken_a, .ref h_way_a, .ref h_toldFirst_a, .ref h_toldSecond_a, .ref h_speedFirst_a, .int h_differs, .int h_differing, .double h_offset, .double h_slope, .double h_curve, .double h_pedal, .double h_brake, .double h_steer, .int h_isOn, .double h_offAt, .int (0 : Int32), .double h_askedAt, .int b15, .double h_wished, .double h_gap, .double h_braking, .double h_pull, .int h_lead, .double h_left, .double h_leadX, .int h_stage, .int h_mode, .double h_force, .double h_wheel, .ref h_counts_a, .int h_sign]))] := hD
            have q0 := Option.some.inj ef0
            obtain ⟨t0, q1⟩ := Prod.mk.inj q0
            exact xVret (by rw [← t0, ← q1]) hx hb hr hlk hP hD hS dX9_lookAtHands_129
          · have ef0 := ift ef0 c18
            refine lv_aload_n hx hb dX9_lookAtHands_114 rfl (lv_at hl 0 rfl) ?_
            refine va_get (D := D) (ci := 9) (v := .int b15) (C := RX9) (T := TX9) (N := 44) hx hb hts in_wsX9_lookAtHands_X9 hown hK hP 0 rfl rfl 30 (by decide) (hts (.fieldLink RX9 155 "AssistRowsModel" "isStopping" "Z") (List.mem_of_getElem? (i := 7) rfl)) (fun _ h9 => h9) rfl dX9_lookAtHands_115 ?_
            refine lv_if_ne (tgt := 125) hx hb dX9_lookAtHands_118 (by decide) (fun c19 => ?_) (fun c19 => ?_)
            · have ef0 := iff_ ef0 c19
              refine lv_iconst (v := (0 : Int32)) hx hb dX9_lookAtHands_125 (by decide) ?_
              refine va_put (D := D) (ci := 9) (v := .int (0 : Int32)) (ty := .boolean) (C := RX9) (T := TX9) (N := 44) hx hb hts in_wsX9_lookAtHands_X9 tyX9 tyX9_ok nmX9 hown hK hP hD hS 0 rfl rfl 28 (by decide) (hts (.fieldLink RX9 152 "AssistRowsModel" "isAsked" "Z") (List.mem_of_getElem? (i := 3) rfl)) (fun _ h9 => h9) rfl (by decide +kernel) rfl rfl (Nat.le_of_ble_eq_true rfl) dX9_lookAtHands_126 (fun H locs hP hD hS => ?_)
              have hP : va_P D vwCl [(h_a, .inr (9, [.int h_fault, .double h_now, .double h_speed, .ref h_isThere_a, .ref h_x_a, .ref h_y_a, .ref h_v_a, .ref h_sure_a, .ref h_coast_a, .ref h_many_a, .ref h_mx_a, .ref h_my_a, .ref h_mv_a, .ref h_taken_a, .ref h_way_a, .ref h_toldFirst_a, .ref h_toldSecond_a, .ref h_speedFirst_a, .int h_differs, .int h_differing, .double h_offset, .double h_slope, .double h_curve, .double h_pedal, .double h_brake, .double h_steer, .int h_isOn, .double h_offAt, .int (0 : Int32), .double h_askedAt, .int b15, .double h_wished, .double h_gap, .double h_braking, .double h_pull, .int h_lead, .double h_left, .double h_leadX, .int h_stage, .int h_mode, .double h_force, .double h_wheel, .ref h_counts_a, .int h_sign]))] H := hP
              have hD : va_D A [(h_a, .inr (9, [.int h_fault, .double h_now, .double h_speed, .ref h_isThere_a, .ref h_x_a, .ref h_y_a, .ref h_v_a, .ref h_sure_a, .ref h_coast_a, .ref h_many_a, .ref h_mx_a, .ref h_my_a, .ref h_mv_a, .ref h_taken_a, .ref h_way_a, .ref h_toldFirst_a, .ref h_toldSecond_a, .ref h_speedFirst_a, .int h_differs, .int h_differing, .double h_offset, .double h_slope, .double h_curve, .double h_pedal, .double h_brake, .double h_steer, .int h_isOn, .double h_offAt, .int (0 : Int32), .double h_askedAt, .int b15, .double h_wished, .double h_gap, .double h_braking, .double h_pull, .int h_lead, .double h_left, .double h_leadX, .int h_stage, .int h_mode, .double h_force, .double h_wheel, .ref h_counts_a, .int h_sign]))] := hD
              have q0 := Option.some.inj ef0
              obtain ⟨t0, q1⟩ := Prod.mk.inj q0
              exact xVret (by rw [← t0, ← q1]) hx hb hr hlk hP hD hS dX9_lookAtHands_129
            · have ef0 := ift ef0 c19
              refine lv_iconst (v := (1 : Int32)) hx hb dX9_lookAtHands_121 (by decide) ?_
              refine lv_goto (tgt := 126) hx hb dX9_lookAtHands_122 (by decide) ?_
              refine va_put (D := D) (ci := 9) (v := .int (1 : Int32)) (ty := .boolean) (C := RX9) (T := TX9) (N := 44) hx hb hts in_wsX9_lookAtHands_X9 tyX9 tyX9_ok nmX9 hown hK hP hD hS 0 rfl rfl 28 (by decide) (hts (.fieldLink RX9 152 "AssistRowsModel" "isAsked" "Z") (List.mem_of_getElem? (i := 3) rfl)) (fun _ h9 => h9) rfl (by decide +kernel) rfl rfl (Nat.le_of_ble_eq_true rfl) dX9_lookAtHands_126 (fun H locs hP hD hS => ?_)
              have hP : va_P D vwCl [(h_a, .inr (9, [.int h_fault, .double h_now, .double h_speed, .ref h_isThere_a, .ref h_x_a, .ref h_y_a, .ref h_v_a, .ref h_sure_a, .ref h_coast_a, .ref h_many_a, .ref h_mx_a, .ref h_my_a, .ref h_mv_a, .ref h_taken_a, .ref h_way_a, .ref h_toldFirst_a, .ref h_toldSecond_a, .ref h_speedFirst_a, .int h_differs, .int h_differing, .double h_offset, .double h_slope, .double h_curve, .double h_pedal, .double h_brake, .double h_steer, .int h_isOn, .double h_offAt, .int (1 : Int32), .double h_askedAt, .int b15, .double h_wished, .double h_gap, .double h_braking, .double h_pull, .int h_lead, .double h_left, .double h_leadX, .int h_stage, .int h_mode, .double h_force, .double h_wheel, .ref h_counts_a, .int h_sign]))] H := hP
              have hD : va_D A [(h_a, .inr (9, [.int h_fault, .double h_now, .double h_speed, .ref h_isThere_a, .ref h_x_a, .ref h_y_a, .ref h_v_a, .ref h_sure_a, .ref h_coast_a, .ref h_many_a, .ref h_mx_a, .ref h_my_a, .ref h_mv_a, .ref h_taken_a, .ref h_way_a, .ref h_toldFirst_a, .ref h_toldSecond_a, .ref h_speedFirst_a, .int h_differs, .int h_differing, .double h_offset, .double h_slope, .double h_curve, .double h_pedal, .double h_brake, .double h_steer, .int h_isOn, .double h_offAt, .int (1 : Int32), .double h_askedAt, .int b15, .double h_wished, .double h_gap, .double h_braking, .double h_pull, .int h_lead, .double h_left, .double h_leadX, .int h_stage, .int h_mode, .double h_force, .double h_wheel, .ref h_counts_a, .int h_sign]))] := hD
              have q0 := Option.some.inj ef0
              obtain ⟨t0, q1⟩ := Prod.mk.inj q0
              exact xVret (by rw [← t0, ← q1]) hx hb hr hlk hP hD hS dX9_lookAtHands_129
      refine lv_if_eq (tgt := 95) hx hb dX9_lookAtHands_72 (by decide) (fun c12 => ?_) (fun c12 => ?_)
      · have ef0 := ift ef0 c12
        refine lv_iconst (v := (0 : Int32)) hx hb dX9_lookAtHands_95 (by decide) ?_
        exact K3 (0 : Int32) _ _ _ ⟨ef0, hP, hD, hS, lv_sub hl [0] rfl⟩
      · have ef0 := iff_ ef0 c12
        refine lv_aload_n hx hb dX9_lookAtHands_75 rfl (lv_at hl 0 rfl) ?_
        refine va_get (D := D) (ci := 9) (v := .int h_isOn) (C := RX9) (T := TX9) (N := 44) hx hb hts in_wsX9_lookAtHands_X9 hown hK hP 0 rfl rfl 26 (by decide) (hts (.fieldLink RX9 57 "AssistRowsModel" "isOn" "Z") (List.mem_of_getElem? (i := 1) rfl)) (fun _ h9 => h9) rfl dX9_lookAtHands_76 ?_
        refine lv_if_eq (tgt := 91) hx hb dX9_lookAtHands_79 (by decide) (fun c13 => ?_) (fun c13 => ?_)
        · have ef0 := ift ef0 c13
          refine lv_iconst (v := (1 : Int32)) hx hb dX9_lookAtHands_91 (by decide) ?_
          refine lv_goto (tgt := 96) hx hb dX9_lookAtHands_92 (by decide) ?_
          exact K3 (1 : Int32) _ _ _ ⟨ef0, hP, hD, hS, lv_sub hl [0] rfl⟩
        · have ef0 := iff_ ef0 c13
          refine lv_aload_n hx hb dX9_lookAtHands_82 rfl (lv_at hl 0 rfl) ?_
          refine va_get (D := D) (ci := 9) (v := .double h_speed) (C := RX9) (T := TX9) (N := 44) hx hb hts in_wsX9_lookAtHands_X9 hown hK hP 0 rfl rfl 2 (by decide) (hts (.fieldLink RX9 203 "AssistRowsModel" "speed" "D") (List.mem_of_getElem? (i := 8) rfl)) (fun _ h9 => h9) rfl dX9_lookAtHands_83 ?_
          refine lv_dconst0 hx hb dX9_lookAtHands_86 ?_
          refine lv_dcmp hx hb dX9_lookAtHands_87 ?_
          refine lv_if_eq (tgt := 95) hx hb dX9_lookAtHands_88 (by decide) (fun c14 => ?_) (fun c14 => ?_)
          · have ef0 := ift ef0 c14
            refine lv_iconst (v := (0 : Int32)) hx hb dX9_lookAtHands_95 (by decide) ?_
            exact K3 (0 : Int32) _ _ _ ⟨ef0, hP, hD, hS, lv_sub hl [0] rfl⟩
          · have ef0 := iff_ ef0 c14
            refine lv_iconst (v := (1 : Int32)) hx hb dX9_lookAtHands_91 (by decide) ?_
            refine lv_goto (tgt := 96) hx hb dX9_lookAtHands_92 (by decide) ?_
            exact K3 (1 : Int32) _ _ _ ⟨ef0, hP, hD, hS, lv_sub hl [0] rfl⟩
    refine lv_if_ne (tgt := 59) hx hb dX9_lookAtHands_52 (by decide) (fun c8 => ?_) (fun c8 => ?_)
    · have ef0 := iff_ ef0 c8
      refine lv_iconst (v := (1 : Int32)) hx hb dX9_lookAtHands_59 (by decide) ?_
      refine lv_goto (tgt := 64) hx hb dX9_lookAtHands_60 (by decide) ?_
      exact K2 (1 : Int32) _ _ _ ⟨ef0, hP, hD, hS, lv_sub hl [1] rfl⟩
    · have ef0 := ift ef0 c8
      refine lv_iload_n hx hb dX9_lookAtHands_55 rfl (lv_at hl 0 rfl) ?_
      refine lv_if_eq (tgt := 63) hx hb dX9_lookAtHands_56 (by decide) (fun c9 => ?_) (fun c9 => ?_)
      · have ef0 := ift ef0 c9
        refine lv_iconst (v := (0 : Int32)) hx hb dX9_lookAtHands_63 (by decide) ?_
        exact K2 (0 : Int32) _ _ _ ⟨ef0, hP, hD, hS, lv_sub hl [1] rfl⟩
      · have ef0 := iff_ ef0 c9
        refine lv_iconst (v := (1 : Int32)) hx hb dX9_lookAtHands_59 (by decide) ?_
        refine lv_goto (tgt := 64) hx hb dX9_lookAtHands_60 (by decide) ?_
        exact K2 (1 : Int32) _ _ _ ⟨ef0, hP, hD, hS, lv_sub hl [1] rfl⟩
  refine lv_if_ne (tgt := 45) hx hb dX9_lookAtHands_4 (by decide) (fun c1 => ?_) (fun c1 => ?_)
  · have ef0 := iff_ ef0 c1
    refine lv_iconst (v := (0 : Int32)) hx hb dX9_lookAtHands_45 (by decide) ?_
    exact K1 (0 : Int32) _ _ _ ⟨ef0, hP, hD, hS, lv_sub hl [0] rfl⟩
  · have ef0 := ift ef0 c1
    refine lv_aload_n hx hb dX9_lookAtHands_7 rfl (lv_at hl 0 rfl) ?_
    obtain ⟨u2, hu2, ef0⟩ := bd_of ef0
    refine xCalld (wr := []) (wn := [(h_a, .inr (9, [.int h_fault, .double h_now, .double h_speed, .ref h_isThere_a, .ref h_x_a, .ref h_y_a, .ref h_v_a, .ref h_sure_a, .ref h_coast_a, .ref h_many_a, .ref h_mx_a, .ref h_my_a, .ref h_mv_a, .ref h_taken_a, .ref h_way_a, .ref h_toldFirst_a, .ref h_toldSecond_a, .ref h_speedFirst_a, .int h_differs, .int h_differing, .double h_offset, .double h_slope, .double h_curve, .double h_pedal, .double h_brake, .double h_steer, .int h_isOn, .double h_offAt, .int h_isAsked, .double h_askedAt, .int h_isStopping, .double h_wished, .double h_gap, .double h_braking, .double h_pull, .int h_lead, .double h_left, .double h_leadX, .int h_stage, .int h_mode, .double h_force, .double h_wheel, .ref h_counts_a, .int h_sign]))]) [0] [] [0] (va_runV (As := []) (rest := []) ⟨hx, hb, hml, hown, hts⟩ (c_X9_off l D H.size h_a h_isThere_a h_x_a h_y_a h_v_a h_sure_a h_coast_a h_many_a h_mx_a h_my_a h_mv_a h_taken_a h_way_a h_toldFirst_a h_toldSecond_a h_speedFirst_a h_counts_a h_fault h_now h_speed h_differs h_differing h_offset h_slope h_curve h_pedal h_brake h_steer h_isOn h_offAt h_isAsked h_askedAt h_isStopping h_wished h_gap h_braking h_pull h_lead h_left h_leadX h_stage h_mode h_force h_wheel h_sign u2 hu2) (cwV 0 hts gX9_lookAtHands_X9_off rfl rfl rfl (by decide +kernel) ⟨Nat.le_of_ble_eq_true rfl, Nat.le_of_ble_eq_true rfl⟩) (xPreV (ci := 9) (q0 := 0) hP hD hK hN rfl rfl [0] rfl rfl [] rfl) rfl rfl hl.1 rfl (lv_room (Nat.le_of_ble_eq_true rfl)) dX9_lookAtHands_8 ⟨Nat.zero_le _, Nat.zero_le _⟩) hP hD hS hA rfl rfl rfl (by decide) rfl rfl (fun H locs hP hD hS => ?_)
    refine lv_ldc2d hx hb hown (hts (.constantDouble RX9 221 (4630826316843712512)) (List.mem_of_getElem? (i := 2) rfl)) dX9_lookAtHands_11 ?_
    refine lv_dcmp hx hb dX9_lookAtHands_14 ?_
    refine lv_if_ge (tgt := 41) hx hb dX9_lookAtHands_15 (by decide) (fun c3 => ?_) (fun c3 => ?_)
    · have ef0 := ift ef0 c3
      refine lv_iconst (v := (1 : Int32)) hx hb dX9_lookAtHands_41 (by decide) ?_
      refine lv_goto (tgt := 46) hx hb dX9_lookAtHands_42 (by decide) ?_
      exact K1 (1 : Int32) _ _ _ ⟨ef0, hP, hD, hS, lv_sub hl [0] rfl⟩
    · have ef0 := iff_ ef0 c3
      refine lv_aload_n hx hb dX9_lookAtHands_18 rfl (lv_at hl 0 rfl) ?_
      refine va_get (D := D) (ci := 9) (v := .int h_isAsked) (C := RX9) (T := TX9) (N := 44) hx hb hts in_wsX9_lookAtHands_X9 hown hK hP 0 rfl rfl 28 (by decide) (hts (.fieldLink RX9 152 "AssistRowsModel" "isAsked" "Z") (List.mem_of_getElem? (i := 3) rfl)) (fun _ h9 => h9) rfl dX9_lookAtHands_19 ?_
      refine lv_if_eq (tgt := 45) hx hb dX9_lookAtHands_22 (by decide) (fun c4 => ?_) (fun c4 => ?_)
      · have ef0 := ift ef0 c4
        refine lv_iconst (v := (0 : Int32)) hx hb dX9_lookAtHands_45 (by decide) ?_
        exact K1 (0 : Int32) _ _ _ ⟨ef0, hP, hD, hS, lv_sub hl [0] rfl⟩
      · have ef0 := iff_ ef0 c4
        refine lv_aload_n hx hb dX9_lookAtHands_25 rfl (lv_at hl 0 rfl) ?_
        refine va_get (D := D) (ci := 9) (v := .double h_now) (C := RX9) (T := TX9) (N := 44) hx hb hts in_wsX9_lookAtHands_X9 hown hK hP 0 rfl rfl 1 (by decide) (hts (.fieldLink RX9 109 "AssistRowsModel" "now" "D") (List.mem_of_getElem? (i := 4) rfl)) (fun _ h9 => h9) rfl dX9_lookAtHands_26 ?_
        refine lv_aload_n hx hb dX9_lookAtHands_29 rfl (lv_at hl 0 rfl) ?_
        refine va_get (D := D) (ci := 9) (v := .double h_askedAt) (C := RX9) (T := TX9) (N := 44) hx hb hts in_wsX9_lookAtHands_X9 hown hK hP 0 rfl rfl 29 (by decide) (hts (.fieldLink RX9 158 "AssistRowsModel" "askedAt" "D") (List.mem_of_getElem? (i := 5) rfl)) (fun _ h9 => h9) rfl dX9_lookAtHands_30 ?_
        obtain ⟨h5, ef0⟩ := ck_of ef0
        refine lv_dsub hx hb dX9_lookAtHands_33 (nn_of h5) ?_
        refine lv_ldc2d hx hb hown (hts (.constantDouble RX9 223 (4621819117588971520)) (List.mem_of_getElem? (i := 6) rfl)) dX9_lookAtHands_34 ?_
        refine lv_dcmp hx hb dX9_lookAtHands_37 ?_
        refine lv_if_lt (tgt := 45) hx hb dX9_lookAtHands_38 (by decide) (fun c6 => ?_) (fun c6 => ?_)
        · have ef0 := ift ef0 c6
          refine lv_iconst (v := (0 : Int32)) hx hb dX9_lookAtHands_45 (by decide) ?_
          exact K1 (0 : Int32) _ _ _ ⟨ef0, hP, hD, hS, lv_sub hl [0] rfl⟩
        · have ef0 := iff_ ef0 c6
          refine lv_iconst (v := (1 : Int32)) hx hb dX9_lookAtHands_41 (by decide) ?_
          refine lv_goto (tgt := 46) hx hb dX9_lookAtHands_42 (by decide) ?_
          exact K1 (1 : Int32) _ _ _ ⟨ef0, hP, hD, hS, lv_sub hl [0] rfl⟩

theorem in_wsX9_findMode_X9 : ∀ w ∈ wsX90, w ∈ wsX9_findMode := fun _ h => List.mem_cons_of_mem _ (List.mem_append_right _ h)
def f_X9_findMode (h_now : UInt64) (h_differing : Int32) (h_pedal : UInt64) (h_brake : UInt64) (h_isOn : Int32) (h_offAt : UInt64) (h_isAsked : Int32) (h_isStopping : Int32) (h_lead : Int32) (h_stage : Int32) : Option Int32 :=
  if h_differing < (3 : Int32) then (
  if h_isStopping = 0 then (
  if h_isOn = 0 then (
  (f_X9_off h_now h_isOn h_offAt).bind fun u9 =>
  if 0 ≤ (Op.cmpValue (FP.dcmp u9 (4624633867356078080 : UInt64)) .l) then (
  some (4 : Int32)) else
  if h_isAsked = 0 then (
  if h_stage ≤ (1 : Int32) then (
  if 0 < (Op.cmpValue (FP.dcmp h_pedal FP.dconst0) .l) then (
  some (2 : Int32)) else
  if (Op.cmpValue (FP.dcmp h_brake FP.dconst0) .l) ≤ 0 then (
  if h_lead < 0 then (
  some (0 : Int32)) else
  some (1 : Int32)) else
  some (2 : Int32)) else
  some (3 : Int32)) else
  some (4 : Int32)) else
  if h_isAsked = 0 then (
  if h_stage ≤ (1 : Int32) then (
  if 0 < (Op.cmpValue (FP.dcmp h_pedal FP.dconst0) .l) then (
  some (2 : Int32)) else
  if (Op.cmpValue (FP.dcmp h_brake FP.dconst0) .l) ≤ 0 then (
  if h_lead < 0 then (
  some (0 : Int32)) else
  some (1 : Int32)) else
  some (2 : Int32)) else
  some (3 : Int32)) else
  some (4 : Int32)) else
  some (5 : Int32)) else
  some (6 : Int32)
set_option maxHeartbeats 4000000 in
set_option maxRecDepth 100000 in
theorem c_X9_findMode (l : Launch) (D : va_G) (sz : Nat) (h_a : Nat) (h_isThere_a : Nat) (h_x_a : Nat) (h_y_a : Nat) (h_v_a : Nat) (h_sure_a : Nat) (h_coast_a : Nat) (h_many_a : Nat) (h_mx_a : Nat) (h_my_a : Nat) (h_mv_a : Nat) (h_taken_a : Nat) (h_way_a : Nat) (h_toldFirst_a : Nat) (h_toldSecond_a : Nat) (h_speedFirst_a : Nat) (h_counts_a : Nat) (h_fault : Int32) (h_now : UInt64) (h_speed : UInt64) (h_differs : Int32) (h_differing : Int32) (h_offset : UInt64) (h_slope : UInt64) (h_curve : UInt64) (h_pedal : UInt64) (h_brake : UInt64) (h_steer : UInt64) (h_isOn : Int32) (h_offAt : UInt64) (h_isAsked : Int32) (h_askedAt : UInt64) (h_isStopping : Int32) (h_wished : UInt64) (h_gap : UInt64) (h_braking : UInt64) (h_pull : UInt64) (h_lead : Int32) (h_left : UInt64) (h_leadX : UInt64) (h_stage : Int32) (h_mode : Int32) (h_force : UInt64) (h_wheel : UInt64) (h_sign : Int32) (r0 : Int32) (hf : f_X9_findMode h_now h_differing h_pedal h_brake h_isOn h_offAt h_isAsked h_isStopping h_lead h_stage = some r0) : Met l yX9_findMode wsX9_findMode { frames := 1, cells := 0, slots := 0, locals := 20 } (va_Pc [.ref h_a] (xPre D [(h_a, .inr (9, [.int h_fault, .double h_now, .double h_speed, .ref h_isThere_a, .ref h_x_a, .ref h_y_a, .ref h_v_a, .ref h_sure_a, .ref h_coast_a, .ref h_many_a, .ref h_mx_a, .ref h_my_a, .ref h_mv_a, .ref h_taken_a, .ref h_way_a, .ref h_toldFirst_a, .ref h_toldSecond_a, .ref h_speedFirst_a, .int h_differs, .int h_differing, .double h_offset, .double h_slope, .double h_curve, .double h_pedal, .double h_brake, .double h_steer, .int h_isOn, .double h_offAt, .int h_isAsked, .double h_askedAt, .int h_isStopping, .double h_wished, .double h_gap, .double h_braking, .double h_pull, .int h_lead, .double h_left, .double h_leadX, .int h_stage, .int h_mode, .double h_force, .double h_wheel, .ref h_counts_a, .int h_sign]))] [] sz)) (va_Qi (fun (x : Int32) (_ : Unit) => x = r0) (fun _ => xB D (va_A [(h_a, .inr (9, [.int h_fault, .double h_now, .double h_speed, .ref h_isThere_a, .ref h_x_a, .ref h_y_a, .ref h_v_a, .ref h_sure_a, .ref h_coast_a, .ref h_many_a, .ref h_mx_a, .ref h_my_a, .ref h_mv_a, .ref h_taken_a, .ref h_way_a, .ref h_toldFirst_a, .ref h_toldSecond_a, .ref h_speedFirst_a, .int h_differs, .int h_differing, .double h_offset, .double h_slope, .double h_curve, .double h_pedal, .double h_brake, .double h_steer, .int h_isOn, .double h_offAt, .int h_isAsked, .double h_askedAt, .int h_isStopping, .double h_wished, .double h_gap, .double h_braking, .double h_pull, .int h_lead, .double h_left, .double h_leadX, .int h_stage, .int h_mode, .double h_force, .double h_wheel, .ref h_counts_a, .int h_sign]))] sz) [(h_a, .inr (9, [.int h_fault, .double h_now, .double h_speed, .ref h_isThere_a, .ref h_x_a, .ref h_y_a, .ref h_v_a, .ref h_sure_a, .ref h_coast_a, .ref h_many_a, .ref h_mx_a, .ref h_my_a, .ref h_mv_a, .ref h_taken_a, .ref h_way_a, .ref h_toldFirst_a, .ref h_toldSecond_a, .ref h_speedFirst_a, .int h_differs, .int h_differing, .double h_offset, .double h_slope, .double h_curve, .double h_pedal, .double h_brake, .double h_steer, .int h_isOn, .double h_offAt, .int h_isAsked, .double h_askedAt, .int h_isStopping, .double h_wished, .double h_gap, .double h_braking, .double h_pull, .int h_lead, .double h_left, .double h_leadX, .int h_stage, .int h_mode, .double h_force, .double h_wheel, .ref h_counts_a, .int h_sign]))]) (va_A [(h_a, .inr (9, [.int h_fault, .double h_now, .double h_speed, .ref h_isThere_a, .ref h_x_a, .ref h_y_a, .ref h_v_a, .ref h_sure_a, .ref h_coast_a, .ref h_many_a, .ref h_mx_a, .ref h_my_a, .ref h_mv_a, .ref h_taken_a, .ref h_way_a, .ref h_toldFirst_a, .ref h_toldSecond_a, .ref h_speedFirst_a, .int h_differs, .int h_differing, .double h_offset, .double h_slope, .double h_curve, .double h_pedal, .double h_brake, .double h_steer, .int h_isOn, .double h_offAt, .int h_isAsked, .double h_askedAt, .int h_isStopping, .double h_wished, .double h_gap, .double h_braking, .double h_pull, .int h_lead, .double h_left, .double h_leadX, .int h_stage, .int h_mode, .double h_force, .double h_wheel, .ref h_counts_a, .int h_sign]))] sz)) 0 0 (va_A [(h_a, .inr (9, [.int h_fault, .double h_now, .double h_speed, .ref h_isThere_a, .ref h_x_a, .ref h_y_a, .ref h_v_a, .ref h_sure_a, .ref h_coast_a, .ref h_many_a, .ref h_mx_a, .ref h_my_a, .ref h_mv_a, .ref h_taken_a, .ref h_way_a, .ref h_toldFirst_a, .ref h_toldSecond_a, .ref h_speedFirst_a, .int h_differs, .int h_differing, .double h_offset, .double h_slope, .double h_curve, .double h_pedal, .double h_brake, .double h_steer, .int h_isOn, .double h_offAt, .int h_isAsked, .double h_askedAt, .int h_isStopping, .double h_wished, .double h_gap, .double h_braking, .double h_pull, .int h_lead, .double h_left, .double h_leadX, .int h_stage, .int h_mode, .double h_force, .double h_wheel, .ref h_counts_a, .int h_sign]))] sz) := by
  refine xOfW (l := l) (y := yX9_findMode) (ws := wsX9_findMode) (D := D) (cells := [(h_a, .inr (9, [.int h_fault, .double h_now, .double h_speed, .ref h_isThere_a, .ref h_x_a, .ref h_y_a, .ref h_v_a, .ref h_sure_a, .ref h_coast_a, .ref h_many_a, .ref h_mx_a, .ref h_my_a, .ref h_mv_a, .ref h_taken_a, .ref h_way_a, .ref h_toldFirst_a, .ref h_toldSecond_a, .ref h_speedFirst_a, .int h_differs, .int h_differing, .double h_offset, .double h_slope, .double h_curve, .double h_pedal, .double h_brake, .double h_steer, .int h_isOn, .double h_offAt, .int h_isAsked, .double h_askedAt, .int h_isStopping, .double h_wished, .double h_gap, .double h_braking, .double h_pull, .int h_lead, .double h_left, .double h_leadX, .int h_stage, .int h_mode, .double h_force, .double h_wheel, .ref h_counts_a, .int h_sign]))]) (tys := []) (sz := sz) (av := [.ref h_a]) (cc := cX9_findMode) (maxL := 1) (ret := (some .int)) (fun A => va_Qi (fun (x : Int32) (_ : Unit) => x = r0) (fun _ => xB D A [(h_a, .inr (9, [.int h_fault, .double h_now, .double h_speed, .ref h_isThere_a, .ref h_x_a, .ref h_y_a, .ref h_v_a, .ref h_sure_a, .ref h_coast_a, .ref h_many_a, .ref h_mx_a, .ref h_my_a, .ref h_mv_a, .ref h_taken_a, .ref h_way_a, .ref h_toldFirst_a, .ref h_toldSecond_a, .ref h_speedFirst_a, .int h_differs, .int h_differing, .double h_offset, .double h_slope, .double h_curve, .double h_pedal, .double h_brake, .double h_steer, .int h_isOn, .double h_offAt, .int h_isAsked, .double h_askedAt, .int h_isStopping, .double h_wished, .double h_gap, .double h_braking, .double h_pull, .int h_lead, .double h_left, .double h_leadX, .int h_stage, .int h_mode, .double h_force, .double h_wheel, .ref h_counts_a, .int h_sign]))]) A) (by decide) rfl (Nat.le_of_ble_eq_true rfl) ?_
  intro p e s m below meth c A H ls hx hb hr hml hown hlk hts hP hK hD hS hA hN hl
  have hl : lv_has ls 1 [(0, .ref h_a)] := hl
  have hown : s.vm.findClass RX9 = some m.cls := hown
  have ef0 : f_X9_findMode h_now h_differing h_pedal h_brake h_isOn h_offAt h_isAsked h_isStopping h_lead h_stage = some r0 := hf
  rewrite [f_X9_findMode] at ef0
  refine lv_aload_n hx hb dX9_findMode_0 rfl (lv_at hl 0 rfl) ?_
  refine va_get (D := D) (ci := 9) (v := .int h_differing) (C := RX9) (T := TX9) (N := 44) hx hb hts in_wsX9_findMode_X9 hown hK hP 0 rfl rfl 19 (by decide) (hts (.fieldLink RX9 225 "AssistRowsModel" "differing" "I") (List.mem_of_getElem? (i := 1) rfl)) (fun _ h9 => h9) rfl dX9_findMode_1 ?_
  refine lv_iconst (v := (3 : Int32)) hx hb dX9_findMode_4 (by decide) ?_
  refine lv_icmp_lt (tgt := 11) hx hb dX9_findMode_5 (by decide) (fun c1 => ?_) (fun c1 => ?_)
  · have ef0 := ift ef0 c1
    refine lv_aload_n hx hb dX9_findMode_11 rfl (lv_at hl 0 rfl) ?_
    refine va_get (D := D) (ci := 9) (v := .int h_isStopping) (C := RX9) (T := TX9) (N := 44) hx hb hts in_wsX9_findMode_X9 hown hK hP 0 rfl rfl 30 (by decide) (hts (.fieldLink RX9 155 "AssistRowsModel" "isStopping" "Z") (List.mem_of_getElem? (i := 2) rfl)) (fun _ h9 => h9) rfl dX9_findMode_12 ?_
    refine lv_if_eq (tgt := 20) hx hb dX9_findMode_15 (by decide) (fun c2 => ?_) (fun c2 => ?_)
    · have ef0 := ift ef0 c2
      refine lv_aload_n hx hb dX9_findMode_20 rfl (lv_at hl 0 rfl) ?_
      refine va_get (D := D) (ci := 9) (v := .int h_isOn) (C := RX9) (T := TX9) (N := 44) hx hb hts in_wsX9_findMode_X9 hown hK hP 0 rfl rfl 26 (by decide) (hts (.fieldLink RX9 57 "AssistRowsModel" "isOn" "Z") (List.mem_of_getElem? (i := 3) rfl)) (fun _ h9 => h9) rfl dX9_findMode_21 ?_
      refine lv_if_ne (tgt := 38) hx hb dX9_findMode_24 (by decide) (fun c3 => ?_) (fun c3 => ?_)
      · have ef0 := iff_ ef0 c3
        refine lv_aload_n hx hb dX9_findMode_38 rfl (lv_at hl 0 rfl) ?_
        refine va_get (D := D) (ci := 9) (v := .int h_isAsked) (C := RX9) (T := TX9) (N := 44) hx hb hts in_wsX9_findMode_X9 hown hK hP 0 rfl rfl 28 (by decide) (hts (.fieldLink RX9 152 "AssistRowsModel" "isAsked" "Z") (List.mem_of_getElem? (i := 5) rfl)) (fun _ h9 => h9) rfl dX9_findMode_39 ?_
        refine lv_if_eq (tgt := 47) hx hb dX9_findMode_42 (by decide) (fun c4 => ?_) (fun c4 => ?_)
        · have ef0 := ift ef0 c4
          refine lv_aload_n hx hb dX9_findMode_47 rfl (lv_at hl 0 rfl) ?_
          refine va_get (D := D) (ci := 9) (v := .int h_stage) (C := RX9) (T := TX9) (N := 44) hx hb hts in_wsX9_findMode_X9 hown hK hP 0 rfl rfl 38 (by decide) (hts (.fieldLink RX9 214 "AssistRowsModel" "stage" "I") (List.mem_of_getElem? (i := 6) rfl)) (fun _ h9 => h9) rfl dX9_findMode_48 ?_
          refine lv_iconst (v := (1 : Int32)) hx hb dX9_findMode_51 (by decide) ?_
          refine lv_icmp_le (tgt := 59) hx hb dX9_findMode_52 (by decide) (fun c5 => ?_) (fun c5 => ?_)
          · have ef0 := ift ef0 c5
            refine lv_aload_n hx hb dX9_findMode_59 rfl (lv_at hl 0 rfl) ?_
            refine va_get (D := D) (ci := 9) (v := .double h_pedal) (C := RX9) (T := TX9) (N := 44) hx hb hts in_wsX9_findMode_X9 hown hK hP 0 rfl rfl 23 (by decide) (hts (.fieldLink RX9 131 "AssistRowsModel" "pedal" "D") (List.mem_of_getElem? (i := 7) rfl)) (fun _ h9 => h9) rfl dX9_findMode_60 ?_
            refine lv_dconst0 hx hb dX9_findMode_63 ?_
            refine lv_dcmp hx hb dX9_findMode_64 ?_
            refine lv_if_gt (tgt := 77) hx hb dX9_findMode_65 (by decide) (fun c6 => ?_) (fun c6 => ?_)
            · have ef0 := ift ef0 c6
              refine lv_iconst (v := (2 : Int32)) hx hb dX9_findMode_77 (by decide) ?_
              refine lv_goto (tgt := 93) hx hb dX9_findMode_78 (by decide) ?_
              have q0 := Option.some.inj ef0
              exact xIret q0 rfl hx hb hr hlk hP hD hS dX9_findMode_93
            · have ef0 := iff_ ef0 c6
              refine lv_aload_n hx hb dX9_findMode_68 rfl (lv_at hl 0 rfl) ?_
              refine va_get (D := D) (ci := 9) (v := .double h_brake) (C := RX9) (T := TX9) (N := 44) hx hb hts in_wsX9_findMode_X9 hown hK hP 0 rfl rfl 24 (by decide) (hts (.fieldLink RX9 134 "AssistRowsModel" "brake" "D") (List.mem_of_getElem? (i := 8) rfl)) (fun _ h9 => h9) rfl dX9_findMode_69 ?_
              refine lv_dconst0 hx hb dX9_findMode_72 ?_
              refine lv_dcmp hx hb dX9_findMode_73 ?_
              refine lv_if_le (tgt := 81) hx hb dX9_findMode_74 (by decide) (fun c7 => ?_) (fun c7 => ?_)
              · have ef0 := ift ef0 c7
                refine lv_aload_n hx hb dX9_findMode_81 rfl (lv_at hl 0 rfl) ?_
                refine va_get (D := D) (ci := 9) (v := .int h_lead) (C := RX9) (T := TX9) (N := 44) hx hb hts in_wsX9_findMode_X9 hown hK hP 0 rfl rfl 35 (by decide) (hts (.fieldLink RX9 77 "AssistRowsModel" "lead" "I") (List.mem_of_getElem? (i := 9) rfl)) (fun _ h9 => h9) rfl dX9_findMode_82 ?_
                refine lv_if_lt (tgt := 92) hx hb dX9_findMode_85 (by decide) (fun c8 => ?_) (fun c8 => ?_)
                · have ef0 := ift ef0 c8
                  refine lv_iconst (v := (0 : Int32)) hx hb dX9_findMode_92 (by decide) ?_
                  have q0 := Option.some.inj ef0
                  exact xIret q0 rfl hx hb hr hlk hP hD hS dX9_findMode_93
                · have ef0 := iff_ ef0 c8
                  refine lv_iconst (v := (1 : Int32)) hx hb dX9_findMode_88 (by decide) ?_
                  refine lv_goto (tgt := 93) hx hb dX9_findMode_89 (by decide) ?_
                  have q0 := Option.some.inj ef0
                  exact xIret q0 rfl hx hb hr hlk hP hD hS dX9_findMode_93
              · have ef0 := iff_ ef0 c7
                refine lv_iconst (v := (2 : Int32)) hx hb dX9_findMode_77 (by decide) ?_
                refine lv_goto (tgt := 93) hx hb dX9_findMode_78 (by decide) ?_
                have q0 := Option.some.inj ef0
                exact xIret q0 rfl hx hb hr hlk hP hD hS dX9_findMode_93
          · have ef0 := iff_ ef0 c5
            refine lv_iconst (v := (3 : Int32)) hx hb dX9_findMode_55 (by decide) ?_
            refine lv_goto (tgt := 93) hx hb dX9_findMode_56 (by decide) ?_
            have q0 := Option.some.inj ef0
            exact xIret q0 rfl hx hb hr hlk hP hD hS dX9_findMode_93
        · have ef0 := iff_ ef0 c4
          refine lv_iconst (v := (4 : Int32)) hx hb dX9_findMode_45 (by decide) ?_
          have q0 := Option.some.inj ef0
          exact xIret q0 rfl hx hb hr hlk hP hD hS dX9_findMode_46
      · have ef0 := ift ef0 c3
        refine lv_aload_n hx hb dX9_findMode_27 rfl (lv_at hl 0 rfl) ?_
        obtain ⟨u9, hu9, ef0⟩ := bd_of ef0
        refine xCalld (wr := []) (wn := [(h_a, .inr (9, [.int h_fault, .double h_now, .double h_speed, .ref h_isThere_a, .ref h_x_a, .ref h_y_a, .ref h_v_a, .ref h_sure_a, .ref h_coast_a, .ref h_many_a, .ref h_mx_a, .ref h_my_a, .ref h_mv_a, .ref h_taken_a, .ref h_way_a, .ref h_toldFirst_a, .ref h_toldSecond_a, .ref h_speedFirst_a, .int h_differs, .int h_differing, .double h_offset, .double h_slope, .double h_curve, .double h_pedal, .double h_brake, .double h_steer, .int h_isOn, .double h_offAt, .int h_isAsked, .double h_askedAt, .int h_isStopping, .double h_wished, .double h_gap, .double h_braking, .double h_pull, .int h_lead, .double h_left, .double h_leadX, .int h_stage, .int h_mode, .double h_force, .double h_wheel, .ref h_counts_a, .int h_sign]))]) [0] [] [0] (va_runV (As := []) (rest := []) ⟨hx, hb, hml, hown, hts⟩ (c_X9_off l D H.size h_a h_isThere_a h_x_a h_y_a h_v_a h_sure_a h_coast_a h_many_a h_mx_a h_my_a h_mv_a h_taken_a h_way_a h_toldFirst_a h_toldSecond_a h_speedFirst_a h_counts_a h_fault h_now h_speed h_differs h_differing h_offset h_slope h_curve h_pedal h_brake h_steer h_isOn h_offAt h_isAsked h_askedAt h_isStopping h_wished h_gap h_braking h_pull h_lead h_left h_leadX h_stage h_mode h_force h_wheel h_sign u9 hu9) (cwV 0 hts gX9_findMode_X9_off rfl rfl rfl (by decide +kernel) ⟨Nat.le_of_ble_eq_true rfl, Nat.le_of_ble_eq_true rfl⟩) (xPreV (ci := 9) (q0 := 0) hP hD hK hN rfl rfl [0] rfl rfl [] rfl) rfl rfl hl.1 rfl (lv_room (Nat.le_of_ble_eq_true rfl)) dX9_findMode_28 ⟨Nat.zero_le _, Nat.zero_le _⟩) hP hD hS hA rfl rfl rfl (by decide) rfl rfl (fun H locs hP hD hS => ?_)
        refine lv_ldc2d hx hb hown (hts (.constantDouble RX9 228 (4624633867356078080)) (List.mem_of_getElem? (i := 4) rfl)) dX9_findMode_31 ?_
        refine lv_dcmp hx hb dX9_findMode_34 ?_
        refine lv_if_ge (tgt := 45) hx hb dX9_findMode_35 (by decide) (fun c10 => ?_) (fun c10 => ?_)
        · have ef0 := ift ef0 c10
          refine lv_iconst (v := (4 : Int32)) hx hb dX9_findMode_45 (by decide) ?_
          have q0 := Option.some.inj ef0
          exact xIret q0 rfl hx hb hr hlk hP hD hS dX9_findMode_46
        · have ef0 := iff_ ef0 c10
          refine lv_aload_n hx hb dX9_findMode_38 rfl (lv_at hl 0 rfl) ?_
          refine va_get (D := D) (ci := 9) (v := .int h_isAsked) (C := RX9) (T := TX9) (N := 44) hx hb hts in_wsX9_findMode_X9 hown hK hP 0 rfl rfl 28 (by decide) (hts (.fieldLink RX9 152 "AssistRowsModel" "isAsked" "Z") (List.mem_of_getElem? (i := 5) rfl)) (fun _ h9 => h9) rfl dX9_findMode_39 ?_
          refine lv_if_eq (tgt := 47) hx hb dX9_findMode_42 (by decide) (fun c11 => ?_) (fun c11 => ?_)
          · have ef0 := ift ef0 c11
            refine lv_aload_n hx hb dX9_findMode_47 rfl (lv_at hl 0 rfl) ?_
            refine va_get (D := D) (ci := 9) (v := .int h_stage) (C := RX9) (T := TX9) (N := 44) hx hb hts in_wsX9_findMode_X9 hown hK hP 0 rfl rfl 38 (by decide) (hts (.fieldLink RX9 214 "AssistRowsModel" "stage" "I") (List.mem_of_getElem? (i := 6) rfl)) (fun _ h9 => h9) rfl dX9_findMode_48 ?_
            refine lv_iconst (v := (1 : Int32)) hx hb dX9_findMode_51 (by decide) ?_
            refine lv_icmp_le (tgt := 59) hx hb dX9_findMode_52 (by decide) (fun c12 => ?_) (fun c12 => ?_)
            · have ef0 := ift ef0 c12
              refine lv_aload_n hx hb dX9_findMode_59 rfl (lv_at hl 0 rfl) ?_
              refine va_get (D := D) (ci := 9) (v := .double h_pedal) (C := RX9) (T := TX9) (N := 44) hx hb hts in_wsX9_findMode_X9 hown hK hP 0 rfl rfl 23 (by decide) (hts (.fieldLink RX9 131 "AssistRowsModel" "pedal" "D") (List.mem_of_getElem? (i := 7) rfl)) (fun _ h9 => h9) rfl dX9_findMode_60 ?_
              refine lv_dconst0 hx hb dX9_findMode_63 ?_
              refine lv_dcmp hx hb dX9_findMode_64 ?_
              refine lv_if_gt (tgt := 77) hx hb dX9_findMode_65 (by decide) (fun c13 => ?_) (fun c13 => ?_)
              · have ef0 := ift ef0 c13
                refine lv_iconst (v := (2 : Int32)) hx hb dX9_findMode_77 (by decide) ?_
                refine lv_goto (tgt := 93) hx hb dX9_findMode_78 (by decide) ?_
                have q0 := Option.some.inj ef0
                exact xIret q0 rfl hx hb hr hlk hP hD hS dX9_findMode_93
              · have ef0 := iff_ ef0 c13
                refine lv_aload_n hx hb dX9_findMode_68 rfl (lv_at hl 0 rfl) ?_
                refine va_get (D := D) (ci := 9) (v := .double h_brake) (C := RX9) (T := TX9) (N := 44) hx hb hts in_wsX9_findMode_X9 hown hK hP 0 rfl rfl 24 (by decide) (hts (.fieldLink RX9 134 "AssistRowsModel" "brake" "D") (List.mem_of_getElem? (i := 8) rfl)) (fun _ h9 => h9) rfl dX9_findMode_69 ?_
                refine lv_dconst0 hx hb dX9_findMode_72 ?_
                refine lv_dcmp hx hb dX9_findMode_73 ?_
                refine lv_if_le (tgt := 81) hx hb dX9_findMode_74 (by decide) (fun c14 => ?_) (fun c14 => ?_)
                · have ef0 := ift ef0 c14
                  refine lv_aload_n hx hb dX9_findMode_81 rfl (lv_at hl 0 rfl) ?_
                  refine va_get (D := D) (ci := 9) (v := .int h_lead) (C := RX9) (T := TX9) (N := 44) hx hb hts in_wsX9_findMode_X9 hown hK hP 0 rfl rfl 35 (by decide) (hts (.fieldLink RX9 77 "AssistRowsModel" "lead" "I") (List.mem_of_getElem? (i := 9) rfl)) (fun _ h9 => h9) rfl dX9_findMode_82 ?_
                  refine lv_if_lt (tgt := 92) hx hb dX9_findMode_85 (by decide) (fun c15 => ?_) (fun c15 => ?_)
                  · have ef0 := ift ef0 c15
                    refine lv_iconst (v := (0 : Int32)) hx hb dX9_findMode_92 (by decide) ?_
                    have q0 := Option.some.inj ef0
                    exact xIret q0 rfl hx hb hr hlk hP hD hS dX9_findMode_93
                  · have ef0 := iff_ ef0 c15
                    refine lv_iconst (v := (1 : Int32)) hx hb dX9_findMode_88 (by decide) ?_
                    refine lv_goto (tgt := 93) hx hb dX9_findMode_89 (by decide) ?_
                    have q0 := Option.some.inj ef0
                    exact xIret q0 rfl hx hb hr hlk hP hD hS dX9_findMode_93
                · have ef0 := iff_ ef0 c14
                  refine lv_iconst (v := (2 : Int32)) hx hb dX9_findMode_77 (by decide) ?_
                  refine lv_goto (tgt := 93) hx hb dX9_findMode_78 (by decide) ?_
                  have q0 := Option.some.inj ef0
                  exact xIret q0 rfl hx hb hr hlk hP hD hS dX9_findMode_93
            · have ef0 := iff_ ef0 c12
              refine lv_iconst (v := (3 : Int32)) hx hb dX9_findMode_55 (by decide) ?_
              refine lv_goto (tgt := 93) hx hb dX9_findMode_56 (by decide) ?_
              have q0 := Option.some.inj ef0
              exact xIret q0 rfl hx hb hr hlk hP hD hS dX9_findMode_93
          · have ef0 := iff_ ef0 c11
            refine lv_iconst (v := (4 : Int32)) hx hb dX9_findMode_45 (by decide) ?_
            have q0 := Option.some.inj ef0
            exact xIret q0 rfl hx hb hr hlk hP hD hS dX9_findMode_46
    · have ef0 := iff_ ef0 c2
      refine lv_iconst (v := (5 : Int32)) hx hb dX9_findMode_18 (by decide) ?_
      have q0 := Option.some.inj ef0
      exact xIret q0 rfl hx hb hr hlk hP hD hS dX9_findMode_19
  · have ef0 := iff_ ef0 c1
    refine lv_bipush (v := (6 : Int32)) hx hb dX9_findMode_8 (by decide) ?_
    have q0 := Option.some.inj ef0
    exact xIret q0 rfl hx hb hr hlk hP hD hS dX9_findMode_10

theorem in_wsX9_rise_X9 : ∀ w ∈ wsX90, w ∈ wsX9_rise := fun _ h => List.mem_cons_of_mem _ (List.mem_append_right _ h)
def f_X9_rise_j2 (h_stage : Int32) (b8 : Int32) : Option Int32 :=
  if b8 ≤ h_stage then (
  some b8) else
  some (h_stage + (1 : Int32))
def f_X9_rise_j1 (h_steer : UInt64) (h_stage : Int32) (b5 : Int32) : Option Int32 :=
  (f_X9_size h_steer).bind fun u6 =>
  if (Op.cmpValue (FP.dcmp u6 (4599075939470750515 : UInt64)) .l) ≤ 0 then (
  f_X9_rise_j2 h_stage b5) else
  f_X9_rise_j2 h_stage (0 : Int32)
def f_X9_rise (h_steer : UInt64) (h_left : UInt64) (h_stage : Int32) : Option Int32 :=
  if 0 ≤ (Op.cmpValue (FP.dcmp h_left FP.dconst0) .g) then (
  if 0 ≤ (Op.cmpValue (FP.dcmp h_left (4605380978949069210 : UInt64)) .g) then (
  if 0 ≤ (Op.cmpValue (FP.dcmp h_left (4609884578576439706 : UInt64)) .g) then (
  if 0 ≤ (Op.cmpValue (FP.dcmp h_left (4613037098315599053 : UInt64)) .g) then (
  f_X9_rise_j1 h_steer h_stage (0 : Int32)) else
  f_X9_rise_j1 h_steer h_stage (1 : Int32)) else
  f_X9_rise_j1 h_steer h_stage (2 : Int32)) else
  f_X9_rise_j1 h_steer h_stage (3 : Int32)) else
  f_X9_rise_j1 h_steer h_stage (0 : Int32)
set_option maxHeartbeats 4000000 in
set_option maxRecDepth 100000 in
theorem c_X9_rise (l : Launch) (D : va_G) (sz : Nat) (h_a : Nat) (h_isThere_a : Nat) (h_x_a : Nat) (h_y_a : Nat) (h_v_a : Nat) (h_sure_a : Nat) (h_coast_a : Nat) (h_many_a : Nat) (h_mx_a : Nat) (h_my_a : Nat) (h_mv_a : Nat) (h_taken_a : Nat) (h_way_a : Nat) (h_toldFirst_a : Nat) (h_toldSecond_a : Nat) (h_speedFirst_a : Nat) (h_counts_a : Nat) (h_fault : Int32) (h_now : UInt64) (h_speed : UInt64) (h_differs : Int32) (h_differing : Int32) (h_offset : UInt64) (h_slope : UInt64) (h_curve : UInt64) (h_pedal : UInt64) (h_brake : UInt64) (h_steer : UInt64) (h_isOn : Int32) (h_offAt : UInt64) (h_isAsked : Int32) (h_askedAt : UInt64) (h_isStopping : Int32) (h_wished : UInt64) (h_gap : UInt64) (h_braking : UInt64) (h_pull : UInt64) (h_lead : Int32) (h_left : UInt64) (h_leadX : UInt64) (h_stage : Int32) (h_mode : Int32) (h_force : UInt64) (h_wheel : UInt64) (h_sign : Int32) (r0 : Int32) (hf : f_X9_rise h_steer h_left h_stage = some r0) : Met l yX9_rise wsX9_rise { frames := 1, cells := 0, slots := 0, locals := 21 } (va_Pc [.ref h_a] (xPre D [(h_a, .inr (9, [.int h_fault, .double h_now, .double h_speed, .ref h_isThere_a, .ref h_x_a, .ref h_y_a, .ref h_v_a, .ref h_sure_a, .ref h_coast_a, .ref h_many_a, .ref h_mx_a, .ref h_my_a, .ref h_mv_a, .ref h_taken_a, .ref h_way_a, .ref h_toldFirst_a, .ref h_toldSecond_a, .ref h_speedFirst_a, .int h_differs, .int h_differing, .double h_offset, .double h_slope, .double h_curve, .double h_pedal, .double h_brake, .double h_steer, .int h_isOn, .double h_offAt, .int h_isAsked, .double h_askedAt, .int h_isStopping, .double h_wished, .double h_gap, .double h_braking, .double h_pull, .int h_lead, .double h_left, .double h_leadX, .int h_stage, .int h_mode, .double h_force, .double h_wheel, .ref h_counts_a, .int h_sign]))] [] sz)) (va_Qv (fun (_ : Unit) => True) (fun _ => xB D (va_A [(h_a, .inr (9, [.int h_fault, .double h_now, .double h_speed, .ref h_isThere_a, .ref h_x_a, .ref h_y_a, .ref h_v_a, .ref h_sure_a, .ref h_coast_a, .ref h_many_a, .ref h_mx_a, .ref h_my_a, .ref h_mv_a, .ref h_taken_a, .ref h_way_a, .ref h_toldFirst_a, .ref h_toldSecond_a, .ref h_speedFirst_a, .int h_differs, .int h_differing, .double h_offset, .double h_slope, .double h_curve, .double h_pedal, .double h_brake, .double h_steer, .int h_isOn, .double h_offAt, .int h_isAsked, .double h_askedAt, .int h_isStopping, .double h_wished, .double h_gap, .double h_braking, .double h_pull, .int h_lead, .double h_left, .double h_leadX, .int h_stage, .int h_mode, .double h_force, .double h_wheel, .ref h_counts_a, .int h_sign]))] sz) [(h_a, .inr (9, [.int h_fault, .double h_now, .double h_speed, .ref h_isThere_a, .ref h_x_a, .ref h_y_a, .ref h_v_a, .ref h_sure_a, .ref h_coast_a, .ref h_many_a, .ref h_mx_a, .ref h_my_a, .ref h_mv_a, .ref h_taken_a, .ref h_way_a, .ref h_toldFirst_a, .ref h_toldSecond_a, .ref h_speedFirst_a, .int h_differs, .int h_differing, .double h_offset, .double h_slope, .double h_curve, .double h_pedal, .double h_brake, .double h_steer, .int h_isOn, .double h_offAt, .int h_isAsked, .double h_askedAt, .int h_isStopping, .double h_wished, .double h_gap, .double h_braking, .double h_pull, .int h_lead, .double h_left, .double h_leadX, .int r0, .int h_mode, .double h_force, .double h_wheel, .ref h_counts_a, .int h_sign]))]) (va_A [(h_a, .inr (9, [.int h_fault, .double h_now, .double h_speed, .ref h_isThere_a, .ref h_x_a, .ref h_y_a, .ref h_v_a, .ref h_sure_a, .ref h_coast_a, .ref h_many_a, .ref h_mx_a, .ref h_my_a, .ref h_mv_a, .ref h_taken_a, .ref h_way_a, .ref h_toldFirst_a, .ref h_toldSecond_a, .ref h_speedFirst_a, .int h_differs, .int h_differing, .double h_offset, .double h_slope, .double h_curve, .double h_pedal, .double h_brake, .double h_steer, .int h_isOn, .double h_offAt, .int h_isAsked, .double h_askedAt, .int h_isStopping, .double h_wished, .double h_gap, .double h_braking, .double h_pull, .int h_lead, .double h_left, .double h_leadX, .int h_stage, .int h_mode, .double h_force, .double h_wheel, .ref h_counts_a, .int h_sign]))] sz)) 0 0 (va_A [(h_a, .inr (9, [.int h_fault, .double h_now, .double h_speed, .ref h_isThere_a, .ref h_x_a, .ref h_y_a, .ref h_v_a, .ref h_sure_a, .ref h_coast_a, .ref h_many_a, .ref h_mx_a, .ref h_my_a, .ref h_mv_a, .ref h_taken_a, .ref h_way_a, .ref h_toldFirst_a, .ref h_toldSecond_a, .ref h_speedFirst_a, .int h_differs, .int h_differing, .double h_offset, .double h_slope, .double h_curve, .double h_pedal, .double h_brake, .double h_steer, .int h_isOn, .double h_offAt, .int h_isAsked, .double h_askedAt, .int h_isStopping, .double h_wished, .double h_gap, .double h_braking, .double h_pull, .int h_lead, .double h_left, .double h_leadX, .int h_stage, .int h_mode, .double h_force, .double h_wheel, .ref h_counts_a, .int h_sign]))] sz) := by
  refine xOfW (l := l) (y := yX9_rise) (ws := wsX9_rise) (D := D) (cells := [(h_a, .inr (9, [.int h_fault, .double h_now, .double h_speed, .ref h_isThere_a, .ref h_x_a, .ref h_y_a, .ref h_v_a, .ref h_sure_a, .ref h_coast_a, .ref h_many_a, .ref h_mx_a, .ref h_my_a, .ref h_mv_a, .ref h_taken_a, .ref h_way_a, .ref h_toldFirst_a, .ref h_toldSecond_a, .ref h_speedFirst_a, .int h_differs, .int h_differing, .double h_offset, .double h_slope, .double h_curve, .double h_pedal, .double h_brake, .double h_steer, .int h_isOn, .double h_offAt, .int h_isAsked, .double h_askedAt, .int h_isStopping, .double h_wished, .double h_gap, .double h_braking, .double h_pull, .int h_lead, .double h_left, .double h_leadX, .int h_stage, .int h_mode, .double h_force, .double h_wheel, .ref h_counts_a, .int h_sign]))]) (tys := []) (sz := sz) (av := [.ref h_a]) (cc := cX9_rise) (maxL := 2) (ret := none) (fun A => va_Qv (fun (_ : Unit) => True) (fun _ => xB D A [(h_a, .inr (9, [.int h_fault, .double h_now, .double h_speed, .ref h_isThere_a, .ref h_x_a, .ref h_y_a, .ref h_v_a, .ref h_sure_a, .ref h_coast_a, .ref h_many_a, .ref h_mx_a, .ref h_my_a, .ref h_mv_a, .ref h_taken_a, .ref h_way_a, .ref h_toldFirst_a, .ref h_toldSecond_a, .ref h_speedFirst_a, .int h_differs, .int h_differing, .double h_offset, .double h_slope, .double h_curve, .double h_pedal, .double h_brake, .double h_steer, .int h_isOn, .double h_offAt, .int h_isAsked, .double h_askedAt, .int h_isStopping, .double h_wished, .double h_gap, .double h_braking, .double h_pull, .int h_lead, .double h_left, .double h_leadX, .int r0, .int h_mode, .double h_force, .double h_wheel, .ref h_counts_a, .int h_sign]))]) A) (by decide) rfl (Nat.le_of_ble_eq_true rfl) ?_
  intro p e s m below meth c A H ls hx hb hr hml hown hlk hts hP hK hD hS hA hN hl
  have hl : lv_has ls 2 [(0, .ref h_a)] := hl
  have hown : s.vm.findClass RX9 = some m.cls := hown
  have ef0 : f_X9_rise h_steer h_left h_stage = some r0 := hf
  rewrite [f_X9_rise] at ef0
  refine lv_aload_n hx hb dX9_rise_0 rfl (lv_at hl 0 rfl) ?_
  refine va_get (D := D) (ci := 9) (v := .double h_left) (C := RX9) (T := TX9) (N := 44) hx hb hts in_wsX9_rise_X9 hown hK hP 0 rfl rfl 36 (by decide) (hts (.fieldLink RX9 83 "AssistRowsModel" "left" "D") (List.mem_of_getElem? (i := 1) rfl)) (fun _ h9 => h9) rfl dX9_rise_1 ?_
  refine lv_dconst0 hx hb dX9_rise_4 ?_
  refine lv_dcmp hx hb dX9_rise_5 ?_
  refine xCut (ι := Int32) (fun z H locs ls => f_X9_rise_j1 h_steer h_stage z = some r0 ∧ va_P D vwCl [(h_a, .inr (9, [.int h_fault, .double h_now, .double h_speed, .ref h_isThere_a, .ref h_x_a, .ref h_y_a, .ref h_v_a, .ref h_sure_a, .ref h_coast_a, .ref h_many_a, .ref h_mx_a, .ref h_my_a, .ref h_mv_a, .ref h_taken_a, .ref h_way_a, .ref h_toldFirst_a, .ref h_toldSecond_a, .ref h_speedFirst_a, .int h_differs, .int h_differing, .double h_offset, .double h_slope, .double h_curve, .double h_pedal, .double h_brake, .double h_steer, .int h_isOn, .double h_offAt, .int h_isAsked, .double h_askedAt, .int h_isStopping, .double h_wished, .double h_gap, .double h_braking, .double h_pull, .int h_lead, .double h_left, .double h_leadX, .int h_stage, .int h_mode, .double h_force, .double h_wheel, .ref h_counts_a, .int h_sign]))] H ∧ va_D A [(h_a, .inr (9, [.int h_fault, .double h_now, .double h_speed, .ref h_isThere_a, .ref h_x_a, .ref h_y_a, .ref h_v_a, .ref h_sure_a, .ref h_coast_a, .ref h_many_a, .ref h_mx_a, .ref h_my_a, .ref h_mv_a, .ref h_taken_a, .ref h_way_a, .ref h_toldFirst_a, .ref h_toldSecond_a, .ref h_speedFirst_a, .int h_differs, .int h_differing, .double h_offset, .double h_slope, .double h_curve, .double h_pedal, .double h_brake, .double h_steer, .int h_isOn, .double h_offAt, .int h_isAsked, .double h_askedAt, .int h_isStopping, .double h_wished, .double h_gap, .double h_braking, .double h_pull, .int h_lead, .double h_left, .double h_leadX, .int h_stage, .int h_mode, .double h_force, .double h_wheel, .ref h_counts_a, .int h_sign]))] ∧ va_S A s.heap H locs ∧ lv_has ls 2 [(0, .ref h_a)]) 59 (fun z => [.int z]) ?_ (fun K1 => ?_)
  · intro z H locs ls hz
    obtain ⟨b5, rfl⟩ : ∃ q, q = z := ⟨z, rfl⟩
    obtain ⟨ef0, hP, hD, hS, hl⟩ := hz
    have ef0 : f_X9_rise_j1 h_steer h_stage b5 = some r0 := ef0
    have hP : va_P D vwCl [(h_a, .inr (9, [.int h_fault, .double h_now, .double h_speed, .ref h_isThere_a, .ref h_x_a, .ref h_y_a, .ref h_v_a, .ref h_sure_a, .ref h_coast_a, .ref h_many_a, .ref h_mx_a, .ref h_my_a, .ref h_mv_a, .ref h_taken_a, .ref h_way_a, .ref h_toldFirst_a, .ref h_toldSecond_a, .ref h_speedFirst_a, .int h_differs, .int h_differing, .double h_offset, .double h_slope, .double h_curve, .double h_pedal, .double h_brake, .double h_steer, .int h_isOn, .double h_offAt, .int h_isAsked, .double h_askedAt, .int h_isStopping, .double h_wished, .double h_gap, .double h_braking, .double h_pull, .int h_lead, .double h_left, .double h_leadX, .int h_stage, .int h_mode, .double h_force, .double h_wheel, .ref h_counts_a, .int h_sign]))] H := hP
    have hD : va_D A [(h_a, .inr (9, [.int h_fault, .double h_now, .double h_speed, .ref h_isThere_a, .ref h_x_a, .ref h_y_a, .ref h_v_a, .ref h_sure_a, .ref h_coast_a, .ref h_many_a, .ref h_mx_a, .ref h_my_a, .ref h_mv_a, .ref h_taken_a, .ref h_way_a, .ref h_toldFirst_a, .ref h_toldSecond_a, .ref h_speedFirst_a, .int h_differs, .int h_differing, .double h_offset, .double h_slope, .double h_curve, .double h_pedal, .double h_brake, .double h_steer, .int h_isOn, .double h_offAt, .int h_isAsked, .double h_askedAt, .int h_isStopping, .double h_wished, .double h_gap, .double h_braking, .double h_pull, .int h_lead, .double h_left, .double h_leadX, .int h_stage, .int h_mode, .double h_force, .double h_wheel, .ref h_counts_a, .int h_sign]))] := hD
    have hl : lv_has ls 2 [(0, .ref h_a)] := hl
    rewrite [f_X9_rise_j1] at ef0
    refine W.eq (g2 := F0 m 59 ls [.int b5]) rfl ?_
    refine lv_istore_n (lv' := [(1, .int b5), (0, .ref h_a)]) hx hb dX9_rise_59 rfl hl (by decide) rfl (fun ls hl => ?_)
    refine lv_aload_n hx hb dX9_rise_60 rfl (lv_at hl 1 rfl) ?_
    refine va_get (D := D) (ci := 9) (v := .double h_steer) (C := RX9) (T := TX9) (N := 44) hx hb hts in_wsX9_rise_X9 hown hK hP 0 rfl rfl 25 (by decide) (hts (.fieldLink RX9 137 "AssistRowsModel" "steer" "D") (List.mem_of_getElem? (i := 5) rfl)) (fun _ h9 => h9) rfl dX9_rise_61 ?_
    obtain ⟨u6, hu6, ef0⟩ := bd_of ef0
    refine xCalld (wr := [(h_a, .inr (9, [.int h_fault, .double h_now, .double h_speed, .ref h_isThere_a, .ref h_x_a, .ref h_y_a, .ref h_v_a, .ref h_sure_a, .ref h_coast_a, .ref h_many_a, .ref h_mx_a, .ref h_my_a, .ref h_mv_a, .ref h_taken_a, .ref h_way_a, .ref h_toldFirst_a, .ref h_toldSecond_a, .ref h_speedFirst_a, .int h_differs, .int h_differing, .double h_offset, .double h_slope, .double h_curve, .double h_pedal, .double h_brake, .double h_steer, .int h_isOn, .double h_offAt, .int h_isAsked, .double h_askedAt, .int h_isStopping, .double h_wished, .double h_gap, .double h_braking, .double h_pull, .int h_lead, .double h_left, .double h_leadX, .int h_stage, .int h_mode, .double h_force, .double h_wheel, .ref h_counts_a, .int h_sign]))]) (wn := [(h_a, .inr (9, [.int h_fault, .double h_now, .double h_speed, .ref h_isThere_a, .ref h_x_a, .ref h_y_a, .ref h_v_a, .ref h_sure_a, .ref h_coast_a, .ref h_many_a, .ref h_mx_a, .ref h_my_a, .ref h_mv_a, .ref h_taken_a, .ref h_way_a, .ref h_toldFirst_a, .ref h_toldSecond_a, .ref h_speedFirst_a, .int h_differs, .int h_differing, .double h_offset, .double h_slope, .double h_curve, .double h_pedal, .double h_brake, .double h_steer, .int h_isOn, .double h_offAt, .int h_isAsked, .double h_askedAt, .int h_isStopping, .double h_wished, .double h_gap, .double h_braking, .double h_pull, .int h_lead, .double h_left, .double h_leadX, .int h_stage, .int h_mode, .double h_force, .double h_wheel, .ref h_counts_a, .int h_sign]))]) [] [0] [0] (va_runS (As := [.double h_steer]) (rest := []) ⟨hx, hb, hml, hown, hts⟩ (c_X9_size l D H.size h_steer u6 hu6) (va_cwS 1 hts gX9_rise_X9_size rfl rfl rfl (by decide +kernel) ⟨Nat.le_of_ble_eq_true rfl, Nat.le_of_ble_eq_true rfl⟩) (xPreS hP hD hK hN [] rfl rfl [] rfl) rfl rfl hl.1 rfl (lv_room (Nat.le_of_ble_eq_true rfl)) dX9_rise_64 ⟨Nat.zero_le _, Nat.zero_le _⟩) hP hD hS hA rfl rfl rfl (by decide) rfl rfl (fun H locs hP hD hS => ?_)
    refine lv_ldc2d hx hb hown (hts (.constantDouble RX9 212 (4599075939470750515)) (List.mem_of_getElem? (i := 6) rfl)) dX9_rise_67 ?_
    refine lv_dcmp hx hb dX9_rise_70 ?_
    refine xCut (ι := Int32) (fun z H locs ls => f_X9_rise_j2 h_stage z = some r0 ∧ va_P D vwCl [(h_a, .inr (9, [.int h_fault, .double h_now, .double h_speed, .ref h_isThere_a, .ref h_x_a, .ref h_y_a, .ref h_v_a, .ref h_sure_a, .ref h_coast_a, .ref h_many_a, .ref h_mx_a, .ref h_my_a, .ref h_mv_a, .ref h_taken_a, .ref h_way_a, .ref h_toldFirst_a, .ref h_toldSecond_a, .ref h_speedFirst_a, .int h_differs, .int h_differing, .double h_offset, .double h_slope, .double h_curve, .double h_pedal, .double h_brake, .double h_steer, .int h_isOn, .double h_offAt, .int h_isAsked, .double h_askedAt, .int h_isStopping, .double h_wished, .double h_gap, .double h_braking, .double h_pull, .int h_lead, .double h_left, .double h_leadX, .int h_stage, .int h_mode, .double h_force, .double h_wheel, .ref h_counts_a, .int h_sign]))] H ∧ va_D A [(h_a, .inr (9, [.int h_fault, .double h_now, .double h_speed, .ref h_isThere_a, .ref h_x_a, .ref h_y_a, .ref h_v_a, .ref h_sure_a, .ref h_coast_a, .ref h_many_a, .ref h_mx_a, .ref h_my_a, .ref h_mv_a, .ref h_taken_a, .ref h_way_a, .ref h_toldFirst_a, .ref h_toldSecond_a, .ref h_speedFirst_a, .int h_differs, .int h_differing, .double h_offset, .double h_slope, .double h_curve, .double h_pedal, .double h_brake, .double h_steer, .int h_isOn, .double h_offAt, .int h_isAsked, .double h_askedAt, .int h_isStopping, .double h_wished, .double h_gap, .double h_braking, .double h_pull, .int h_lead, .double h_left, .double h_leadX, .int h_stage, .int h_mode, .double h_force, .double h_wheel, .ref h_counts_a, .int h_sign]))] ∧ va_S A s.heap H locs ∧ lv_has ls 2 [(0, .ref h_a)]) 79 (fun z => [.int z]) ?_ (fun K2 => ?_)
    · intro z H locs ls hz
      obtain ⟨b8, rfl⟩ : ∃ q, q = z := ⟨z, rfl⟩
      obtain ⟨ef0, hP, hD, hS, hl⟩ := hz
      have ef0 : f_X9_rise_j2 h_stage b8 = some r0 := ef0
      have hP : va_P D vwCl [(h_a, .inr (9, [.int h_fault, .double h_now, .double h_speed, .ref h_isThere_a, .ref h_x_a, .ref h_y_a, .ref h_v_a, .ref h_sure_a, .ref h_coast_a, .ref h_many_a, .ref h_mx_a, .ref h_my_a, .ref h_mv_a, .ref h_taken_a, .ref h_way_a, .ref h_toldFirst_a, .ref h_toldSecond_a, .ref h_speedFirst_a, .int h_differs, .int h_differing, .double h_offset, .double h_slope, .double h_curve, .double h_pedal, .double h_brake, .double h_steer, .int h_isOn, .double h_offAt, .int h_isAsked, .double h_askedAt, .int h_isStopping, .double h_wished, .double h_gap, .double h_braking, .double h_pull, .int h_lead, .double h_left, .double h_leadX, .int h_stage, .int h_mode, .double h_force, .double h_wheel, .ref h_counts_a, .int h_sign]))] H := hP
      have hD : va_D A [(h_a, .inr (9, [.int h_fault, .double h_now, .double h_speed, .ref h_isThere_a, .ref h_x_a, .ref h_y_a, .ref h_v_a, .ref h_sure_a, .ref h_coast_a, .ref h_many_a, .ref h_mx_a, .ref h_my_a, .ref h_mv_a, .ref h_taken_a, .ref h_way_a, .ref h_toldFirst_a, .ref h_toldSecond_a, .ref h_speedFirst_a, .int h_differs, .int h_differing, .double h_offset, .double h_slope, .double h_curve, .double h_pedal, .double h_brake, .double h_steer, .int h_isOn, .double h_offAt, .int h_isAsked, .double h_askedAt, .int h_isStopping, .double h_wished, .double h_gap, .double h_braking, .double h_pull, .int h_lead, .double h_left, .double h_leadX, .int h_stage, .int h_mode, .double h_force, .double h_wheel, .ref h_counts_a, .int h_sign]))] := hD
      have hl : lv_has ls 2 [(0, .ref h_a)] := hl
      rewrite [f_X9_rise_j2] at ef0
      refine W.eq (g2 := F0 m 79 ls [.int b8]) rfl ?_
      refine lv_istore_n (lv' := [(1, .int b8), (0, .ref h_a)]) hx hb dX9_rise_79 rfl hl (by decide) rfl (fun ls hl => ?_)
      refine lv_aload_n hx hb dX9_rise_80 rfl (lv_at hl 1 rfl) ?_
      refine lv_iload_n hx hb dX9_rise_81 rfl (lv_at hl 0 rfl) ?_
      refine lv_aload_n hx hb dX9_rise_82 rfl (lv_at hl 1 rfl) ?_
      refine va_get (D := D) (ci := 9) (v := .int h_stage) (C := RX9) (T := TX9) (N := 44) hx hb hts in_wsX9_rise_X9 hown hK hP 0 rfl rfl 38 (by decide) (hts (.fieldLink RX9 214 "AssistRowsModel" "stage" "I") (List.mem_of_getElem? (i := 7) rfl)) (fun _ h9 => h9) rfl dX9_rise_83 ?_
      refine lv_icmp_le (tgt := 98) hx hb dX9_rise_86 (by decide) (fun c9 => ?_) (fun c9 => ?_)
      · have ef0 := ift ef0 c9
        refine lv_iload_n hx hb dX9_rise_98 rfl (lv_at hl 0 rfl) ?_
        refine va_put (D := D) (ci := 9) (v := .int b8) (ty := .int) (C := RX9) (T := TX9) (N := 44) hx hb hts in_wsX9_rise_X9 tyX9 tyX9_ok nmX9 hown hK hP hD hS 0 rfl rfl 38 (by decide) (hts (.fieldLink RX9 214 "AssistRowsModel" "stage" "I") (List.mem_of_getElem? (i := 7) rfl)) (fun _ h9 => h9) rfl (by decide +kernel) rfl rfl (Nat.le_of_ble_eq_true rfl) dX9_rise_99 (fun H locs hP hD hS => ?_)
        have hP : va_P D vwCl [(h_a, .inr (9, [.int h_fault, .double h_now, .double h_speed, .ref h_isThere_a, .ref h_x_a, .ref h_y_a, .ref h_v_a, .ref h_sure_a, .ref h_coast_a, .ref h_many_a, .ref h_mx_a, .ref h_my_a, .ref h_mv_a, .ref h_taken_a, .ref h_way_a, .ref h_toldFirst_a, .ref h_toldSecond_a, .ref h_speedFirst_a, .int h_differs, .int h_differing, .double h_offset, .double h_slope, .double h_curve, .double h_pedal, .double h_brake, .double h_steer, .int h_isOn, .double h_offAt, .int h_isAsked, .double h_askedAt, .int h_isStopping, .double h_wished, .double h_gap, .double h_braking, .double h_pull, .int h_lead, .double h_left, .double h_leadX, .int b8, .int h_mode, .double h_force, .double h_wheel, .ref h_counts_a, .int h_sign]))] H := hP
        have hD : va_D A [(h_a, .inr (9, [.int h_fault, .double h_now, .double h_speed, .ref h_isThere_a, .ref h_x_a, .ref h_y_a, .ref h_v_a, .ref h_sure_a, .ref h_coast_a, .ref h_many_a, .ref h_mx_a, .ref h_my_a, .ref h_mv_a, .ref h_taken_a, .ref h_way_a, .ref h_toldFirst_a, .ref h_toldSecond_a, .ref h_speedFirst_a, .int h_differs, .int h_differing, .double h_offset, .double h_slope, .double h_curve, .double h_pedal, .double h_brake, .double h_steer, .int h_isOn, .double h_offAt, .int h_isAsked, .double h_askedAt, .int h_isStopping, .double h_wished, .double h_gap, .double h_braking, .double h_pull, .int h_lead, .double h_left, .double h_leadX, .int b8, .int h_mode, .double h_force, .double h_wheel, .ref h_counts_a, .int h_sign]))] := hD
        have q0 := Option.some.inj ef0
        exact xVret (by rw [← q0]) hx hb hr hlk hP hD hS dX9_rise_102
      · have ef0 := iff_ ef0 c9
        refine lv_aload_n hx hb dX9_rise_89 rfl (lv_at hl 1 rfl) ?_
        refine va_get (D := D) (ci := 9) (v := .int h_stage) (C := RX9) (T := TX9) (N := 44) hx hb hts in_wsX9_rise_X9 hown hK hP 0 rfl rfl 38 (by decide) (hts (.fieldLink RX9 214 "AssistRowsModel" "stage" "I") (List.mem_of_getElem? (i := 7) rfl)) (fun _ h9 => h9) rfl dX9_rise_90 ?_
        refine lv_iconst (v := (1 : Int32)) hx hb dX9_rise_93 (by decide) ?_
        refine lv_iadd hx hb dX9_rise_94 ?_
        refine lv_goto (tgt := 99) hx hb dX9_rise_95 (by decide) ?_
        refine va_put (D := D) (ci := 9) (v := .int (h_stage + (1 : Int32))) (ty := .int) (C := RX9) (T := TX9) (N := 44) hx hb hts in_wsX9_rise_X9 tyX9 tyX9_ok nmX9 hown hK hP hD hS 0 rfl rfl 38 (by decide) (hts (.fieldLink RX9 214 "AssistRowsModel" "stage" "I") (List.mem_of_getElem? (i := 7) rfl)) (fun _ h9 => h9) rfl (by decide +kernel) rfl rfl (Nat.le_of_ble_eq_true rfl) dX9_rise_99 (fun H locs hP hD hS => ?_)
        have hP : va_P D vwCl [(h_a, .inr (9, [.int h_fault, .double h_now, .double h_speed, .ref h_isThere_a, .ref h_x_a, .ref h_y_a, .ref h_v_a, .ref h_sure_a, .ref h_coast_a, .ref h_many_a, .ref h_mx_a, .ref h_my_a, .ref h_mv_a, .ref h_taken_a, .ref h_way_a, .ref h_toldFirst_a, .ref h_toldSecond_a, .ref h_speedFirst_a, .int h_differs, .int h_differing, .double h_offset, .double h_slope, .double h_curve, .double h_pedal, .double h_brake, .double h_steer, .int h_isOn, .double h_offAt, .int h_isAsked, .double h_askedAt, .int h_isStopping, .double h_wished, .double h_gap, .double h_braking, .double h_pull, .int h_lead, .double h_left, .double h_leadX, .int (h_stage + (1 : Int32)), .int h_mode, .double h_force, .double h_wheel, .ref h_counts_a, .int h_sign]))] H := hP
        have hD : va_D A [(h_a, .inr (9, [.int h_fault, .double h_now, .double h_speed, .ref h_isThere_a, .ref h_x_a, .ref h_y_a, .ref h_v_a, .ref h_sure_a, .ref h_coast_a, .ref h_many_a, .ref h_mx_a, .ref h_my_a, .ref h_mv_a, .ref h_taken_a, .ref h_way_a, .ref h_toldFirst_a, .ref h_toldSecond_a, .ref h_speedFirst_a, .int h_differs, .int h_differing, .double h_offset, .double h_slope, .double h_curve, .double h_pedal, .double h_brake, .double h_steer, .int h_isOn, .double h_offAt, .int h_isAsked, .double h_askedAt, .int h_isStopping, .double h_wished, .double h_gap, .double h_braking, .double h_pull, .int h_lead, .double h_left, .double h_leadX, .int (h_stage + (1 : Int32)), .int h_mode, .double h_force, .double h_wheel, .ref h_counts_a, .int h_sign]))] := hD
        have q0 := Option.some.inj ef0
        exact xVret (by rw [← q0]) hx hb hr hlk hP hD hS dX9_rise_102
    refine lv_if_le (tgt := 78) hx hb dX9_rise_71 (by decide) (fun c7 => ?_) (fun c7 => ?_)
    · have ef0 := ift ef0 c7
      refine lv_iload_n hx hb dX9_rise_78 rfl (lv_at hl 0 rfl) ?_
      exact K2 b5 _ _ _ ⟨ef0, hP, hD, hS, lv_sub hl [1] rfl⟩
    · have ef0 := iff_ ef0 c7
      refine lv_iconst (v := (0 : Int32)) hx hb dX9_rise_74 (by decide) ?_
      refine lv_goto (tgt := 79) hx hb dX9_rise_75 (by decide) ?_
      exact K2 (0 : Int32) _ _ _ ⟨ef0, hP, hD, hS, lv_sub hl [1] rfl⟩
  refine lv_if_ge (tgt := 13) hx hb dX9_rise_6 (by decide) (fun c1 => ?_) (fun c1 => ?_)
  · have ef0 := ift ef0 c1
    refine lv_aload_n hx hb dX9_rise_13 rfl (lv_at hl 0 rfl) ?_
    refine va_get (D := D) (ci := 9) (v := .double h_left) (C := RX9) (T := TX9) (N := 44) hx hb hts in_wsX9_rise_X9 hown hK hP 0 rfl rfl 36 (by decide) (hts (.fieldLink RX9 83 "AssistRowsModel" "left" "D") (List.mem_of_getElem? (i := 1) rfl)) (fun _ h9 => h9) rfl dX9_rise_14 ?_
    refine lv_ldc2d hx hb hown (hts (.constantDouble RX9 206 (4605380978949069210)) (List.mem_of_getElem? (i := 2) rfl)) dX9_rise_17 ?_
    refine lv_dcmp hx hb dX9_rise_20 ?_
    refine lv_if_ge (tgt := 28) hx hb dX9_rise_21 (by decide) (fun c2 => ?_) (fun c2 => ?_)
    · have ef0 := ift ef0 c2
      refine lv_aload_n hx hb dX9_rise_28 rfl (lv_at hl 0 rfl) ?_
      refine va_get (D := D) (ci := 9) (v := .double h_left) (C := RX9) (T := TX9) (N := 44) hx hb hts in_wsX9_rise_X9 hown hK hP 0 rfl rfl 36 (by decide) (hts (.fieldLink RX9 83 "AssistRowsModel" "left" "D") (List.mem_of_getElem? (i := 1) rfl)) (fun _ h9 => h9) rfl dX9_rise_29 ?_
      refine lv_ldc2d hx hb hown (hts (.constantDouble RX9 208 (4609884578576439706)) (List.mem_of_getElem? (i := 3) rfl)) dX9_rise_32 ?_
      refine lv_dcmp hx hb dX9_rise_35 ?_
      refine lv_if_ge (tgt := 43) hx hb dX9_rise_36 (by decide) (fun c3 => ?_) (fun c3 => ?_)
      · have ef0 := ift ef0 c3
        refine lv_aload_n hx hb dX9_rise_43 rfl (lv_at hl 0 rfl) ?_
        refine va_get (D := D) (ci := 9) (v := .double h_left) (C := RX9) (T := TX9) (N := 44) hx hb hts in_wsX9_rise_X9 hown hK hP 0 rfl rfl 36 (by decide) (hts (.fieldLink RX9 83 "AssistRowsModel" "left" "D") (List.mem_of_getElem? (i := 1) rfl)) (fun _ h9 => h9) rfl dX9_rise_44 ?_
        refine lv_ldc2d hx hb hown (hts (.constantDouble RX9 210 (4613037098315599053)) (List.mem_of_getElem? (i := 4) rfl)) dX9_rise_47 ?_
        refine lv_dcmp hx hb dX9_rise_50 ?_
        refine lv_if_ge (tgt := 58) hx hb dX9_rise_51 (by decide) (fun c4 => ?_) (fun c4 => ?_)
        · have ef0 := ift ef0 c4
          refine lv_iconst (v := (0 : Int32)) hx hb dX9_rise_58 (by decide) ?_
          exact K1 (0 : Int32) _ _ _ ⟨ef0, hP, hD, hS, lv_sub hl [0] rfl⟩
        · have ef0 := iff_ ef0 c4
          refine lv_iconst (v := (1 : Int32)) hx hb dX9_rise_54 (by decide) ?_
          refine lv_goto (tgt := 59) hx hb dX9_rise_55 (by decide) ?_
          exact K1 (1 : Int32) _ _ _ ⟨ef0, hP, hD, hS, lv_sub hl [0] rfl⟩
      · have ef0 := iff_ ef0 c3
        refine lv_iconst (v := (2 : Int32)) hx hb dX9_rise_39 (by decide) ?_
        refine lv_goto (tgt := 59) hx hb dX9_rise_40 (by decide) ?_
        exact K1 (2 : Int32) _ _ _ ⟨ef0, hP, hD, hS, lv_sub hl [0] rfl⟩
    · have ef0 := iff_ ef0 c2
      refine lv_iconst (v := (3 : Int32)) hx hb dX9_rise_24 (by decide) ?_
      refine lv_goto (tgt := 59) hx hb dX9_rise_25 (by decide) ?_
      exact K1 (3 : Int32) _ _ _ ⟨ef0, hP, hD, hS, lv_sub hl [0] rfl⟩
  · have ef0 := iff_ ef0 c1
    refine lv_iconst (v := (0 : Int32)) hx hb dX9_rise_9 (by decide) ?_
    refine lv_goto (tgt := 59) hx hb dX9_rise_10 (by decide) ?_
    exact K1 (0 : Int32) _ _ _ ⟨ef0, hP, hD, hS, lv_sub hl [0] rfl⟩

theorem in_wsX9_turn_X9 : ∀ w ∈ wsX90, w ∈ wsX9_turn := fun _ h => List.mem_cons_of_mem _ (List.mem_append_right _ h)
def f_X9_turn_j1 (h_wheel : UInt64) (b8 : UInt64) : Option UInt64 :=
  ck (nnb (FP.dsub b8 h_wheel) = true) <|
  (f_X9_size (FP.dsub b8 h_wheel)).bind fun u10 =>
  if 0 < (Op.cmpValue (FP.dcmp u10 (4587366580439587226 : UInt64)) .g) then (
  if (Op.cmpValue (FP.dcmp b8 h_wheel) .l) ≤ 0 then (
  ck (nnb (FP.dsub h_wheel (4587366580439587226 : UInt64)) = true) <|
  some (FP.dsub h_wheel (4587366580439587226 : UInt64))) else
  ck (nnb (FP.dadd h_wheel (4587366580439587226 : UInt64)) = true) <|
  some (FP.dadd h_wheel (4587366580439587226 : UInt64))) else
  some b8
def f_X9_turn (h_offset : UInt64) (h_slope : UInt64) (h_steer : UInt64) (h_wheel : UInt64) : Option UInt64 :=
  ck (nnb (FP.dmul (4591870180066957722 : UInt64) h_offset) = true) <|
  ck (nnb (FP.dmul (4602678819172646912 : UInt64) h_slope) = true) <|
  ck (nnb (FP.dadd (FP.dmul (4591870180066957722 : UInt64) h_offset) (FP.dmul (4602678819172646912 : UInt64) h_slope)) = true) <|
  ck (nnb (FP.dsub FP.dconst0 (FP.dadd (FP.dmul (4591870180066957722 : UInt64) h_offset) (FP.dmul (4602678819172646912 : UInt64) h_slope))) = true) <|
  (f_X9_between (FP.dsub FP.dconst0 (FP.dadd (FP.dmul (4591870180066957722 : UInt64) h_offset) (FP.dmul (4602678819172646912 : UInt64) h_slope))) (13822447976325526323 : UInt64) (4599075939470750515 : UInt64)).bind fun u5 =>
  (f_X9_size h_steer).bind fun u6 =>
  if (Op.cmpValue (FP.dcmp u6 (4587366580439587226 : UInt64)) .l) ≤ 0 then (
  f_X9_turn_j1 h_wheel u5) else
  f_X9_turn_j1 h_wheel FP.dconst0
set_option maxHeartbeats 4000000 in
set_option maxRecDepth 100000 in
theorem c_X9_turn (l : Launch) (D : va_G) (sz : Nat) (h_a : Nat) (h_isThere_a : Nat) (h_x_a : Nat) (h_y_a : Nat) (h_v_a : Nat) (h_sure_a : Nat) (h_coast_a : Nat) (h_many_a : Nat) (h_mx_a : Nat) (h_my_a : Nat) (h_mv_a : Nat) (h_taken_a : Nat) (h_way_a : Nat) (h_toldFirst_a : Nat) (h_toldSecond_a : Nat) (h_speedFirst_a : Nat) (h_counts_a : Nat) (h_fault : Int32) (h_now : UInt64) (h_speed : UInt64) (h_differs : Int32) (h_differing : Int32) (h_offset : UInt64) (h_slope : UInt64) (h_curve : UInt64) (h_pedal : UInt64) (h_brake : UInt64) (h_steer : UInt64) (h_isOn : Int32) (h_offAt : UInt64) (h_isAsked : Int32) (h_askedAt : UInt64) (h_isStopping : Int32) (h_wished : UInt64) (h_gap : UInt64) (h_braking : UInt64) (h_pull : UInt64) (h_lead : Int32) (h_left : UInt64) (h_leadX : UInt64) (h_stage : Int32) (h_mode : Int32) (h_force : UInt64) (h_wheel : UInt64) (h_sign : Int32) (r0 : UInt64) (hf : f_X9_turn h_offset h_slope h_steer h_wheel = some r0) : Met l yX9_turn wsX9_turn { frames := 1, cells := 0, slots := 0, locals := 25 } (va_Pc [.ref h_a] (xPre D [(h_a, .inr (9, [.int h_fault, .double h_now, .double h_speed, .ref h_isThere_a, .ref h_x_a, .ref h_y_a, .ref h_v_a, .ref h_sure_a, .ref h_coast_a, .ref h_many_a, .ref h_mx_a, .ref h_my_a, .ref h_mv_a, .ref h_taken_a, .ref h_way_a, .ref h_toldFirst_a, .ref h_toldSecond_a, .ref h_speedFirst_a, .int h_differs, .int h_differing, .double h_offset, .double h_slope, .double h_curve, .double h_pedal, .double h_brake, .double h_steer, .int h_isOn, .double h_offAt, .int h_isAsked, .double h_askedAt, .int h_isStopping, .double h_wished, .double h_gap, .double h_braking, .double h_pull, .int h_lead, .double h_left, .double h_leadX, .int h_stage, .int h_mode, .double h_force, .double h_wheel, .ref h_counts_a, .int h_sign]))] [] sz)) (va_Qv (fun (_ : Unit) => True) (fun _ => xB D (va_A [(h_a, .inr (9, [.int h_fault, .double h_now, .double h_speed, .ref h_isThere_a, .ref h_x_a, .ref h_y_a, .ref h_v_a, .ref h_sure_a, .ref h_coast_a, .ref h_many_a, .ref h_mx_a, .ref h_my_a, .ref h_mv_a, .ref h_taken_a, .ref h_way_a, .ref h_toldFirst_a, .ref h_toldSecond_a, .ref h_speedFirst_a, .int h_differs, .int h_differing, .double h_offset, .double h_slope, .double h_curve, .double h_pedal, .double h_brake, .double h_steer, .int h_isOn, .double h_offAt, .int h_isAsked, .double h_askedAt, .int h_isStopping, .double h_wished, .double h_gap, .double h_braking, .double h_pull, .int h_lead, .double h_left, .double h_leadX, .int h_stage, .int h_mode, .double h_force, .double h_wheel, .ref h_counts_a, .int h_sign]))] sz) [(h_a, .inr (9, [.int h_fault, .double h_now, .double h_speed, .ref h_isThere_a, .ref h_x_a, .ref h_y_a, .ref h_v_a, .ref h_sure_a, .ref h_coast_a, .ref h_many_a, .ref h_mx_a, .ref h_my_a, .ref h_mv_a, .ref h_taken_a, .ref h_way_a, .ref h_toldFirst_a, .ref h_toldSecond_a, .ref h_speedFirst_a, .int h_differs, .int h_differing, .double h_offset, .double h_slope, .double h_curve, .double h_pedal, .double h_brake, .double h_steer, .int h_isOn, .double h_offAt, .int h_isAsked, .double h_askedAt, .int h_isStopping, .double h_wished, .double h_gap, .double h_braking, .double h_pull, .int h_lead, .double h_left, .double h_leadX, .int h_stage, .int h_mode, .double h_force, .double r0, .ref h_counts_a, .int h_sign]))]) (va_A [(h_a, .inr (9, [.int h_fault, .double h_now, .double h_speed, .ref h_isThere_a, .ref h_x_a, .ref h_y_a, .ref h_v_a, .ref h_sure_a, .ref h_coast_a, .ref h_many_a, .ref h_mx_a, .ref h_my_a, .ref h_mv_a, .ref h_taken_a, .ref h_way_a, .ref h_toldFirst_a, .ref h_toldSecond_a, .ref h_speedFirst_a, .int h_differs, .int h_differing, .double h_offset, .double h_slope, .double h_curve, .double h_pedal, .double h_brake, .double h_steer, .int h_isOn, .double h_offAt, .int h_isAsked, .double h_askedAt, .int h_isStopping, .double h_wished, .double h_gap, .double h_braking, .double h_pull, .int h_lead, .double h_left, .double h_leadX, .int h_stage, .int h_mode, .double h_force, .double h_wheel, .ref h_counts_a, .int h_sign]))] sz)) 0 0 (va_A [(h_a, .inr (9, [.int h_fault, .double h_now, .double h_speed, .ref h_isThere_a, .ref h_x_a, .ref h_y_a, .ref h_v_a, .ref h_sure_a, .ref h_coast_a, .ref h_many_a, .ref h_mx_a, .ref h_my_a, .ref h_mv_a, .ref h_taken_a, .ref h_way_a, .ref h_toldFirst_a, .ref h_toldSecond_a, .ref h_speedFirst_a, .int h_differs, .int h_differing, .double h_offset, .double h_slope, .double h_curve, .double h_pedal, .double h_brake, .double h_steer, .int h_isOn, .double h_offAt, .int h_isAsked, .double h_askedAt, .int h_isStopping, .double h_wished, .double h_gap, .double h_braking, .double h_pull, .int h_lead, .double h_left, .double h_leadX, .int h_stage, .int h_mode, .double h_force, .double h_wheel, .ref h_counts_a, .int h_sign]))] sz) := by
  refine xOfW (l := l) (y := yX9_turn) (ws := wsX9_turn) (D := D) (cells := [(h_a, .inr (9, [.int h_fault, .double h_now, .double h_speed, .ref h_isThere_a, .ref h_x_a, .ref h_y_a, .ref h_v_a, .ref h_sure_a, .ref h_coast_a, .ref h_many_a, .ref h_mx_a, .ref h_my_a, .ref h_mv_a, .ref h_taken_a, .ref h_way_a, .ref h_toldFirst_a, .ref h_toldSecond_a, .ref h_speedFirst_a, .int h_differs, .int h_differing, .double h_offset, .double h_slope, .double h_curve, .double h_pedal, .double h_brake, .double h_steer, .int h_isOn, .double h_offAt, .int h_isAsked, .double h_askedAt, .int h_isStopping, .double h_wished, .double h_gap, .double h_braking, .double h_pull, .int h_lead, .double h_left, .double h_leadX, .int h_stage, .int h_mode, .double h_force, .double h_wheel, .ref h_counts_a, .int h_sign]))]) (tys := []) (sz := sz) (av := [.ref h_a]) (cc := cX9_turn) (maxL := 3) (ret := none) (fun A => va_Qv (fun (_ : Unit) => True) (fun _ => xB D A [(h_a, .inr (9, [.int h_fault, .double h_now, .double h_speed, .ref h_isThere_a, .ref h_x_a, .ref h_y_a, .ref h_v_a, .ref h_sure_a, .ref h_coast_a, .ref h_many_a, .ref h_mx_a, .ref h_my_a, .ref h_mv_a, .ref h_taken_a, .ref h_way_a, .ref h_toldFirst_a, .ref h_toldSecond_a, .ref h_speedFirst_a, .int h_differs, .int h_differing, .double h_offset, .double h_slope, .double h_curve, .double h_pedal, .double h_brake, .double h_steer, .int h_isOn, .double h_offAt, .int h_isAsked, .double h_askedAt, .int h_isStopping, .double h_wished, .double h_gap, .double h_braking, .double h_pull, .int h_lead, .double h_left, .double h_leadX, .int h_stage, .int h_mode, .double h_force, .double r0, .ref h_counts_a, .int h_sign]))]) A) (by decide) rfl (Nat.le_of_ble_eq_true rfl) ?_
  intro p e s m below meth c A H ls hx hb hr hml hown hlk hts hP hK hD hS hA hN hl
  have hl : lv_has ls 3 [(0, .ref h_a)] := hl
  have hown : s.vm.findClass RX9 = some m.cls := hown
  have ef0 : f_X9_turn h_offset h_slope h_steer h_wheel = some r0 := hf
  rewrite [f_X9_turn] at ef0
  refine lv_dconst0 hx hb dX9_turn_0 ?_
  refine lv_ldc2d hx hb hown (hts (.constantDouble RX9 249 (4591870180066957722)) (List.mem_of_getElem? (i := 1) rfl)) dX9_turn_1 ?_
  refine lv_aload_n hx hb dX9_turn_4 rfl (lv_at hl 0 rfl) ?_
  refine va_get (D := D) (ci := 9) (v := .double h_offset) (C := RX9) (T := TX9) (N := 44) hx hb hts in_wsX9_turn_X9 hown hK hP 0 rfl rfl 20 (by decide) (hts (.fieldLink RX9 122 "AssistRowsModel" "offset" "D") (List.mem_of_getElem? (i := 2) rfl)) (fun _ h9 => h9) rfl dX9_turn_5 ?_
  obtain ⟨h1, ef0⟩ := ck_of ef0
  refine lv_dmul hx hb dX9_turn_8 (nn_of h1) ?_
  refine lv_ldc2d hx hb hown (hts (.constantDouble RX9 142 (4602678819172646912)) (List.mem_of_getElem? (i := 3) rfl)) dX9_turn_9 ?_
  refine lv_aload_n hx hb dX9_turn_12 rfl (lv_at hl 0 rfl) ?_
  refine va_get (D := D) (ci := 9) (v := .double h_slope) (C := RX9) (T := TX9) (N := 44) hx hb hts in_wsX9_turn_X9 hown hK hP 0 rfl rfl 21 (by decide) (hts (.fieldLink RX9 125 "AssistRowsModel" "slope" "D") (List.mem_of_getElem? (i := 4) rfl)) (fun _ h9 => h9) rfl dX9_turn_13 ?_
  obtain ⟨h2, ef0⟩ := ck_of ef0
  refine lv_dmul hx hb dX9_turn_16 (nn_of h2) ?_
  obtain ⟨h3, ef0⟩ := ck_of ef0
  refine lv_dadd hx hb dX9_turn_17 (nn_of h3) ?_
  obtain ⟨h4, ef0⟩ := ck_of ef0
  refine lv_dsub hx hb dX9_turn_18 (nn_of h4) ?_
  refine lv_ldc2d hx hb hown (hts (.constantDouble RX9 251 (13822447976325526323)) (List.mem_of_getElem? (i := 5) rfl)) dX9_turn_19 ?_
  refine lv_ldc2d hx hb hown (hts (.constantDouble RX9 212 (4599075939470750515)) (List.mem_of_getElem? (i := 6) rfl)) dX9_turn_22 ?_
  obtain ⟨u5, hu5, ef0⟩ := bd_of ef0
  refine xCalld (wr := [(h_a, .inr (9, [.int h_fault, .double h_now, .double h_speed, .ref h_isThere_a, .ref h_x_a, .ref h_y_a, .ref h_v_a, .ref h_sure_a, .ref h_coast_a, .ref h_many_a, .ref h_mx_a, .ref h_my_a, .ref h_mv_a, .ref h_taken_a, .ref h_way_a, .ref h_toldFirst_a, .ref h_toldSecond_a, .ref h_speedFirst_a, .int h_differs, .int h_differing, .double h_offset, .double h_slope, .double h_curve, .double h_pedal, .double h_brake, .double h_steer, .int h_isOn, .double h_offAt, .int h_isAsked, .double h_askedAt, .int h_isStopping, .double h_wished, .double h_gap, .double h_braking, .double h_pull, .int h_lead, .double h_left, .double h_leadX, .int h_stage, .int h_mode, .double h_force, .double h_wheel, .ref h_counts_a, .int h_sign]))]) (wn := [(h_a, .inr (9, [.int h_fault, .double h_now, .double h_speed, .ref h_isThere_a, .ref h_x_a, .ref h_y_a, .ref h_v_a, .ref h_sure_a, .ref h_coast_a, .ref h_many_a, .ref h_mx_a, .ref h_my_a, .ref h_mv_a, .ref h_taken_a, .ref h_way_a, .ref h_toldFirst_a, .ref h_toldSecond_a, .ref h_speedFirst_a, .int h_differs, .int h_differing, .double h_offset, .double h_slope, .double h_curve, .double h_pedal, .double h_brake, .double h_steer, .int h_isOn, .double h_offAt, .int h_isAsked, .double h_askedAt, .int h_isStopping, .double h_wished, .double h_gap, .double h_braking, .double h_pull, .int h_lead, .double h_left, .double h_leadX, .int h_stage, .int h_mode, .double h_force, .double h_wheel, .ref h_counts_a, .int h_sign]))]) [] [0] [0] (va_runS (As := [.double (FP.dsub FP.dconst0 (FP.dadd (FP.dmul (4591870180066957722 : UInt64) h_offset) (FP.dmul (4602678819172646912 : UInt64) h_slope))), .double (13822447976325526323 : UInt64), .double (4599075939470750515 : UInt64)]) (rest := []) ⟨hx, hb, hml, hown, hts⟩ (c_X9_between l D H.size (FP.dsub FP.dconst0 (FP.dadd (FP.dmul (4591870180066957722 : UInt64) h_offset) (FP.dmul (4602678819172646912 : UInt64) h_slope))) (13822447976325526323 : UInt64) (4599075939470750515 : UInt64) u5 hu5) (va_cwS 3 hts gX9_turn_X9_between rfl rfl rfl (by decide +kernel) ⟨Nat.le_of_ble_eq_true rfl, Nat.le_of_ble_eq_true rfl⟩) (xPreS hP hD hK hN [] rfl rfl [] rfl) rfl rfl hl.1 rfl (lv_room (Nat.le_of_ble_eq_true rfl)) dX9_turn_25 ⟨Nat.zero_le _, Nat.zero_le _⟩) hP hD hS hA rfl rfl rfl (by decide) rfl rfl (fun H locs hP hD hS => ?_)
  refine lv_dstore_n (lv' := [(1, .double u5), (0, .ref h_a)]) hx hb dX9_turn_28 rfl hl (by decide) rfl (fun ls hl => ?_)
  refine lv_aload_n hx hb dX9_turn_29 rfl (lv_at hl 1 rfl) ?_
  refine va_get (D := D) (ci := 9) (v := .double h_steer) (C := RX9) (T := TX9) (N := 44) hx hb hts in_wsX9_turn_X9 hown hK hP 0 rfl rfl 25 (by decide) (hts (.fieldLink RX9 137 "AssistRowsModel" "steer" "D") (List.mem_of_getElem? (i := 7) rfl)) (fun _ h9 => h9) rfl dX9_turn_30 ?_
  obtain ⟨u6, hu6, ef0⟩ := bd_of ef0
  refine xCalld (wr := [(h_a, .inr (9, [.int h_fault, .double h_now, .double h_speed, .ref h_isThere_a, .ref h_x_a, .ref h_y_a, .ref h_v_a, .ref h_sure_a, .ref h_coast_a, .ref h_many_a, .ref h_mx_a, .ref h_my_a, .ref h_mv_a, .ref h_taken_a, .ref h_way_a, .ref h_toldFirst_a, .ref h_toldSecond_a, .ref h_speedFirst_a, .int h_differs, .int h_differing, .double h_offset, .double h_slope, .double h_curve, .double h_pedal, .double h_brake, .double h_steer, .int h_isOn, .double h_offAt, .int h_isAsked, .double h_askedAt, .int h_isStopping, .double h_wished, .double h_gap, .double h_braking, .double h_pull, .int h_lead, .double h_left, .double h_leadX, .int h_stage, .int h_mode, .double h_force, .double h_wheel, .ref h_counts_a, .int h_sign]))]) (wn := [(h_a, .inr (9, [.int h_fault, .double h_now, .double h_speed, .ref h_isThere_a, .ref h_x_a, .ref h_y_a, .ref h_v_a, .ref h_sure_a, .ref h_coast_a, .ref h_many_a, .ref h_mx_a, .ref h_my_a, .ref h_mv_a, .ref h_taken_a, .ref h_way_a, .ref h_toldFirst_a, .ref h_toldSecond_a, .ref h_speedFirst_a, .int h_differs, .int h_differing, .double h_offset, .double h_slope, .double h_curve, .double h_pedal, .double h_brake, .double h_steer, .int h_isOn, .double h_offAt, .int h_isAsked, .double h_askedAt, .int h_isStopping, .double h_wished, .double h_gap, .double h_braking, .double h_pull, .int h_lead, .double h_left, .double h_leadX, .int h_stage, .int h_mode, .double h_force, .double h_wheel, .ref h_counts_a, .int h_sign]))]) [] [0] [0] (va_runS (As := [.double h_steer]) (rest := []) ⟨hx, hb, hml, hown, hts⟩ (c_X9_size l D H.size h_steer u6 hu6) (va_cwS 1 hts gX9_turn_X9_size rfl rfl rfl (by decide +kernel) ⟨Nat.le_of_ble_eq_true rfl, Nat.le_of_ble_eq_true rfl⟩) (xPreS hP hD hK hN [] rfl rfl [] rfl) rfl rfl hl.1 rfl (lv_room (Nat.le_of_ble_eq_true rfl)) dX9_turn_33 ⟨Nat.zero_le _, Nat.zero_le _⟩) hP hD hS hA rfl rfl rfl (by decide) rfl rfl (fun H locs hP hD hS => ?_)
  refine lv_ldc2d hx hb hown (hts (.constantDouble RX9 253 (4587366580439587226)) (List.mem_of_getElem? (i := 8) rfl)) dX9_turn_36 ?_
  refine lv_dcmp hx hb dX9_turn_39 ?_
  refine xCut (ι := UInt64) (fun z H locs ls => f_X9_turn_j1 h_wheel z = some r0 ∧ va_P D vwCl [(h_a, .inr (9, [.int h_fault, .double h_now, .double h_speed, .ref h_isThere_a, .ref h_x_a, .ref h_y_a, .ref h_v_a, .ref h_sure_a, .ref h_coast_a, .ref h_many_a, .ref h_mx_a, .ref h_my_a, .ref h_mv_a, .ref h_taken_a, .ref h_way_a, .ref h_toldFirst_a, .ref h_toldSecond_a, .ref h_speedFirst_a, .int h_differs, .int h_differing, .double h_offset, .double h_slope, .double h_curve, .double h_pedal, .double h_brake, .double h_steer, .int h_isOn, .double h_offAt, .int h_isAsked, .double h_askedAt, .int h_isStopping, .double h_wished, .double h_gap, .double h_braking, .double h_pull, .int h_lead, .double h_left, .double h_leadX, .int h_stage, .int h_mode, .double h_force, .double h_wheel, .ref h_counts_a, .int h_sign]))] H ∧ va_D A [(h_a, .inr (9, [.int h_fault, .double h_now, .double h_speed, .ref h_isThere_a, .ref h_x_a, .ref h_y_a, .ref h_v_a, .ref h_sure_a, .ref h_coast_a, .ref h_many_a, .ref h_mx_a, .ref h_my_a, .ref h_mv_a, .ref h_taken_a, .ref h_way_a, .ref h_toldFirst_a, .ref h_toldSecond_a, .ref h_speedFirst_a, .int h_differs, .int h_differing, .double h_offset, .double h_slope, .double h_curve, .double h_pedal, .double h_brake, .double h_steer, .int h_isOn, .double h_offAt, .int h_isAsked, .double h_askedAt, .int h_isStopping, .double h_wished, .double h_gap, .double h_braking, .double h_pull, .int h_lead, .double h_left, .double h_leadX, .int h_stage, .int h_mode, .double h_force, .double h_wheel, .ref h_counts_a, .int h_sign]))] ∧ va_S A s.heap H locs ∧ lv_has ls 3 [(0, .ref h_a)]) 48 (fun z => [.double z]) ?_ (fun K1 => ?_)
  · intro z H locs ls hz
    obtain ⟨b8, rfl⟩ : ∃ q, q = z := ⟨z, rfl⟩
    obtain ⟨ef0, hP, hD, hS, hl⟩ := hz
    have ef0 : f_X9_turn_j1 h_wheel b8 = some r0 := ef0
    have hP : va_P D vwCl [(h_a, .inr (9, [.int h_fault, .double h_now, .double h_speed, .ref h_isThere_a, .ref h_x_a, .ref h_y_a, .ref h_v_a, .ref h_sure_a, .ref h_coast_a, .ref h_many_a, .ref h_mx_a, .ref h_my_a, .ref h_mv_a, .ref h_taken_a, .ref h_way_a, .ref h_toldFirst_a, .ref h_toldSecond_a, .ref h_speedFirst_a, .int h_differs, .int h_differing, .double h_offset, .double h_slope, .double h_curve, .double h_pedal, .double h_brake, .double h_steer, .int h_isOn, .double h_offAt, .int h_isAsked, .double h_askedAt, .int h_isStopping, .double h_wished, .double h_gap, .double h_braking, .double h_pull, .int h_lead, .double h_left, .double h_leadX, .int h_stage, .int h_mode, .double h_force, .double h_wheel, .ref h_counts_a, .int h_sign]))] H := hP
    have hD : va_D A [(h_a, .inr (9, [.int h_fault, .double h_now, .double h_speed, .ref h_isThere_a, .ref h_x_a, .ref h_y_a, .ref h_v_a, .ref h_sure_a, .ref h_coast_a, .ref h_many_a, .ref h_mx_a, .ref h_my_a, .ref h_mv_a, .ref h_taken_a, .ref h_way_a, .ref h_toldFirst_a, .ref h_toldSecond_a, .ref h_speedFirst_a, .int h_differs, .int h_differing, .double h_offset, .double h_slope, .double h_curve, .double h_pedal, .double h_brake, .double h_steer, .int h_isOn, .double h_offAt, .int h_isAsked, .double h_askedAt, .int h_isStopping, .double h_wished, .double h_gap, .double h_braking, .double h_pull, .int h_lead, .double h_left, .double h_leadX, .int h_stage, .int h_mode, .double h_force, .double h_wheel, .ref h_counts_a, .int h_sign]))] := hD
    have hl : lv_has ls 3 [(0, .ref h_a)] := hl
    rewrite [f_X9_turn_j1] at ef0
    refine W.eq (g2 := F0 m 48 ls [.double b8]) rfl ?_
    refine lv_dstore_n (lv' := [(1, .double b8), (0, .ref h_a)]) hx hb dX9_turn_48 rfl hl (by decide) rfl (fun ls hl => ?_)
    refine lv_aload_n hx hb dX9_turn_49 rfl (lv_at hl 1 rfl) ?_
    refine lv_dload_n hx hb dX9_turn_50 rfl (lv_at hl 0 rfl) ?_
    refine lv_aload_n hx hb dX9_turn_51 rfl (lv_at hl 1 rfl) ?_
    refine va_get (D := D) (ci := 9) (v := .double h_wheel) (C := RX9) (T := TX9) (N := 44) hx hb hts in_wsX9_turn_X9 hown hK hP 0 rfl rfl 41 (by decide) (hts (.fieldLink RX9 255 "AssistRowsModel" "wheel" "D") (List.mem_of_getElem? (i := 9) rfl)) (fun _ h9 => h9) rfl dX9_turn_52 ?_
    obtain ⟨h9, ef0⟩ := ck_of ef0
    refine lv_dsub hx hb dX9_turn_55 (nn_of h9) ?_
    obtain ⟨u10, hu10, ef0⟩ := bd_of ef0
    refine xCalld (wr := [(h_a, .inr (9, [.int h_fault, .double h_now, .double h_speed, .ref h_isThere_a, .ref h_x_a, .ref h_y_a, .ref h_v_a, .ref h_sure_a, .ref h_coast_a, .ref h_many_a, .ref h_mx_a, .ref h_my_a, .ref h_mv_a, .ref h_taken_a, .ref h_way_a, .ref h_toldFirst_a, .ref h_toldSecond_a, .ref h_speedFirst_a, .int h_differs, .int h_differing, .double h_offset, .double h_slope, .double h_curve, .double h_pedal, .double h_brake, .double h_steer, .int h_isOn, .double h_offAt, .int h_isAsked, .double h_askedAt, .int h_isStopping, .double h_wished, .double h_gap, .double h_braking, .double h_pull, .int h_lead, .double h_left, .double h_leadX, .int h_stage, .int h_mode, .double h_force, .double h_wheel, .ref h_counts_a, .int h_sign]))]) (wn := [(h_a, .inr (9, [.int h_fault, .double h_now, .double h_speed, .ref h_isThere_a, .ref h_x_a, .ref h_y_a, .ref h_v_a, .ref h_sure_a, .ref h_coast_a, .ref h_many_a, .ref h_mx_a, .ref h_my_a, .ref h_mv_a, .ref h_taken_a, .ref h_way_a, .ref h_toldFirst_a, .ref h_toldSecond_a, .ref h_speedFirst_a, .int h_differs, .int h_differing, .double h_offset, .double h_slope, .double h_curve, .double h_pedal, .double h_brake, .double h_steer, .int h_isOn, .double h_offAt, .int h_isAsked, .double h_askedAt, .int h_isStopping, .double h_wished, .double h_gap, .double h_braking, .double h_pull, .int h_lead, .double h_left, .double h_leadX, .int h_stage, .int h_mode, .double h_force, .double h_wheel, .ref h_counts_a, .int h_sign]))]) [] [0] [0] (va_runS (As := [.double (FP.dsub b8 h_wheel)]) (rest := [.ref h_a]) ⟨hx, hb, hml, hown, hts⟩ (c_X9_size l D H.size (FP.dsub b8 h_wheel) u10 hu10) (va_cwS 1 hts gX9_turn_X9_size rfl rfl rfl (by decide +kernel) ⟨Nat.le_of_ble_eq_true rfl, Nat.le_of_ble_eq_true rfl⟩) (xPreS hP hD hK hN [] rfl rfl [] rfl) rfl rfl hl.1 rfl (lv_room (Nat.le_of_ble_eq_true rfl)) dX9_turn_56 ⟨Nat.zero_le _, Nat.zero_le _⟩) hP hD hS hA rfl rfl rfl (by decide) rfl rfl (fun H locs hP hD hS => ?_)
    refine lv_ldc2d hx hb hown (hts (.constantDouble RX9 253 (4587366580439587226)) (List.mem_of_getElem? (i := 8) rfl)) dX9_turn_59 ?_
    refine lv_dcmp hx hb dX9_turn_62 ?_
    refine lv_if_gt (tgt := 70) hx hb dX9_turn_63 (by decide) (fun c11 => ?_) (fun c11 => ?_)
    · have ef0 := ift ef0 c11
      refine lv_dload_n hx hb dX9_turn_70 rfl (lv_at hl 0 rfl) ?_
      refine lv_aload_n hx hb dX9_turn_71 rfl (lv_at hl 1 rfl) ?_
      refine va_get (D := D) (ci := 9) (v := .double h_wheel) (C := RX9) (T := TX9) (N := 44) hx hb hts in_wsX9_turn_X9 hown hK hP 0 rfl rfl 41 (by decide) (hts (.fieldLink RX9 255 "AssistRowsModel" "wheel" "D") (List.mem_of_getElem? (i := 9) rfl)) (fun _ h9 => h9) rfl dX9_turn_72 ?_
      refine lv_dcmp hx hb dX9_turn_75 ?_
      refine lv_if_le (tgt := 90) hx hb dX9_turn_76 (by decide) (fun c12 => ?_) (fun c12 => ?_)
      · have ef0 := ift ef0 c12
        refine lv_aload_n hx hb dX9_turn_90 rfl (lv_at hl 1 rfl) ?_
        refine va_get (D := D) (ci := 9) (v := .double h_wheel) (C := RX9) (T := TX9) (N := 44) hx hb hts in_wsX9_turn_X9 hown hK hP 0 rfl rfl 41 (by decide) (hts (.fieldLink RX9 255 "AssistRowsModel" "wheel" "D") (List.mem_of_getElem? (i := 9) rfl)) (fun _ h9 => h9) rfl dX9_turn_91 ?_
        refine lv_ldc2d hx hb hown (hts (.constantDouble RX9 253 (4587366580439587226)) (List.mem_of_getElem? (i := 8) rfl)) dX9_turn_94 ?_
        obtain ⟨h13, ef0⟩ := ck_of ef0
        refine lv_dsub hx hb dX9_turn_97 (nn_of h13) ?_
        refine va_put (D := D) (ci := 9) (v := .double (FP.dsub h_wheel (4587366580439587226 : UInt64))) (ty := .double) (C := RX9) (T := TX9) (N := 44) hx hb hts in_wsX9_turn_X9 tyX9 tyX9_ok nmX9 hown hK hP hD hS 0 rfl rfl 41 (by decide) (hts (.fieldLink RX9 255 "AssistRowsModel" "wheel" "D") (List.mem_of_getElem? (i := 9) rfl)) (fun _ h9 => h9) rfl (by decide +kernel) rfl rfl (Nat.le_of_ble_eq_true rfl) dX9_turn_98 (fun H locs hP hD hS => ?_)
        have hP : va_P D vwCl [(h_a, .inr (9, [.int h_fault, .double h_now, .double h_speed, .ref h_isThere_a, .ref h_x_a, .ref h_y_a, .ref h_v_a, .ref h_sure_a, .ref h_coast_a, .ref h_many_a, .ref h_mx_a, .ref h_my_a, .ref h_mv_a, .ref h_taken_a, .ref h_way_a, .ref h_toldFirst_a, .ref h_toldSecond_a, .ref h_speedFirst_a, .int h_differs, .int h_differing, .double h_offset, .double h_slope, .double h_curve, .double h_pedal, .double h_brake, .double h_steer, .int h_isOn, .double h_offAt, .int h_isAsked, .double h_askedAt, .int h_isStopping, .double h_wished, .double h_gap, .double h_braking, .double h_pull, .int h_lead, .double h_left, .double h_leadX, .int h_stage, .int h_mode, .double h_force, .double (FP.dsub h_wheel (4587366580439587226 : UInt64)), .ref h_counts_a, .int h_sign]))] H := hP
        have hD : va_D A [(h_a, .inr (9, [.int h_fault, .double h_now, .double h_speed, .ref h_isThere_a, .ref h_x_a, .ref h_y_a, .ref h_v_a, .ref h_sure_a, .ref h_coast_a, .ref h_many_a, .ref h_mx_a, .ref h_my_a, .ref h_mv_a, .ref h_taken_a, .ref h_way_a, .ref h_toldFirst_a, .ref h_toldSecond_a, .ref h_speedFirst_a, .int h_differs, .int h_differing, .double h_offset, .double h_slope, .double h_curve, .double h_pedal, .double h_brake, .double h_steer, .int h_isOn, .double h_offAt, .int h_isAsked, .double h_askedAt, .int h_isStopping, .double h_wished, .double h_gap, .double h_braking, .double h_pull, .int h_lead, .double h_left, .double h_leadX, .int h_stage, .int h_mode, .double h_force, .double (FP.dsub h_wheel (4587366580439587226 : UInt64)), .ref h_counts_a, .int h_sign]))] := hD
        have q0 := Option.some.inj ef0
        exact xVret (by rw [← q0]) hx hb hr hlk hP hD hS dX9_turn_101
      · have ef0 := iff_ ef0 c12
        refine lv_aload_n hx hb dX9_turn_79 rfl (lv_at hl 1 rfl) ?_
        refine va_get (D := D) (ci := 9) (v := .double h_wheel) (C := RX9) (T := TX9) (N := 44) hx hb hts in_wsX9_turn_X9 hown hK hP 0 rfl rfl 41 (by decide) (hts (.fieldLink RX9 255 "AssistRowsModel" "wheel" "D") (List.mem_of_getElem? (i := 9) rfl)) (fun _ h9 => h9) rfl dX9_turn_80 ?_
        refine lv_ldc2d hx hb hown (hts (.constantDouble RX9 253 (4587366580439587226)) (List.mem_of_getElem? (i := 8) rfl)) dX9_turn_83 ?_
        obtain ⟨h14, ef0⟩ := ck_of ef0
        refine lv_dadd hx hb dX9_turn_86 (nn_of h14) ?_
        refine lv_goto (tgt := 98) hx hb dX9_turn_87 (by decide) ?_
        refine va_put (D := D) (ci := 9) (v := .double (FP.dadd h_wheel (4587366580439587226 : UInt64))) (ty := .double) (C := RX9) (T := TX9) (N := 44) hx hb hts in_wsX9_turn_X9 tyX9 tyX9_ok nmX9 hown hK hP hD hS 0 rfl rfl 41 (by decide) (hts (.fieldLink RX9 255 "AssistRowsModel" "wheel" "D") (List.mem_of_getElem? (i := 9) rfl)) (fun _ h9 => h9) rfl (by decide +kernel) rfl rfl (Nat.le_of_ble_eq_true rfl) dX9_turn_98 (fun H locs hP hD hS => ?_)
        have hP : va_P D vwCl [(h_a, .inr (9, [.int h_fault, .double h_now, .double h_speed, .ref h_isThere_a, .ref h_x_a, .ref h_y_a, .ref h_v_a, .ref h_sure_a, .ref h_coast_a, .ref h_many_a, .ref h_mx_a, .ref h_my_a, .ref h_mv_a, .ref h_taken_a, .ref h_way_a, .ref h_toldFirst_a, .ref h_toldSecond_a, .ref h_speedFirst_a, .int h_differs, .int h_differing, .double h_offset, .double h_slope, .double h_curve, .double h_pedal, .double h_brake, .double h_steer, .int h_isOn, .double h_offAt, .int h_isAsked, .double h_askedAt, .int h_isStopping, .double h_wished, .double h_gap, .double h_braking, .double h_pull, .int h_lead, .double h_left, .double h_leadX, .int h_stage, .int h_mode, .double h_force, .double (FP.dadd h_wheel (4587366580439587226 : UInt64)), .ref h_counts_a, .int h_sign]))] H := hP
        have hD : va_D A [(h_a, .inr (9, [.int h_fault, .double h_now, .double h_speed, .ref h_isThere_a, .ref h_x_a, .ref h_y_a, .ref h_v_a, .ref h_sure_a, .ref h_coast_a, .ref h_many_a, .ref h_mx_a, .ref h_my_a, .ref h_mv_a, .ref h_taken_a, .ref h_way_a, .ref h_toldFirst_a, .ref h_toldSecond_a, .ref h_speedFirst_a, .int h_differs, .int h_differing, .double h_offset, .double h_slope, .double h_curve, .double h_pedal, .double h_brake, .double h_steer, .int h_isOn, .double h_offAt, .int h_isAsked, .double h_askedAt, .int h_isStopping, .double h_wished, .double h_gap, .double h_braking, .double h_pull, .int h_lead, .double h_left, .double h_leadX, .int h_stage, .int h_mode, .double h_force, .double (FP.dadd h_wheel (4587366580439587226 : UInt64)), .ref h_counts_a, .int h_sign]))] := hD
        have q0 := Option.some.inj ef0
        exact xVret (by rw [← q0]) hx hb hr hlk hP hD hS dX9_turn_101
    · have ef0 := iff_ ef0 c11
      refine lv_dload_n hx hb dX9_turn_66 rfl (lv_at hl 0 rfl) ?_
      refine lv_goto (tgt := 98) hx hb dX9_turn_67 (by decide) ?_
      refine va_put (D := D) (ci := 9) (v := .double b8) (ty := .double) (C := RX9) (T := TX9) (N := 44) hx hb hts in_wsX9_turn_X9 tyX9 tyX9_ok nmX9 hown hK hP hD hS 0 rfl rfl 41 (by decide) (hts (.fieldLink RX9 255 "AssistRowsModel" "wheel" "D") (List.mem_of_getElem? (i := 9) rfl)) (fun _ h9 => h9) rfl (by decide +kernel) rfl rfl (Nat.le_of_ble_eq_true rfl) dX9_turn_98 (fun H locs hP hD hS => ?_)
      have hP : va_P D vwCl [(h_a, .inr (9, [.int h_fault, .double h_now, .double h_speed, .ref h_isThere_a, .ref h_x_a, .ref h_y_a, .ref h_v_a, .ref h_sure_a, .ref h_coast_a, .ref h_many_a, .ref h_mx_a, .ref h_my_a, .ref h_mv_a, .ref h_taken_a, .ref h_way_a, .ref h_toldFirst_a, .ref h_toldSecond_a, .ref h_speedFirst_a, .int h_differs, .int h_differing, .double h_offset, .double h_slope, .double h_curve, .double h_pedal, .double h_brake, .double h_steer, .int h_isOn, .double h_offAt, .int h_isAsked, .double h_askedAt, .int h_isStopping, .double h_wished, .double h_gap, .double h_braking, .double h_pull, .int h_lead, .double h_left, .double h_leadX, .int h_stage, .int h_mode, .double h_force, .double b8, .ref h_counts_a, .int h_sign]))] H := hP
      have hD : va_D A [(h_a, .inr (9, [.int h_fault, .double h_now, .double h_speed, .ref h_isThere_a, .ref h_x_a, .ref h_y_a, .ref h_v_a, .ref h_sure_a, .ref h_coast_a, .ref h_many_a, .ref h_mx_a, .ref h_my_a, .ref h_mv_a, .ref h_taken_a, .ref h_way_a, .ref h_toldFirst_a, .ref h_toldSecond_a, .ref h_speedFirst_a, .int h_differs, .int h_differing, .double h_offset, .double h_slope, .double h_curve, .double h_pedal, .double h_brake, .double h_steer, .int h_isOn, .double h_offAt, .int h_isAsked, .double h_askedAt, .int h_isStopping, .double h_wished, .double h_gap, .double h_braking, .double h_pull, .int h_lead, .double h_left, .double h_leadX, .int h_stage, .int h_mode, .double h_force, .double b8, .ref h_counts_a, .int h_sign]))] := hD
      have q0 := Option.some.inj ef0
      exact xVret (by rw [← q0]) hx hb hr hlk hP hD hS dX9_turn_101
  refine lv_if_le (tgt := 47) hx hb dX9_turn_40 (by decide) (fun c7 => ?_) (fun c7 => ?_)
  · have ef0 := ift ef0 c7
    refine lv_dload_n hx hb dX9_turn_47 rfl (lv_at hl 0 rfl) ?_
    exact K1 u5 _ _ _ ⟨ef0, hP, hD, hS, lv_sub hl [1] rfl⟩
  · have ef0 := iff_ ef0 c7
    refine lv_dconst0 hx hb dX9_turn_43 ?_
    refine lv_goto (tgt := 48) hx hb dX9_turn_44 (by decide) ?_
    exact K1 FP.dconst0 _ _ _ ⟨ef0, hP, hD, hS, lv_sub hl [1] rfl⟩

theorem in_wsX9_findForce_X9 : ∀ w ∈ wsX90, w ∈ wsX9_findForce := fun _ h => List.mem_cons_of_mem _ (List.mem_append_right _ h)
def f_X9_findForce_j6 (h_braking : UInt64) (h_pull : UInt64) (b40 : UInt64) : Option UInt64 :=
  ck (nnb (FP.dsub FP.dconst0 h_braking) = true) <|
  (f_X9_between b40 (FP.dsub FP.dconst0 h_braking) h_pull).bind fun u42 =>
  some u42
def f_X9_findForce_j5 (h_braking : UInt64) (h_pull : UInt64) (h_stage : Int32) (b29 : UInt64) : Option UInt64 :=
  if h_stage = (2 : Int32) then (
  if (Op.cmpValue (FP.dcmp b29 (13839561654909534208 : UInt64)) .l) ≤ 0 then (
  f_X9_findForce_j6 h_braking h_pull b29) else
  f_X9_findForce_j6 h_braking h_pull (13839561654909534208 : UInt64)) else
  if h_stage = (3 : Int32) then (
  if (Op.cmpValue (FP.dcmp b29 (13844628204490326016 : UInt64)) .l) ≤ 0 then (
  ck (nnb (FP.dsub FP.dconst0 h_braking) = true) <|
  (f_X9_between b29 (FP.dsub FP.dconst0 h_braking) h_pull).bind fun u36 =>
  some u36) else
  ck (nnb (FP.dsub FP.dconst0 h_braking) = true) <|
  (f_X9_between (13844628204490326016 : UInt64) (FP.dsub FP.dconst0 h_braking) h_pull).bind fun u38 =>
  some u38) else
  ck (nnb (FP.dsub FP.dconst0 h_braking) = true) <|
  (f_X9_between b29 (FP.dsub FP.dconst0 h_braking) h_pull).bind fun u33 =>
  some u33
def f_X9_findForce_j4 (h_brake : UInt64) (h_braking : UInt64) (h_pull : UInt64) (h_stage : Int32) (b26 : UInt64) : Option UInt64 :=
  if (Op.cmpValue (FP.dcmp h_brake FP.dconst0) .l) ≤ 0 then (
  f_X9_findForce_j5 h_braking h_pull h_stage b26) else
  ck (nnb (FP.dmul (13844628204490326016 : UInt64) h_brake) = true) <|
  f_X9_findForce_j5 h_braking h_pull h_stage (FP.dmul (13844628204490326016 : UInt64) h_brake)
def f_X9_findForce_j3 (h_speed : UInt64) (h_brake : UInt64) (h_isStopping : Int32) (h_braking : UInt64) (h_pull : UInt64) (h_stage : Int32) (b23 : UInt64) : Option UInt64 :=
  if h_isStopping = 0 then (
  f_X9_findForce_j4 h_brake h_braking h_pull h_stage b23) else
  if (Op.cmpValue (FP.dcmp h_speed FP.dconst0) .l) = 0 then (
  f_X9_findForce_j4 h_brake h_braking h_pull h_stage FP.dconst0) else
  f_X9_findForce_j4 h_brake h_braking h_pull h_stage (13835058055282163712 : UInt64)
def f_X9_findForce_j2 (h_speed : UInt64) (h_pedal : UInt64) (h_brake : UInt64) (h_isStopping : Int32) (h_braking : UInt64) (h_pull : UInt64) (h_stage : Int32) (b17 : UInt64) : Option UInt64 :=
  (f_X9_between b17 (13838435755002691584 : UInt64) (4611686018427387904 : UInt64)).bind fun u18 =>
  if (Op.cmpValue (FP.dcmp h_pedal FP.dconst0) .l) ≤ 0 then (
  f_X9_findForce_j3 h_speed h_brake h_isStopping h_braking h_pull h_stage u18) else
  ck (nnb (FP.dmul (4613937818241073152 : UInt64) h_pedal) = true) <|
  if (Op.cmpValue (FP.dcmp (FP.dmul (4613937818241073152 : UInt64) h_pedal) u18) .l) ≤ 0 then (
  f_X9_findForce_j3 h_speed h_brake h_isStopping h_braking h_pull h_stage u18) else
  ck (nnb (FP.dmul (4613937818241073152 : UInt64) h_pedal) = true) <|
  f_X9_findForce_j3 h_speed h_brake h_isStopping h_braking h_pull h_stage (FP.dmul (4613937818241073152 : UInt64) h_pedal)
def f_X9_findForce_j1 (h_speed : UInt64) (h_pedal : UInt64) (h_brake : UInt64) (h_isStopping : Int32) (h_braking : UInt64) (h_pull : UInt64) (h_stage : Int32) (h_mode : Int32) (b14 : UInt64) : Option UInt64 :=
  if h_mode = (6 : Int32) then (
  if (Op.cmpValue (FP.dcmp b14 FP.dconst0) .l) ≤ 0 then (
  f_X9_findForce_j2 h_speed h_pedal h_brake h_isStopping h_braking h_pull h_stage b14) else
  f_X9_findForce_j2 h_speed h_pedal h_brake h_isStopping h_braking h_pull h_stage FP.dconst0) else
  f_X9_findForce_j2 h_speed h_pedal h_brake h_isStopping h_braking h_pull h_stage b14
def f_X9_findForce (h_speed : UInt64) (h_pedal : UInt64) (h_brake : UInt64) (h_isStopping : Int32) (h_wished : UInt64) (h_gap : UInt64) (h_braking : UInt64) (h_pull : UInt64) (h_lead : Int32) (h_stage : Int32) (h_mode : Int32) (h_x : Nat → UInt64) (h_v : Nat → UInt64) : Option UInt64 :=
  ck (nnb (FP.dsub h_wished h_speed) = true) <|
  ck (nnb (FP.dmul (FP.dsub h_wished h_speed) (4602678819172646912 : UInt64)) = true) <|
  if h_lead < 0 then (
  f_X9_findForce_j1 h_speed h_pedal h_brake h_isStopping h_braking h_pull h_stage h_mode (FP.dmul (FP.dsub h_wished h_speed) (4602678819172646912 : UInt64))) else
  ck (inb h_lead 8 = true) <|
  ck (nnb (FP.dmul h_gap h_speed) = true) <|
  ck (nnb (FP.dadd (4613937818241073152 : UInt64) (FP.dmul h_gap h_speed)) = true) <|
  ck (nnb (FP.dsub (h_x h_lead.toNatClampNeg) (FP.dadd (4613937818241073152 : UInt64) (FP.dmul h_gap h_speed))) = true) <|
  ck (nnb (FP.dmul (FP.dsub (h_x h_lead.toNatClampNeg) (FP.dadd (4613937818241073152 : UInt64) (FP.dmul h_gap h_speed))) (4596373779694328218 : UInt64)) = true) <|
  ck (inb h_lead 8 = true) <|
  ck (nnb (FP.dsub (h_v h_lead.toNatClampNeg) h_speed) = true) <|
  ck (nnb (FP.dmul (FP.dsub (h_v h_lead.toNatClampNeg) h_speed) (4603579539098121011 : UInt64)) = true) <|
  ck (nnb (FP.dadd (FP.dmul (FP.dsub (h_x h_lead.toNatClampNeg) (FP.dadd (4613937818241073152 : UInt64) (FP.dmul h_gap h_speed))) (4596373779694328218 : UInt64)) (FP.dmul (FP.dsub (h_v h_lead.toNatClampNeg) h_speed) (4603579539098121011 : UInt64))) = true) <|
  if 0 ≤ (Op.cmpValue (FP.dcmp (FP.dadd (FP.dmul (FP.dsub (h_x h_lead.toNatClampNeg) (FP.dadd (4613937818241073152 : UInt64) (FP.dmul h_gap h_speed))) (4596373779694328218 : UInt64)) (FP.dmul (FP.dsub (h_v h_lead.toNatClampNeg) h_speed) (4603579539098121011 : UInt64))) (FP.dmul (FP.dsub h_wished h_speed) (4602678819172646912 : UInt64))) .g) then (
  f_X9_findForce_j1 h_speed h_pedal h_brake h_isStopping h_braking h_pull h_stage h_mode (FP.dmul (FP.dsub h_wished h_speed) (4602678819172646912 : UInt64))) else
  f_X9_findForce_j1 h_speed h_pedal h_brake h_isStopping h_braking h_pull h_stage h_mode (FP.dadd (FP.dmul (FP.dsub (h_x h_lead.toNatClampNeg) (FP.dadd (4613937818241073152 : UInt64) (FP.dmul h_gap h_speed))) (4596373779694328218 : UInt64)) (FP.dmul (FP.dsub (h_v h_lead.toNatClampNeg) h_speed) (4603579539098121011 : UInt64)))
set_option maxHeartbeats 4000000 in
set_option maxRecDepth 100000 in
theorem c_X9_findForce (l : Launch) (D : va_G) (sz : Nat) (h_a : Nat) (h_isThere_a : Nat) (h_x_a : Nat) (h_y_a : Nat) (h_v_a : Nat) (h_sure_a : Nat) (h_coast_a : Nat) (h_many_a : Nat) (h_mx_a : Nat) (h_my_a : Nat) (h_mv_a : Nat) (h_taken_a : Nat) (h_way_a : Nat) (h_toldFirst_a : Nat) (h_toldSecond_a : Nat) (h_speedFirst_a : Nat) (h_counts_a : Nat) (h_x_k : ClassId) (h_v_k : ClassId) (h_fault : Int32) (h_now : UInt64) (h_speed : UInt64) (h_differs : Int32) (h_differing : Int32) (h_offset : UInt64) (h_slope : UInt64) (h_curve : UInt64) (h_pedal : UInt64) (h_brake : UInt64) (h_steer : UInt64) (h_isOn : Int32) (h_offAt : UInt64) (h_isAsked : Int32) (h_askedAt : UInt64) (h_isStopping : Int32) (h_wished : UInt64) (h_gap : UInt64) (h_braking : UInt64) (h_pull : UInt64) (h_lead : Int32) (h_left : UInt64) (h_leadX : UInt64) (h_stage : Int32) (h_mode : Int32) (h_force : UInt64) (h_wheel : UInt64) (h_sign : Int32) (h_x : Nat → UInt64) (h_v : Nat → UInt64) (r0 : UInt64) (hf : f_X9_findForce h_speed h_pedal h_brake h_isStopping h_wished h_gap h_braking h_pull h_lead h_stage h_mode h_x h_v = some r0) : Met l yX9_findForce wsX9_findForce { frames := 1, cells := 0, slots := 0, locals := 25 } (va_Pc [.ref h_a] (xPre D [(h_a, .inr (9, [.int h_fault, .double h_now, .double h_speed, .ref h_isThere_a, .ref h_x_a, .ref h_y_a, .ref h_v_a, .ref h_sure_a, .ref h_coast_a, .ref h_many_a, .ref h_mx_a, .ref h_my_a, .ref h_mv_a, .ref h_taken_a, .ref h_way_a, .ref h_toldFirst_a, .ref h_toldSecond_a, .ref h_speedFirst_a, .int h_differs, .int h_differing, .double h_offset, .double h_slope, .double h_curve, .double h_pedal, .double h_brake, .double h_steer, .int h_isOn, .double h_offAt, .int h_isAsked, .double h_askedAt, .int h_isStopping, .double h_wished, .double h_gap, .double h_braking, .double h_pull, .int h_lead, .double h_left, .double h_leadX, .int h_stage, .int h_mode, .double h_force, .double h_wheel, .ref h_counts_a, .int h_sign])), (h_x_a, .inl (h_x_k, 8, .inr (.inr (.inr (.inl h_x))))), (h_v_a, .inl (h_v_k, 8, .inr (.inr (.inr (.inl h_v)))))] [(h_x_k, .double), (h_v_k, .double)] sz)) (va_Qd (fun (x : UInt64) (_ : Unit) => x = r0) (fun _ => xB D (va_A [(h_a, .inr (9, [.int h_fault, .double h_now, .double h_speed, .ref h_isThere_a, .ref h_x_a, .ref h_y_a, .ref h_v_a, .ref h_sure_a, .ref h_coast_a, .ref h_many_a, .ref h_mx_a, .ref h_my_a, .ref h_mv_a, .ref h_taken_a, .ref h_way_a, .ref h_toldFirst_a, .ref h_toldSecond_a, .ref h_speedFirst_a, .int h_differs, .int h_differing, .double h_offset, .double h_slope, .double h_curve, .double h_pedal, .double h_brake, .double h_steer, .int h_isOn, .double h_offAt, .int h_isAsked, .double h_askedAt, .int h_isStopping, .double h_wished, .double h_gap, .double h_braking, .double h_pull, .int h_lead, .double h_left, .double h_leadX, .int h_stage, .int h_mode, .double h_force, .double h_wheel, .ref h_counts_a, .int h_sign])), (h_x_a, .inl (h_x_k, 8, .inr (.inr (.inr (.inl h_x))))), (h_v_a, .inl (h_v_k, 8, .inr (.inr (.inr (.inl h_v)))))] sz) [(h_a, .inr (9, [.int h_fault, .double h_now, .double h_speed, .ref h_isThere_a, .ref h_x_a, .ref h_y_a, .ref h_v_a, .ref h_sure_a, .ref h_coast_a, .ref h_many_a, .ref h_mx_a, .ref h_my_a, .ref h_mv_a, .ref h_taken_a, .ref h_way_a, .ref h_toldFirst_a, .ref h_toldSecond_a, .ref h_speedFirst_a, .int h_differs, .int h_differing, .double h_offset, .double h_slope, .double h_curve, .double h_pedal, .double h_brake, .double h_steer, .int h_isOn, .double h_offAt, .int h_isAsked, .double h_askedAt, .int h_isStopping, .double h_wished, .double h_gap, .double h_braking, .double h_pull, .int h_lead, .double h_left, .double h_leadX, .int h_stage, .int h_mode, .double h_force, .double h_wheel, .ref h_counts_a, .int h_sign])), (h_x_a, .inl (h_x_k, 8, .inr (.inr (.inr (.inl h_x))))), (h_v_a, .inl (h_v_k, 8, .inr (.inr (.inr (.inl h_v)))))]) (va_A [(h_a, .inr (9, [.int h_fault, .double h_now, .double h_speed, .ref h_isThere_a, .ref h_x_a, .ref h_y_a, .ref h_v_a, .ref h_sure_a, .ref h_coast_a, .ref h_many_a, .ref h_mx_a, .ref h_my_a, .ref h_mv_a, .ref h_taken_a, .ref h_way_a, .ref h_toldFirst_a, .ref h_toldSecond_a, .ref h_speedFirst_a, .int h_differs, .int h_differing, .double h_offset, .double h_slope, .double h_curve, .double h_pedal, .double h_brake, .double h_steer, .int h_isOn, .double h_offAt, .int h_isAsked, .double h_askedAt, .int h_isStopping, .double h_wished, .double h_gap, .double h_braking, .double h_pull, .int h_lead, .double h_left, .double h_leadX, .int h_stage, .int h_mode, .double h_force, .double h_wheel, .ref h_counts_a, .int h_sign])), (h_x_a, .inl (h_x_k, 8, .inr (.inr (.inr (.inl h_x))))), (h_v_a, .inl (h_v_k, 8, .inr (.inr (.inr (.inl h_v)))))] sz)) 0 0 (va_A [(h_a, .inr (9, [.int h_fault, .double h_now, .double h_speed, .ref h_isThere_a, .ref h_x_a, .ref h_y_a, .ref h_v_a, .ref h_sure_a, .ref h_coast_a, .ref h_many_a, .ref h_mx_a, .ref h_my_a, .ref h_mv_a, .ref h_taken_a, .ref h_way_a, .ref h_toldFirst_a, .ref h_toldSecond_a, .ref h_speedFirst_a, .int h_differs, .int h_differing, .double h_offset, .double h_slope, .double h_curve, .double h_pedal, .double h_brake, .double h_steer, .int h_isOn, .double h_offAt, .int h_isAsked, .double h_askedAt, .int h_isStopping, .double h_wished, .double h_gap, .double h_braking, .double h_pull, .int h_lead, .double h_left, .double h_leadX, .int h_stage, .int h_mode, .double h_force, .double h_wheel, .ref h_counts_a, .int h_sign])), (h_x_a, .inl (h_x_k, 8, .inr (.inr (.inr (.inl h_x))))), (h_v_a, .inl (h_v_k, 8, .inr (.inr (.inr (.inl h_v)))))] sz) := by
  refine xOfW (l := l) (y := yX9_findForce) (ws := wsX9_findForce) (D := D) (cells := [(h_a, .inr (9, [.int h_fault, .double h_now, .double h_speed, .ref h_isThere_a, .ref h_x_a, .ref h_y_a, .ref h_v_a, .ref h_sure_a, .ref h_coast_a, .ref h_many_a, .ref h_mx_a, .ref h_my_a, .ref h_mv_a, .ref h_taken_a, .ref h_way_a, .ref h_toldFirst_a, .ref h_toldSecond_a, .ref h_speedFirst_a, .int h_differs, .int h_differing, .double h_offset, .double h_slope, .double h_curve, .double h_pedal, .double h_brake, .double h_steer, .int h_isOn, .double h_offAt, .int h_isAsked, .double h_askedAt, .int h_isStopping, .double h_wished, .double h_gap, .double h_braking, .double h_pull, .int h_lead, .double h_left, .double h_leadX, .int h_stage, .int h_mode, .double h_force, .double h_wheel, .ref h_counts_a, .int h_sign])), (h_x_a, .inl (h_x_k, 8, .inr (.inr (.inr (.inl h_x))))), (h_v_a, .inl (h_v_k, 8, .inr (.inr (.inr (.inl h_v)))))]) (tys := [(h_x_k, .double), (h_v_k, .double)]) (sz := sz) (av := [.ref h_a]) (cc := cX9_findForce) (maxL := 5) (ret := (some .double)) (fun A => va_Qd (fun (x : UInt64) (_ : Unit) => x = r0) (fun _ => xB D A [(h_a, .inr (9, [.int h_fault, .double h_now, .double h_speed, .ref h_isThere_a, .ref h_x_a, .ref h_y_a, .ref h_v_a, .ref h_sure_a, .ref h_coast_a, .ref h_many_a, .ref h_mx_a, .ref h_my_a, .ref h_mv_a, .ref h_taken_a, .ref h_way_a, .ref h_toldFirst_a, .ref h_toldSecond_a, .ref h_speedFirst_a, .int h_differs, .int h_differing, .double h_offset, .double h_slope, .double h_curve, .double h_pedal, .double h_brake, .double h_steer, .int h_isOn, .double h_offAt, .int h_isAsked, .double h_askedAt, .int h_isStopping, .double h_wished, .double h_gap, .double h_braking, .double h_pull, .int h_lead, .double h_left, .double h_leadX, .int h_stage, .int h_mode, .double h_force, .double h_wheel, .ref h_counts_a, .int h_sign])), (h_x_a, .inl (h_x_k, 8, .inr (.inr (.inr (.inl h_x))))), (h_v_a, .inl (h_v_k, 8, .inr (.inr (.inr (.inl h_v)))))]) A) (by decide) rfl (Nat.le_of_ble_eq_true rfl) ?_
  intro p e s m below meth c A H ls hx hb hr hml hown hlk hts hP hK hD hS hA hN hl
  have hl : lv_has ls 5 [(0, .ref h_a)] := hl
  have hown : s.vm.findClass RX9 = some m.cls := hown
  have ef0 : f_X9_findForce h_speed h_pedal h_brake h_isStopping h_wished h_gap h_braking h_pull h_lead h_stage h_mode h_x h_v = some r0 := hf
  rewrite [f_X9_findForce] at ef0
  refine lv_aload_n hx hb dX9_findForce_0 rfl (lv_at hl 0 rfl) ?_
  refine va_get (D := D) (ci := 9) (v := .double h_wished) (C := RX9) (T := TX9) (N := 44) hx hb hts in_wsX9_findForce_X9 hown hK hP 0 rfl rfl 31 (by decide) (hts (.fieldLink RX9 146 "AssistRowsModel" "wished" "D") (List.mem_of_getElem? (i := 1) rfl)) (fun _ h9 => h9) rfl dX9_findForce_1 ?_
  refine lv_aload_n hx hb dX9_findForce_4 rfl (lv_at hl 0 rfl) ?_
  refine va_get (D := D) (ci := 9) (v := .double h_speed) (C := RX9) (T := TX9) (N := 44) hx hb hts in_wsX9_findForce_X9 hown hK hP 0 rfl rfl 2 (by decide) (hts (.fieldLink RX9 203 "AssistRowsModel" "speed" "D") (List.mem_of_getElem? (i := 2) rfl)) (fun _ h9 => h9) rfl dX9_findForce_5 ?_
  obtain ⟨h1, ef0⟩ := ck_of ef0
  refine lv_dsub hx hb dX9_findForce_8 (nn_of h1) ?_
  refine lv_ldc2d hx hb hown (hts (.constantDouble RX9 142 (4602678819172646912)) (List.mem_of_getElem? (i := 3) rfl)) dX9_findForce_9 ?_
  obtain ⟨h2, ef0⟩ := ck_of ef0
  refine lv_dmul hx hb dX9_findForce_12 (nn_of h2) ?_
  refine lv_dstore_n (lv' := [(1, .double (FP.dmul (FP.dsub h_wished h_speed) (4602678819172646912 : UInt64))), (0, .ref h_a)]) hx hb dX9_findForce_13 rfl hl (by decide) rfl (fun ls hl => ?_)
  refine lv_aload_n hx hb dX9_findForce_14 rfl (lv_at hl 1 rfl) ?_
  refine va_get (D := D) (ci := 9) (v := .int h_lead) (C := RX9) (T := TX9) (N := 44) hx hb hts in_wsX9_findForce_X9 hown hK hP 0 rfl rfl 35 (by decide) (hts (.fieldLink RX9 77 "AssistRowsModel" "lead" "I") (List.mem_of_getElem? (i := 4) rfl)) (fun _ h9 => h9) rfl dX9_findForce_15 ?_
  refine xCut (ι := UInt64) (fun z H locs ls => f_X9_findForce_j1 h_speed h_pedal h_brake h_isStopping h_braking h_pull h_stage h_mode z = some r0 ∧ va_P D vwCl [(h_a, .inr (9, [.int h_fault, .double h_now, .double h_speed, .ref h_isThere_a, .ref h_x_a, .ref h_y_a, .ref h_v_a, .ref h_sure_a, .ref h_coast_a, .ref h_many_a, .ref h_mx_a, .ref h_my_a, .ref h_mv_a, .ref h_taken_a, .ref h_way_a, .ref h_toldFirst_a, .ref h_toldSecond_a, .ref h_speedFirst_a, .int h_differs, .int h_differing, .double h_offset, .double h_slope, .double h_curve, .double h_pedal, .double h_brake, .double h_steer, .int h_isOn, .double h_offAt, .int h_isAsked, .double h_askedAt, .int h_isStopping, .double h_wished, .double h_gap, .double h_braking, .double h_pull, .int h_lead, .double h_left, .double h_leadX, .int h_stage, .int h_mode, .double h_force, .double h_wheel, .ref h_counts_a, .int h_sign])), (h_x_a, .inl (h_x_k, 8, .inr (.inr (.inr (.inl h_x))))), (h_v_a, .inl (h_v_k, 8, .inr (.inr (.inr (.inl h_v)))))] H ∧ va_D A [(h_a, .inr (9, [.int h_fault, .double h_now, .double h_speed, .ref h_isThere_a, .ref h_x_a, .ref h_y_a, .ref h_v_a, .ref h_sure_a, .ref h_coast_a, .ref h_many_a, .ref h_mx_a, .ref h_my_a, .ref h_mv_a, .ref h_taken_a, .ref h_way_a, .ref h_toldFirst_a, .ref h_toldSecond_a, .ref h_speedFirst_a, .int h_differs, .int h_differing, .double h_offset, .double h_slope, .double h_curve, .double h_pedal, .double h_brake, .double h_steer, .int h_isOn, .double h_offAt, .int h_isAsked, .double h_askedAt, .int h_isStopping, .double h_wished, .double h_gap, .double h_braking, .double h_pull, .int h_lead, .double h_left, .double h_leadX, .int h_stage, .int h_mode, .double h_force, .double h_wheel, .ref h_counts_a, .int h_sign])), (h_x_a, .inl (h_x_k, 8, .inr (.inr (.inr (.inl h_x))))), (h_v_a, .inl (h_v_k, 8, .inr (.inr (.inr (.inl h_v)))))] ∧ va_S A s.heap H locs ∧ lv_has ls 5 [(0, .ref h_a), (1, .double z)]) 80 (fun z => []) ?_ (fun K1 => ?_)
  · intro z H locs ls hz
    obtain ⟨b14, rfl⟩ : ∃ q, q = z := ⟨z, rfl⟩
    obtain ⟨ef0, hP, hD, hS, hl⟩ := hz
    have ef0 : f_X9_findForce_j1 h_speed h_pedal h_brake h_isStopping h_braking h_pull h_stage h_mode b14 = some r0 := ef0
    have hP : va_P D vwCl [(h_a, .inr (9, [.int h_fault, .double h_now, .double h_speed, .ref h_isThere_a, .ref h_x_a, .ref h_y_a, .ref h_v_a, .ref h_sure_a, .ref h_coast_a, .ref h_many_a, .ref h_mx_a, .ref h_my_a, .ref h_mv_a, .ref h_taken_a, .ref h_way_a, .ref h_toldFirst_a, .ref h_toldSecond_a, .ref h_speedFirst_a, .int h_differs, .int h_differing, .double h_offset, .double h_slope, .double h_curve, .double h_pedal, .double h_brake, .double h_steer, .int h_isOn, .double h_offAt, .int h_isAsked, .double h_askedAt, .int h_isStopping, .double h_wished, .double h_gap, .double h_braking, .double h_pull, .int h_lead, .double h_left, .double h_leadX, .int h_stage, .int h_mode, .double h_force, .double h_wheel, .ref h_counts_a, .int h_sign])), (h_x_a, .inl (h_x_k, 8, .inr (.inr (.inr (.inl h_x))))), (h_v_a, .inl (h_v_k, 8, .inr (.inr (.inr (.inl h_v)))))] H := hP
    have hD : va_D A [(h_a, .inr (9, [.int h_fault, .double h_now, .double h_speed, .ref h_isThere_a, .ref h_x_a, .ref h_y_a, .ref h_v_a, .ref h_sure_a, .ref h_coast_a, .ref h_many_a, .ref h_mx_a, .ref h_my_a, .ref h_mv_a, .ref h_taken_a, .ref h_way_a, .ref h_toldFirst_a, .ref h_toldSecond_a, .ref h_speedFirst_a, .int h_differs, .int h_differing, .double h_offset, .double h_slope, .double h_curve, .double h_pedal, .double h_brake, .double h_steer, .int h_isOn, .double h_offAt, .int h_isAsked, .double h_askedAt, .int h_isStopping, .double h_wished, .double h_gap, .double h_braking, .double h_pull, .int h_lead, .double h_left, .double h_leadX, .int h_stage, .int h_mode, .double h_force, .double h_wheel, .ref h_counts_a, .int h_sign])), (h_x_a, .inl (h_x_k, 8, .inr (.inr (.inr (.inl h_x))))), (h_v_a, .inl (h_v_k, 8, .inr (.inr (.inr (.inl h_v)))))] := hD
    have hl : lv_has ls 5 [(0, .ref h_a), (1, .double b14)] := hl
    rewrite [f_X9_findForce_j1] at ef0
    refine lv_aload_n hx hb dX9_findForce_80 rfl (lv_at hl 0 rfl) ?_
    refine va_get (D := D) (ci := 9) (v := .int h_mode) (C := RX9) (T := TX9) (N := 44) hx hb hts in_wsX9_findForce_X9 hown hK hP 0 rfl rfl 39 (by decide) (hts (.fieldLink RX9 234 "AssistRowsModel" "mode" "I") (List.mem_of_getElem? (i := 11) rfl)) (fun _ h9 => h9) rfl dX9_findForce_81 ?_
    refine lv_bipush (v := (6 : Int32)) hx hb dX9_findForce_84 (by decide) ?_
    refine xCut (ι := UInt64) (fun z H locs ls => f_X9_findForce_j2 h_speed h_pedal h_brake h_isStopping h_braking h_pull h_stage z = some r0 ∧ va_P D vwCl [(h_a, .inr (9, [.int h_fault, .double h_now, .double h_speed, .ref h_isThere_a, .ref h_x_a, .ref h_y_a, .ref h_v_a, .ref h_sure_a, .ref h_coast_a, .ref h_many_a, .ref h_mx_a, .ref h_my_a, .ref h_mv_a, .ref h_taken_a, .ref h_way_a, .ref h_toldFirst_a, .ref h_toldSecond_a, .ref h_speedFirst_a, .int h_differs, .int h_differing, .double h_offset, .double h_slope, .double h_curve, .double h_pedal, .double h_brake, .double h_steer, .int h_isOn, .double h_offAt, .int h_isAsked, .double h_askedAt, .int h_isStopping, .double h_wished, .double h_gap, .double h_braking, .double h_pull, .int h_lead, .double h_left, .double h_leadX, .int h_stage, .int h_mode, .double h_force, .double h_wheel, .ref h_counts_a, .int h_sign])), (h_x_a, .inl (h_x_k, 8, .inr (.inr (.inr (.inl h_x))))), (h_v_a, .inl (h_v_k, 8, .inr (.inr (.inr (.inl h_v)))))] H ∧ va_D A [(h_a, .inr (9, [.int h_fault, .double h_now, .double h_speed, .ref h_isThere_a, .ref h_x_a, .ref h_y_a, .ref h_v_a, .ref h_sure_a, .ref h_coast_a, .ref h_many_a, .ref h_mx_a, .ref h_my_a, .ref h_mv_a, .ref h_taken_a, .ref h_way_a, .ref h_toldFirst_a, .ref h_toldSecond_a, .ref h_speedFirst_a, .int h_differs, .int h_differing, .double h_offset, .double h_slope, .double h_curve, .double h_pedal, .double h_brake, .double h_steer, .int h_isOn, .double h_offAt, .int h_isAsked, .double h_askedAt, .int h_isStopping, .double h_wished, .double h_gap, .double h_braking, .double h_pull, .int h_lead, .double h_left, .double h_leadX, .int h_stage, .int h_mode, .double h_force, .double h_wheel, .ref h_counts_a, .int h_sign])), (h_x_a, .inl (h_x_k, 8, .inr (.inr (.inr (.inl h_x))))), (h_v_a, .inl (h_v_k, 8, .inr (.inr (.inr (.inl h_v)))))] ∧ va_S A s.heap H locs ∧ lv_has ls 5 [(0, .ref h_a)]) 100 (fun z => [.double z]) ?_ (fun K2 => ?_)
    · intro z H locs ls hz
      obtain ⟨b17, rfl⟩ : ∃ q, q = z := ⟨z, rfl⟩
      obtain ⟨ef0, hP, hD, hS, hl⟩ := hz
      have ef0 : f_X9_findForce_j2 h_speed h_pedal h_brake h_isStopping h_braking h_pull h_stage b17 = some r0 := ef0
      have hP : va_P D vwCl [(h_a, .inr (9, [.int h_fault, .double h_now, .double h_speed, .ref h_isThere_a, .ref h_x_a, .ref h_y_a, .ref h_v_a, .ref h_sure_a, .ref h_coast_a, .ref h_many_a, .ref h_mx_a, .ref h_my_a, .ref h_mv_a, .ref h_taken_a, .ref h_way_a, .ref h_toldFirst_a, .ref h_toldSecond_a, .ref h_speedFirst_a, .int h_differs, .int h_differing, .double h_offset, .double h_slope, .double h_curve, .double h_pedal, .double h_brake, .double h_steer, .int h_isOn, .double h_offAt, .int h_isAsked, .double h_askedAt, .int h_isStopping, .double h_wished, .double h_gap, .double h_braking, .double h_pull, .int h_lead, .double h_left, .double h_leadX, .int h_stage, .int h_mode, .double h_force, .double h_wheel, .ref h_counts_a, .int h_sign])), (h_x_a, .inl (h_x_k, 8, .inr (.inr (.inr (.inl h_x))))), (h_v_a, .inl (h_v_k, 8, .inr (.inr (.inr (.inl h_v)))))] H := hP
      have hD : va_D A [(h_a, .inr (9, [.int h_fault, .double h_now, .double h_speed, .ref h_isThere_a, .ref h_x_a, .ref h_y_a, .ref h_v_a, .ref h_sure_a, .ref h_coast_a, .ref h_many_a, .ref h_mx_a, .ref h_my_a, .ref h_mv_a, .ref h_taken_a, .ref h_way_a, .ref h_toldFirst_a, .ref h_toldSecond_a, .ref h_speedFirst_a, .int h_differs, .int h_differing, .double h_offset, .double h_slope, .double h_curve, .double h_pedal, .double h_brake, .double h_steer, .int h_isOn, .double h_offAt, .int h_isAsked, .double h_askedAt, .int h_isStopping, .double h_wished, .double h_gap, .double h_braking, .double h_pull, .int h_lead, .double h_left, .double h_leadX, .int h_stage, .int h_mode, .double h_force, .double h_wheel, .ref h_counts_a, .int h_sign])), (h_x_a, .inl (h_x_k, 8, .inr (.inr (.inr (.inl h_x))))), (h_v_a, .inl (h_v_k, 8, .inr (.inr (.inr (.inl h_v)))))] := hD
      have hl : lv_has ls 5 [(0, .ref h_a)] := hl
      rewrite [f_X9_findForce_j2] at ef0
      refine W.eq (g2 := F0 m 100 ls [.double b17]) rfl ?_
      refine lv_dstore_n (lv' := [(1, .double b17), (0, .ref h_a)]) hx hb dX9_findForce_100 rfl hl (by decide) rfl (fun ls hl => ?_)
      refine lv_dload_n hx hb dX9_findForce_101 rfl (lv_at hl 0 rfl) ?_
      refine lv_ldc2d hx hb hown (hts (.constantDouble RX9 237 (13838435755002691584)) (List.mem_of_getElem? (i := 12) rfl)) dX9_findForce_102 ?_
      refine lv_ldc2d hx hb hown (hts (.constantDouble RX9 72 (4611686018427387904)) (List.mem_of_getElem? (i := 13) rfl)) dX9_findForce_105 ?_
      obtain ⟨u18, hu18, ef0⟩ := bd_of ef0
      refine xCalld (wr := [(h_a, .inr (9, [.int h_fault, .double h_now, .double h_speed, .ref h_isThere_a, .ref h_x_a, .ref h_y_a, .ref h_v_a, .ref h_sure_a, .ref h_coast_a, .ref h_many_a, .ref h_mx_a, .ref h_my_a, .ref h_mv_a, .ref h_taken_a, .ref h_way_a, .ref h_toldFirst_a, .ref h_toldSecond_a, .ref h_speedFirst_a, .int h_differs, .int h_differing, .double h_offset, .double h_slope, .double h_curve, .double h_pedal, .double h_brake, .double h_steer, .int h_isOn, .double h_offAt, .int h_isAsked, .double h_askedAt, .int h_isStopping, .double h_wished, .double h_gap, .double h_braking, .double h_pull, .int h_lead, .double h_left, .double h_leadX, .int h_stage, .int h_mode, .double h_force, .double h_wheel, .ref h_counts_a, .int h_sign])), (h_x_a, .inl (h_x_k, 8, .inr (.inr (.inr (.inl h_x))))), (h_v_a, .inl (h_v_k, 8, .inr (.inr (.inr (.inl h_v)))))]) (wn := [(h_a, .inr (9, [.int h_fault, .double h_now, .double h_speed, .ref h_isThere_a, .ref h_x_a, .ref h_y_a, .ref h_v_a, .ref h_sure_a, .ref h_coast_a, .ref h_many_a, .ref h_mx_a, .ref h_my_a, .ref h_mv_a, .ref h_taken_a, .ref h_way_a, .ref h_toldFirst_a, .ref h_toldSecond_a, .ref h_speedFirst_a, .int h_differs, .int h_differing, .double h_offset, .double h_slope, .double h_curve, .double h_pedal, .double h_brake, .double h_steer, .int h_isOn, .double h_offAt, .int h_isAsked, .double h_askedAt, .int h_isStopping, .double h_wished, .double h_gap, .double h_braking, .double h_pull, .int h_lead, .double h_left, .double h_leadX, .int h_stage, .int h_mode, .double h_force, .double h_wheel, .ref h_counts_a, .int h_sign])), (h_x_a, .inl (h_x_k, 8, .inr (.inr (.inr (.inl h_x))))), (h_v_a, .inl (h_v_k, 8, .inr (.inr (.inr (.inl h_v)))))]) [] [0, 1, 2] [0, 1, 2] (va_runS (As := [.double b17, .double (13838435755002691584 : UInt64), .double (4611686018427387904 : UInt64)]) (rest := []) ⟨hx, hb, hml, hown, hts⟩ (c_X9_between l D H.size b17 (13838435755002691584 : UInt64) (4611686018427387904 : UInt64) u18 hu18) (va_cwS 3 hts gX9_findForce_X9_between rfl rfl rfl (by decide +kernel) ⟨Nat.le_of_ble_eq_true rfl, Nat.le_of_ble_eq_true rfl⟩) (xPreS hP hD hK hN [] rfl rfl [] rfl) rfl rfl hl.1 rfl (lv_room (Nat.le_of_ble_eq_true rfl)) dX9_findForce_108 ⟨Nat.zero_le _, Nat.zero_le _⟩) hP hD hS hA rfl rfl rfl (by decide) rfl rfl (fun H locs hP hD hS => ?_)
      refine lv_dstore_n (lv' := [(1, .double u18), (0, .ref h_a)]) hx hb dX9_findForce_111 rfl hl (by decide) rfl (fun ls hl => ?_)
      refine lv_aload_n hx hb dX9_findForce_112 rfl (lv_at hl 1 rfl) ?_
      refine va_get (D := D) (ci := 9) (v := .double h_pedal) (C := RX9) (T := TX9) (N := 44) hx hb hts in_wsX9_findForce_X9 hown hK hP 0 rfl rfl 23 (by decide) (hts (.fieldLink RX9 131 "AssistRowsModel" "pedal" "D") (List.mem_of_getElem? (i := 14) rfl)) (fun _ h9 => h9) rfl dX9_findForce_113 ?_
      refine lv_dconst0 hx hb dX9_findForce_116 ?_
      refine lv_dcmp hx hb dX9_findForce_117 ?_
      refine xCut (ι := UInt64) (fun z H locs ls => f_X9_findForce_j3 h_speed h_brake h_isStopping h_braking h_pull h_stage z = some r0 ∧ va_P D vwCl [(h_a, .inr (9, [.int h_fault, .double h_now, .double h_speed, .ref h_isThere_a, .ref h_x_a, .ref h_y_a, .ref h_v_a, .ref h_sure_a, .ref h_coast_a, .ref h_many_a, .ref h_mx_a, .ref h_my_a, .ref h_mv_a, .ref h_taken_a, .ref h_way_a, .ref h_toldFirst_a, .ref h_toldSecond_a, .ref h_speedFirst_a, .int h_differs, .int h_differing, .double h_offset, .double h_slope, .double h_curve, .double h_pedal, .double h_brake, .double h_steer, .int h_isOn, .double h_offAt, .int h_isAsked, .double h_askedAt, .int h_isStopping, .double h_wished, .double h_gap, .double h_braking, .double h_pull, .int h_lead, .double h_left, .double h_leadX, .int h_stage, .int h_mode, .double h_force, .double h_wheel, .ref h_counts_a, .int h_sign])), (h_x_a, .inl (h_x_k, 8, .inr (.inr (.inr (.inl h_x))))), (h_v_a, .inl (h_v_k, 8, .inr (.inr (.inr (.inl h_v)))))] H ∧ va_D A [(h_a, .inr (9, [.int h_fault, .double h_now, .double h_speed, .ref h_isThere_a, .ref h_x_a, .ref h_y_a, .ref h_v_a, .ref h_sure_a, .ref h_coast_a, .ref h_many_a, .ref h_mx_a, .ref h_my_a, .ref h_mv_a, .ref h_taken_a, .ref h_way_a, .ref h_toldFirst_a, .ref h_toldSecond_a, .ref h_speedFirst_a, .int h_differs, .int h_differing, .double h_offset, .double h_slope, .double h_curve, .double h_pedal, .double h_brake, .double h_steer, .int h_isOn, .double h_offAt, .int h_isAsked, .double h_askedAt, .int h_isStopping, .double h_wished, .double h_gap, .double h_braking, .double h_pull, .int h_lead, .double h_left, .double h_leadX, .int h_stage, .int h_mode, .double h_force, .double h_wheel, .ref h_counts_a, .int h_sign])), (h_x_a, .inl (h_x_k, 8, .inr (.inr (.inr (.inl h_x))))), (h_v_a, .inl (h_v_k, 8, .inr (.inr (.inr (.inl h_v)))))] ∧ va_S A s.heap H locs ∧ lv_has ls 5 [(0, .ref h_a), (1, .double z)]) 147 (fun z => []) ?_ (fun K3 => ?_)
      · intro z H locs ls hz
        obtain ⟨b23, rfl⟩ : ∃ q, q = z := ⟨z, rfl⟩
        obtain ⟨ef0, hP, hD, hS, hl⟩ := hz
        have ef0 : f_X9_findForce_j3 h_speed h_brake h_isStopping h_braking h_pull h_stage b23 = some r0 := ef0
        have hP : va_P D vwCl [(h_a, .inr (9, [.int h_fault, .double h_now, .double h_speed, .ref h_isThere_a, .ref h_x_a, .ref h_y_a, .ref h_v_a, .ref h_sure_a, .ref h_coast_a, .ref h_many_a, .ref h_mx_a, .ref h_my_a, .ref h_mv_a, .ref h_taken_a, .ref h_way_a, .ref h_toldFirst_a, .ref h_toldSecond_a, .ref h_speedFirst_a, .int h_differs, .int h_differing, .double h_offset, .double h_slope, .double h_curve, .double h_pedal, .double h_brake, .double h_steer, .int h_isOn, .double h_offAt, .int h_isAsked, .double h_askedAt, .int h_isStopping, .double h_wished, .double h_gap, .double h_braking, .double h_pull, .int h_lead, .double h_left, .double h_leadX, .int h_stage, .int h_mode, .double h_force, .double h_wheel, .ref h_counts_a, .int h_sign])), (h_x_a, .inl (h_x_k, 8, .inr (.inr (.inr (.inl h_x))))), (h_v_a, .inl (h_v_k, 8, .inr (.inr (.inr (.inl h_v)))))] H := hP
        have hD : va_D A [(h_a, .inr (9, [.int h_fault, .double h_now, .double h_speed, .ref h_isThere_a, .ref h_x_a, .ref h_y_a, .ref h_v_a, .ref h_sure_a, .ref h_coast_a, .ref h_many_a, .ref h_mx_a, .ref h_my_a, .ref h_mv_a, .ref h_taken_a, .ref h_way_a, .ref h_toldFirst_a, .ref h_toldSecond_a, .ref h_speedFirst_a, .int h_differs, .int h_differing, .double h_offset, .double h_slope, .double h_curve, .double h_pedal, .double h_brake, .double h_steer, .int h_isOn, .double h_offAt, .int h_isAsked, .double h_askedAt, .int h_isStopping, .double h_wished, .double h_gap, .double h_braking, .double h_pull, .int h_lead, .double h_left, .double h_leadX, .int h_stage, .int h_mode, .double h_force, .double h_wheel, .ref h_counts_a, .int h_sign])), (h_x_a, .inl (h_x_k, 8, .inr (.inr (.inr (.inl h_x))))), (h_v_a, .inl (h_v_k, 8, .inr (.inr (.inr (.inl h_v)))))] := hD
        have hl : lv_has ls 5 [(0, .ref h_a), (1, .double b23)] := hl
        rewrite [f_X9_findForce_j3] at ef0
        refine lv_aload_n hx hb dX9_findForce_147 rfl (lv_at hl 0 rfl) ?_
        refine va_get (D := D) (ci := 9) (v := .int h_isStopping) (C := RX9) (T := TX9) (N := 44) hx hb hts in_wsX9_findForce_X9 hown hK hP 0 rfl rfl 30 (by decide) (hts (.fieldLink RX9 155 "AssistRowsModel" "isStopping" "Z") (List.mem_of_getElem? (i := 15) rfl)) (fun _ h9 => h9) rfl dX9_findForce_148 ?_
        refine xCut (ι := UInt64) (fun z H locs ls => f_X9_findForce_j4 h_brake h_braking h_pull h_stage z = some r0 ∧ va_P D vwCl [(h_a, .inr (9, [.int h_fault, .double h_now, .double h_speed, .ref h_isThere_a, .ref h_x_a, .ref h_y_a, .ref h_v_a, .ref h_sure_a, .ref h_coast_a, .ref h_many_a, .ref h_mx_a, .ref h_my_a, .ref h_mv_a, .ref h_taken_a, .ref h_way_a, .ref h_toldFirst_a, .ref h_toldSecond_a, .ref h_speedFirst_a, .int h_differs, .int h_differing, .double h_offset, .double h_slope, .double h_curve, .double h_pedal, .double h_brake, .double h_steer, .int h_isOn, .double h_offAt, .int h_isAsked, .double h_askedAt, .int h_isStopping, .double h_wished, .double h_gap, .double h_braking, .double h_pull, .int h_lead, .double h_left, .double h_leadX, .int h_stage, .int h_mode, .double h_force, .double h_wheel, .ref h_counts_a, .int h_sign])), (h_x_a, .inl (h_x_k, 8, .inr (.inr (.inr (.inl h_x))))), (h_v_a, .inl (h_v_k, 8, .inr (.inr (.inr (.inl h_v)))))] H ∧ va_D A [(h_a, .inr (9, [.int h_fault, .double h_now, .double h_speed, .ref h_isThere_a, .ref h_x_a, .ref h_y_a, .ref h_v_a, .ref h_sure_a, .ref h_coast_a, .ref h_many_a, .ref h_mx_a, .ref h_my_a, .ref h_mv_a, .ref h_taken_a, .ref h_way_a, .ref h_toldFirst_a, .ref h_toldSecond_a, .ref h_speedFirst_a, .int h_differs, .int h_differing, .double h_offset, .double h_slope, .double h_curve, .double h_pedal, .double h_brake, .double h_steer, .int h_isOn, .double h_offAt, .int h_isAsked, .double h_askedAt, .int h_isStopping, .double h_wished, .double h_gap, .double h_braking, .double h_pull, .int h_lead, .double h_left, .double h_leadX, .int h_stage, .int h_mode, .double h_force, .double h_wheel, .ref h_counts_a, .int h_sign])), (h_x_a, .inl (h_x_k, 8, .inr (.inr (.inr (.inl h_x))))), (h_v_a, .inl (h_v_k, 8, .inr (.inr (.inr (.inl h_v)))))] ∧ va_S A s.heap H locs ∧ lv_has ls 5 [(0, .ref h_a), (1, .double z)]) 171 (fun z => []) ?_ (fun K4 => ?_)
        · intro z H locs ls hz
          obtain ⟨b26, rfl⟩ : ∃ q, q = z := ⟨z, rfl⟩
          obtain ⟨ef0, hP, hD, hS, hl⟩ := hz
          have ef0 : f_X9_findForce_j4 h_brake h_braking h_pull h_stage b26 = some r0 := ef0
          have hP : va_P D vwCl [(h_a, .inr (9, [.int h_fault, .double h_now, .double h_speed, .ref h_isThere_a, .ref h_x_a, .ref h_y_a, .ref h_v_a, .ref h_sure_a, .ref h_coast_a, .ref h_many_a, .ref h_mx_a, .ref h_my_a, .ref h_mv_a, .ref h_taken_a, .ref h_way_a, .ref h_toldFirst_a, .ref h_toldSecond_a, .ref h_speedFirst_a, .int h_differs, .int h_differing, .double h_offset, .double h_slope, .double h_curve, .double h_pedal, .double h_brake, .double h_steer, .int h_isOn, .double h_offAt, .int h_isAsked, .double h_askedAt, .int h_isStopping, .double h_wished, .double h_gap, .double h_braking, .double h_pull, .int h_lead, .double h_left, .double h_leadX, .int h_stage, .int h_mode, .double h_force, .double h_wheel, .ref h_counts_a, .int h_sign])), (h_x_a, .inl (h_x_k, 8, .inr (.inr (.inr (.inl h_x))))), (h_v_a, .inl (h_v_k, 8, .inr (.inr (.inr (.inl h_v)))))] H := hP
          have hD : va_D A [(h_a, .inr (9, [.int h_fault, .double h_now, .double h_speed, .ref h_isThere_a, .ref h_x_a, .ref h_y_a, .ref h_v_a, .ref h_sure_a, .ref h_coast_a, .ref h_many_a, .ref h_mx_a, .ref h_my_a, .ref h_mv_a, .ref h_taken_a, .ref h_way_a, .ref h_toldFirst_a, .ref h_toldSecond_a, .ref h_speedFirst_a, .int h_differs, .int h_differing, .double h_offset, .double h_slope, .double h_curve, .double h_pedal, .double h_brake, .double h_steer, .int h_isOn, .double h_offAt, .int h_isAsked, .double h_askedAt, .int h_isStopping, .double h_wished, .double h_gap, .double h_braking, .double h_pull, .int h_lead, .double h_left, .double h_leadX, .int h_stage, .int h_mode, .double h_force, .double h_wheel, .ref h_counts_a, .int h_sign])), (h_x_a, .inl (h_x_k, 8, .inr (.inr (.inr (.inl h_x))))), (h_v_a, .inl (h_v_k, 8, .inr (.inr (.inr (.inl h_v)))))] := hD
          have hl : lv_has ls 5 [(0, .ref h_a), (1, .double b26)] := hl
          rewrite [f_X9_findForce_j4] at ef0
          refine lv_aload_n hx hb dX9_findForce_171 rfl (lv_at hl 0 rfl) ?_
          refine va_get (D := D) (ci := 9) (v := .double h_brake) (C := RX9) (T := TX9) (N := 44) hx hb hts in_wsX9_findForce_X9 hown hK hP 0 rfl rfl 24 (by decide) (hts (.fieldLink RX9 134 "AssistRowsModel" "brake" "D") (List.mem_of_getElem? (i := 17) rfl)) (fun _ h9 => h9) rfl dX9_findForce_172 ?_
          refine lv_dconst0 hx hb dX9_findForce_175 ?_
          refine lv_dcmp hx hb dX9_findForce_176 ?_
          refine xCut (ι := UInt64) (fun z H locs ls => f_X9_findForce_j5 h_braking h_pull h_stage z = some r0 ∧ va_P D vwCl [(h_a, .inr (9, [.int h_fault, .double h_now, .double h_speed, .ref h_isThere_a, .ref h_x_a, .ref h_y_a, .ref h_v_a, .ref h_sure_a, .ref h_coast_a, .ref h_many_a, .ref h_mx_a, .ref h_my_a, .ref h_mv_a, .ref h_taken_a, .ref h_way_a, .ref h_toldFirst_a, .ref h_toldSecond_a, .ref h_speedFirst_a, .int h_differs, .int h_differing, .double h_offset, .double h_slope, .double h_curve, .double h_pedal, .double h_brake, .double h_steer, .int h_isOn, .double h_offAt, .int h_isAsked, .double h_askedAt, .int h_isStopping, .double h_wished, .double h_gap, .double h_braking, .double h_pull, .int h_lead, .double h_left, .double h_leadX, .int h_stage, .int h_mode, .double h_force, .double h_wheel, .ref h_counts_a, .int h_sign])), (h_x_a, .inl (h_x_k, 8, .inr (.inr (.inr (.inl h_x))))), (h_v_a, .inl (h_v_k, 8, .inr (.inr (.inr (.inl h_v)))))] H ∧ va_D A [(h_a, .inr (9, [.int h_fault, .double h_now, .double h_speed, .ref h_isThere_a, .ref h_x_a, .ref h_y_a, .ref h_v_a, .ref h_sure_a, .ref h_coast_a, .ref h_many_a, .ref h_mx_a, .ref h_my_a, .ref h_mv_a, .ref h_taken_a, .ref h_way_a, .ref h_toldFirst_a, .ref h_toldSecond_a, .ref h_speedFirst_a, .int h_differs, .int h_differing, .double h_offset, .double h_slope, .double h_curve, .double h_pedal, .double h_brake, .double h_steer, .int h_isOn, .double h_offAt, .int h_isAsked, .double h_askedAt, .int h_isStopping, .double h_wished, .double h_gap, .double h_braking, .double h_pull, .int h_lead, .double h_left, .double h_leadX, .int h_stage, .int h_mode, .double h_force, .double h_wheel, .ref h_counts_a, .int h_sign])), (h_x_a, .inl (h_x_k, 8, .inr (.inr (.inr (.inl h_x))))), (h_v_a, .inl (h_v_k, 8, .inr (.inr (.inr (.inl h_v)))))] ∧ va_S A s.heap H locs ∧ lv_has ls 5 [(0, .ref h_a), (1, .double z)]) 189 (fun z => []) ?_ (fun K5 => ?_)
          · intro z H locs ls hz
            obtain ⟨b29, rfl⟩ : ∃ q, q = z := ⟨z, rfl⟩
            obtain ⟨ef0, hP, hD, hS, hl⟩ := hz
            have ef0 : f_X9_findForce_j5 h_braking h_pull h_stage b29 = some r0 := ef0
            have hP : va_P D vwCl [(h_a, .inr (9, [.int h_fault, .double h_now, .double h_speed, .ref h_isThere_a, .ref h_x_a, .ref h_y_a, .ref h_v_a, .ref h_sure_a, .ref h_coast_a, .ref h_many_a, .ref h_mx_a, .ref h_my_a, .ref h_mv_a, .ref h_taken_a, .ref h_way_a, .ref h_toldFirst_a, .ref h_toldSecond_a, .ref h_speedFirst_a, .int h_differs, .int h_differing, .double h_offset, .double h_slope, .double h_curve, .double h_pedal, .double h_brake, .double h_steer, .int h_isOn, .double h_offAt, .int h_isAsked, .double h_askedAt, .int h_isStopping, .double h_wished, .double h_gap, .double h_braking, .double h_pull, .int h_lead, .double h_left, .double h_leadX, .int h_stage, .int h_mode, .double h_force, .double h_wheel, .ref h_counts_a, .int h_sign])), (h_x_a, .inl (h_x_k, 8, .inr (.inr (.inr (.inl h_x))))), (h_v_a, .inl (h_v_k, 8, .inr (.inr (.inr (.inl h_v)))))] H := hP
            have hD : va_D A [(h_a, .inr (9, [.int h_fault, .double h_now, .double h_speed, .ref h_isThere_a, .ref h_x_a, .ref h_y_a, .ref h_v_a, .ref h_sure_a, .ref h_coast_a, .ref h_many_a, .ref h_mx_a, .ref h_my_a, .ref h_mv_a, .ref h_taken_a, .ref h_way_a, .ref h_toldFirst_a, .ref h_toldSecond_a, .ref h_speedFirst_a, .int h_differs, .int h_differing, .double h_offset, .double h_slope, .double h_curve, .double h_pedal, .double h_brake, .double h_steer, .int h_isOn, .double h_offAt, .int h_isAsked, .double h_askedAt, .int h_isStopping, .double h_wished, .double h_gap, .double h_braking, .double h_pull, .int h_lead, .double h_left, .double h_leadX, .int h_stage, .int h_mode, .double h_force, .double h_wheel, .ref h_counts_a, .int h_sign])), (h_x_a, .inl (h_x_k, 8, .inr (.inr (.inr (.inl h_x))))), (h_v_a, .inl (h_v_k, 8, .inr (.inr (.inr (.inl h_v)))))] := hD
            have hl : lv_has ls 5 [(0, .ref h_a), (1, .double b29)] := hl
            rewrite [f_X9_findForce_j5] at ef0
            refine lv_aload_n hx hb dX9_findForce_189 rfl (lv_at hl 0 rfl) ?_
            refine va_get (D := D) (ci := 9) (v := .int h_stage) (C := RX9) (T := TX9) (N := 44) hx hb hts in_wsX9_findForce_X9 hown hK hP 0 rfl rfl 38 (by decide) (hts (.fieldLink RX9 214 "AssistRowsModel" "stage" "I") (List.mem_of_getElem? (i := 19) rfl)) (fun _ h9 => h9) rfl dX9_findForce_190 ?_
            refine lv_iconst (v := (2 : Int32)) hx hb dX9_findForce_193 (by decide) ?_
            refine lv_icmp_ne (tgt := 216) hx hb dX9_findForce_194 (by decide) (fun c30 => ?_) (fun c30 => ?_)
            · have ef0 := iff_ ef0 c30
              refine lv_aload_n hx hb dX9_findForce_216 rfl (lv_at hl 0 rfl) ?_
              refine va_get (D := D) (ci := 9) (v := .int h_stage) (C := RX9) (T := TX9) (N := 44) hx hb hts in_wsX9_findForce_X9 hown hK hP 0 rfl rfl 38 (by decide) (hts (.fieldLink RX9 214 "AssistRowsModel" "stage" "I") (List.mem_of_getElem? (i := 19) rfl)) (fun _ h9 => h9) rfl dX9_findForce_217 ?_
              refine lv_iconst (v := (3 : Int32)) hx hb dX9_findForce_220 (by decide) ?_
              refine lv_icmp_ne (tgt := 240) hx hb dX9_findForce_221 (by decide) (fun c31 => ?_) (fun c31 => ?_)
              · have ef0 := iff_ ef0 c31
                refine lv_dload_n hx hb dX9_findForce_240 rfl (lv_at hl 1 rfl) ?_
                refine lv_dconst0 hx hb dX9_findForce_241 ?_
                refine lv_aload_n hx hb dX9_findForce_242 rfl (lv_at hl 0 rfl) ?_
                refine va_get (D := D) (ci := 9) (v := .double h_braking) (C := RX9) (T := TX9) (N := 44) hx hb hts in_wsX9_findForce_X9 hown hK hP 0 rfl rfl 33 (by decide) (hts (.fieldLink RX9 69 "AssistRowsModel" "braking" "D") (List.mem_of_getElem? (i := 21) rfl)) (fun _ h9 => h9) rfl dX9_findForce_243 ?_
                obtain ⟨h32, ef0⟩ := ck_of ef0
                refine lv_dsub hx hb dX9_findForce_246 (nn_of h32) ?_
                refine lv_aload_n hx hb dX9_findForce_247 rfl (lv_at hl 0 rfl) ?_
                refine va_get (D := D) (ci := 9) (v := .double h_pull) (C := RX9) (T := TX9) (N := 44) hx hb hts in_wsX9_findForce_X9 hown hK hP 0 rfl rfl 34 (by decide) (hts (.fieldLink RX9 74 "AssistRowsModel" "pull" "D") (List.mem_of_getElem? (i := 22) rfl)) (fun _ h9 => h9) rfl dX9_findForce_248 ?_
                obtain ⟨u33, hu33, ef0⟩ := bd_of ef0
                refine xCalld (wr := [(h_a, .inr (9, [.int h_fault, .double h_now, .double h_speed, .ref h_isThere_a, .ref h_x_a, .ref h_y_a, .ref h_v_a, .ref h_sure_a, .ref h_coast_a, .ref h_many_a, .ref h_mx_a, .ref h_my_a, .ref h_mv_a, .ref h_taken_a, .ref h_way_a, .ref h_toldFirst_a, .ref h_toldSecond_a, .ref h_speedFirst_a, .int h_differs, .int h_differing, .double h_offset, .double h_slope, .double h_curve, .double h_pedal, .double h_brake, .double h_steer, .int h_isOn, .double h_offAt, .int h_isAsked, .double h_askedAt, .int h_isStopping, .double h_wished, .double h_gap, .double h_braking, .double h_pull, .int h_lead, .double h_left, .double h_leadX, .int h_stage, .int h_mode, .double h_force, .double h_wheel, .ref h_counts_a, .int h_sign])), (h_x_a, .inl (h_x_k, 8, .inr (.inr (.inr (.inl h_x))))), (h_v_a, .inl (h_v_k, 8, .inr (.inr (.inr (.inl h_v)))))]) (wn := [(h_a, .inr (9, [.int h_fault, .double h_now, .double h_speed, .ref h_isThere_a, .ref h_x_a, .ref h_y_a, .ref h_v_a, .ref h_sure_a, .ref h_coast_a, .ref h_many_a, .ref h_mx_a, .ref h_my_a, .ref h_mv_a, .ref h_taken_a, .ref h_way_a, .ref h_toldFirst_a, .ref h_toldSecond_a, .ref h_speedFirst_a, .int h_differs, .int h_differing, .double h_offset, .double h_slope, .double h_curve, .double h_pedal, .double h_brake, .double h_steer, .int h_isOn, .double h_offAt, .int h_isAsked, .double h_askedAt, .int h_isStopping, .double h_wished, .double h_gap, .double h_braking, .double h_pull, .int h_lead, .double h_left, .double h_leadX, .int h_stage, .int h_mode, .double h_force, .double h_wheel, .ref h_counts_a, .int h_sign])), (h_x_a, .inl (h_x_k, 8, .inr (.inr (.inr (.inl h_x))))), (h_v_a, .inl (h_v_k, 8, .inr (.inr (.inr (.inl h_v)))))]) [] [0, 1, 2] [0, 1, 2] (va_runS (As := [.double b29, .double (FP.dsub FP.dconst0 h_braking), .double h_pull]) (rest := []) ⟨hx, hb, hml, hown, hts⟩ (c_X9_between l D H.size b29 (FP.dsub FP.dconst0 h_braking) h_pull u33 hu33) (va_cwS 3 hts gX9_findForce_X9_between rfl rfl rfl (by decide +kernel) ⟨Nat.le_of_ble_eq_true rfl, Nat.le_of_ble_eq_true rfl⟩) (xPreS hP hD hK hN [] rfl rfl [] rfl) rfl rfl hl.1 rfl (lv_room (Nat.le_of_ble_eq_true rfl)) dX9_findForce_251 ⟨Nat.zero_le _, Nat.zero_le _⟩) hP hD hS hA rfl rfl rfl (by decide) rfl rfl (fun H locs hP hD hS => ?_)
                have q0 := Option.some.inj ef0
                exact xDret q0 rfl hx hb hr hlk hP hD hS dX9_findForce_254
              · have ef0 := ift ef0 c31
                refine lv_dload_n hx hb dX9_findForce_224 rfl (lv_at hl 1 rfl) ?_
                refine lv_ldc2d hx hb hown (hts (.constantDouble RX9 245 (13844628204490326016)) (List.mem_of_getElem? (i := 18) rfl)) dX9_findForce_225 ?_
                refine lv_dcmp hx hb dX9_findForce_228 ?_
                refine lv_if_le (tgt := 238) hx hb dX9_findForce_229 (by decide) (fun c34 => ?_) (fun c34 => ?_)
                · have ef0 := ift ef0 c34
                  refine lv_dload_n hx hb dX9_findForce_238 rfl (lv_at hl 1 rfl) ?_
                  refine lv_dstore_n (lv' := [(1, .double b29), (0, .ref h_a)]) hx hb dX9_findForce_239 rfl hl (by decide) rfl (fun ls hl => ?_)
                  refine lv_dload_n hx hb dX9_findForce_240 rfl (lv_at hl 0 rfl) ?_
                  refine lv_dconst0 hx hb dX9_findForce_241 ?_
                  refine lv_aload_n hx hb dX9_findForce_242 rfl (lv_at hl 1 rfl) ?_
                  refine va_get (D := D) (ci := 9) (v := .double h_braking) (C := RX9) (T := TX9) (N := 44) hx hb hts in_wsX9_findForce_X9 hown hK hP 0 rfl rfl 33 (by decide) (hts (.fieldLink RX9 69 "AssistRowsModel" "braking" "D") (List.mem_of_getElem? (i := 21) rfl)) (fun _ h9 => h9) rfl dX9_findForce_243 ?_
                  obtain ⟨h35, ef0⟩ := ck_of ef0
                  refine lv_dsub hx hb dX9_findForce_246 (nn_of h35) ?_
                  refine lv_aload_n hx hb dX9_findForce_247 rfl (lv_at hl 1 rfl) ?_
                  refine va_get (D := D) (ci := 9) (v := .double h_pull) (C := RX9) (T := TX9) (N := 44) hx hb hts in_wsX9_findForce_X9 hown hK hP 0 rfl rfl 34 (by decide) (hts (.fieldLink RX9 74 "AssistRowsModel" "pull" "D") (List.mem_of_getElem? (i := 22) rfl)) (fun _ h9 => h9) rfl dX9_findForce_248 ?_
                  obtain ⟨u36, hu36, ef0⟩ := bd_of ef0
                  refine xCalld (wr := [(h_a, .inr (9, [.int h_fault, .double h_now, .double h_speed, .ref h_isThere_a, .ref h_x_a, .ref h_y_a, .ref h_v_a, .ref h_sure_a, .ref h_coast_a, .ref h_many_a, .ref h_mx_a, .ref h_my_a, .ref h_mv_a, .ref h_taken_a, .ref h_way_a, .ref h_toldFirst_a, .ref h_toldSecond_a, .ref h_speedFirst_a, .int h_differs, .int h_differing, .double h_offset, .double h_slope, .double h_curve, .double h_pedal, .double h_brake, .double h_steer, .int h_isOn, .double h_offAt, .int h_isAsked, .double h_askedAt, .int h_isStopping, .double h_wished, .double h_gap, .double h_braking, .double h_pull, .int h_lead, .double h_left, .double h_leadX, .int h_stage, .int h_mode, .double h_force, .double h_wheel, .ref h_counts_a, .int h_sign])), (h_x_a, .inl (h_x_k, 8, .inr (.inr (.inr (.inl h_x))))), (h_v_a, .inl (h_v_k, 8, .inr (.inr (.inr (.inl h_v)))))]) (wn := [(h_a, .inr (9, [.int h_fault, .double h_now, .double h_speed, .ref h_isThere_a, .ref h_x_a, .ref h_y_a, .ref h_v_a, .ref h_sure_a, .ref h_coast_a, .ref h_many_a, .ref h_mx_a, .ref h_my_a, .ref h_mv_a, .ref h_taken_a, .ref h_way_a, .ref h_toldFirst_a, .ref h_toldSecond_a, .ref h_speedFirst_a, .int h_differs, .int h_differing, .double h_offset, .double h_slope, .double h_curve, .double h_pedal, .double h_brake, .double h_steer, .int h_isOn, .double h_offAt, .int h_isAsked, .double h_askedAt, .int h_isStopping, .double h_wished, .double h_gap, .double h_braking, .double h_pull, .int h_lead, .double h_left, .double h_leadX, .int h_stage, .int h_mode, .double h_force, .double h_wheel, .ref h_counts_a, .int h_sign])), (h_x_a, .inl (h_x_k, 8, .inr (.inr (.inr (.inl h_x))))), (h_v_a, .inl (h_v_k, 8, .inr (.inr (.inr (.inl h_v)))))]) [] [0, 1, 2] [0, 1, 2] (va_runS (As := [.double b29, .double (FP.dsub FP.dconst0 h_braking), .double h_pull]) (rest := []) ⟨hx, hb, hml, hown, hts⟩ (c_X9_between l D H.size b29 (FP.dsub FP.dconst0 h_braking) h_pull u36 hu36) (va_cwS 3 hts gX9_findForce_X9_between rfl rfl rfl (by decide +kernel) ⟨Nat.le_of_ble_eq_true rfl, Nat.le_of_ble_eq_true rfl⟩) (xPreS hP hD hK hN [] rfl rfl [] rfl) rfl rfl hl.1 rfl (lv_room (Nat.le_of_ble_eq_true rfl)) dX9_findForce_251 ⟨Nat.zero_le _, Nat.zero_le _⟩) hP hD hS hA rfl rfl rfl (by decide) rfl rfl (fun H locs hP hD hS => ?_)
                  have q0 := Option.some.inj ef0
                  exact xDret q0 rfl hx hb hr hlk hP hD hS dX9_findForce_254
                · have ef0 := iff_ ef0 c34
                  refine lv_ldc2d hx hb hown (hts (.constantDouble RX9 245 (13844628204490326016)) (List.mem_of_getElem? (i := 18) rfl)) dX9_findForce_232 ?_
                  refine lv_goto (tgt := 239) hx hb dX9_findForce_235 (by decide) ?_
                  refine lv_dstore_n (lv' := [(1, .double (13844628204490326016 : UInt64)), (0, .ref h_a)]) hx hb dX9_findForce_239 rfl hl (by decide) rfl (fun ls hl => ?_)
                  refine lv_dload_n hx hb dX9_findForce_240 rfl (lv_at hl 0 rfl) ?_
                  refine lv_dconst0 hx hb dX9_findForce_241 ?_
                  refine lv_aload_n hx hb dX9_findForce_242 rfl (lv_at hl 1 rfl) ?_
                  refine va_get (D := D) (ci := 9) (v := .double h_braking) (C := RX9) (T := TX9) (N := 44) hx hb hts in_wsX9_findForce_X9 hown hK hP 0 rfl rfl 33 (by decide) (hts (.fieldLink RX9 69 "AssistRowsModel" "braking" "D") (List.mem_of_getElem? (i := 21) rfl)) (fun _ h9 => h9) rfl dX9_findForce_243 ?_
                  obtain ⟨h37, ef0⟩ := ck_of ef0
                  refine lv_dsub hx hb dX9_findForce_246 (nn_of h37) ?_
                  refine lv_aload_n hx hb dX9_findForce_247 rfl (lv_at hl 1 rfl) ?_
                  refine va_get (D := D) (ci := 9) (v := .double h_pull) (C := RX9) (T := TX9) (N := 44) hx hb hts in_wsX9_findForce_X9 hown hK hP 0 rfl rfl 34 (by decide) (hts (.fieldLink RX9 74 "AssistRowsModel" "pull" "D") (List.mem_of_getElem? (i := 22) rfl)) (fun _ h9 => h9) rfl dX9_findForce_248 ?_
                  obtain ⟨u38, hu38, ef0⟩ := bd_of ef0
                  refine xCalld (wr := [(h_a, .inr (9, [.int h_fault, .double h_now, .double h_speed, .ref h_isThere_a, .ref h_x_a, .ref h_y_a, .ref h_v_a, .ref h_sure_a, .ref h_coast_a, .ref h_many_a, .ref h_mx_a, .ref h_my_a, .ref h_mv_a, .ref h_taken_a, .ref h_way_a, .ref h_toldFirst_a, .ref h_toldSecond_a, .ref h_speedFirst_a, .int h_differs, .int h_differing, .double h_offset, .double h_slope, .double h_curve, .double h_pedal, .double h_brake, .double h_steer, .int h_isOn, .double h_offAt, .int h_isAsked, .double h_askedAt, .int h_isStopping, .double h_wished, .double h_gap, .double h_braking, .double h_pull, .int h_lead, .double h_left, .double h_leadX, .int h_stage, .int h_mode, .double h_force, .double h_wheel, .ref h_counts_a, .int h_sign])), (h_x_a, .inl (h_x_k, 8, .inr (.inr (.inr (.inl h_x))))), (h_v_a, .inl (h_v_k, 8, .inr (.inr (.inr (.inl h_v)))))]) (wn := [(h_a, .inr (9, [.int h_fault, .double h_now, .double h_speed, .ref h_isThere_a, .ref h_x_a, .ref h_y_a, .ref h_v_a, .ref h_sure_a, .ref h_coast_a, .ref h_many_a, .ref h_mx_a, .ref h_my_a, .ref h_mv_a, .ref h_taken_a, .ref h_way_a, .ref h_toldFirst_a, .ref h_toldSecond_a, .ref h_speedFirst_a, .int h_differs, .int h_differing, .double h_offset, .double h_slope, .double h_curve, .double h_pedal, .double h_brake, .double h_steer, .int h_isOn, .double h_offAt, .int h_isAsked, .double h_askedAt, .int h_isStopping, .double h_wished, .double h_gap, .double h_braking, .double h_pull, .int h_lead, .double h_left, .double h_leadX, .int h_stage, .int h_mode, .double h_force, .double h_wheel, .ref h_counts_a, .int h_sign])), (h_x_a, .inl (h_x_k, 8, .inr (.inr (.inr (.inl h_x))))), (h_v_a, .inl (h_v_k, 8, .inr (.inr (.inr (.inl h_v)))))]) [] [0, 1, 2] [0, 1, 2] (va_runS (As := [.double (13844628204490326016 : UInt64), .double (FP.dsub FP.dconst0 h_braking), .double h_pull]) (rest := []) ⟨hx, hb, hml, hown, hts⟩ (c_X9_between l D H.size (13844628204490326016 : UInt64) (FP.dsub FP.dconst0 h_braking) h_pull u38 hu38) (va_cwS 3 hts gX9_findForce_X9_between rfl rfl rfl (by decide +kernel) ⟨Nat.le_of_ble_eq_true rfl, Nat.le_of_ble_eq_true rfl⟩) (xPreS hP hD hK hN [] rfl rfl [] rfl) rfl rfl hl.1 rfl (lv_room (Nat.le_of_ble_eq_true rfl)) dX9_findForce_251 ⟨Nat.zero_le _, Nat.zero_le _⟩) hP hD hS hA rfl rfl rfl (by decide) rfl rfl (fun H locs hP hD hS => ?_)
                  have q0 := Option.some.inj ef0
                  exact xDret q0 rfl hx hb hr hlk hP hD hS dX9_findForce_254
            · have ef0 := ift ef0 c30
              refine lv_dload_n hx hb dX9_findForce_197 rfl (lv_at hl 1 rfl) ?_
              refine lv_ldc2d hx hb hown (hts (.constantDouble RX9 247 (13839561654909534208)) (List.mem_of_getElem? (i := 20) rfl)) dX9_findForce_198 ?_
              refine lv_dcmp hx hb dX9_findForce_201 ?_
              refine xCut (ι := UInt64) (fun z H locs ls => f_X9_findForce_j6 h_braking h_pull z = some r0 ∧ va_P D vwCl [(h_a, .inr (9, [.int h_fault, .double h_now, .double h_speed, .ref h_isThere_a, .ref h_x_a, .ref h_y_a, .ref h_v_a, .ref h_sure_a, .ref h_coast_a, .ref h_many_a, .ref h_mx_a, .ref h_my_a, .ref h_mv_a, .ref h_taken_a, .ref h_way_a, .ref h_toldFirst_a, .ref h_toldSecond_a, .ref h_speedFirst_a, .int h_differs, .int h_differing, .double h_offset, .double h_slope, .double h_curve, .double h_pedal, .double h_brake, .double h_steer, .int h_isOn, .double h_offAt, .int h_isAsked, .double h_askedAt, .int h_isStopping, .double h_wished, .double h_gap, .double h_braking, .double h_pull, .int h_lead, .double h_left, .double h_leadX, .int h_stage, .int h_mode, .double h_force, .double h_wheel, .ref h_counts_a, .int h_sign])), (h_x_a, .inl (h_x_k, 8, .inr (.inr (.inr (.inl h_x))))), (h_v_a, .inl (h_v_k, 8, .inr (.inr (.inr (.inl h_v)))))] H ∧ va_D A [(h_a, .inr (9, [.int h_fault, .double h_now, .double h_speed, .ref h_isThere_a, .ref h_x_a, .ref h_y_a, .ref h_v_a, .ref h_sure_a, .ref h_coast_a, .ref h_many_a, .ref h_mx_a, .ref h_my_a, .ref h_mv_a, .ref h_taken_a, .ref h_way_a, .ref h_toldFirst_a, .ref h_toldSecond_a, .ref h_speedFirst_a, .int h_differs, .int h_differing, .double h_offset, .double h_slope, .double h_curve, .double h_pedal, .double h_brake, .double h_steer, .int h_isOn, .double h_offAt, .int h_isAsked, .double h_askedAt, .int h_isStopping, .double h_wished, .double h_gap, .double h_braking, .double h_pull, .int h_lead, .double h_left, .double h_leadX, .int h_stage, .int h_mode, .double h_force, .double h_wheel, .ref h_counts_a, .int h_sign])), (h_x_a, .inl (h_x_k, 8, .inr (.inr (.inr (.inl h_x))))), (h_v_a, .inl (h_v_k, 8, .inr (.inr (.inr (.inl h_v)))))] ∧ va_S A s.heap H locs ∧ lv_has ls 5 [(0, .ref h_a)]) 212 (fun z => [.double z]) ?_ (fun K6 => ?_)
              · intro z H locs ls hz
                obtain ⟨b40, rfl⟩ : ∃ q, q = z := ⟨z, rfl⟩
                obtain ⟨ef0, hP, hD, hS, hl⟩ := hz
                have ef0 : f_X9_findForce_j6 h_braking h_pull b40 = some r0 := ef0
                have hP : va_P D vwCl [(h_a, .inr (9, [.int h_fault, .double h_now, .double h_speed, .ref h_isThere_a, .ref h_x_a, .ref h_y_a, .ref h_v_a, .ref h_sure_a, .ref h_coast_a, .ref h_many_a, .ref h_mx_a, .ref h_my_a, .ref h_mv_a, .ref h_taken_a, .ref h_way_a, .ref h_toldFirst_a, .ref h_toldSecond_a, .ref h_speedFirst_a, .int h_differs, .int h_differing, .double h_offset, .double h_slope, .double h_curve, .double h_pedal, .double h_brake, .double h_steer, .int h_isOn, .double h_offAt, .int h_isAsked, .double h_askedAt, .int h_isStopping, .double h_wished, .double h_gap, .double h_braking, .double h_pull, .int h_lead, .double h_left, .double h_leadX, .int h_stage, .int h_mode, .double h_force, .double h_wheel, .ref h_counts_a, .int h_sign])), (h_x_a, .inl (h_x_k, 8, .inr (.inr (.inr (.inl h_x))))), (h_v_a, .inl (h_v_k, 8, .inr (.inr (.inr (.inl h_v)))))] H := hP
                have hD : va_D A [(h_a, .inr (9, [.int h_fault, .double h_now, .double h_speed, .ref h_isThere_a, .ref h_x_a, .ref h_y_a, .ref h_v_a, .ref h_sure_a, .ref h_coast_a, .ref h_many_a, .ref h_mx_a, .ref h_my_a, .ref h_mv_a, .ref h_taken_a, .ref h_way_a, .ref h_toldFirst_a, .ref h_toldSecond_a, .ref h_speedFirst_a, .int h_differs, .int h_differing, .double h_offset, .double h_slope, .double h_curve, .double h_pedal, .double h_brake, .double h_steer, .int h_isOn, .double h_offAt, .int h_isAsked, .double h_askedAt, .int h_isStopping, .double h_wished, .double h_gap, .double h_braking, .double h_pull, .int h_lead, .double h_left, .double h_leadX, .int h_stage, .int h_mode, .double h_force, .double h_wheel, .ref h_counts_a, .int h_sign])), (h_x_a, .inl (h_x_k, 8, .inr (.inr (.inr (.inl h_x))))), (h_v_a, .inl (h_v_k, 8, .inr (.inr (.inr (.inl h_v)))))] := hD
                have hl : lv_has ls 5 [(0, .ref h_a)] := hl
                rewrite [f_X9_findForce_j6] at ef0
                refine W.eq (g2 := F0 m 212 ls [.double b40]) rfl ?_
                refine lv_dstore_n (lv' := [(1, .double b40), (0, .ref h_a)]) hx hb dX9_findForce_212 rfl hl (by decide) rfl (fun ls hl => ?_)
                refine lv_goto (tgt := 240) hx hb dX9_findForce_213 (by decide) ?_
                refine lv_dload_n hx hb dX9_findForce_240 rfl (lv_at hl 0 rfl) ?_
                refine lv_dconst0 hx hb dX9_findForce_241 ?_
                refine lv_aload_n hx hb dX9_findForce_242 rfl (lv_at hl 1 rfl) ?_
                refine va_get (D := D) (ci := 9) (v := .double h_braking) (C := RX9) (T := TX9) (N := 44) hx hb hts in_wsX9_findForce_X9 hown hK hP 0 rfl rfl 33 (by decide) (hts (.fieldLink RX9 69 "AssistRowsModel" "braking" "D") (List.mem_of_getElem? (i := 21) rfl)) (fun _ h9 => h9) rfl dX9_findForce_243 ?_
                obtain ⟨h41, ef0⟩ := ck_of ef0
                refine lv_dsub hx hb dX9_findForce_246 (nn_of h41) ?_
                refine lv_aload_n hx hb dX9_findForce_247 rfl (lv_at hl 1 rfl) ?_
                refine va_get (D := D) (ci := 9) (v := .double h_pull) (C := RX9) (T := TX9) (N := 44) hx hb hts in_wsX9_findForce_X9 hown hK hP 0 rfl rfl 34 (by decide) (hts (.fieldLink RX9 74 "AssistRowsModel" "pull" "D") (List.mem_of_getElem? (i := 22) rfl)) (fun _ h9 => h9) rfl dX9_findForce_248 ?_
                obtain ⟨u42, hu42, ef0⟩ := bd_of ef0
                refine xCalld (wr := [(h_a, .inr (9, [.int h_fault, .double h_now, .double h_speed, .ref h_isThere_a, .ref h_x_a, .ref h_y_a, .ref h_v_a, .ref h_sure_a, .ref h_coast_a, .ref h_many_a, .ref h_mx_a, .ref h_my_a, .ref h_mv_a, .ref h_taken_a, .ref h_way_a, .ref h_toldFirst_a, .ref h_toldSecond_a, .ref h_speedFirst_a, .int h_differs, .int h_differing, .double h_offset, .double h_slope, .double h_curve, .double h_pedal, .double h_brake, .double h_steer, .int h_isOn, .double h_offAt, .int h_isAsked, .double h_askedAt, .int h_isStopping, .double h_wished, .double h_gap, .double h_braking, .double h_pull, .int h_lead, .double h_left, .double h_leadX, .int h_stage, .int h_mode, .double h_force, .double h_wheel, .ref h_counts_a, .int h_sign])), (h_x_a, .inl (h_x_k, 8, .inr (.inr (.inr (.inl h_x))))), (h_v_a, .inl (h_v_k, 8, .inr (.inr (.inr (.inl h_v)))))]) (wn := [(h_a, .inr (9, [.int h_fault, .double h_now, .double h_speed, .ref h_isThere_a, .ref h_x_a, .ref h_y_a, .ref h_v_a, .ref h_sure_a, .ref h_coast_a, .ref h_many_a, .ref h_mx_a, .ref h_my_a, .ref h_mv_a, .ref h_taken_a, .ref h_way_a, .ref h_toldFirst_a, .ref h_toldSecond_a, .ref h_speedFirst_a, .int h_differs, .int h_differing, .double h_offset, .double h_slope, .double h_curve, .double h_pedal, .double h_brake, .double h_steer, .int h_isOn, .double h_offAt, .int h_isAsked, .double h_askedAt, .int h_isStopping, .double h_wished, .double h_gap, .double h_braking, .double h_pull, .int h_lead, .double h_left, .double h_leadX, .int h_stage, .int h_mode, .double h_force, .double h_wheel, .ref h_counts_a, .int h_sign])), (h_x_a, .inl (h_x_k, 8, .inr (.inr (.inr (.inl h_x))))), (h_v_a, .inl (h_v_k, 8, .inr (.inr (.inr (.inl h_v)))))]) [] [0, 1, 2] [0, 1, 2] (va_runS (As := [.double b40, .double (FP.dsub FP.dconst0 h_braking), .double h_pull]) (rest := []) ⟨hx, hb, hml, hown, hts⟩ (c_X9_between l D H.size b40 (FP.dsub FP.dconst0 h_braking) h_pull u42 hu42) (va_cwS 3 hts gX9_findForce_X9_between rfl rfl rfl (by decide +kernel) ⟨Nat.le_of_ble_eq_true rfl, Nat.le_of_ble_eq_true rfl⟩) (xPreS hP hD hK hN [] rfl rfl [] rfl) rfl rfl hl.1 rfl (lv_room (Nat.le_of_ble_eq_true rfl)) dX9_findForce_251 ⟨Nat.zero_le _, Nat.zero_le _⟩) hP hD hS hA rfl rfl rfl (by decide) rfl rfl (fun H locs hP hD hS => ?_)
                have q0 := Option.some.inj ef0
                exact xDret q0 rfl hx hb hr hlk hP hD hS dX9_findForce_254
              refine lv_if_le (tgt := 211) hx hb dX9_findForce_202 (by decide) (fun c39 => ?_) (fun c39 => ?_)
              · have ef0 := ift ef0 c39
                refine lv_dload_n hx hb dX9_findForce_211 rfl (lv_at hl 1 rfl) ?_
                exact K6 b29 _ _ _ ⟨ef0, hP, hD, hS, lv_sub hl [0] rfl⟩
              · have ef0 := iff_ ef0 c39
                refine lv_ldc2d hx hb hown (hts (.constantDouble RX9 247 (13839561654909534208)) (List.mem_of_getElem? (i := 20) rfl)) dX9_findForce_205 ?_
                refine lv_goto (tgt := 212) hx hb dX9_findForce_208 (by decide) ?_
                exact K6 (13839561654909534208 : UInt64) _ _ _ ⟨ef0, hP, hD, hS, lv_sub hl [0] rfl⟩
          refine lv_if_le (tgt := 189) hx hb dX9_findForce_177 (by decide) (fun c27 => ?_) (fun c27 => ?_)
          · have ef0 := ift ef0 c27
            exact K5 b26 _ _ _ ⟨ef0, hP, hD, hS, lv_sub hl [0, 1] rfl⟩
          · have ef0 := iff_ ef0 c27
            refine lv_ldc2d hx hb hown (hts (.constantDouble RX9 245 (13844628204490326016)) (List.mem_of_getElem? (i := 18) rfl)) dX9_findForce_180 ?_
            refine lv_aload_n hx hb dX9_findForce_183 rfl (lv_at hl 0 rfl) ?_
            refine va_get (D := D) (ci := 9) (v := .double h_brake) (C := RX9) (T := TX9) (N := 44) hx hb hts in_wsX9_findForce_X9 hown hK hP 0 rfl rfl 24 (by decide) (hts (.fieldLink RX9 134 "AssistRowsModel" "brake" "D") (List.mem_of_getElem? (i := 17) rfl)) (fun _ h9 => h9) rfl dX9_findForce_184 ?_
            obtain ⟨h28, ef0⟩ := ck_of ef0
            refine lv_dmul hx hb dX9_findForce_187 (nn_of h28) ?_
            refine lv_dstore_n (lv' := [(1, .double (FP.dmul (13844628204490326016 : UInt64) h_brake)), (0, .ref h_a)]) hx hb dX9_findForce_188 rfl hl (by decide) rfl (fun ls hl => ?_)
            exact K5 (FP.dmul (13844628204490326016 : UInt64) h_brake) _ _ _ ⟨ef0, hP, hD, hS, lv_sub hl [1, 0] rfl⟩
        refine lv_if_eq (tgt := 171) hx hb dX9_findForce_151 (by decide) (fun c24 => ?_) (fun c24 => ?_)
        · have ef0 := ift ef0 c24
          exact K4 b23 _ _ _ ⟨ef0, hP, hD, hS, lv_sub hl [0, 1] rfl⟩
        · have ef0 := iff_ ef0 c24
          refine lv_aload_n hx hb dX9_findForce_154 rfl (lv_at hl 0 rfl) ?_
          refine va_get (D := D) (ci := 9) (v := .double h_speed) (C := RX9) (T := TX9) (N := 44) hx hb hts in_wsX9_findForce_X9 hown hK hP 0 rfl rfl 2 (by decide) (hts (.fieldLink RX9 203 "AssistRowsModel" "speed" "D") (List.mem_of_getElem? (i := 2) rfl)) (fun _ h9 => h9) rfl dX9_findForce_155 ?_
          refine lv_dconst0 hx hb dX9_findForce_158 ?_
          refine lv_dcmp hx hb dX9_findForce_159 ?_
          refine lv_if_ne (tgt := 167) hx hb dX9_findForce_160 (by decide) (fun c25 => ?_) (fun c25 => ?_)
          · have ef0 := iff_ ef0 c25
            refine lv_ldc2d hx hb hown (hts (.constantDouble RX9 243 (13835058055282163712)) (List.mem_of_getElem? (i := 16) rfl)) dX9_findForce_167 ?_
            refine lv_dstore_n (lv' := [(1, .double (13835058055282163712 : UInt64)), (0, .ref h_a)]) hx hb dX9_findForce_170 rfl hl (by decide) rfl (fun ls hl => ?_)
            exact K4 (13835058055282163712 : UInt64) _ _ _ ⟨ef0, hP, hD, hS, lv_sub hl [1, 0] rfl⟩
          · have ef0 := ift ef0 c25
            refine lv_dconst0 hx hb dX9_findForce_163 ?_
            refine lv_goto (tgt := 170) hx hb dX9_findForce_164 (by decide) ?_
            refine lv_dstore_n (lv' := [(1, .double FP.dconst0), (0, .ref h_a)]) hx hb dX9_findForce_170 rfl hl (by decide) rfl (fun ls hl => ?_)
            exact K4 FP.dconst0 _ _ _ ⟨ef0, hP, hD, hS, lv_sub hl [1, 0] rfl⟩
      refine lv_if_le (tgt := 147) hx hb dX9_findForce_118 (by decide) (fun c19 => ?_) (fun c19 => ?_)
      · have ef0 := ift ef0 c19
        exact K3 u18 _ _ _ ⟨ef0, hP, hD, hS, lv_sub hl [1, 0] rfl⟩
      · have ef0 := iff_ ef0 c19
        refine lv_ldc2d hx hb hown (hts (.constantDouble RX9 144 (4613937818241073152)) (List.mem_of_getElem? (i := 6) rfl)) dX9_findForce_121 ?_
        refine lv_aload_n hx hb dX9_findForce_124 rfl (lv_at hl 1 rfl) ?_
        refine va_get (D := D) (ci := 9) (v := .double h_pedal) (C := RX9) (T := TX9) (N := 44) hx hb hts in_wsX9_findForce_X9 hown hK hP 0 rfl rfl 23 (by decide) (hts (.fieldLink RX9 131 "AssistRowsModel" "pedal" "D") (List.mem_of_getElem? (i := 14) rfl)) (fun _ h9 => h9) rfl dX9_findForce_125 ?_
        obtain ⟨h20, ef0⟩ := ck_of ef0
        refine lv_dmul hx hb dX9_findForce_128 (nn_of h20) ?_
        refine lv_dload_n hx hb dX9_findForce_129 rfl (lv_at hl 0 rfl) ?_
        refine lv_dcmp hx hb dX9_findForce_130 ?_
        refine lv_if_le (tgt := 145) hx hb dX9_findForce_131 (by decide) (fun c21 => ?_) (fun c21 => ?_)
        · have ef0 := ift ef0 c21
          refine lv_dload_n hx hb dX9_findForce_145 rfl (lv_at hl 0 rfl) ?_
          refine lv_dstore_n (lv' := [(1, .double u18), (0, .ref h_a)]) hx hb dX9_findForce_146 rfl hl (by decide) rfl (fun ls hl => ?_)
          exact K3 u18 _ _ _ ⟨ef0, hP, hD, hS, lv_sub hl [1, 0] rfl⟩
        · have ef0 := iff_ ef0 c21
          refine lv_ldc2d hx hb hown (hts (.constantDouble RX9 144 (4613937818241073152)) (List.mem_of_getElem? (i := 6) rfl)) dX9_findForce_134 ?_
          refine lv_aload_n hx hb dX9_findForce_137 rfl (lv_at hl 1 rfl) ?_
          refine va_get (D := D) (ci := 9) (v := .double h_pedal) (C := RX9) (T := TX9) (N := 44) hx hb hts in_wsX9_findForce_X9 hown hK hP 0 rfl rfl 23 (by decide) (hts (.fieldLink RX9 131 "AssistRowsModel" "pedal" "D") (List.mem_of_getElem? (i := 14) rfl)) (fun _ h9 => h9) rfl dX9_findForce_138 ?_
          obtain ⟨h22, ef0⟩ := ck_of ef0
          refine lv_dmul hx hb dX9_findForce_141 (nn_of h22) ?_
          refine lv_goto (tgt := 146) hx hb dX9_findForce_142 (by decide) ?_
          refine lv_dstore_n (lv' := [(1, .double (FP.dmul (4613937818241073152 : UInt64) h_pedal)), (0, .ref h_a)]) hx hb dX9_findForce_146 rfl hl (by decide) rfl (fun ls hl => ?_)
          exact K3 (FP.dmul (4613937818241073152 : UInt64) h_pedal) _ _ _ ⟨ef0, hP, hD, hS, lv_sub hl [1, 0] rfl⟩
    refine lv_icmp_ne (tgt := 99) hx hb dX9_findForce_86 (by decide) (fun c15 => ?_) (fun c15 => ?_)
    · have ef0 := iff_ ef0 c15
      refine lv_dload_n hx hb dX9_findForce_99 rfl (lv_at hl 1 rfl) ?_
      exact K2 b14 _ _ _ ⟨ef0, hP, hD, hS, lv_sub hl [0] rfl⟩
    · have ef0 := ift ef0 c15
      refine lv_dload_n hx hb dX9_findForce_89 rfl (lv_at hl 1 rfl) ?_
      refine lv_dconst0 hx hb dX9_findForce_90 ?_
      refine lv_dcmp hx hb dX9_findForce_91 ?_
      refine lv_if_le (tgt := 99) hx hb dX9_findForce_92 (by decide) (fun c16 => ?_) (fun c16 => ?_)
      · have ef0 := ift ef0 c16
        refine lv_dload_n hx hb dX9_findForce_99 rfl (lv_at hl 1 rfl) ?_
        exact K2 b14 _ _ _ ⟨ef0, hP, hD, hS, lv_sub hl [0] rfl⟩
      · have ef0 := iff_ ef0 c16
        refine lv_dconst0 hx hb dX9_findForce_95 ?_
        refine lv_goto (tgt := 100) hx hb dX9_findForce_96 (by decide) ?_
        exact K2 FP.dconst0 _ _ _ ⟨ef0, hP, hD, hS, lv_sub hl [0] rfl⟩
  refine lv_if_lt (tgt := 80) hx hb dX9_findForce_18 (by decide) (fun c3 => ?_) (fun c3 => ?_)
  · have ef0 := ift ef0 c3
    exact K1 (FP.dmul (FP.dsub h_wished h_speed) (4602678819172646912 : UInt64)) _ _ _ ⟨ef0, hP, hD, hS, lv_sub hl [1, 0] rfl⟩
  · have ef0 := iff_ ef0 c3
    refine lv_aload_n hx hb dX9_findForce_21 rfl (lv_at hl 1 rfl) ?_
    refine va_get (D := D) (ci := 9) (v := .ref h_x_a) (C := RX9) (T := TX9) (N := 44) hx hb hts in_wsX9_findForce_X9 hown hK hP 0 rfl rfl 4 (by decide) (hts (.fieldLink RX9 13 "AssistRowsModel" "x" "[D") (List.mem_of_getElem? (i := 5) rfl)) (fun _ h9 => h9) rfl dX9_findForce_22 ?_
    refine lv_aload_n hx hb dX9_findForce_25 rfl (lv_at hl 1 rfl) ?_
    refine va_get (D := D) (ci := 9) (v := .int h_lead) (C := RX9) (T := TX9) (N := 44) hx hb hts in_wsX9_findForce_X9 hown hK hP 0 rfl rfl 35 (by decide) (hts (.fieldLink RX9 77 "AssistRowsModel" "lead" "I") (List.mem_of_getElem? (i := 4) rfl)) (fun _ h9 => h9) rfl dX9_findForce_26 ?_
    obtain ⟨h4, ef0⟩ := ck_of ef0
    refine va_dald hx hb hK hP 1 0 rfl rfl (inb_of h4) dX9_findForce_29 ?_
    refine lv_ldc2d hx hb hown (hts (.constantDouble RX9 144 (4613937818241073152)) (List.mem_of_getElem? (i := 6) rfl)) dX9_findForce_30 ?_
    refine lv_aload_n hx hb dX9_findForce_33 rfl (lv_at hl 1 rfl) ?_
    refine va_get (D := D) (ci := 9) (v := .double h_gap) (C := RX9) (T := TX9) (N := 44) hx hb hts in_wsX9_findForce_X9 hown hK hP 0 rfl rfl 32 (by decide) (hts (.fieldLink RX9 63 "AssistRowsModel" "gap" "D") (List.mem_of_getElem? (i := 7) rfl)) (fun _ h9 => h9) rfl dX9_findForce_34 ?_
    refine lv_aload_n hx hb dX9_findForce_37 rfl (lv_at hl 1 rfl) ?_
    refine va_get (D := D) (ci := 9) (v := .double h_speed) (C := RX9) (T := TX9) (N := 44) hx hb hts in_wsX9_findForce_X9 hown hK hP 0 rfl rfl 2 (by decide) (hts (.fieldLink RX9 203 "AssistRowsModel" "speed" "D") (List.mem_of_getElem? (i := 2) rfl)) (fun _ h9 => h9) rfl dX9_findForce_38 ?_
    obtain ⟨h5, ef0⟩ := ck_of ef0
    refine lv_dmul hx hb dX9_findForce_41 (nn_of h5) ?_
    obtain ⟨h6, ef0⟩ := ck_of ef0
    refine lv_dadd hx hb dX9_findForce_42 (nn_of h6) ?_
    obtain ⟨h7, ef0⟩ := ck_of ef0
    refine lv_dsub hx hb dX9_findForce_43 (nn_of h7) ?_
    refine lv_ldc2d hx hb hown (hts (.constantDouble RX9 230 (4596373779694328218)) (List.mem_of_getElem? (i := 8) rfl)) dX9_findForce_44 ?_
    obtain ⟨h8, ef0⟩ := ck_of ef0
    refine lv_dmul hx hb dX9_findForce_47 (nn_of h8) ?_
    refine lv_aload_n hx hb dX9_findForce_48 rfl (lv_at hl 1 rfl) ?_
    refine va_get (D := D) (ci := 9) (v := .ref h_v_a) (C := RX9) (T := TX9) (N := 44) hx hb hts in_wsX9_findForce_X9 hown hK hP 0 rfl rfl 6 (by decide) (hts (.fieldLink RX9 20 "AssistRowsModel" "v" "[D") (List.mem_of_getElem? (i := 9) rfl)) (fun _ h9 => h9) rfl dX9_findForce_49 ?_
    refine lv_aload_n hx hb dX9_findForce_52 rfl (lv_at hl 1 rfl) ?_
    refine va_get (D := D) (ci := 9) (v := .int h_lead) (C := RX9) (T := TX9) (N := 44) hx hb hts in_wsX9_findForce_X9 hown hK hP 0 rfl rfl 35 (by decide) (hts (.fieldLink RX9 77 "AssistRowsModel" "lead" "I") (List.mem_of_getElem? (i := 4) rfl)) (fun _ h9 => h9) rfl dX9_findForce_53 ?_
    obtain ⟨h9, ef0⟩ := ck_of ef0
    refine va_dald hx hb hK hP 2 1 rfl rfl (inb_of h9) dX9_findForce_56 ?_
    refine lv_aload_n hx hb dX9_findForce_57 rfl (lv_at hl 1 rfl) ?_
    refine va_get (D := D) (ci := 9) (v := .double h_speed) (C := RX9) (T := TX9) (N := 44) hx hb hts in_wsX9_findForce_X9 hown hK hP 0 rfl rfl 2 (by decide) (hts (.fieldLink RX9 203 "AssistRowsModel" "speed" "D") (List.mem_of_getElem? (i := 2) rfl)) (fun _ h9 => h9) rfl dX9_findForce_58 ?_
    obtain ⟨h10, ef0⟩ := ck_of ef0
    refine lv_dsub hx hb dX9_findForce_61 (nn_of h10) ?_
    refine lv_ldc2d hx hb hown (hts (.constantDouble RX9 232 (4603579539098121011)) (List.mem_of_getElem? (i := 10) rfl)) dX9_findForce_62 ?_
    obtain ⟨h11, ef0⟩ := ck_of ef0
    refine lv_dmul hx hb dX9_findForce_65 (nn_of h11) ?_
    obtain ⟨h12, ef0⟩ := ck_of ef0
    refine lv_dadd hx hb dX9_findForce_66 (nn_of h12) ?_
    refine lv_dstore_n (lv' := [(3, .double (FP.dadd (FP.dmul (FP.dsub (h_x h_lead.toNatClampNeg) (FP.dadd (4613937818241073152 : UInt64) (FP.dmul h_gap h_speed))) (4596373779694328218 : UInt64)) (FP.dmul (FP.dsub (h_v h_lead.toNatClampNeg) h_speed) (4603579539098121011 : UInt64)))), (1, .double (FP.dmul (FP.dsub h_wished h_speed) (4602678819172646912 : UInt64))), (0, .ref h_a)]) hx hb dX9_findForce_67 rfl hl (by decide) rfl (fun ls hl => ?_)
    refine lv_dload_n hx hb dX9_findForce_68 rfl (lv_at hl 0 rfl) ?_
    refine lv_dload_n hx hb dX9_findForce_69 rfl (lv_at hl 1 rfl) ?_
    refine lv_dcmp hx hb dX9_findForce_70 ?_
    refine lv_if_ge (tgt := 78) hx hb dX9_findForce_71 (by decide) (fun c13 => ?_) (fun c13 => ?_)
    · have ef0 := ift ef0 c13
      refine lv_dload_n hx hb dX9_findForce_78 rfl (lv_at hl 1 rfl) ?_
      refine lv_dstore_n (lv' := [(1, .double (FP.dmul (FP.dsub h_wished h_speed) (4602678819172646912 : UInt64))), (3, .double (FP.dadd (FP.dmul (FP.dsub (h_x h_lead.toNatClampNeg) (FP.dadd (4613937818241073152 : UInt64) (FP.dmul h_gap h_speed))) (4596373779694328218 : UInt64)) (FP.dmul (FP.dsub (h_v h_lead.toNatClampNeg) h_speed) (4603579539098121011 : UInt64)))), (0, .ref h_a)]) hx hb dX9_findForce_79 rfl hl (by decide) rfl (fun ls hl => ?_)
      exact K1 (FP.dmul (FP.dsub h_wished h_speed) (4602678819172646912 : UInt64)) _ _ _ ⟨ef0, hP, hD, hS, lv_sub hl [2, 0] rfl⟩
    · have ef0 := iff_ ef0 c13
      refine lv_dload_n hx hb dX9_findForce_74 rfl (lv_at hl 0 rfl) ?_
      refine lv_goto (tgt := 79) hx hb dX9_findForce_75 (by decide) ?_
      refine lv_dstore_n (lv' := [(1, .double (FP.dadd (FP.dmul (FP.dsub (h_x h_lead.toNatClampNeg) (FP.dadd (4613937818241073152 : UInt64) (FP.dmul h_gap h_speed))) (4596373779694328218 : UInt64)) (FP.dmul (FP.dsub (h_v h_lead.toNatClampNeg) h_speed) (4603579539098121011 : UInt64)))), (3, .double (FP.dadd (FP.dmul (FP.dsub (h_x h_lead.toNatClampNeg) (FP.dadd (4613937818241073152 : UInt64) (FP.dmul h_gap h_speed))) (4596373779694328218 : UInt64)) (FP.dmul (FP.dsub (h_v h_lead.toNatClampNeg) h_speed) (4603579539098121011 : UInt64)))), (0, .ref h_a)]) hx hb dX9_findForce_79 rfl hl (by decide) rfl (fun ls hl => ?_)
      exact K1 (FP.dadd (FP.dmul (FP.dsub (h_x h_lead.toNatClampNeg) (FP.dadd (4613937818241073152 : UInt64) (FP.dmul h_gap h_speed))) (4596373779694328218 : UInt64)) (FP.dmul (FP.dsub (h_v h_lead.toNatClampNeg) h_speed) (4603579539098121011 : UInt64))) _ _ _ ⟨ef0, hP, hD, hS, lv_sub hl [2, 0] rfl⟩
