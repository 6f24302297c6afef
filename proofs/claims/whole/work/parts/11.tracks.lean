theorem in_wsX7_isThere_X7 : ∀ w ∈ wsX70, w ∈ wsX7_isThere := fun _ h => List.mem_cons_of_mem _ (List.mem_append_right _ h)
def f_X7_isThere (p0 : Int32) (h_there : Nat → Int32) : Option Int32 :=
  if p0 < 0 then (
  some (0 : Int32)) else
  if (8 : Int32) ≤ p0 then (
  some (0 : Int32)) else
  ck (inb p0 8 = true) <|
  if (h_there p0.toNatClampNeg) = 0 then (
  some (0 : Int32)) else
  some (1 : Int32)
set_option maxHeartbeats 4000000 in
set_option maxRecDepth 100000 in
theorem c_X7_isThere (l : Launch) (D : va_G) (sz : Nat) (h_a : Nat) (h_there_a : Nat) (h_x_a : Nat) (h_y_a : Nat) (h_speed_a : Nat) (h_sure_a : Nat) (h_coast_a : Nat) (h_met_a : Nat) (h_metSpeed_a : Nat) (h_pairing_a : Nat) (h_there_k : ClassId) (p0 : Int32) (h_differ : Int32) (h_there : Nat → Int32) (r0 : Int32) (hf : f_X7_isThere p0 h_there = some r0) : Met l yX7_isThere wsX7_isThere { frames := 0, cells := 0, slots := 0, locals := 0 } (va_Pc [.ref h_a, .int p0] (xPre D [(h_a, .inr (7, [.ref h_there_a, .ref h_x_a, .ref h_y_a, .ref h_speed_a, .ref h_sure_a, .ref h_coast_a, .ref h_met_a, .ref h_metSpeed_a, .ref h_pairing_a, .int h_differ])), (h_there_a, .inl (h_there_k, 8, .inl h_there))] [(h_there_k, .boolean)] sz)) (va_Qi (fun (x : Int32) (_ : Unit) => x = r0) (fun _ => xB D (va_A [(h_a, .inr (7, [.ref h_there_a, .ref h_x_a, .ref h_y_a, .ref h_speed_a, .ref h_sure_a, .ref h_coast_a, .ref h_met_a, .ref h_metSpeed_a, .ref h_pairing_a, .int h_differ])), (h_there_a, .inl (h_there_k, 8, .inl h_there))] sz) [(h_a, .inr (7, [.ref h_there_a, .ref h_x_a, .ref h_y_a, .ref h_speed_a, .ref h_sure_a, .ref h_coast_a, .ref h_met_a, .ref h_metSpeed_a, .ref h_pairing_a, .int h_differ])), (h_there_a, .inl (h_there_k, 8, .inl h_there))]) (va_A [(h_a, .inr (7, [.ref h_there_a, .ref h_x_a, .ref h_y_a, .ref h_speed_a, .ref h_sure_a, .ref h_coast_a, .ref h_met_a, .ref h_metSpeed_a, .ref h_pairing_a, .int h_differ])), (h_there_a, .inl (h_there_k, 8, .inl h_there))] sz)) 0 0 (va_A [(h_a, .inr (7, [.ref h_there_a, .ref h_x_a, .ref h_y_a, .ref h_speed_a, .ref h_sure_a, .ref h_coast_a, .ref h_met_a, .ref h_metSpeed_a, .ref h_pairing_a, .int h_differ])), (h_there_a, .inl (h_there_k, 8, .inl h_there))] sz) := by
  refine xOfW (l := l) (y := yX7_isThere) (ws := wsX7_isThere) (D := D) (cells := [(h_a, .inr (7, [.ref h_there_a, .ref h_x_a, .ref h_y_a, .ref h_speed_a, .ref h_sure_a, .ref h_coast_a, .ref h_met_a, .ref h_metSpeed_a, .ref h_pairing_a, .int h_differ])), (h_there_a, .inl (h_there_k, 8, .inl h_there))]) (tys := [(h_there_k, .boolean)]) (sz := sz) (av := [.ref h_a, .int p0]) (cc := cX7_isThere) (maxL := 2) (ret := (some .boolean)) (fun A => va_Qi (fun (x : Int32) (_ : Unit) => x = r0) (fun _ => xB D A [(h_a, .inr (7, [.ref h_there_a, .ref h_x_a, .ref h_y_a, .ref h_speed_a, .ref h_sure_a, .ref h_coast_a, .ref h_met_a, .ref h_metSpeed_a, .ref h_pairing_a, .int h_differ])), (h_there_a, .inl (h_there_k, 8, .inl h_there))]) A) (by decide) rfl (Nat.le_of_ble_eq_true rfl) ?_
  intro p e s m below meth c A H ls hx hb hr hml hown hlk hts hP hK hD hS hA hN hl
  have hl : lv_has ls 2 [(0, .ref h_a), (1, .int p0)] := hl
  have hown : s.vm.findClass RX7 = some m.cls := hown
  have ef0 : f_X7_isThere p0 h_there = some r0 := hf
  rewrite [f_X7_isThere] at ef0
  refine lv_iload_n hx hb dX7_isThere_0 rfl (lv_at hl 1 rfl) ?_
  refine lv_if_lt (tgt := 23) hx hb dX7_isThere_1 (by decide) (fun c1 => ?_) (fun c1 => ?_)
  · have ef0 := ift ef0 c1
    refine lv_iconst (v := (0 : Int32)) hx hb dX7_isThere_23 (by decide) ?_
    have q0 := Option.some.inj ef0
    exact xZret q0 rfl hx hb hr (rfl) hlk hP hD hS dX7_isThere_24
  · have ef0 := iff_ ef0 c1
    refine lv_iload_n hx hb dX7_isThere_4 rfl (lv_at hl 1 rfl) ?_
    refine lv_bipush (v := (8 : Int32)) hx hb dX7_isThere_5 (by decide) ?_
    refine lv_icmp_ge (tgt := 23) hx hb dX7_isThere_7 (by decide) (fun c2 => ?_) (fun c2 => ?_)
    · have ef0 := ift ef0 c2
      refine lv_iconst (v := (0 : Int32)) hx hb dX7_isThere_23 (by decide) ?_
      have q0 := Option.some.inj ef0
      exact xZret q0 rfl hx hb hr (rfl) hlk hP hD hS dX7_isThere_24
    · have ef0 := iff_ ef0 c2
      refine lv_aload_n hx hb dX7_isThere_10 rfl (lv_at hl 0 rfl) ?_
      refine va_get (D := D) (ci := 7) (v := .ref h_there_a) (C := RX7) (T := TX7) (N := 10) hx hb hts in_wsX7_isThere_X7 hown hK hP 0 rfl rfl 0 (by decide) (hts (.fieldLink RX7 9 "AssistRows$Tracks" "there" "[Z") (List.mem_of_getElem? (i := 1) rfl)) (fun _ h9 => h9) rfl dX7_isThere_11 ?_
      refine lv_iload_n hx hb dX7_isThere_14 rfl (lv_at hl 1 rfl) ?_
      obtain ⟨h3, ef0⟩ := ck_of ef0
      refine va_zald hx hb hK hP 1 0 rfl rfl (inb_of h3) dX7_isThere_15 ?_
      refine lv_if_eq (tgt := 23) hx hb dX7_isThere_16 (by decide) (fun c4 => ?_) (fun c4 => ?_)
      · have ef0 := ift ef0 c4
        refine lv_iconst (v := (0 : Int32)) hx hb dX7_isThere_23 (by decide) ?_
        have q0 := Option.some.inj ef0
        exact xZret q0 rfl hx hb hr (rfl) hlk hP hD hS dX7_isThere_24
      · have ef0 := iff_ ef0 c4
        refine lv_iconst (v := (1 : Int32)) hx hb dX7_isThere_19 (by decide) ?_
        refine lv_goto (tgt := 24) hx hb dX7_isThere_20 (by decide) ?_
        have q0 := Option.some.inj ef0
        exact xZret q0 rfl hx hb hr (rfl) hlk hP hD hS dX7_isThere_24

theorem in_wsX7_move_X7 : ∀ w ∈ wsX70, w ∈ wsX7_move := fun _ h => List.mem_cons_of_mem _ (List.mem_append_right _ h)
def f_X7_move_l1 (h_there : Nat → Int32) (h_speed : Nat → UInt64) (p0 : UInt64) (p1 : UInt64) : Nat → Int32 → (Nat → UInt64) → Option ((Nat → UInt64))
  | 0, _, _ => none
  | n + 1, a10, a11 =>
  if (8 : Int32) ≤ a10 then (
  some a11) else
  ck (inb a10 8 = true) <|
  if (h_there a10.toNatClampNeg) = 0 then (
  (f_X7_move_l1 h_there h_speed p0 p1 n) (a10 + 1) a11) else
  ck (inb a10 8 = true) <|
  ck (inb a10 8 = true) <|
  ck (nnb (FP.dsub (h_speed a10.toNatClampNeg) p0) = true) <|
  ck (nnb (FP.dmul (FP.dsub (h_speed a10.toNatClampNeg) p0) p1) = true) <|
  ck (nnb (FP.dadd (a11 a10.toNatClampNeg) (FP.dmul (FP.dsub (h_speed a10.toNatClampNeg) p0) p1)) = true) <|
  ck (inb a10 8 = true) <|
  (f_X7_move_l1 h_there h_speed p0 p1 n) (a10 + 1) (vf_upd a11 a10.toNatClampNeg (FP.dadd (a11 a10.toNatClampNeg) (FP.dmul (FP.dsub (h_speed a10.toNatClampNeg) p0) p1)))
def f_X7_move (p0 : UInt64) (p1 : UInt64) (h_there : Nat → Int32) (h_x : Nat → UInt64) (h_speed : Nat → UInt64) : Option ((Nat → UInt64)) :=
  (f_X7_move_l1 h_there h_speed p0 p1 16 (0 : Int32) h_x).bind fun w21 =>
  some w21
set_option maxHeartbeats 4000000 in
set_option maxRecDepth 100000 in
theorem c_X7_move (l : Launch) (D : va_G) (sz : Nat) (h_a : Nat) (h_there_a : Nat) (h_x_a : Nat) (h_y_a : Nat) (h_speed_a : Nat) (h_sure_a : Nat) (h_coast_a : Nat) (h_met_a : Nat) (h_metSpeed_a : Nat) (h_pairing_a : Nat) (h_there_k : ClassId) (h_x_k : ClassId) (h_speed_k : ClassId) (p0 : UInt64) (p1 : UInt64) (h_differ : Int32) (h_there : Nat → Int32) (h_x : Nat → UInt64) (h_speed : Nat → UInt64) (r0 : Nat → UInt64) (hf : f_X7_move p0 p1 h_there h_x h_speed = some r0) : Met l yX7_move wsX7_move { frames := 0, cells := 0, slots := 0, locals := 0 } (va_Pc [.ref h_a, .double p0, .double p1] (xPre D [(h_a, .inr (7, [.ref h_there_a, .ref h_x_a, .ref h_y_a, .ref h_speed_a, .ref h_sure_a, .ref h_coast_a, .ref h_met_a, .ref h_metSpeed_a, .ref h_pairing_a, .int h_differ])), (h_there_a, .inl (h_there_k, 8, .inl h_there)), (h_x_a, .inl (h_x_k, 8, .inr (.inr (.inr (.inl h_x))))), (h_speed_a, .inl (h_speed_k, 8, .inr (.inr (.inr (.inl h_speed)))))] [(h_there_k, .boolean), (h_x_k, .double), (h_speed_k, .double)] sz)) (va_Qv (fun (_ : Unit) => True) (fun _ => xB D (va_A [(h_a, .inr (7, [.ref h_there_a, .ref h_x_a, .ref h_y_a, .ref h_speed_a, .ref h_sure_a, .ref h_coast_a, .ref h_met_a, .ref h_metSpeed_a, .ref h_pairing_a, .int h_differ])), (h_there_a, .inl (h_there_k, 8, .inl h_there)), (h_x_a, .inl (h_x_k, 8, .inr (.inr (.inr (.inl h_x))))), (h_speed_a, .inl (h_speed_k, 8, .inr (.inr (.inr (.inl h_speed)))))] sz) [(h_a, .inr (7, [.ref h_there_a, .ref h_x_a, .ref h_y_a, .ref h_speed_a, .ref h_sure_a, .ref h_coast_a, .ref h_met_a, .ref h_metSpeed_a, .ref h_pairing_a, .int h_differ])), (h_there_a, .inl (h_there_k, 8, .inl h_there)), (h_x_a, .inl (h_x_k, 8, .inr (.inr (.inr (.inl r0))))), (h_speed_a, .inl (h_speed_k, 8, .inr (.inr (.inr (.inl h_speed)))))]) (va_A [(h_a, .inr (7, [.ref h_there_a, .ref h_x_a, .ref h_y_a, .ref h_speed_a, .ref h_sure_a, .ref h_coast_a, .ref h_met_a, .ref h_metSpeed_a, .ref h_pairing_a, .int h_differ])), (h_there_a, .inl (h_there_k, 8, .inl h_there)), (h_x_a, .inl (h_x_k, 8, .inr (.inr (.inr (.inl h_x))))), (h_speed_a, .inl (h_speed_k, 8, .inr (.inr (.inr (.inl h_speed)))))] sz)) 0 0 (va_A [(h_a, .inr (7, [.ref h_there_a, .ref h_x_a, .ref h_y_a, .ref h_speed_a, .ref h_sure_a, .ref h_coast_a, .ref h_met_a, .ref h_metSpeed_a, .ref h_pairing_a, .int h_differ])), (h_there_a, .inl (h_there_k, 8, .inl h_there)), (h_x_a, .inl (h_x_k, 8, .inr (.inr (.inr (.inl h_x))))), (h_speed_a, .inl (h_speed_k, 8, .inr (.inr (.inr (.inl h_speed)))))] sz) := by
  refine xOfW (l := l) (y := yX7_move) (ws := wsX7_move) (D := D) (cells := [(h_a, .inr (7, [.ref h_there_a, .ref h_x_a, .ref h_y_a, .ref h_speed_a, .ref h_sure_a, .ref h_coast_a, .ref h_met_a, .ref h_metSpeed_a, .ref h_pairing_a, .int h_differ])), (h_there_a, .inl (h_there_k, 8, .inl h_there)), (h_x_a, .inl (h_x_k, 8, .inr (.inr (.inr (.inl h_x))))), (h_speed_a, .inl (h_speed_k, 8, .inr (.inr (.inr (.inl h_speed)))))]) (tys := [(h_there_k, .boolean), (h_x_k, .double), (h_speed_k, .double)]) (sz := sz) (av := [.ref h_a, .double p0, .double p1]) (cc := cX7_move) (maxL := 6) (ret := none) (fun A => va_Qv (fun (_ : Unit) => True) (fun _ => xB D A [(h_a, .inr (7, [.ref h_there_a, .ref h_x_a, .ref h_y_a, .ref h_speed_a, .ref h_sure_a, .ref h_coast_a, .ref h_met_a, .ref h_metSpeed_a, .ref h_pairing_a, .int h_differ])), (h_there_a, .inl (h_there_k, 8, .inl h_there)), (h_x_a, .inl (h_x_k, 8, .inr (.inr (.inr (.inl r0))))), (h_speed_a, .inl (h_speed_k, 8, .inr (.inr (.inr (.inl h_speed)))))]) A) (by decide) rfl (Nat.le_of_ble_eq_true rfl) ?_
  intro p e s m below meth c A H ls hx hb hr hml hown hlk hts hP hK hD hS hA hN hl
  have hl : lv_has ls 6 [(0, .ref h_a), (1, .double p0), (3, .double p1)] := hl
  have hown : s.vm.findClass RX7 = some m.cls := hown
  have ef0 : f_X7_move p0 p1 h_there h_x h_speed = some r0 := hf
  rewrite [f_X7_move] at ef0
  refine lv_iconst (v := (0 : Int32)) hx hb dX7_move_0 (by decide) ?_
  refine lv_istore (lv' := [(5, .int (0 : Int32)), (0, .ref h_a), (1, .double p0), (3, .double p1)]) hx hb dX7_move_1 hl (by decide) rfl (fun ls hl => ?_)
  obtain ⟨zw21, hw21, ef0⟩ := bd_of ef0
  refine xCut (ι := (Nat → UInt64)) (fun z H locs ls => z = zw21 ∧ va_P D vwCl [(h_a, .inr (7, [.ref h_there_a, .ref h_x_a, .ref h_y_a, .ref h_speed_a, .ref h_sure_a, .ref h_coast_a, .ref h_met_a, .ref h_metSpeed_a, .ref h_pairing_a, .int h_differ])), (h_there_a, .inl (h_there_k, 8, .inl h_there)), (h_x_a, .inl (h_x_k, 8, .inr (.inr (.inr (.inl z))))), (h_speed_a, .inl (h_speed_k, 8, .inr (.inr (.inr (.inl h_speed)))))] H ∧ va_D A [(h_a, .inr (7, [.ref h_there_a, .ref h_x_a, .ref h_y_a, .ref h_speed_a, .ref h_sure_a, .ref h_coast_a, .ref h_met_a, .ref h_metSpeed_a, .ref h_pairing_a, .int h_differ])), (h_there_a, .inl (h_there_k, 8, .inl h_there)), (h_x_a, .inl (h_x_k, 8, .inr (.inr (.inr (.inl z))))), (h_speed_a, .inl (h_speed_k, 8, .inr (.inr (.inr (.inl h_speed)))))] ∧ va_S A s.heap H locs ∧ lv_has ls 6 []) 52 (fun _ => []) ?_ (fun E1 => ?_)
  · intro w21 H locs ls hz
    obtain ⟨hz, hP, hD, hS, hl⟩ := hz
    subst hz
    have q0 := Option.some.inj ef0
    exact xVret (by rw [← q0]) hx hb hr hlk hP hD hS dX7_move_52
  · refine xLoop (ι := Int32 × (Nat → UInt64)) (fun n z H locs ls => f_X7_move_l1 h_there h_speed p0 p1 n z.1 z.2 = some zw21 ∧ va_P D vwCl [(h_a, .inr (7, [.ref h_there_a, .ref h_x_a, .ref h_y_a, .ref h_speed_a, .ref h_sure_a, .ref h_coast_a, .ref h_met_a, .ref h_metSpeed_a, .ref h_pairing_a, .int h_differ])), (h_there_a, .inl (h_there_k, 8, .inl h_there)), (h_x_a, .inl (h_x_k, 8, .inr (.inr (.inr (.inl z.2))))), (h_speed_a, .inl (h_speed_k, 8, .inr (.inr (.inr (.inl h_speed)))))] H ∧ va_D A [(h_a, .inr (7, [.ref h_there_a, .ref h_x_a, .ref h_y_a, .ref h_speed_a, .ref h_sure_a, .ref h_coast_a, .ref h_met_a, .ref h_metSpeed_a, .ref h_pairing_a, .int h_differ])), (h_there_a, .inl (h_there_k, 8, .inl h_there)), (h_x_a, .inl (h_x_k, 8, .inr (.inr (.inr (.inl z.2))))), (h_speed_a, .inl (h_speed_k, 8, .inr (.inr (.inr (.inl h_speed)))))] ∧ va_S A s.heap H locs ∧ lv_has ls 6 [(0, .ref h_a), (1, .double p0), (3, .double p1), (5, .int z.1)]) 3 (fun _ => []) (fun z _ _ _ h => absurd (show (none : Option ((Nat → UInt64))) = some _ from h.1) (fun h => nomatch h)) ?_ (fun L1 => ?_)
    · intro n L1 z H locs ls hz
      obtain ⟨a10, a11⟩ := z
      obtain ⟨ef1, hP, hD, hS, hl⟩ := hz
      have ef1 : f_X7_move_l1 h_there h_speed p0 p1 (n + 1) a10 a11 = some zw21 := ef1
      have hP : va_P D vwCl [(h_a, .inr (7, [.ref h_there_a, .ref h_x_a, .ref h_y_a, .ref h_speed_a, .ref h_sure_a, .ref h_coast_a, .ref h_met_a, .ref h_metSpeed_a, .ref h_pairing_a, .int h_differ])), (h_there_a, .inl (h_there_k, 8, .inl h_there)), (h_x_a, .inl (h_x_k, 8, .inr (.inr (.inr (.inl a11))))), (h_speed_a, .inl (h_speed_k, 8, .inr (.inr (.inr (.inl h_speed)))))] H := hP
      have hD : va_D A [(h_a, .inr (7, [.ref h_there_a, .ref h_x_a, .ref h_y_a, .ref h_speed_a, .ref h_sure_a, .ref h_coast_a, .ref h_met_a, .ref h_metSpeed_a, .ref h_pairing_a, .int h_differ])), (h_there_a, .inl (h_there_k, 8, .inl h_there)), (h_x_a, .inl (h_x_k, 8, .inr (.inr (.inr (.inl a11))))), (h_speed_a, .inl (h_speed_k, 8, .inr (.inr (.inr (.inl h_speed)))))] := hD
      have hl : lv_has ls 6 [(0, .ref h_a), (1, .double p0), (3, .double p1), (5, .int a10)] := hl
      rewrite [f_X7_move_l1] at ef1
      refine lv_iload hx hb dX7_move_3 (lv_at hl 3 rfl) ?_
      refine lv_bipush (v := (8 : Int32)) hx hb dX7_move_5 (by decide) ?_
      refine lv_icmp_ge (tgt := 52) hx hb dX7_move_7 (by decide) (fun c12 => ?_) (fun c12 => ?_)
      · have ef1 := ift ef1 c12
        exact E1 a11 _ _ _ ⟨Option.some.inj ef1, hP, hD, hS, lv_sub hl [] rfl⟩
      · have ef1 := iff_ ef1 c12
        refine lv_aload_n hx hb dX7_move_10 rfl (lv_at hl 0 rfl) ?_
        refine va_get (D := D) (ci := 7) (v := .ref h_there_a) (C := RX7) (T := TX7) (N := 10) hx hb hts in_wsX7_move_X7 hown hK hP 0 rfl rfl 0 (by decide) (hts (.fieldLink RX7 9 "AssistRows$Tracks" "there" "[Z") (List.mem_of_getElem? (i := 1) rfl)) (fun _ h9 => h9) rfl dX7_move_11 ?_
        refine lv_iload hx hb dX7_move_14 (lv_at hl 3 rfl) ?_
        obtain ⟨h13, ef1⟩ := ck_of ef1
        refine va_zald hx hb hK hP 1 0 rfl rfl (inb_of h13) dX7_move_16 ?_
        refine lv_if_eq (tgt := 46) hx hb dX7_move_17 (by decide) (fun c14 => ?_) (fun c14 => ?_)
        · have ef1 := ift ef1 c14
          refine lv_iinc (v := (a10 + 1)) (lv' := [(5, .int (a10 + 1)), (0, .ref h_a), (1, .double p0), (3, .double p1)]) hx hb dX7_move_46 hl (k := 3) rfl rfl (by decide) rfl (fun ls hl => ?_)
          refine lv_goto (tgt := 3) hx hb dX7_move_49 (by decide) ?_
          exact L1 ((a10 + 1), a11) _ _ _ ⟨ef1, hP, hD, hS, lv_sub hl [1, 2, 3, 0] rfl⟩
        · have ef1 := iff_ ef1 c14
          refine lv_aload_n hx hb dX7_move_20 rfl (lv_at hl 0 rfl) ?_
          refine va_get (D := D) (ci := 7) (v := .ref h_x_a) (C := RX7) (T := TX7) (N := 10) hx hb hts in_wsX7_move_X7 hown hK hP 0 rfl rfl 1 (by decide) (hts (.fieldLink RX7 15 "AssistRows$Tracks" "x" "[D") (List.mem_of_getElem? (i := 2) rfl)) (fun _ h9 => h9) rfl dX7_move_21 ?_
          refine lv_iload hx hb dX7_move_24 (lv_at hl 3 rfl) ?_
          refine lv_aload_n hx hb dX7_move_26 rfl (lv_at hl 0 rfl) ?_
          refine va_get (D := D) (ci := 7) (v := .ref h_x_a) (C := RX7) (T := TX7) (N := 10) hx hb hts in_wsX7_move_X7 hown hK hP 0 rfl rfl 1 (by decide) (hts (.fieldLink RX7 15 "AssistRows$Tracks" "x" "[D") (List.mem_of_getElem? (i := 2) rfl)) (fun _ h9 => h9) rfl dX7_move_27 ?_
          refine lv_iload hx hb dX7_move_30 (lv_at hl 3 rfl) ?_
          obtain ⟨h15, ef1⟩ := ck_of ef1
          refine va_dald hx hb hK hP 2 1 rfl rfl (inb_of h15) dX7_move_32 ?_
          refine lv_aload_n hx hb dX7_move_33 rfl (lv_at hl 0 rfl) ?_
          refine va_get (D := D) (ci := 7) (v := .ref h_speed_a) (C := RX7) (T := TX7) (N := 10) hx hb hts in_wsX7_move_X7 hown hK hP 0 rfl rfl 3 (by decide) (hts (.fieldLink RX7 22 "AssistRows$Tracks" "speed" "[D") (List.mem_of_getElem? (i := 3) rfl)) (fun _ h9 => h9) rfl dX7_move_34 ?_
          refine lv_iload hx hb dX7_move_37 (lv_at hl 3 rfl) ?_
          obtain ⟨h16, ef1⟩ := ck_of ef1
          refine va_dald hx hb hK hP 3 2 rfl rfl (inb_of h16) dX7_move_39 ?_
          refine lv_dload_n hx hb dX7_move_40 rfl (lv_at hl 1 rfl) ?_
          obtain ⟨h17, ef1⟩ := ck_of ef1
          refine lv_dsub hx hb dX7_move_41 (nn_of h17) ?_
          refine lv_dload_n hx hb dX7_move_42 rfl (lv_at hl 2 rfl) ?_
          obtain ⟨h18, ef1⟩ := ck_of ef1
          refine lv_dmul hx hb dX7_move_43 (nn_of h18) ?_
          obtain ⟨h19, ef1⟩ := ck_of ef1
          refine lv_dadd hx hb dX7_move_44 (nn_of h19) ?_
          obtain ⟨h20, ef1⟩ := ck_of ef1
          refine va_dast hx hb hK hP hD hS 2 1 rfl rfl (inb_of h20) dX7_move_45 (fun H locs hP hD hS => ?_)
          have hP : va_P D vwCl [(h_a, .inr (7, [.ref h_there_a, .ref h_x_a, .ref h_y_a, .ref h_speed_a, .ref h_sure_a, .ref h_coast_a, .ref h_met_a, .ref h_metSpeed_a, .ref h_pairing_a, .int h_differ])), (h_there_a, .inl (h_there_k, 8, .inl h_there)), (h_x_a, .inl (h_x_k, 8, .inr (.inr (.inr (.inl (vf_upd a11 a10.toNatClampNeg (FP.dadd (a11 a10.toNatClampNeg) (FP.dmul (FP.dsub (h_speed a10.toNatClampNeg) p0) p1)))))))), (h_speed_a, .inl (h_speed_k, 8, .inr (.inr (.inr (.inl h_speed)))))] H := hP
          have hD : va_D A [(h_a, .inr (7, [.ref h_there_a, .ref h_x_a, .ref h_y_a, .ref h_speed_a, .ref h_sure_a, .ref h_coast_a, .ref h_met_a, .ref h_metSpeed_a, .ref h_pairing_a, .int h_differ])), (h_there_a, .inl (h_there_k, 8, .inl h_there)), (h_x_a, .inl (h_x_k, 8, .inr (.inr (.inr (.inl (vf_upd a11 a10.toNatClampNeg (FP.dadd (a11 a10.toNatClampNeg) (FP.dmul (FP.dsub (h_speed a10.toNatClampNeg) p0) p1)))))))), (h_speed_a, .inl (h_speed_k, 8, .inr (.inr (.inr (.inl h_speed)))))] := hD
          refine lv_iinc (v := (a10 + 1)) (lv' := [(5, .int (a10 + 1)), (0, .ref h_a), (1, .double p0), (3, .double p1)]) hx hb dX7_move_46 hl (k := 3) rfl rfl (by decide) rfl (fun ls hl => ?_)
          refine lv_goto (tgt := 3) hx hb dX7_move_49 (by decide) ?_
          exact L1 ((a10 + 1), (vf_upd a11 a10.toNatClampNeg (FP.dadd (a11 a10.toNatClampNeg) (FP.dmul (FP.dsub (h_speed a10.toNatClampNeg) p0) p1)))) _ _ _ ⟨ef1, hP, hD, hS, lv_sub hl [1, 2, 3, 0] rfl⟩
    · exact L1 16 ((0 : Int32), h_x) _ _ _ ⟨hw21, hP, hD, hS, lv_sub hl [1, 2, 3, 0] rfl⟩

theorem in_wsX7_forgetMeetings_X7 : ∀ w ∈ wsX70, w ∈ wsX7_forgetMeetings := fun _ h => List.mem_cons_of_mem _ (List.mem_append_right _ h)
def f_X7_forgetMeetings_l1 : Nat → Int32 → (Nat → Int32) → Option ((Nat → Int32))
  | 0, _, _ => none
  | n + 1, a3, a4 =>
  if (8 : Int32) ≤ a3 then (
  some a4) else
  ck (inb a3 8 = true) <|
  (f_X7_forgetMeetings_l1 n) (a3 + 1) (upd a4 a3.toNatClampNeg (0 : Int32))
def f_X7_forgetMeetings (h_met : Nat → Int32) : Option (Int32 × (Nat → Int32)) :=
  (f_X7_forgetMeetings_l1 16 (0 : Int32) h_met).bind fun w7 =>
  some ((0 : Int32), w7)
set_option maxHeartbeats 4000000 in
set_option maxRecDepth 100000 in
theorem c_X7_forgetMeetings (l : Launch) (D : va_G) (sz : Nat) (h_a : Nat) (h_there_a : Nat) (h_x_a : Nat) (h_y_a : Nat) (h_speed_a : Nat) (h_sure_a : Nat) (h_coast_a : Nat) (h_met_a : Nat) (h_metSpeed_a : Nat) (h_pairing_a : Nat) (h_met_k : ClassId) (h_differ : Int32) (h_met : Nat → Int32) (r0 : Int32) (r1 : Nat → Int32) (hf : f_X7_forgetMeetings h_met = some (r0, r1)) : Met l yX7_forgetMeetings wsX7_forgetMeetings { frames := 0, cells := 0, slots := 0, locals := 0 } (va_Pc [.ref h_a] (xPre D [(h_a, .inr (7, [.ref h_there_a, .ref h_x_a, .ref h_y_a, .ref h_speed_a, .ref h_sure_a, .ref h_coast_a, .ref h_met_a, .ref h_metSpeed_a, .ref h_pairing_a, .int h_differ])), (h_met_a, .inl (h_met_k, 8, .inl h_met))] [(h_met_k, .boolean)] sz)) (va_Qv (fun (_ : Unit) => True) (fun _ => xB D (va_A [(h_a, .inr (7, [.ref h_there_a, .ref h_x_a, .ref h_y_a, .ref h_speed_a, .ref h_sure_a, .ref h_coast_a, .ref h_met_a, .ref h_metSpeed_a, .ref h_pairing_a, .int h_differ])), (h_met_a, .inl (h_met_k, 8, .inl h_met))] sz) [(h_a, .inr (7, [.ref h_there_a, .ref h_x_a, .ref h_y_a, .ref h_speed_a, .ref h_sure_a, .ref h_coast_a, .ref h_met_a, .ref h_metSpeed_a, .ref h_pairing_a, .int r0])), (h_met_a, .inl (h_met_k, 8, .inl r1))]) (va_A [(h_a, .inr (7, [.ref h_there_a, .ref h_x_a, .ref h_y_a, .ref h_speed_a, .ref h_sure_a, .ref h_coast_a, .ref h_met_a, .ref h_metSpeed_a, .ref h_pairing_a, .int h_differ])), (h_met_a, .inl (h_met_k, 8, .inl h_met))] sz)) 0 0 (va_A [(h_a, .inr (7, [.ref h_there_a, .ref h_x_a, .ref h_y_a, .ref h_speed_a, .ref h_sure_a, .ref h_coast_a, .ref h_met_a, .ref h_metSpeed_a, .ref h_pairing_a, .int h_differ])), (h_met_a, .inl (h_met_k, 8, .inl h_met))] sz) := by
  refine xOfW (l := l) (y := yX7_forgetMeetings) (ws := wsX7_forgetMeetings) (D := D) (cells := [(h_a, .inr (7, [.ref h_there_a, .ref h_x_a, .ref h_y_a, .ref h_speed_a, .ref h_sure_a, .ref h_coast_a, .ref h_met_a, .ref h_metSpeed_a, .ref h_pairing_a, .int h_differ])), (h_met_a, .inl (h_met_k, 8, .inl h_met))]) (tys := [(h_met_k, .boolean)]) (sz := sz) (av := [.ref h_a]) (cc := cX7_forgetMeetings) (maxL := 2) (ret := none) (fun A => va_Qv (fun (_ : Unit) => True) (fun _ => xB D A [(h_a, .inr (7, [.ref h_there_a, .ref h_x_a, .ref h_y_a, .ref h_speed_a, .ref h_sure_a, .ref h_coast_a, .ref h_met_a, .ref h_metSpeed_a, .ref h_pairing_a, .int r0])), (h_met_a, .inl (h_met_k, 8, .inl r1))]) A) (by decide) rfl (Nat.le_of_ble_eq_true rfl) ?_
  intro p e s m below meth c A H ls hx hb hr hml hown hlk hts hP hK hD hS hA hN hl
  have hl : lv_has ls 2 [(0, .ref h_a)] := hl
  have hown : s.vm.findClass RX7 = some m.cls := hown
  have ef0 : f_X7_forgetMeetings h_met = some (r0, r1) := hf
  rewrite [f_X7_forgetMeetings] at ef0
  refine lv_aload_n hx hb dX7_forgetMeetings_0 rfl (lv_at hl 0 rfl) ?_
  refine lv_iconst (v := (0 : Int32)) hx hb dX7_forgetMeetings_1 (by decide) ?_
  refine va_put (D := D) (ci := 7) (v := .int (0 : Int32)) (ty := .boolean) (C := RX7) (T := TX7) (N := 10) hx hb hts in_wsX7_forgetMeetings_X7 tyX7 tyX7_ok nmX7 hown hK hP hD hS 0 rfl rfl 9 (by decide) (hts (.fieldLink RX7 45 "AssistRows$Tracks" "differ" "Z") (List.mem_of_getElem? (i := 1) rfl)) (fun _ h9 => h9) rfl (by decide +kernel) rfl rfl (Nat.le_of_ble_eq_true rfl) dX7_forgetMeetings_2 (fun H locs hP hD hS => ?_)
  have hP : va_P D vwCl [(h_a, .inr (7, [.ref h_there_a, .ref h_x_a, .ref h_y_a, .ref h_speed_a, .ref h_sure_a, .ref h_coast_a, .ref h_met_a, .ref h_metSpeed_a, .ref h_pairing_a, .int (0 : Int32)])), (h_met_a, .inl (h_met_k, 8, .inl h_met))] H := hP
  have hD : va_D A [(h_a, .inr (7, [.ref h_there_a, .ref h_x_a, .ref h_y_a, .ref h_speed_a, .ref h_sure_a, .ref h_coast_a, .ref h_met_a, .ref h_metSpeed_a, .ref h_pairing_a, .int (0 : Int32)])), (h_met_a, .inl (h_met_k, 8, .inl h_met))] := hD
  refine lv_iconst (v := (0 : Int32)) hx hb dX7_forgetMeetings_5 (by decide) ?_
  refine lv_istore_n (lv' := [(1, .int (0 : Int32)), (0, .ref h_a)]) hx hb dX7_forgetMeetings_6 rfl hl (by decide) rfl (fun ls hl => ?_)
  obtain ⟨zw7, hw7, ef0⟩ := bd_of ef0
  refine xCut (ι := (Nat → Int32)) (fun z H locs ls => z = zw7 ∧ va_P D vwCl [(h_a, .inr (7, [.ref h_there_a, .ref h_x_a, .ref h_y_a, .ref h_speed_a, .ref h_sure_a, .ref h_coast_a, .ref h_met_a, .ref h_metSpeed_a, .ref h_pairing_a, .int (0 : Int32)])), (h_met_a, .inl (h_met_k, 8, .inl z))] H ∧ va_D A [(h_a, .inr (7, [.ref h_there_a, .ref h_x_a, .ref h_y_a, .ref h_speed_a, .ref h_sure_a, .ref h_coast_a, .ref h_met_a, .ref h_metSpeed_a, .ref h_pairing_a, .int (0 : Int32)])), (h_met_a, .inl (h_met_k, 8, .inl z))] ∧ va_S A s.heap H locs ∧ lv_has ls 2 []) 26 (fun _ => []) ?_ (fun E1 => ?_)
  · intro w7 H locs ls hz
    obtain ⟨hz, hP, hD, hS, hl⟩ := hz
    subst hz
    have q0 := Option.some.inj ef0
    obtain ⟨t0, q1⟩ := Prod.mk.inj q0
    exact xVret (by rw [← t0, ← q1]) hx hb hr hlk hP hD hS dX7_forgetMeetings_26
  · refine xLoop (ι := Int32 × (Nat → Int32)) (fun n z H locs ls => f_X7_forgetMeetings_l1 n z.1 z.2 = some zw7 ∧ va_P D vwCl [(h_a, .inr (7, [.ref h_there_a, .ref h_x_a, .ref h_y_a, .ref h_speed_a, .ref h_sure_a, .ref h_coast_a, .ref h_met_a, .ref h_metSpeed_a, .ref h_pairing_a, .int (0 : Int32)])), (h_met_a, .inl (h_met_k, 8, .inl z.2))] H ∧ va_D A [(h_a, .inr (7, [.ref h_there_a, .ref h_x_a, .ref h_y_a, .ref h_speed_a, .ref h_sure_a, .ref h_coast_a, .ref h_met_a, .ref h_metSpeed_a, .ref h_pairing_a, .int (0 : Int32)])), (h_met_a, .inl (h_met_k, 8, .inl z.2))] ∧ va_S A s.heap H locs ∧ lv_has ls 2 [(0, .ref h_a), (1, .int z.1)]) 7 (fun _ => []) (fun z _ _ _ h => absurd (show (none : Option ((Nat → Int32))) = some _ from h.1) (fun h => nomatch h)) ?_ (fun L1 => ?_)
    · intro n L1 z H locs ls hz
      obtain ⟨a3, a4⟩ := z
      obtain ⟨ef1, hP, hD, hS, hl⟩ := hz
      have ef1 : f_X7_forgetMeetings_l1 (n + 1) a3 a4 = some zw7 := ef1
      have hP : va_P D vwCl [(h_a, .inr (7, [.ref h_there_a, .ref h_x_a, .ref h_y_a, .ref h_speed_a, .ref h_sure_a, .ref h_coast_a, .ref h_met_a, .ref h_metSpeed_a, .ref h_pairing_a, .int (0 : Int32)])), (h_met_a, .inl (h_met_k, 8, .inl a4))] H := hP
      have hD : va_D A [(h_a, .inr (7, [.ref h_there_a, .ref h_x_a, .ref h_y_a, .ref h_speed_a, .ref h_sure_a, .ref h_coast_a, .ref h_met_a, .ref h_metSpeed_a, .ref h_pairing_a, .int (0 : Int32)])), (h_met_a, .inl (h_met_k, 8, .inl a4))] := hD
      have hl : lv_has ls 2 [(0, .ref h_a), (1, .int a3)] := hl
      rewrite [f_X7_forgetMeetings_l1] at ef1
      refine lv_iload_n hx hb dX7_forgetMeetings_7 rfl (lv_at hl 1 rfl) ?_
      refine lv_bipush (v := (8 : Int32)) hx hb dX7_forgetMeetings_8 (by decide) ?_
      refine lv_icmp_ge (tgt := 26) hx hb dX7_forgetMeetings_10 (by decide) (fun c5 => ?_) (fun c5 => ?_)
      · have ef1 := ift ef1 c5
        exact E1 a4 _ _ _ ⟨Option.some.inj ef1, hP, hD, hS, lv_sub hl [] rfl⟩
      · have ef1 := iff_ ef1 c5
        refine lv_aload_n hx hb dX7_forgetMeetings_13 rfl (lv_at hl 0 rfl) ?_
        refine va_get (D := D) (ci := 7) (v := .ref h_met_a) (C := RX7) (T := TX7) (N := 10) hx hb hts in_wsX7_forgetMeetings_X7 hown hK hP 0 rfl rfl 6 (by decide) (hts (.fieldLink RX7 32 "AssistRows$Tracks" "met" "[Z") (List.mem_of_getElem? (i := 2) rfl)) (fun _ h9 => h9) rfl dX7_forgetMeetings_14 ?_
        refine lv_iload_n hx hb dX7_forgetMeetings_17 rfl (lv_at hl 1 rfl) ?_
        refine lv_iconst (v := (0 : Int32)) hx hb dX7_forgetMeetings_18 (by decide) ?_
        obtain ⟨h6, ef1⟩ := ck_of ef1
        refine xzast rfl hx hb hK hP hD hS 1 0 rfl rfl (inb_of h6) dX7_forgetMeetings_19 (fun H locs hP hD hS => ?_)
        have hP : va_P D vwCl [(h_a, .inr (7, [.ref h_there_a, .ref h_x_a, .ref h_y_a, .ref h_speed_a, .ref h_sure_a, .ref h_coast_a, .ref h_met_a, .ref h_metSpeed_a, .ref h_pairing_a, .int (0 : Int32)])), (h_met_a, .inl (h_met_k, 8, .inl (upd a4 a3.toNatClampNeg (0 : Int32))))] H := hP
        have hD : va_D A [(h_a, .inr (7, [.ref h_there_a, .ref h_x_a, .ref h_y_a, .ref h_speed_a, .ref h_sure_a, .ref h_coast_a, .ref h_met_a, .ref h_metSpeed_a, .ref h_pairing_a, .int (0 : Int32)])), (h_met_a, .inl (h_met_k, 8, .inl (upd a4 a3.toNatClampNeg (0 : Int32))))] := hD
        refine lv_iinc (v := (a3 + 1)) (lv' := [(1, .int (a3 + 1)), (0, .ref h_a)]) hx hb dX7_forgetMeetings_20 hl (k := 1) rfl rfl (by decide) rfl (fun ls hl => ?_)
        refine lv_goto (tgt := 7) hx hb dX7_forgetMeetings_23 (by decide) ?_
        exact L1 ((a3 + 1), (upd a4 a3.toNatClampNeg (0 : Int32))) _ _ _ ⟨ef1, hP, hD, hS, lv_sub hl [1, 0] rfl⟩
    · exact L1 16 ((0 : Int32), h_met) _ _ _ ⟨hw7, hP, hD, hS, lv_sub hl [1, 0] rfl⟩

theorem in_wsX7_cost_X7 : ∀ w ∈ wsX70, w ∈ wsX7_cost := fun _ h => List.mem_cons_of_mem _ (List.mem_append_right _ h)
def f_X7_cost (p0 : Int32) (p1 : UInt64) (p2 : UInt64) (h_there : Nat → Int32) (h_x : Nat → UInt64) (h_y : Nat → UInt64) : Option Int32 :=
  (f_X7_isThere p0 h_there).bind fun u1 =>
  if u1 = 0 then (
  some (-1 : Int32)) else
  ck (inb p0 8 = true) <|
  ck (nnb (FP.dsub p1 (h_x p0.toNatClampNeg)) = true) <|
  (f_X8_magnitude (FP.dsub p1 (h_x p0.toNatClampNeg))).bind fun u5 =>
  ck (inb p0 8 = true) <|
  ck (nnb (FP.dsub p2 (h_y p0.toNatClampNeg)) = true) <|
  (f_X8_magnitude (FP.dsub p2 (h_y p0.toNatClampNeg))).bind fun u8 =>
  if 0 < (Op.cmpValue (FP.dcmp u5 (4617315517961601024 : UInt64)) .l) then (
  some (-1 : Int32)) else
  if (Op.cmpValue (FP.dcmp u8 (4611686018427387904 : UInt64)) .l) ≤ 0 then (
  ck (nnb (FP.dmul (4636737291354636288 : UInt64) u5) = true) <|
  ck (nnb (FP.dmul (4636737291354636288 : UInt64) u8) = true) <|
  ck (nnb (FP.dadd (FP.dmul (4636737291354636288 : UInt64) u5) (FP.dmul (4636737291354636288 : UInt64) u8)) = true) <|
  some (FP.d2i (FP.dadd (FP.dmul (4636737291354636288 : UInt64) u5) (FP.dmul (4636737291354636288 : UInt64) u8)))) else
  some (-1 : Int32)
set_option maxHeartbeats 4000000 in
set_option maxRecDepth 100000 in
theorem c_X7_cost (l : Launch) (D : va_G) (sz : Nat) (h_a : Nat) (h_there_a : Nat) (h_x_a : Nat) (h_y_a : Nat) (h_speed_a : Nat) (h_sure_a : Nat) (h_coast_a : Nat) (h_met_a : Nat) (h_metSpeed_a : Nat) (h_pairing_a : Nat) (h_there_k : ClassId) (h_x_k : ClassId) (h_y_k : ClassId) (p0 : Int32) (p1 : UInt64) (p2 : UInt64) (h_differ : Int32) (h_there : Nat → Int32) (h_x : Nat → UInt64) (h_y : Nat → UInt64) (r0 : Int32) (hf : f_X7_cost p0 p1 p2 h_there h_x h_y = some r0) : Met l yX7_cost wsX7_cost { frames := 1, cells := 0, slots := 0, locals := 21 } (va_Pc [.ref h_a, .int p0, .double p1, .double p2] (xPre D [(h_a, .inr (7, [.ref h_there_a, .ref h_x_a, .ref h_y_a, .ref h_speed_a, .ref h_sure_a, .ref h_coast_a, .ref h_met_a, .ref h_metSpeed_a, .ref h_pairing_a, .int h_differ])), (h_there_a, .inl (h_there_k, 8, .inl h_there)), (h_x_a, .inl (h_x_k, 8, .inr (.inr (.inr (.inl h_x))))), (h_y_a, .inl (h_y_k, 8, .inr (.inr (.inr (.inl h_y)))))] [(h_there_k, .boolean), (h_x_k, .double), (h_y_k, .double)] sz)) (va_Qi (fun (x : Int32) (_ : Unit) => x = r0) (fun _ => xB D (va_A [(h_a, .inr (7, [.ref h_there_a, .ref h_x_a, .ref h_y_a, .ref h_speed_a, .ref h_sure_a, .ref h_coast_a, .ref h_met_a, .ref h_metSpeed_a, .ref h_pairing_a, .int h_differ])), (h_there_a, .inl (h_there_k, 8, .inl h_there)), (h_x_a, .inl (h_x_k, 8, .inr (.inr (.inr (.inl h_x))))), (h_y_a, .inl (h_y_k, 8, .inr (.inr (.inr (.inl h_y)))))] sz) [(h_a, .inr (7, [.ref h_there_a, .ref h_x_a, .ref h_y_a, .ref h_speed_a, .ref h_sure_a, .ref h_coast_a, .ref h_met_a, .ref h_metSpeed_a, .ref h_pairing_a, .int h_differ])), (h_there_a, .inl (h_there_k, 8, .inl h_there)), (h_x_a, .inl (h_x_k, 8, .inr (.inr (.inr (.inl h_x))))), (h_y_a, .inl (h_y_k, 8, .inr (.inr (.inr (.inl h_y)))))]) (va_A [(h_a, .inr (7, [.ref h_there_a, .ref h_x_a, .ref h_y_a, .ref h_speed_a, .ref h_sure_a, .ref h_coast_a, .ref h_met_a, .ref h_metSpeed_a, .ref h_pairing_a, .int h_differ])), (h_there_a, .inl (h_there_k, 8, .inl h_there)), (h_x_a, .inl (h_x_k, 8, .inr (.inr (.inr (.inl h_x))))), (h_y_a, .inl (h_y_k, 8, .inr (.inr (.inr (.inl h_y)))))] sz)) 0 0 (va_A [(h_a, .inr (7, [.ref h_there_a, .ref h_x_a, .ref h_y_a, .ref h_speed_a, .ref h_sure_a, .ref h_coast_a, .ref h_met_a, .ref h_metSpeed_a, .ref h_pairing_a, .int h_differ])), (h_there_a, .inl (h_there_k, 8, .inl h_there)), (h_x_a, .inl (h_x_k, 8, .inr (.inr (.inr (.inl h_x))))), (h_y_a, .inl (h_y_k, 8, .inr (.inr (.inr (.inl h_y)))))] sz) := by
  refine xOfW (l := l) (y := yX7_cost) (ws := wsX7_cost) (D := D) (cells := [(h_a, .inr (7, [.ref h_there_a, .ref h_x_a, .ref h_y_a, .ref h_speed_a, .ref h_sure_a, .ref h_coast_a, .ref h_met_a, .ref h_metSpeed_a, .ref h_pairing_a, .int h_differ])), (h_there_a, .inl (h_there_k, 8, .inl h_there)), (h_x_a, .inl (h_x_k, 8, .inr (.inr (.inr (.inl h_x))))), (h_y_a, .inl (h_y_k, 8, .inr (.inr (.inr (.inl h_y)))))]) (tys := [(h_there_k, .boolean), (h_x_k, .double), (h_y_k, .double)]) (sz := sz) (av := [.ref h_a, .int p0, .double p1, .double p2]) (cc := cX7_cost) (maxL := 10) (ret := (some .int)) (fun A => va_Qi (fun (x : Int32) (_ : Unit) => x = r0) (fun _ => xB D A [(h_a, .inr (7, [.ref h_there_a, .ref h_x_a, .ref h_y_a, .ref h_speed_a, .ref h_sure_a, .ref h_coast_a, .ref h_met_a, .ref h_metSpeed_a, .ref h_pairing_a, .int h_differ])), (h_there_a, .inl (h_there_k, 8, .inl h_there)), (h_x_a, .inl (h_x_k, 8, .inr (.inr (.inr (.inl h_x))))), (h_y_a, .inl (h_y_k, 8, .inr (.inr (.inr (.inl h_y)))))]) A) (by decide) rfl (Nat.le_of_ble_eq_true rfl) ?_
  intro p e s m below meth c A H ls hx hb hr hml hown hlk hts hP hK hD hS hA hN hl
  have hl : lv_has ls 10 [(0, .ref h_a), (1, .int p0), (2, .double p1), (4, .double p2)] := hl
  have hown : s.vm.findClass RX7 = some m.cls := hown
  have ef0 : f_X7_cost p0 p1 p2 h_there h_x h_y = some r0 := hf
  rewrite [f_X7_cost] at ef0
  refine lv_aload_n hx hb dX7_cost_0 rfl (lv_at hl 0 rfl) ?_
  refine lv_iload_n hx hb dX7_cost_1 rfl (lv_at hl 1 rfl) ?_
  obtain ⟨u1, hu1, ef0⟩ := bd_of ef0
  refine xCalli (wr := [(h_x_a, .inl (h_x_k, 8, .inr (.inr (.inr (.inl h_x))))), (h_y_a, .inl (h_y_k, 8, .inr (.inr (.inr (.inl h_y)))))]) (wn := [(h_a, .inr (7, [.ref h_there_a, .ref h_x_a, .ref h_y_a, .ref h_speed_a, .ref h_sure_a, .ref h_coast_a, .ref h_met_a, .ref h_metSpeed_a, .ref h_pairing_a, .int h_differ])), (h_there_a, .inl (h_there_k, 8, .inl h_there)), (h_x_a, .inl (h_x_k, 8, .inr (.inr (.inr (.inl h_x))))), (h_y_a, .inl (h_y_k, 8, .inr (.inr (.inr (.inl h_y)))))]) [0, 1] [2, 3] [2, 3, 0, 1] (va_runV (As := [.int p0]) (rest := []) ⟨hx, hb, hml, hown, hts⟩ (c_X7_isThere l D H.size h_a h_there_a h_x_a h_y_a h_speed_a h_sure_a h_coast_a h_met_a h_metSpeed_a h_pairing_a h_there_k p0 h_differ h_there u1 hu1) (cwV 1 hts gX7_cost_X7_isThere rfl rfl rfl (by decide +kernel) ⟨Nat.le_of_ble_eq_true rfl, Nat.le_of_ble_eq_true rfl⟩) (xPreV (ci := 7) (q0 := 0) hP hD hK hN rfl rfl [0, 1] rfl rfl [0] rfl) rfl rfl hl.1 rfl (lv_room (Nat.le_of_ble_eq_true rfl)) dX7_cost_2 ⟨Nat.zero_le _, Nat.zero_le _⟩) hP hD hS hA rfl rfl rfl (by decide) rfl rfl (fun H locs hP hD hS => ?_)
  refine lv_if_ne (tgt := 10) hx hb dX7_cost_5 (by decide) (fun c2 => ?_) (fun c2 => ?_)
  · have ef0 := iff_ ef0 c2
    refine lv_dload_n hx hb dX7_cost_10 rfl (lv_at hl 2 rfl) ?_
    refine lv_aload_n hx hb dX7_cost_11 rfl (lv_at hl 0 rfl) ?_
    refine va_get (D := D) (ci := 7) (v := .ref h_x_a) (C := RX7) (T := TX7) (N := 10) hx hb hts in_wsX7_cost_X7 hown hK hP 0 rfl rfl 1 (by decide) (hts (.fieldLink RX7 15 "AssistRows$Tracks" "x" "[D") (List.mem_of_getElem? (i := 1) rfl)) (fun _ h9 => h9) rfl dX7_cost_12 ?_
    refine lv_iload_n hx hb dX7_cost_15 rfl (lv_at hl 1 rfl) ?_
    obtain ⟨h3, ef0⟩ := ck_of ef0
    refine va_dald hx hb hK hP 2 1 rfl rfl (inb_of h3) dX7_cost_16 ?_
    obtain ⟨h4, ef0⟩ := ck_of ef0
    refine lv_dsub hx hb dX7_cost_17 (nn_of h4) ?_
    obtain ⟨u5, hu5, ef0⟩ := bd_of ef0
    refine xCalld (wr := [(h_a, .inr (7, [.ref h_there_a, .ref h_x_a, .ref h_y_a, .ref h_speed_a, .ref h_sure_a, .ref h_coast_a, .ref h_met_a, .ref h_metSpeed_a, .ref h_pairing_a, .int h_differ])), (h_there_a, .inl (h_there_k, 8, .inl h_there)), (h_x_a, .inl (h_x_k, 8, .inr (.inr (.inr (.inl h_x))))), (h_y_a, .inl (h_y_k, 8, .inr (.inr (.inr (.inl h_y)))))]) (wn := [(h_a, .inr (7, [.ref h_there_a, .ref h_x_a, .ref h_y_a, .ref h_speed_a, .ref h_sure_a, .ref h_coast_a, .ref h_met_a, .ref h_metSpeed_a, .ref h_pairing_a, .int h_differ])), (h_there_a, .inl (h_there_k, 8, .inl h_there)), (h_x_a, .inl (h_x_k, 8, .inr (.inr (.inr (.inl h_x))))), (h_y_a, .inl (h_y_k, 8, .inr (.inr (.inr (.inl h_y)))))]) [] [0, 1, 2, 3] [0, 1, 2, 3] (va_runSN (As := [.double (FP.dsub p1 (h_x p0.toNatClampNeg))]) (rest := []) ⟨hx, hb, hml, hown, hts⟩ (c_X8_magnitude l D H.size (FP.dsub p1 (h_x p0.toNatClampNeg)) u5 hu5) ⟨va_cnB 1 hts gX7_cost_X8_magnitude_n77 rfl rfl rfl hN.2.2.2.2.1 (hts (.initialized RX8) (List.mem_of_getElem? (i := 13) rfl)) (by decide +kernel) ⟨Nat.le_of_ble_eq_true rfl, Nat.le_of_ble_eq_true rfl⟩, (hts (.static yX8_magnitude) (List.mem_of_getElem? (i := 12) rfl)), trivial⟩ (xPreS hP hD hK hN [] rfl rfl [] rfl) rfl rfl hl.1 rfl (lv_room (Nat.le_of_ble_eq_true rfl)) dX7_cost_18 ⟨Nat.zero_le _, Nat.zero_le _⟩) hP hD hS hA rfl rfl rfl (by decide) rfl rfl (fun H locs hP hD hS => ?_)
    refine lv_dstore (lv' := [(6, .double u5), (0, .ref h_a), (1, .int p0), (2, .double p1), (4, .double p2)]) hx hb dX7_cost_21 hl (by decide) rfl (fun ls hl => ?_)
    refine lv_dload hx hb dX7_cost_23 (lv_at hl 4 rfl) ?_
    refine lv_aload_n hx hb dX7_cost_25 rfl (lv_at hl 1 rfl) ?_
    refine va_get (D := D) (ci := 7) (v := .ref h_y_a) (C := RX7) (T := TX7) (N := 10) hx hb hts in_wsX7_cost_X7 hown hK hP 0 rfl rfl 2 (by decide) (hts (.fieldLink RX7 19 "AssistRows$Tracks" "y" "[D") (List.mem_of_getElem? (i := 2) rfl)) (fun _ h9 => h9) rfl dX7_cost_26 ?_
    refine lv_iload_n hx hb dX7_cost_29 rfl (lv_at hl 2 rfl) ?_
    obtain ⟨h6, ef0⟩ := ck_of ef0
    refine va_dald hx hb hK hP 3 2 rfl rfl (inb_of h6) dX7_cost_30 ?_
    obtain ⟨h7, ef0⟩ := ck_of ef0
    refine lv_dsub hx hb dX7_cost_31 (nn_of h7) ?_
    obtain ⟨u8, hu8, ef0⟩ := bd_of ef0
    refine xCalld (wr := [(h_a, .inr (7, [.ref h_there_a, .ref h_x_a, .ref h_y_a, .ref h_speed_a, .ref h_sure_a, .ref h_coast_a, .ref h_met_a, .ref h_metSpeed_a, .ref h_pairing_a, .int h_differ])), (h_there_a, .inl (h_there_k, 8, .inl h_there)), (h_x_a, .inl (h_x_k, 8, .inr (.inr (.inr (.inl h_x))))), (h_y_a, .inl (h_y_k, 8, .inr (.inr (.inr (.inl h_y)))))]) (wn := [(h_a, .inr (7, [.ref h_there_a, .ref h_x_a, .ref h_y_a, .ref h_speed_a, .ref h_sure_a, .ref h_coast_a, .ref h_met_a, .ref h_metSpeed_a, .ref h_pairing_a, .int h_differ])), (h_there_a, .inl (h_there_k, 8, .inl h_there)), (h_x_a, .inl (h_x_k, 8, .inr (.inr (.inr (.inl h_x))))), (h_y_a, .inl (h_y_k, 8, .inr (.inr (.inr (.inl h_y)))))]) [] [0, 1, 2, 3] [0, 1, 2, 3] (va_runSN (As := [.double (FP.dsub p2 (h_y p0.toNatClampNeg))]) (rest := []) ⟨hx, hb, hml, hown, hts⟩ (c_X8_magnitude l D H.size (FP.dsub p2 (h_y p0.toNatClampNeg)) u8 hu8) ⟨va_cnB 1 hts gX7_cost_X8_magnitude_n77 rfl rfl rfl hN.2.2.2.2.1 (hts (.initialized RX8) (List.mem_of_getElem? (i := 13) rfl)) (by decide +kernel) ⟨Nat.le_of_ble_eq_true rfl, Nat.le_of_ble_eq_true rfl⟩, (hts (.static yX8_magnitude) (List.mem_of_getElem? (i := 12) rfl)), trivial⟩ (xPreS hP hD hK hN [] rfl rfl [] rfl) rfl rfl hl.1 rfl (lv_room (Nat.le_of_ble_eq_true rfl)) dX7_cost_32 ⟨Nat.zero_le _, Nat.zero_le _⟩) hP hD hS hA rfl rfl rfl (by decide) rfl rfl (fun H locs hP hD hS => ?_)
    refine lv_dstore (lv' := [(8, .double u8), (6, .double u5), (0, .ref h_a), (1, .int p0), (2, .double p1), (4, .double p2)]) hx hb dX7_cost_35 hl (by decide) rfl (fun ls hl => ?_)
    refine lv_dload hx hb dX7_cost_37 (lv_at hl 1 rfl) ?_
    refine lv_ldc2d hx hb hown (hts (.constantDouble RX7 81 (4617315517961601024)) (List.mem_of_getElem? (i := 3) rfl)) dX7_cost_39 ?_
    refine lv_dcmp hx hb dX7_cost_42 ?_
    refine lv_if_gt (tgt := 55) hx hb dX7_cost_43 (by decide) (fun c9 => ?_) (fun c9 => ?_)
    · have ef0 := ift ef0 c9
      refine lv_iconst (v := (-1 : Int32)) hx hb dX7_cost_55 (by decide) ?_
      have q0 := Option.some.inj ef0
      exact xIret q0 rfl hx hb hr hlk hP hD hS dX7_cost_56
    · have ef0 := iff_ ef0 c9
      refine lv_dload hx hb dX7_cost_46 (lv_at hl 0 rfl) ?_
      refine lv_ldc2d hx hb hown (hts (.constantDouble RX7 83 (4611686018427387904)) (List.mem_of_getElem? (i := 4) rfl)) dX7_cost_48 ?_
      refine lv_dcmp hx hb dX7_cost_51 ?_
      refine lv_if_le (tgt := 57) hx hb dX7_cost_52 (by decide) (fun c10 => ?_) (fun c10 => ?_)
      · have ef0 := ift ef0 c10
        refine lv_ldc2d hx hb hown (hts (.constantDouble RX7 85 (4636737291354636288)) (List.mem_of_getElem? (i := 5) rfl)) dX7_cost_57 ?_
        refine lv_dload hx hb dX7_cost_60 (lv_at hl 1 rfl) ?_
        obtain ⟨h11, ef0⟩ := ck_of ef0
        refine lv_dmul hx hb dX7_cost_62 (nn_of h11) ?_
        refine lv_ldc2d hx hb hown (hts (.constantDouble RX7 85 (4636737291354636288)) (List.mem_of_getElem? (i := 5) rfl)) dX7_cost_63 ?_
        refine lv_dload hx hb dX7_cost_66 (lv_at hl 0 rfl) ?_
        obtain ⟨h12, ef0⟩ := ck_of ef0
        refine lv_dmul hx hb dX7_cost_68 (nn_of h12) ?_
        obtain ⟨h13, ef0⟩ := ck_of ef0
        refine lv_dadd hx hb dX7_cost_69 (nn_of h13) ?_
        refine lv_d2i hx hb dX7_cost_70 ?_
        have q0 := Option.some.inj ef0
        exact xIret q0 rfl hx hb hr hlk hP hD hS dX7_cost_71
      · have ef0 := iff_ ef0 c10
        refine lv_iconst (v := (-1 : Int32)) hx hb dX7_cost_55 (by decide) ?_
        have q0 := Option.some.inj ef0
        exact xIret q0 rfl hx hb hr hlk hP hD hS dX7_cost_56
  · have ef0 := ift ef0 c2
    refine lv_iconst (v := (-1 : Int32)) hx hb dX7_cost_8 (by decide) ?_
    have q0 := Option.some.inj ef0
    exact xIret q0 rfl hx hb hr hlk hP hD hS dX7_cost_9

theorem in_wsX7_meeting_X7 : ∀ w ∈ wsX70, w ∈ wsX7_meeting := fun _ h => List.mem_cons_of_mem _ (List.mem_append_right _ h)
def f_X7_meeting (p0 : Int32) (p1 : UInt64) (h_coast : Nat → Int32) (h_met : Nat → Int32) (h_metSpeed : Nat → UInt64) : Option ((Nat → Int32) × (Nat → Int32) × (Nat → UInt64)) :=
  ck (inb p0 8 = true) <|
  ck (inb p0 8 = true) <|
  ck (inb p0 8 = true) <|
  some ((upd h_coast p0.toNatClampNeg (0 : Int32)), (upd h_met p0.toNatClampNeg (1 : Int32)), (vf_upd h_metSpeed p0.toNatClampNeg p1))
set_option maxHeartbeats 4000000 in
set_option maxRecDepth 100000 in
theorem c_X7_meeting (l : Launch) (D : va_G) (sz : Nat) (h_a : Nat) (h_there_a : Nat) (h_x_a : Nat) (h_y_a : Nat) (h_speed_a : Nat) (h_sure_a : Nat) (h_coast_a : Nat) (h_met_a : Nat) (h_metSpeed_a : Nat) (h_pairing_a : Nat) (h_coast_k : ClassId) (h_met_k : ClassId) (h_metSpeed_k : ClassId) (p0 : Int32) (p1 : UInt64) (h_differ : Int32) (h_coast : Nat → Int32) (h_met : Nat → Int32) (h_metSpeed : Nat → UInt64) (r0 : Nat → Int32) (r1 : Nat → Int32) (r2 : Nat → UInt64) (hf : f_X7_meeting p0 p1 h_coast h_met h_metSpeed = some (r0, r1, r2)) : Met l yX7_meeting wsX7_meeting { frames := 0, cells := 0, slots := 0, locals := 0 } (va_Pc [.ref h_a, .int p0, .double p1] (xPre D [(h_a, .inr (7, [.ref h_there_a, .ref h_x_a, .ref h_y_a, .ref h_speed_a, .ref h_sure_a, .ref h_coast_a, .ref h_met_a, .ref h_metSpeed_a, .ref h_pairing_a, .int h_differ])), (h_coast_a, .inl (h_coast_k, 8, .inl h_coast)), (h_met_a, .inl (h_met_k, 8, .inl h_met)), (h_metSpeed_a, .inl (h_metSpeed_k, 8, .inr (.inr (.inr (.inl h_metSpeed)))))] [(h_coast_k, .int), (h_met_k, .boolean), (h_metSpeed_k, .double)] sz)) (va_Qv (fun (_ : Unit) => True) (fun _ => xB D (va_A [(h_a, .inr (7, [.ref h_there_a, .ref h_x_a, .ref h_y_a, .ref h_speed_a, .ref h_sure_a, .ref h_coast_a, .ref h_met_a, .ref h_metSpeed_a, .ref h_pairing_a, .int h_differ])), (h_coast_a, .inl (h_coast_k, 8, .inl h_coast)), (h_met_a, .inl (h_met_k, 8, .inl h_met)), (h_metSpeed_a, .inl (h_metSpeed_k, 8, .inr (.inr (.inr (.inl h_metSpeed)))))] sz) [(h_a, .inr (7, [.ref h_there_a, .ref h_x_a, .ref h_y_a, .ref h_speed_a, .ref h_sure_a, .ref h_coast_a, .ref h_met_a, .ref h_metSpeed_a, .ref h_pairing_a, .int h_differ])), (h_coast_a, .inl (h_coast_k, 8, .inl r0)), (h_met_a, .inl (h_met_k, 8, .inl r1)), (h_metSpeed_a, .inl (h_metSpeed_k, 8, .inr (.inr (.inr (.inl r2)))))]) (va_A [(h_a, .inr (7, [.ref h_there_a, .ref h_x_a, .ref h_y_a, .ref h_speed_a, .ref h_sure_a, .ref h_coast_a, .ref h_met_a, .ref h_metSpeed_a, .ref h_pairing_a, .int h_differ])), (h_coast_a, .inl (h_coast_k, 8, .inl h_coast)), (h_met_a, .inl (h_met_k, 8, .inl h_met)), (h_metSpeed_a, .inl (h_metSpeed_k, 8, .inr (.inr (.inr (.inl h_metSpeed)))))] sz)) 0 0 (va_A [(h_a, .inr (7, [.ref h_there_a, .ref h_x_a, .ref h_y_a, .ref h_speed_a, .ref h_sure_a, .ref h_coast_a, .ref h_met_a, .ref h_metSpeed_a, .ref h_pairing_a, .int h_differ])), (h_coast_a, .inl (h_coast_k, 8, .inl h_coast)), (h_met_a, .inl (h_met_k, 8, .inl h_met)), (h_metSpeed_a, .inl (h_metSpeed_k, 8, .inr (.inr (.inr (.inl h_metSpeed)))))] sz) := by
  refine xOfW (l := l) (y := yX7_meeting) (ws := wsX7_meeting) (D := D) (cells := [(h_a, .inr (7, [.ref h_there_a, .ref h_x_a, .ref h_y_a, .ref h_speed_a, .ref h_sure_a, .ref h_coast_a, .ref h_met_a, .ref h_metSpeed_a, .ref h_pairing_a, .int h_differ])), (h_coast_a, .inl (h_coast_k, 8, .inl h_coast)), (h_met_a, .inl (h_met_k, 8, .inl h_met)), (h_metSpeed_a, .inl (h_metSpeed_k, 8, .inr (.inr (.inr (.inl h_metSpeed)))))]) (tys := [(h_coast_k, .int), (h_met_k, .boolean), (h_metSpeed_k, .double)]) (sz := sz) (av := [.ref h_a, .int p0, .double p1]) (cc := cX7_meeting) (maxL := 4) (ret := none) (fun A => va_Qv (fun (_ : Unit) => True) (fun _ => xB D A [(h_a, .inr (7, [.ref h_there_a, .ref h_x_a, .ref h_y_a, .ref h_speed_a, .ref h_sure_a, .ref h_coast_a, .ref h_met_a, .ref h_metSpeed_a, .ref h_pairing_a, .int h_differ])), (h_coast_a, .inl (h_coast_k, 8, .inl r0)), (h_met_a, .inl (h_met_k, 8, .inl r1)), (h_metSpeed_a, .inl (h_metSpeed_k, 8, .inr (.inr (.inr (.inl r2)))))]) A) (by decide) rfl (Nat.le_of_ble_eq_true rfl) ?_
  intro p e s m below meth c A H ls hx hb hr hml hown hlk hts hP hK hD hS hA hN hl
  have hl : lv_has ls 4 [(0, .ref h_a), (1, .int p0), (2, .double p1)] := hl
  have hown : s.vm.findClass RX7 = some m.cls := hown
  have ef0 : f_X7_meeting p0 p1 h_coast h_met h_metSpeed = some (r0, r1, r2) := hf
  rewrite [f_X7_meeting] at ef0
  refine lv_aload_n hx hb dX7_meeting_0 rfl (lv_at hl 0 rfl) ?_
  refine va_get (D := D) (ci := 7) (v := .ref h_coast_a) (C := RX7) (T := TX7) (N := 10) hx hb hts in_wsX7_meeting_X7 hown hK hP 0 rfl rfl 5 (by decide) (hts (.fieldLink RX7 29 "AssistRows$Tracks" "coast" "[I") (List.mem_of_getElem? (i := 1) rfl)) (fun _ h9 => h9) rfl dX7_meeting_1 ?_
  refine lv_iload_n hx hb dX7_meeting_4 rfl (lv_at hl 1 rfl) ?_
  refine lv_iconst (v := (0 : Int32)) hx hb dX7_meeting_5 (by decide) ?_
  obtain ⟨h1, ef0⟩ := ck_of ef0
  refine va_iast hx hb hK hP hD hS 1 0 rfl rfl (inb_of h1) dX7_meeting_6 (fun H locs hP hD hS => ?_)
  have hP : va_P D vwCl [(h_a, .inr (7, [.ref h_there_a, .ref h_x_a, .ref h_y_a, .ref h_speed_a, .ref h_sure_a, .ref h_coast_a, .ref h_met_a, .ref h_metSpeed_a, .ref h_pairing_a, .int h_differ])), (h_coast_a, .inl (h_coast_k, 8, .inl (upd h_coast p0.toNatClampNeg (0 : Int32)))), (h_met_a, .inl (h_met_k, 8, .inl h_met)), (h_metSpeed_a, .inl (h_metSpeed_k, 8, .inr (.inr (.inr (.inl h_metSpeed)))))] H := hP
  have hD : va_D A [(h_a, .inr (7, [.ref h_there_a, .ref h_x_a, .ref h_y_a, .ref h_speed_a, .ref h_sure_a, .ref h_coast_a, .ref h_met_a, .ref h_metSpeed_a, .ref h_pairing_a, .int h_differ])), (h_coast_a, .inl (h_coast_k, 8, .inl (upd h_coast p0.toNatClampNeg (0 : Int32)))), (h_met_a, .inl (h_met_k, 8, .inl h_met)), (h_metSpeed_a, .inl (h_metSpeed_k, 8, .inr (.inr (.inr (.inl h_metSpeed)))))] := hD
  refine lv_aload_n hx hb dX7_meeting_7 rfl (lv_at hl 0 rfl) ?_
  refine va_get (D := D) (ci := 7) (v := .ref h_met_a) (C := RX7) (T := TX7) (N := 10) hx hb hts in_wsX7_meeting_X7 hown hK hP 0 rfl rfl 6 (by decide) (hts (.fieldLink RX7 32 "AssistRows$Tracks" "met" "[Z") (List.mem_of_getElem? (i := 2) rfl)) (fun _ h9 => h9) rfl dX7_meeting_8 ?_
  refine lv_iload_n hx hb dX7_meeting_11 rfl (lv_at hl 1 rfl) ?_
  refine lv_iconst (v := (1 : Int32)) hx hb dX7_meeting_12 (by decide) ?_
  obtain ⟨h2, ef0⟩ := ck_of ef0
  refine xzast rfl hx hb hK hP hD hS 2 1 rfl rfl (inb_of h2) dX7_meeting_13 (fun H locs hP hD hS => ?_)
  have hP : va_P D vwCl [(h_a, .inr (7, [.ref h_there_a, .ref h_x_a, .ref h_y_a, .ref h_speed_a, .ref h_sure_a, .ref h_coast_a, .ref h_met_a, .ref h_metSpeed_a, .ref h_pairing_a, .int h_differ])), (h_coast_a, .inl (h_coast_k, 8, .inl (upd h_coast p0.toNatClampNeg (0 : Int32)))), (h_met_a, .inl (h_met_k, 8, .inl (upd h_met p0.toNatClampNeg (1 : Int32)))), (h_metSpeed_a, .inl (h_metSpeed_k, 8, .inr (.inr (.inr (.inl h_metSpeed)))))] H := hP
  have hD : va_D A [(h_a, .inr (7, [.ref h_there_a, .ref h_x_a, .ref h_y_a, .ref h_speed_a, .ref h_sure_a, .ref h_coast_a, .ref h_met_a, .ref h_metSpeed_a, .ref h_pairing_a, .int h_differ])), (h_coast_a, .inl (h_coast_k, 8, .inl (upd h_coast p0.toNatClampNeg (0 : Int32)))), (h_met_a, .inl (h_met_k, 8, .inl (upd h_met p0.toNatClampNeg (1 : Int32)))), (h_metSpeed_a, .inl (h_metSpeed_k, 8, .inr (.inr (.inr (.inl h_metSpeed)))))] := hD
  refine lv_aload_n hx hb dX7_meeting_14 rfl (lv_at hl 0 rfl) ?_
  refine va_get (D := D) (ci := 7) (v := .ref h_metSpeed_a) (C := RX7) (T := TX7) (N := 10) hx hb hts in_wsX7_meeting_X7 hown hK hP 0 rfl rfl 7 (by decide) (hts (.fieldLink RX7 35 "AssistRows$Tracks" "metSpeed" "[D") (List.mem_of_getElem? (i := 3) rfl)) (fun _ h9 => h9) rfl dX7_meeting_15 ?_
  refine lv_iload_n hx hb dX7_meeting_18 rfl (lv_at hl 1 rfl) ?_
  refine lv_dload_n hx hb dX7_meeting_19 rfl (lv_at hl 2 rfl) ?_
  obtain ⟨h3, ef0⟩ := ck_of ef0
  refine va_dast hx hb hK hP hD hS 3 2 rfl rfl (inb_of h3) dX7_meeting_20 (fun H locs hP hD hS => ?_)
  have hP : va_P D vwCl [(h_a, .inr (7, [.ref h_there_a, .ref h_x_a, .ref h_y_a, .ref h_speed_a, .ref h_sure_a, .ref h_coast_a, .ref h_met_a, .ref h_metSpeed_a, .ref h_pairing_a, .int h_differ])), (h_coast_a, .inl (h_coast_k, 8, .inl (upd h_coast p0.toNatClampNeg (0 : Int32)))), (h_met_a, .inl (h_met_k, 8, .inl (upd h_met p0.toNatClampNeg (1 : Int32)))), (h_metSpeed_a, .inl (h_metSpeed_k, 8, .inr (.inr (.inr (.inl (vf_upd h_metSpeed p0.toNatClampNeg p1))))))] H := hP
  have hD : va_D A [(h_a, .inr (7, [.ref h_there_a, .ref h_x_a, .ref h_y_a, .ref h_speed_a, .ref h_sure_a, .ref h_coast_a, .ref h_met_a, .ref h_metSpeed_a, .ref h_pairing_a, .int h_differ])), (h_coast_a, .inl (h_coast_k, 8, .inl (upd h_coast p0.toNatClampNeg (0 : Int32)))), (h_met_a, .inl (h_met_k, 8, .inl (upd h_met p0.toNatClampNeg (1 : Int32)))), (h_metSpeed_a, .inl (h_metSpeed_k, 8, .inr (.inr (.inr (.inl (vf_upd h_metSpeed p0.toNatClampNeg p1))))))] := hD
  have q0 := Option.some.inj ef0
  obtain ⟨t0, q1⟩ := Prod.mk.inj q0
  obtain ⟨t1, q2⟩ := Prod.mk.inj q1
  exact xVret (by rw [← t0, ← t1, ← q2]) hx hb hr hlk hP hD hS dX7_meeting_21

theorem in_wsX7_join_X7 : ∀ w ∈ wsX70, w ∈ wsX7_join := fun _ h => List.mem_cons_of_mem _ (List.mem_append_right _ h)
def f_X7_join_j1 (h_x : Nat → UInt64) (h_y : Nat → UInt64) (h_speed : Nat → UInt64) (h_sure : Nat → Int32) (h_coast : Nat → Int32) (h_met : Nat → Int32) (h_metSpeed : Nat → UInt64) (p0 : Int32) (p1 : UInt64) (p2 : UInt64) (p3 : UInt64) (b7 : Int32) : Option (Int32 × (Nat → UInt64) × (Nat → UInt64) × (Nat → UInt64) × (Nat → Int32) × (Nat → Int32) × (Nat → Int32) × (Nat → UInt64)) :=
  ck (inb p0 8 = true) <|
  ck (inb p0 8 = true) <|
  ck (nnb (FP.dsub p1 (h_x p0.toNatClampNeg)) = true) <|
  ck (nnb (FP.dmul (4602678819172646912 : UInt64) (FP.dsub p1 (h_x p0.toNatClampNeg))) = true) <|
  ck (nnb (FP.dadd (h_x p0.toNatClampNeg) (FP.dmul (4602678819172646912 : UInt64) (FP.dsub p1 (h_x p0.toNatClampNeg)))) = true) <|
  ck (inb p0 8 = true) <|
  ck (inb p0 8 = true) <|
  ck (inb p0 8 = true) <|
  ck (nnb (FP.dsub p2 (h_y p0.toNatClampNeg)) = true) <|
  ck (nnb (FP.dmul (4602678819172646912 : UInt64) (FP.dsub p2 (h_y p0.toNatClampNeg))) = true) <|
  ck (nnb (FP.dadd (h_y p0.toNatClampNeg) (FP.dmul (4602678819172646912 : UInt64) (FP.dsub p2 (h_y p0.toNatClampNeg)))) = true) <|
  ck (inb p0 8 = true) <|
  ck (inb p0 8 = true) <|
  ck (inb p0 8 = true) <|
  ck (nnb (FP.dsub p3 (h_speed p0.toNatClampNeg)) = true) <|
  ck (nnb (FP.dmul (4598175219545276416 : UInt64) (FP.dsub p3 (h_speed p0.toNatClampNeg))) = true) <|
  ck (nnb (FP.dadd (h_speed p0.toNatClampNeg) (FP.dmul (4598175219545276416 : UInt64) (FP.dsub p3 (h_speed p0.toNatClampNeg)))) = true) <|
  ck (inb p0 8 = true) <|
  ck (inb p0 8 = true) <|
  if (5 : Int32) ≤ (h_sure p0.toNatClampNeg) then (
  ck (inb p0 8 = true) <|
  (f_X7_meeting p0 p3 h_coast h_met h_metSpeed).bind fun u29 =>
  some (b7, (vf_upd h_x p0.toNatClampNeg (FP.dadd (h_x p0.toNatClampNeg) (FP.dmul (4602678819172646912 : UInt64) (FP.dsub p1 (h_x p0.toNatClampNeg))))), (vf_upd h_y p0.toNatClampNeg (FP.dadd (h_y p0.toNatClampNeg) (FP.dmul (4602678819172646912 : UInt64) (FP.dsub p2 (h_y p0.toNatClampNeg))))), (vf_upd h_speed p0.toNatClampNeg (FP.dadd (h_speed p0.toNatClampNeg) (FP.dmul (4598175219545276416 : UInt64) (FP.dsub p3 (h_speed p0.toNatClampNeg))))), (upd h_sure p0.toNatClampNeg (5 : Int32)), u29.1, u29.2.1, u29.2.2)) else
  ck (inb p0 8 = true) <|
  ck (inb p0 8 = true) <|
  (f_X7_meeting p0 p3 h_coast h_met h_metSpeed).bind fun u32 =>
  some (b7, (vf_upd h_x p0.toNatClampNeg (FP.dadd (h_x p0.toNatClampNeg) (FP.dmul (4602678819172646912 : UInt64) (FP.dsub p1 (h_x p0.toNatClampNeg))))), (vf_upd h_y p0.toNatClampNeg (FP.dadd (h_y p0.toNatClampNeg) (FP.dmul (4602678819172646912 : UInt64) (FP.dsub p2 (h_y p0.toNatClampNeg))))), (vf_upd h_speed p0.toNatClampNeg (FP.dadd (h_speed p0.toNatClampNeg) (FP.dmul (4598175219545276416 : UInt64) (FP.dsub p3 (h_speed p0.toNatClampNeg))))), (upd h_sure p0.toNatClampNeg ((h_sure p0.toNatClampNeg) + (1 : Int32))), u32.1, u32.2.1, u32.2.2)
def f_X7_join (p0 : Int32) (p1 : UInt64) (p2 : UInt64) (p3 : UInt64) (h_differ : Int32) (h_x : Nat → UInt64) (h_y : Nat → UInt64) (h_speed : Nat → UInt64) (h_sure : Nat → Int32) (h_coast : Nat → Int32) (h_met : Nat → Int32) (h_metSpeed : Nat → UInt64) : Option (Int32 × (Nat → UInt64) × (Nat → UInt64) × (Nat → UInt64) × (Nat → Int32) × (Nat → Int32) × (Nat → Int32) × (Nat → UInt64)) :=
  ck (inb p0 8 = true) <|
  if (h_met p0.toNatClampNeg) = 0 then (
  f_X7_join_j1 h_x h_y h_speed h_sure h_coast h_met h_metSpeed p0 p1 p2 p3 h_differ) else
  ck (inb p0 8 = true) <|
  ck (nnb (FP.dsub (h_metSpeed p0.toNatClampNeg) p3) = true) <|
  (f_X8_magnitude (FP.dsub (h_metSpeed p0.toNatClampNeg) p3)).bind fun u5 =>
  if (Op.cmpValue (FP.dcmp u5 (4617315517961601024 : UInt64)) .l) ≤ 0 then (
  f_X7_join_j1 h_x h_y h_speed h_sure h_coast h_met h_metSpeed p0 p1 p2 p3 h_differ) else
  f_X7_join_j1 h_x h_y h_speed h_sure h_coast h_met h_metSpeed p0 p1 p2 p3 (1 : Int32)
set_option maxHeartbeats 4000000 in
set_option maxRecDepth 100000 in
theorem c_X7_join (l : Launch) (D : va_G) (sz : Nat) (h_a : Nat) (h_there_a : Nat) (h_x_a : Nat) (h_y_a : Nat) (h_speed_a : Nat) (h_sure_a : Nat) (h_coast_a : Nat) (h_met_a : Nat) (h_metSpeed_a : Nat) (h_pairing_a : Nat) (h_x_k : ClassId) (h_y_k : ClassId) (h_speed_k : ClassId) (h_sure_k : ClassId) (h_coast_k : ClassId) (h_met_k : ClassId) (h_metSpeed_k : ClassId) (p0 : Int32) (p1 : UInt64) (p2 : UInt64) (p3 : UInt64) (h_differ : Int32) (h_x : Nat → UInt64) (h_y : Nat → UInt64) (h_speed : Nat → UInt64) (h_sure : Nat → Int32) (h_coast : Nat → Int32) (h_met : Nat → Int32) (h_metSpeed : Nat → UInt64) (r0 : Int32) (r1 : Nat → UInt64) (r2 : Nat → UInt64) (r3 : Nat → UInt64) (r4 : Nat → Int32) (r5 : Nat → Int32) (r6 : Nat → Int32) (r7 : Nat → UInt64) (hf : f_X7_join p0 p1 p2 p3 h_differ h_x h_y h_speed h_sure h_coast h_met h_metSpeed = some (r0, r1, r2, r3, r4, r5, r6, r7)) : Met l yX7_join wsX7_join { frames := 1, cells := 0, slots := 0, locals := 23 } (va_Pc [.ref h_a, .int p0, .double p1, .double p2, .double p3] (xPre D [(h_a, .inr (7, [.ref h_there_a, .ref h_x_a, .ref h_y_a, .ref h_speed_a, .ref h_sure_a, .ref h_coast_a, .ref h_met_a, .ref h_metSpeed_a, .ref h_pairing_a, .int h_differ])), (h_x_a, .inl (h_x_k, 8, .inr (.inr (.inr (.inl h_x))))), (h_y_a, .inl (h_y_k, 8, .inr (.inr (.inr (.inl h_y))))), (h_speed_a, .inl (h_speed_k, 8, .inr (.inr (.inr (.inl h_speed))))), (h_sure_a, .inl (h_sure_k, 8, .inl h_sure)), (h_coast_a, .inl (h_coast_k, 8, .inl h_coast)), (h_met_a, .inl (h_met_k, 8, .inl h_met)), (h_metSpeed_a, .inl (h_metSpeed_k, 8, .inr (.inr (.inr (.inl h_metSpeed)))))] [(h_x_k, .double), (h_y_k, .double), (h_speed_k, .double), (h_sure_k, .int), (h_coast_k, .int), (h_met_k, .boolean), (h_metSpeed_k, .double)] sz)) (va_Qv (fun (_ : Unit) => True) (fun _ => xB D (va_A [(h_a, .inr (7, [.ref h_there_a, .ref h_x_a, .ref h_y_a, .ref h_speed_a, .ref h_sure_a, .ref h_coast_a, .ref h_met_a, .ref h_metSpeed_a, .ref h_pairing_a, .int h_differ])), (h_x_a, .inl (h_x_k, 8, .inr (.inr (.inr (.inl h_x))))), (h_y_a, .inl (h_y_k, 8, .inr (.inr (.inr (.inl h_y))))), (h_speed_a, .inl (h_speed_k, 8, .inr (.inr (.inr (.inl h_speed))))), (h_sure_a, .inl (h_sure_k, 8, .inl h_sure)), (h_coast_a, .inl (h_coast_k, 8, .inl h_coast)), (h_met_a, .inl (h_met_k, 8, .inl h_met)), (h_metSpeed_a, .inl (h_metSpeed_k, 8, .inr (.inr (.inr (.inl h_metSpeed)))))] sz) [(h_a, .inr (7, [.ref h_there_a, .ref h_x_a, .ref h_y_a, .ref h_speed_a, .ref h_sure_a, .ref h_coast_a, .ref h_met_a, .ref h_metSpeed_a, .ref h_pairing_a, .int r0])), (h_x_a, .inl (h_x_k, 8, .inr (.inr (.inr (.inl r1))))), (h_y_a, .inl (h_y_k, 8, .inr (.inr (.inr (.inl r2))))), (h_speed_a, .inl (h_speed_k, 8, .inr (.inr (.inr (.inl r3))))), (h_sure_a, .inl (h_sure_k, 8, .inl r4)), (h_coast_a, .inl (h_coast_k, 8, .inl r5)), (h_met_a, .inl (h_met_k, 8, .inl r6)), (h_metSpeed_a, .inl (h_metSpeed_k, 8, .inr (.inr (.inr (.inl r7)))))]) (va_A [(h_a, .inr (7, [.ref h_there_a, .ref h_x_a, .ref h_y_a, .ref h_speed_a, .ref h_sure_a, .ref h_coast_a, .ref h_met_a, .ref h_metSpeed_a, .ref h_pairing_a, .int h_differ])), (h_x_a, .inl (h_x_k, 8, .inr (.inr (.inr (.inl h_x))))), (h_y_a, .inl (h_y_k, 8, .inr (.inr (.inr (.inl h_y))))), (h_speed_a, .inl (h_speed_k, 8, .inr (.inr (.inr (.inl h_speed))))), (h_sure_a, .inl (h_sure_k, 8, .inl h_sure)), (h_coast_a, .inl (h_coast_k, 8, .inl h_coast)), (h_met_a, .inl (h_met_k, 8, .inl h_met)), (h_metSpeed_a, .inl (h_metSpeed_k, 8, .inr (.inr (.inr (.inl h_metSpeed)))))] sz)) 0 0 (va_A [(h_a, .inr (7, [.ref h_there_a, .ref h_x_a, .ref h_y_a, .ref h_speed_a, .ref h_sure_a, .ref h_coast_a, .ref h_met_a, .ref h_metSpeed_a, .ref h_pairing_a, .int h_differ])), (h_x_a, .inl (h_x_k, 8, .inr (.inr (.inr (.inl h_x))))), (h_y_a, .inl (h_y_k, 8, .inr (.inr (.inr (.inl h_y))))), (h_speed_a, .inl (h_speed_k, 8, .inr (.inr (.inr (.inl h_speed))))), (h_sure_a, .inl (h_sure_k, 8, .inl h_sure)), (h_coast_a, .inl (h_coast_k, 8, .inl h_coast)), (h_met_a, .inl (h_met_k, 8, .inl h_met)), (h_metSpeed_a, .inl (h_metSpeed_k, 8, .inr (.inr (.inr (.inl h_metSpeed)))))] sz) := by
  refine xOfW (l := l) (y := yX7_join) (ws := wsX7_join) (D := D) (cells := [(h_a, .inr (7, [.ref h_there_a, .ref h_x_a, .ref h_y_a, .ref h_speed_a, .ref h_sure_a, .ref h_coast_a, .ref h_met_a, .ref h_metSpeed_a, .ref h_pairing_a, .int h_differ])), (h_x_a, .inl (h_x_k, 8, .inr (.inr (.inr (.inl h_x))))), (h_y_a, .inl (h_y_k, 8, .inr (.inr (.inr (.inl h_y))))), (h_speed_a, .inl (h_speed_k, 8, .inr (.inr (.inr (.inl h_speed))))), (h_sure_a, .inl (h_sure_k, 8, .inl h_sure)), (h_coast_a, .inl (h_coast_k, 8, .inl h_coast)), (h_met_a, .inl (h_met_k, 8, .inl h_met)), (h_metSpeed_a, .inl (h_metSpeed_k, 8, .inr (.inr (.inr (.inl h_metSpeed)))))]) (tys := [(h_x_k, .double), (h_y_k, .double), (h_speed_k, .double), (h_sure_k, .int), (h_coast_k, .int), (h_met_k, .boolean), (h_metSpeed_k, .double)]) (sz := sz) (av := [.ref h_a, .int p0, .double p1, .double p2, .double p3]) (cc := cX7_join) (maxL := 8) (ret := none) (fun A => va_Qv (fun (_ : Unit) => True) (fun _ => xB D A [(h_a, .inr (7, [.ref h_there_a, .ref h_x_a, .ref h_y_a, .ref h_speed_a, .ref h_sure_a, .ref h_coast_a, .ref h_met_a, .ref h_metSpeed_a, .ref h_pairing_a, .int r0])), (h_x_a, .inl (h_x_k, 8, .inr (.inr (.inr (.inl r1))))), (h_y_a, .inl (h_y_k, 8, .inr (.inr (.inr (.inl r2))))), (h_speed_a, .inl (h_speed_k, 8, .inr (.inr (.inr (.inl r3))))), (h_sure_a, .inl (h_sure_k, 8, .inl r4)), (h_coast_a, .inl (h_coast_k, 8, .inl r5)), (h_met_a, .inl (h_met_k, 8, .inl r6)), (h_metSpeed_a, .inl (h_metSpeed_k, 8, .inr (.inr (.inr (.inl r7)))))]) A) (by decide) rfl (Nat.le_of_ble_eq_true rfl) ?_
  intro p e s m below meth c A H ls hx hb hr hml hown hlk hts hP hK hD hS hA hN hl
  have hl : lv_has ls 8 [(0, .ref h_a), (1, .int p0), (2, .double p1), (4, .double p2), (6, .double p3)] := hl
  have hown : s.vm.findClass RX7 = some m.cls := hown
  have ef0 : f_X7_join p0 p1 p2 p3 h_differ h_x h_y h_speed h_sure h_coast h_met h_metSpeed = some (r0, r1, r2, r3, r4, r5, r6, r7) := hf
  rewrite [f_X7_join] at ef0
  refine lv_aload_n hx hb dX7_join_0 rfl (lv_at hl 0 rfl) ?_
  refine va_get (D := D) (ci := 7) (v := .ref h_met_a) (C := RX7) (T := TX7) (N := 10) hx hb hts in_wsX7_join_X7 hown hK hP 0 rfl rfl 6 (by decide) (hts (.fieldLink RX7 32 "AssistRows$Tracks" "met" "[Z") (List.mem_of_getElem? (i := 1) rfl)) (fun _ h9 => h9) rfl dX7_join_1 ?_
  refine lv_iload_n hx hb dX7_join_4 rfl (lv_at hl 1 rfl) ?_
  obtain ⟨h1, ef0⟩ := ck_of ef0
  refine va_zald hx hb hK hP 6 5 rfl rfl (inb_of h1) dX7_join_5 ?_
  refine xCut (ι := Int32) (fun z H locs ls => f_X7_join_j1 h_x h_y h_speed h_sure h_coast h_met h_metSpeed p0 p1 p2 p3 z = some (r0, r1, r2, r3, r4, r5, r6, r7) ∧ va_P D vwCl [(h_a, .inr (7, [.ref h_there_a, .ref h_x_a, .ref h_y_a, .ref h_speed_a, .ref h_sure_a, .ref h_coast_a, .ref h_met_a, .ref h_metSpeed_a, .ref h_pairing_a, .int z])), (h_x_a, .inl (h_x_k, 8, .inr (.inr (.inr (.inl h_x))))), (h_y_a, .inl (h_y_k, 8, .inr (.inr (.inr (.inl h_y))))), (h_speed_a, .inl (h_speed_k, 8, .inr (.inr (.inr (.inl h_speed))))), (h_sure_a, .inl (h_sure_k, 8, .inl h_sure)), (h_coast_a, .inl (h_coast_k, 8, .inl h_coast)), (h_met_a, .inl (h_met_k, 8, .inl h_met)), (h_metSpeed_a, .inl (h_metSpeed_k, 8, .inr (.inr (.inr (.inl h_metSpeed)))))] H ∧ va_D A [(h_a, .inr (7, [.ref h_there_a, .ref h_x_a, .ref h_y_a, .ref h_speed_a, .ref h_sure_a, .ref h_coast_a, .ref h_met_a, .ref h_metSpeed_a, .ref h_pairing_a, .int z])), (h_x_a, .inl (h_x_k, 8, .inr (.inr (.inr (.inl h_x))))), (h_y_a, .inl (h_y_k, 8, .inr (.inr (.inr (.inl h_y))))), (h_speed_a, .inl (h_speed_k, 8, .inr (.inr (.inr (.inl h_speed))))), (h_sure_a, .inl (h_sure_k, 8, .inl h_sure)), (h_coast_a, .inl (h_coast_k, 8, .inl h_coast)), (h_met_a, .inl (h_met_k, 8, .inl h_met)), (h_metSpeed_a, .inl (h_metSpeed_k, 8, .inr (.inr (.inr (.inl h_metSpeed)))))] ∧ va_S A s.heap H locs ∧ lv_has ls 8 [(0, .ref h_a), (1, .int p0), (2, .double p1), (4, .double p2), (6, .double p3)]) 33 (fun z => []) ?_ (fun K1 => ?_)
  · intro z H locs ls hz
    obtain ⟨b7, rfl⟩ : ∃ q, q = z := ⟨z, rfl⟩
    obtain ⟨ef0, hP, hD, hS, hl⟩ := hz
    have ef0 : f_X7_join_j1 h_x h_y h_speed h_sure h_coast h_met h_metSpeed p0 p1 p2 p3 b7 = some (r0, r1, r2, r3, r4, r5, r6, r7) := ef0
    have hP : va_P D vwCl [(h_a, .inr (7, [.ref h_there_a, .ref h_x_a, .ref h_y_a, .ref h_speed_a, .ref h_sure_a, .ref h_coast_a, .ref h_met_a, .ref h_metSpeed_a, .ref h_pairing_a, .int b7])), (h_x_a, .inl (h_x_k, 8, .inr (.inr (.inr (.inl h_x))))), (h_y_a, .inl (h_y_k, 8, .inr (.inr (.inr (.inl h_y))))), (h_speed_a, .inl (h_speed_k, 8, .inr (.inr (.inr (.inl h_speed))))), (h_sure_a, .inl (h_sure_k, 8, .inl h_sure)), (h_coast_a, .inl (h_coast_k, 8, .inl h_coast)), (h_met_a, .inl (h_met_k, 8, .inl h_met)), (h_metSpeed_a, .inl (h_metSpeed_k, 8, .inr (.inr (.inr (.inl h_metSpeed)))))] H := hP
    have hD : va_D A [(h_a, .inr (7, [.ref h_there_a, .ref h_x_a, .ref h_y_a, .ref h_speed_a, .ref h_sure_a, .ref h_coast_a, .ref h_met_a, .ref h_metSpeed_a, .ref h_pairing_a, .int b7])), (h_x_a, .inl (h_x_k, 8, .inr (.inr (.inr (.inl h_x))))), (h_y_a, .inl (h_y_k, 8, .inr (.inr (.inr (.inl h_y))))), (h_speed_a, .inl (h_speed_k, 8, .inr (.inr (.inr (.inl h_speed))))), (h_sure_a, .inl (h_sure_k, 8, .inl h_sure)), (h_coast_a, .inl (h_coast_k, 8, .inl h_coast)), (h_met_a, .inl (h_met_k, 8, .inl h_met)), (h_metSpeed_a, .inl (h_metSpeed_k, 8, .inr (.inr (.inr (.inl h_metSpeed)))))] := hD
    have hl : lv_has ls 8 [(0, .ref h_a), (1, .int p0), (2, .double p1), (4, .double p2), (6, .double p3)] := hl
    rewrite [f_X7_join_j1] at ef0
    refine lv_aload_n hx hb dX7_join_33 rfl (lv_at hl 0 rfl) ?_
    refine va_get (D := D) (ci := 7) (v := .ref h_x_a) (C := RX7) (T := TX7) (N := 10) hx hb hts in_wsX7_join_X7 hown hK hP 0 rfl rfl 1 (by decide) (hts (.fieldLink RX7 15 "AssistRows$Tracks" "x" "[D") (List.mem_of_getElem? (i := 5) rfl)) (fun _ h9 => h9) rfl dX7_join_34 ?_
    refine lv_iload_n hx hb dX7_join_37 rfl (lv_at hl 1 rfl) ?_
    refine lv_aload_n hx hb dX7_join_38 rfl (lv_at hl 0 rfl) ?_
    refine va_get (D := D) (ci := 7) (v := .ref h_x_a) (C := RX7) (T := TX7) (N := 10) hx hb hts in_wsX7_join_X7 hown hK hP 0 rfl rfl 1 (by decide) (hts (.fieldLink RX7 15 "AssistRows$Tracks" "x" "[D") (List.mem_of_getElem? (i := 5) rfl)) (fun _ h9 => h9) rfl dX7_join_39 ?_
    refine lv_iload_n hx hb dX7_join_42 rfl (lv_at hl 1 rfl) ?_
    obtain ⟨h8, ef0⟩ := ck_of ef0
    refine va_dald hx hb hK hP 1 0 rfl rfl (inb_of h8) dX7_join_43 ?_
    refine lv_ldc2d hx hb hown (hts (.constantDouble RX7 87 (4602678819172646912)) (List.mem_of_getElem? (i := 6) rfl)) dX7_join_44 ?_
    refine lv_dload_n hx hb dX7_join_47 rfl (lv_at hl 2 rfl) ?_
    refine lv_aload_n hx hb dX7_join_48 rfl (lv_at hl 0 rfl) ?_
    refine va_get (D := D) (ci := 7) (v := .ref h_x_a) (C := RX7) (T := TX7) (N := 10) hx hb hts in_wsX7_join_X7 hown hK hP 0 rfl rfl 1 (by decide) (hts (.fieldLink RX7 15 "AssistRows$Tracks" "x" "[D") (List.mem_of_getElem? (i := 5) rfl)) (fun _ h9 => h9) rfl dX7_join_49 ?_
    refine lv_iload_n hx hb dX7_join_52 rfl (lv_at hl 1 rfl) ?_
    obtain ⟨h9, ef0⟩ := ck_of ef0
    refine va_dald hx hb hK hP 1 0 rfl rfl (inb_of h9) dX7_join_53 ?_
    obtain ⟨h10, ef0⟩ := ck_of ef0
    refine lv_dsub hx hb dX7_join_54 (nn_of h10) ?_
    obtain ⟨h11, ef0⟩ := ck_of ef0
    refine lv_dmul hx hb dX7_join_55 (nn_of h11) ?_
    obtain ⟨h12, ef0⟩ := ck_of ef0
    refine lv_dadd hx hb dX7_join_56 (nn_of h12) ?_
    obtain ⟨h13, ef0⟩ := ck_of ef0
    refine va_dast hx hb hK hP hD hS 1 0 rfl rfl (inb_of h13) dX7_join_57 (fun H locs hP hD hS => ?_)
    have hP : va_P D vwCl [(h_a, .inr (7, [.ref h_there_a, .ref h_x_a, .ref h_y_a, .ref h_speed_a, .ref h_sure_a, .ref h_coast_a, .ref h_met_a, .ref h_metSpeed_a, .ref h_pairing_a, .int b7])), (h_x_a, .inl (h_x_k, 8, .inr (.inr (.inr (.inl (vf_upd h_x p0.toNatClampNeg (FP.dadd (h_x p0.toNatClampNeg) (FP.dmul (4602678819172646912 : UInt64) (FP.dsub p1 (h_x p0.toNatClampNeg)))))))))), (h_y_a, .inl (h_y_k, 8, .inr (.inr (.inr (.inl h_y))))), (h_speed_a, .inl (h_speed_k, 8, .inr (.inr (.inr (.inl h_speed))))), (h_sure_a, .inl (h_sure_k, 8, .inl h_sure)), (h_coast_a, .inl (h_coast_k, 8, .inl h_coast)), (h_met_a, .inl (h_met_k, 8, .inl h_met)), (h_metSpeed_a, .inl (h_metSpeed_k, 8, .inr (.inr (.inr (.inl h_metSpeed)))))] H := hP
    have hD : va_D A [(h_a, .inr (7, [.ref h_there_a, .ref h_x_a, .ref h_y_a, .ref h_speed_a, .ref h_sure_a, .ref h_coast_a, .ref h_met_a, .ref h_metSpeed_a, .ref h_pairing_a, .int b7])), (h_x_a, .inl (h_x_k, 8, .inr (.inr (.inr (.inl (vf_upd h_x p0.toNatClampNeg (FP.dadd (h_x p0.toNatClampNeg) (FP.dmul (4602678819172646912 : UInt64) (FP.dsub p1 (h_x p0.toNatClampNeg)))))))))), (h_y_a, .inl (h_y_k, 8, .inr (.inr (.inr (.inl h_y))))), (h_speed_a, .inl (h_speed_k, 8, .inr (.inr (.inr (.inl h_speed))))), (h_sure_a, .inl (h_sure_k, 8, .inl h_sure)), (h_coast_a, .inl (h_coast_k, 8, .inl h_coast)), (h_met_a, .inl (h_met_k, 8, .inl h_met)), (h_metSpeed_a, .inl (h_metSpeed_k, 8, .inr (.inr (.inr (.inl h_metSpeed)))))] := hD
    refine lv_aload_n hx hb dX7_join_58 rfl (lv_at hl 0 rfl) ?_
    refine va_get (D := D) (ci := 7) (v := .ref h_y_a) (C := RX7) (T := TX7) (N := 10) hx hb hts in_wsX7_join_X7 hown hK hP 0 rfl rfl 2 (by decide) (hts (.fieldLink RX7 19 "AssistRows$Tracks" "y" "[D") (List.mem_of_getElem? (i := 7) rfl)) (fun _ h9 => h9) rfl dX7_join_59 ?_
    refine lv_iload_n hx hb dX7_join_62 rfl (lv_at hl 1 rfl) ?_
    refine lv_aload_n hx hb dX7_join_63 rfl (lv_at hl 0 rfl) ?_
    refine va_get (D := D) (ci := 7) (v := .ref h_y_a) (C := RX7) (T := TX7) (N := 10) hx hb hts in_wsX7_join_X7 hown hK hP 0 rfl rfl 2 (by decide) (hts (.fieldLink RX7 19 "AssistRows$Tracks" "y" "[D") (List.mem_of_getElem? (i := 7) rfl)) (fun _ h9 => h9) rfl dX7_join_64 ?_
    refine lv_iload_n hx hb dX7_join_67 rfl (lv_at hl 1 rfl) ?_
    obtain ⟨h14, ef0⟩ := ck_of ef0
    refine va_dald hx hb hK hP 2 1 rfl rfl (inb_of h14) dX7_join_68 ?_
    refine lv_ldc2d hx hb hown (hts (.constantDouble RX7 87 (4602678819172646912)) (List.mem_of_getElem? (i := 6) rfl)) dX7_join_69 ?_
    refine lv_dload hx hb dX7_join_72 (lv_at hl 3 rfl) ?_
    refine lv_aload_n hx hb dX7_join_74 rfl (lv_at hl 0 rfl) ?_
    refine va_get (D := D) (ci := 7) (v := .ref h_y_a) (C := RX7) (T := TX7) (N := 10) hx hb hts in_wsX7_join_X7 hown hK hP 0 rfl rfl 2 (by decide) (hts (.fieldLink RX7 19 "AssistRows$Tracks" "y" "[D") (List.mem_of_getElem? (i := 7) rfl)) (fun _ h9 => h9) rfl dX7_join_75 ?_
    refine lv_iload_n hx hb dX7_join_78 rfl (lv_at hl 1 rfl) ?_
    obtain ⟨h15, ef0⟩ := ck_of ef0
    refine va_dald hx hb hK hP 2 1 rfl rfl (inb_of h15) dX7_join_79 ?_
    obtain ⟨h16, ef0⟩ := ck_of ef0
    refine lv_dsub hx hb dX7_join_80 (nn_of h16) ?_
    obtain ⟨h17, ef0⟩ := ck_of ef0
    refine lv_dmul hx hb dX7_join_81 (nn_of h17) ?_
    obtain ⟨h18, ef0⟩ := ck_of ef0
    refine lv_dadd hx hb dX7_join_82 (nn_of h18) ?_
    obtain ⟨h19, ef0⟩ := ck_of ef0
    refine va_dast hx hb hK hP hD hS 2 1 rfl rfl (inb_of h19) dX7_join_83 (fun H locs hP hD hS => ?_)
    have hP : va_P D vwCl [(h_a, .inr (7, [.ref h_there_a, .ref h_x_a, .ref h_y_a, .ref h_speed_a, .ref h_sure_a, .ref h_coast_a, .ref h_met_a, .ref h_metSpeed_a, .ref h_pairing_a, .int b7])), (h_x_a, .inl (h_x_k, 8, .inr (.inr (.inr (.inl (vf_upd h_x p0.toNatClampNeg (FP.dadd (h_x p0.toNatClampNeg) (FP.dmul (4602678819172646912 : UInt64) (FP.dsub p1 (h_x p0.toNatClampNeg)))))))))), (h_y_a, .inl (h_y_k, 8, .inr (.inr (.inr (.inl (vf_upd h_y p0.toNatClampNeg (FP.dadd (h_y p0.toNatClampNeg) (FP.dmul (4602678819172646912 : UInt64) (FP.dsub p2 (h_y p0.toNatClampNeg)))))))))), (h_speed_a, .inl (h_speed_k, 8, .inr (.inr (.inr (.inl h_speed))))), (h_sure_a, .inl (h_sure_k, 8, .inl h_sure)), (h_coast_a, .inl (h_coast_k, 8, .inl h_coast)), (h_met_a, .inl (h_met_k, 8, .inl h_met)), (h_metSpeed_a, .inl (h_metSpeed_k, 8, .inr (.inr (.inr (.inl h_metSpeed)))))] H := hP
    have hD : va_D A [(h_a, .inr (7, [.ref h_there_a, .ref h_x_a, .ref h_y_a, .ref h_speed_a, .ref h_sure_a, .ref h_coast_a, .ref h_met_a, .ref h_metSpeed_a, .ref h_pairing_a, .int b7])), (h_x_a, .inl (h_x_k, 8, .inr (.inr (.inr (.inl (vf_upd h_x p0.toNatClampNeg (FP.dadd (h_x p0.toNatClampNeg) (FP.dmul (4602678819172646912 : UInt64) (FP.dsub p1 (h_x p0.toNatClampNeg)))))))))), (h_y_a, .inl (h_y_k, 8, .inr (.inr (.inr (.inl (vf_upd h_y p0.toNatClampNeg (FP.dadd (h_y p0.toNatClampNeg) (FP.dmul (4602678819172646912 : UInt64) (FP.dsub p2 (h_y p0.toNatClampNeg)))))))))), (h_speed_a, .inl (h_speed_k, 8, .inr (.inr (.inr (.inl h_speed))))), (h_sure_a, .inl (h_sure_k, 8, .inl h_sure)), (h_coast_a, .inl (h_coast_k, 8, .inl h_coast)), (h_met_a, .inl (h_met_k, 8, .inl h_met)), (h_metSpeed_a, .inl (h_metSpeed_k, 8, .inr (.inr (.inr (.inl h_metSpeed)))))] := hD
    refine lv_aload_n hx hb dX7_join_84 rfl (lv_at hl 0 rfl) ?_
    refine va_get (D := D) (ci := 7) (v := .ref h_speed_a) (C := RX7) (T := TX7) (N := 10) hx hb hts in_wsX7_join_X7 hown hK hP 0 rfl rfl 3 (by decide) (hts (.fieldLink RX7 22 "AssistRows$Tracks" "speed" "[D") (List.mem_of_getElem? (i := 8) rfl)) (fun _ h9 => h9) rfl dX7_join_85 ?_
    refine lv_iload_n hx hb dX7_join_88 rfl (lv_at hl 1 rfl) ?_
    refine lv_aload_n hx hb dX7_join_89 rfl (lv_at hl 0 rfl) ?_
    refine va_get (D := D) (ci := 7) (v := .ref h_speed_a) (C := RX7) (T := TX7) (N := 10) hx hb hts in_wsX7_join_X7 hown hK hP 0 rfl rfl 3 (by decide) (hts (.fieldLink RX7 22 "AssistRows$Tracks" "speed" "[D") (List.mem_of_getElem? (i := 8) rfl)) (fun _ h9 => h9) rfl dX7_join_90 ?_
    refine lv_iload_n hx hb dX7_join_93 rfl (lv_at hl 1 rfl) ?_
    obtain ⟨h20, ef0⟩ := ck_of ef0
    refine va_dald hx hb hK hP 3 2 rfl rfl (inb_of h20) dX7_join_94 ?_
    refine lv_ldc2d hx hb hown (hts (.constantDouble RX7 89 (4598175219545276416)) (List.mem_of_getElem? (i := 9) rfl)) dX7_join_95 ?_
    refine lv_dload hx hb dX7_join_98 (lv_at hl 4 rfl) ?_
    refine lv_aload_n hx hb dX7_join_100 rfl (lv_at hl 0 rfl) ?_
    refine va_get (D := D) (ci := 7) (v := .ref h_speed_a) (C := RX7) (T := TX7) (N := 10) hx hb hts in_wsX7_join_X7 hown hK hP 0 rfl rfl 3 (by decide) (hts (.fieldLink RX7 22 "AssistRows$Tracks" "speed" "[D") (List.mem_of_getElem? (i := 8) rfl)) (fun _ h9 => h9) rfl dX7_join_101 ?_
    refine lv_iload_n hx hb dX7_join_104 rfl (lv_at hl 1 rfl) ?_
    obtain ⟨h21, ef0⟩ := ck_of ef0
    refine va_dald hx hb hK hP 3 2 rfl rfl (inb_of h21) dX7_join_105 ?_
    obtain ⟨h22, ef0⟩ := ck_of ef0
    refine lv_dsub hx hb dX7_join_106 (nn_of h22) ?_
    obtain ⟨h23, ef0⟩ := ck_of ef0
    refine lv_dmul hx hb dX7_join_107 (nn_of h23) ?_
    obtain ⟨h24, ef0⟩ := ck_of ef0
    refine lv_dadd hx hb dX7_join_108 (nn_of h24) ?_
    obtain ⟨h25, ef0⟩ := ck_of ef0
    refine va_dast hx hb hK hP hD hS 3 2 rfl rfl (inb_of h25) dX7_join_109 (fun H locs hP hD hS => ?_)
    have hP : va_P D vwCl [(h_a, .inr (7, [.ref h_there_a, .ref h_x_a, .ref h_y_a, .ref h_speed_a, .ref h_sure_a, .ref h_coast_a, .ref h_met_a, .ref h_metSpeed_a, .ref h_pairing_a, .int b7])), (h_x_a, .inl (h_x_k, 8, .inr (.inr (.inr (.inl (vf_upd h_x p0.toNatClampNeg (FP.dadd (h_x p0.toNatClampNeg) (FP.dmul (4602678819172646912 : UInt64) (FP.dsub p1 (h_x p0.toNatClampNeg)))))))))), (h_y_a, .inl (h_y_k, 8, .inr (.inr (.inr (.inl (vf_upd h_y p0.toNatClampNeg (FP.dadd (h_y p0.toNatClampNeg) (FP.dmul (4602678819172646912 : UInt64) (FP.dsub p2 (h_y p0.toNatClampNeg)))))))))), (h_speed_a, .inl (h_speed_k, 8, .inr (.inr (.inr (.inl (vf_upd h_speed p0.toNatClampNeg (FP.dadd (h_speed p0.toNatClampNeg) (FP.dmul (4598175219545276416 : UInt64) (FP.dsub p3 (h_speed p0.toNatClampNeg)))))))))), (h_sure_a, .inl (h_sure_k, 8, .inl h_sure)), (h_coast_a, .inl (h_coast_k, 8, .inl h_coast)), (h_met_a, .inl (h_met_k, 8, .inl h_met)), (h_metSpeed_a, .inl (h_metSpeed_k, 8, .inr (.inr (.inr (.inl h_metSpeed)))))] H := hP
    have hD : va_D A [(h_a, .inr (7, [.ref h_there_a, .ref h_x_a, .ref h_y_a, .ref h_speed_a, .ref h_sure_a, .ref h_coast_a, .ref h_met_a, .ref h_metSpeed_a, .ref h_pairing_a, .int b7])), (h_x_a, .inl (h_x_k, 8, .inr (.inr (.inr (.inl (vf_upd h_x p0.toNatClampNeg (FP.dadd (h_x p0.toNatClampNeg) (FP.dmul (4602678819172646912 : UInt64) (FP.dsub p1 (h_x p0.toNatClampNeg)))))))))), (h_y_a, .inl (h_y_k, 8, .inr (.inr (.inr (.inl (vf_upd h_y p0.toNatClampNeg (FP.dadd (h_y p0.toNatClampNeg) (FP.dmul (4602678819172646912 : UInt64) (FP.dsub p2 (h_y p0.toNatClampNeg)))))))))), (h_speed_a, .inl (h_speed_k, 8, .inr (.inr (.inr (.inl (vf_upd h_speed p0.toNatClampNeg (FP.dadd (h_speed p0.toNatClampNeg) (FP.dmul (4598175219545276416 : UInt64) (FP.dsub p3 (h_speed p0.toNatClampNeg)))))))))), (h_sure_a, .inl (h_sure_k, 8, .inl h_sure)), (h_coast_a, .inl (h_coast_k, 8, .inl h_coast)), (h_met_a, .inl (h_met_k, 8, .inl h_met)), (h_metSpeed_a, .inl (h_metSpeed_k, 8, .inr (.inr (.inr (.inl h_metSpeed)))))] := hD
    refine lv_aload_n hx hb dX7_join_110 rfl (lv_at hl 0 rfl) ?_
    refine va_get (D := D) (ci := 7) (v := .ref h_sure_a) (C := RX7) (T := TX7) (N := 10) hx hb hts in_wsX7_join_X7 hown hK hP 0 rfl rfl 4 (by decide) (hts (.fieldLink RX7 25 "AssistRows$Tracks" "sure" "[I") (List.mem_of_getElem? (i := 10) rfl)) (fun _ h9 => h9) rfl dX7_join_111 ?_
    refine lv_iload_n hx hb dX7_join_114 rfl (lv_at hl 1 rfl) ?_
    refine lv_aload_n hx hb dX7_join_115 rfl (lv_at hl 0 rfl) ?_
    refine va_get (D := D) (ci := 7) (v := .ref h_sure_a) (C := RX7) (T := TX7) (N := 10) hx hb hts in_wsX7_join_X7 hown hK hP 0 rfl rfl 4 (by decide) (hts (.fieldLink RX7 25 "AssistRows$Tracks" "sure" "[I") (List.mem_of_getElem? (i := 10) rfl)) (fun _ h9 => h9) rfl dX7_join_116 ?_
    refine lv_iload_n hx hb dX7_join_119 rfl (lv_at hl 1 rfl) ?_
    obtain ⟨h26, ef0⟩ := ck_of ef0
    refine va_iald hx hb hK hP 4 3 rfl rfl (inb_of h26) dX7_join_120 ?_
    refine lv_iconst (v := (5 : Int32)) hx hb dX7_join_121 (by decide) ?_
    refine lv_icmp_ge (tgt := 136) hx hb dX7_join_122 (by decide) (fun c27 => ?_) (fun c27 => ?_)
    · have ef0 := ift ef0 c27
      refine lv_iconst (v := (5 : Int32)) hx hb dX7_join_136 (by decide) ?_
      obtain ⟨h28, ef0⟩ := ck_of ef0
      refine va_iast hx hb hK hP hD hS 4 3 rfl rfl (inb_of h28) dX7_join_137 (fun H locs hP hD hS => ?_)
      have hP : va_P D vwCl [(h_a, .inr (7, [.ref h_there_a, .ref h_x_a, .ref h_y_a, .ref h_speed_a, .ref h_sure_a, .ref h_coast_a, .ref h_met_a, .ref h_metSpeed_a, .ref h_pairing_a, .int b7])), (h_x_a, .inl (h_x_k, 8, .inr (.inr (.inr (.inl (vf_upd h_x p0.toNatClampNeg (FP.dadd (h_x p0.toNatClampNeg) (FP.dmul (4602678819172646912 : UInt64) (FP.dsub p1 (h_x p0.toNatClampNeg)))))))))), (h_y_a, .inl (h_y_k, 8, .inr (.inr (.inr (.inl (vf_upd h_y p0.toNatClampNeg (FP.dadd (h_y p0.toNatClampNeg) (FP.dmul (4602678819172646912 : UInt64) (FP.dsub p2 (h_y p0.toNatClampNeg)))))))))), (h_speed_a, .inl (h_speed_k, 8, .inr (.inr (.inr (.inl (vf_upd h_speed p0.toNatClampNeg (FP.dadd (h_speed p0.toNatClampNeg) (FP.dmul (4598175219545276416 : UInt64) (FP.dsub p3 (h_speed p0.toNatClampNeg)))))))))), (h_sure_a, .inl (h_sure_k, 8, .inl (upd h_sure p0.toNatClampNeg (5 : Int32)))), (h_coast_a, .inl (h_coast_k, 8, .inl h_coast)), (h_met_a, .inl (h_met_k, 8, .inl h_met)), (h_metSpeed_a, .inl (h_metSpeed_k, 8, .inr (.inr (.inr (.inl h_metSpeed)))))] H := hP
      have hD : va_D A [(h_a, .inr (7, [.ref h_there_a, .ref h_x_a, .ref h_y_a, .ref h_speed_a, .ref h_sure_a, .ref h_coast_a, .ref h_met_a, .ref h_metSpeed_a, .ref h_pairing_a, .int b7])), (h_x_a, .inl (h_x_k, 8, .inr (.inr (.inr (.inl (vf_upd h_x p0.toNatClampNeg (FP.dadd (h_x p0.toNatClampNeg) (FP.dmul (4602678819172646912 : UInt64) (FP.dsub p1 (h_x p0.toNatClampNeg)))))))))), (h_y_a, .inl (h_y_k, 8, .inr (.inr (.inr (.inl (vf_upd h_y p0.toNatClampNeg (FP.dadd (h_y p0.toNatClampNeg) (FP.dmul (4602678819172646912 : UInt64) (FP.dsub p2 (h_y p0.toNatClampNeg)))))))))), (h_speed_a, .inl (h_speed_k, 8, .inr (.inr (.inr (.inl (vf_upd h_speed p0.toNatClampNeg (FP.dadd (h_speed p0.toNatClampNeg) (FP.dmul (4598175219545276416 : UInt64) (FP.dsub p3 (h_speed p0.toNatClampNeg)))))))))), (h_sure_a, .inl (h_sure_k, 8, .inl (upd h_sure p0.toNatClampNeg (5 : Int32)))), (h_coast_a, .inl (h_coast_k, 8, .inl h_coast)), (h_met_a, .inl (h_met_k, 8, .inl h_met)), (h_metSpeed_a, .inl (h_metSpeed_k, 8, .inr (.inr (.inr (.inl h_metSpeed)))))] := hD
      refine lv_aload_n hx hb dX7_join_138 rfl (lv_at hl 0 rfl) ?_
      refine lv_iload_n hx hb dX7_join_139 rfl (lv_at hl 1 rfl) ?_
      refine lv_dload hx hb dX7_join_140 (lv_at hl 4 rfl) ?_
      obtain ⟨u29, hu29, ef0⟩ := bd_of ef0
      refine xCallv (wr := [(h_x_a, .inl (h_x_k, 8, .inr (.inr (.inr (.inl (vf_upd h_x p0.toNatClampNeg (FP.dadd (h_x p0.toNatClampNeg) (FP.dmul (4602678819172646912 : UInt64) (FP.dsub p1 (h_x p0.toNatClampNeg)))))))))), (h_y_a, .inl (h_y_k, 8, .inr (.inr (.inr (.inl (vf_upd h_y p0.toNatClampNeg (FP.dadd (h_y p0.toNatClampNeg) (FP.dmul (4602678819172646912 : UInt64) (FP.dsub p2 (h_y p0.toNatClampNeg)))))))))), (h_speed_a, .inl (h_speed_k, 8, .inr (.inr (.inr (.inl (vf_upd h_speed p0.toNatClampNeg (FP.dadd (h_speed p0.toNatClampNeg) (FP.dmul (4598175219545276416 : UInt64) (FP.dsub p3 (h_speed p0.toNatClampNeg)))))))))), (h_sure_a, .inl (h_sure_k, 8, .inl (upd h_sure p0.toNatClampNeg (5 : Int32))))]) (wn := [(h_a, .inr (7, [.ref h_there_a, .ref h_x_a, .ref h_y_a, .ref h_speed_a, .ref h_sure_a, .ref h_coast_a, .ref h_met_a, .ref h_metSpeed_a, .ref h_pairing_a, .int b7])), (h_x_a, .inl (h_x_k, 8, .inr (.inr (.inr (.inl (vf_upd h_x p0.toNatClampNeg (FP.dadd (h_x p0.toNatClampNeg) (FP.dmul (4602678819172646912 : UInt64) (FP.dsub p1 (h_x p0.toNatClampNeg)))))))))), (h_y_a, .inl (h_y_k, 8, .inr (.inr (.inr (.inl (vf_upd h_y p0.toNatClampNeg (FP.dadd (h_y p0.toNatClampNeg) (FP.dmul (4602678819172646912 : UInt64) (FP.dsub p2 (h_y p0.toNatClampNeg)))))))))), (h_speed_a, .inl (h_speed_k, 8, .inr (.inr (.inr (.inl (vf_upd h_speed p0.toNatClampNeg (FP.dadd (h_speed p0.toNatClampNeg) (FP.dmul (4598175219545276416 : UInt64) (FP.dsub p3 (h_speed p0.toNatClampNeg)))))))))), (h_sure_a, .inl (h_sure_k, 8, .inl (upd h_sure p0.toNatClampNeg (5 : Int32)))), (h_coast_a, .inl (h_coast_k, 8, .inl u29.1)), (h_met_a, .inl (h_met_k, 8, .inl u29.2.1)), (h_metSpeed_a, .inl (h_metSpeed_k, 8, .inr (.inr (.inr (.inl u29.2.2)))))]) [0, 5, 6, 7] [1, 2, 3, 4] [4, 0, 1, 2, 3, 5, 6, 7] (va_runV (As := [.int p0, .double p3]) (rest := []) ⟨hx, hb, hml, hown, hts⟩ (c_X7_meeting l D H.size h_a h_there_a h_x_a h_y_a h_speed_a h_sure_a h_coast_a h_met_a h_metSpeed_a h_pairing_a h_coast_k h_met_k h_metSpeed_k p0 p3 b7 h_coast h_met h_metSpeed u29.1 u29.2.1 u29.2.2 hu29) (cwV 2 hts gX7_join_X7_meeting rfl rfl rfl (by decide +kernel) ⟨Nat.le_of_ble_eq_true rfl, Nat.le_of_ble_eq_true rfl⟩) (xPreV (ci := 7) (q0 := 0) hP hD hK hN rfl rfl [0, 5, 6, 7] rfl rfl [4, 5, 6] rfl) rfl rfl hl.1 rfl (lv_room (Nat.le_of_ble_eq_true rfl)) dX7_join_142 ⟨Nat.zero_le _, Nat.zero_le _⟩) hP hD hS hA rfl rfl rfl (by decide) rfl rfl (fun H locs hP hD hS => ?_)
      have q0 := Option.some.inj ef0
      obtain ⟨t0, q1⟩ := Prod.mk.inj q0
      obtain ⟨t1, q2⟩ := Prod.mk.inj q1
      obtain ⟨t2, q3⟩ := Prod.mk.inj q2
      obtain ⟨t3, q4⟩ := Prod.mk.inj q3
      obtain ⟨t4, q5⟩ := Prod.mk.inj q4
      obtain ⟨t5, q6⟩ := Prod.mk.inj q5
      obtain ⟨t6, q7⟩ := Prod.mk.inj q6
      exact xVret (by rw [← t0, ← t1, ← t2, ← t3, ← t4, ← t5, ← t6, ← q7]) hx hb hr hlk hP hD hS dX7_join_145
    · have ef0 := iff_ ef0 c27
      refine lv_aload_n hx hb dX7_join_125 rfl (lv_at hl 0 rfl) ?_
      refine va_get (D := D) (ci := 7) (v := .ref h_sure_a) (C := RX7) (T := TX7) (N := 10) hx hb hts in_wsX7_join_X7 hown hK hP 0 rfl rfl 4 (by decide) (hts (.fieldLink RX7 25 "AssistRows$Tracks" "sure" "[I") (List.mem_of_getElem? (i := 10) rfl)) (fun _ h9 => h9) rfl dX7_join_126 ?_
      refine lv_iload_n hx hb dX7_join_129 rfl (lv_at hl 1 rfl) ?_
      obtain ⟨h30, ef0⟩ := ck_of ef0
      refine va_iald hx hb hK hP 4 3 rfl rfl (inb_of h30) dX7_join_130 ?_
      refine lv_iconst (v := (1 : Int32)) hx hb dX7_join_131 (by decide) ?_
      refine lv_iadd hx hb dX7_join_132 ?_
      refine lv_goto (tgt := 137) hx hb dX7_join_133 (by decide) ?_
      obtain ⟨h31, ef0⟩ := ck_of ef0
      refine va_iast hx hb hK hP hD hS 4 3 rfl rfl (inb_of h31) dX7_join_137 (fun H locs hP hD hS => ?_)
      have hP : va_P D vwCl [(h_a, .inr (7, [.ref h_there_a, .ref h_x_a, .ref h_y_a, .ref h_speed_a, .ref h_sure_a, .ref h_coast_a, .ref h_met_a, .ref h_metSpeed_a, .ref h_pairing_a, .int b7])), (h_x_a, .inl (h_x_k, 8, .inr (.inr (.inr (.inl (vf_upd h_x p0.toNatClampNeg (FP.dadd (h_x p0.toNatClampNeg) (FP.dmul (4602678819172646912 : UInt64) (FP.dsub p1 (h_x p0.toNatClampNeg)))))))))), (h_y_a, .inl (h_y_k, 8, .inr (.inr (.inr (.inl (vf_upd h_y p0.toNatClampNeg (FP.dadd (h_y p0.toNatClampNeg) (FP.dmul (4602678819172646912 : UInt64) (FP.dsub p2 (h_y p0.toNatClampNeg)))))))))), (h_speed_a, .inl (h_speed_k, 8, .inr (.inr (.inr (.inl (vf_upd h_speed p0.toNatClampNeg (FP.dadd (h_speed p0.toNatClampNeg) (FP.dmul (4598175219545276416 : UInt64) (FP.dsub p3 (h_speed p0.toNatClampNeg)))))))))), (h_sure_a, .inl (h_sure_k, 8, .inl (upd h_sure p0.toNatClampNeg ((h_sure p0.toNatClampNeg) + (1 : Int32))))), (h_coast_a, .inl (h_coast_k, 8, .inl h_coast)), (h_met_a, .inl (h_met_k, 8, .inl h_met)), (h_metSpeed_a, .inl (h_metSpeed_k, 8, .inr (.inr (.inr (.inl h_metSpeed)))))] H := hP
      have hD : va_D A [(h_a, .inr (7, [.ref h_there_a, .ref h_x_a, .ref h_y_a, .ref h_speed_a, .ref h_sure_a, .ref h_coast_a, .ref h_met_a, .ref h_metSpeed_a, .ref h_pairing_a, .int b7])), (h_x_a, .inl (h_x_k, 8, .inr (.inr (.inr (.inl (vf_upd h_x p0.toNatClampNeg (FP.dadd (h_x p0.toNatClampNeg) (FP.dmul (4602678819172646912 : UInt64) (FP.dsub p1 (h_x p0.toNatClampNeg)))))))))), (h_y_a, .inl (h_y_k, 8, .inr (.inr (.inr (.inl (vf_upd h_y p0.toNatClampNeg (FP.dadd (h_y p0.toNatClampNeg) (FP.dmul (4602678819172646912 : UInt64) (FP.dsub p2 (h_y p0.toNatClampNeg)))))))))), (h_speed_a, .inl (h_speed_k, 8, .inr (.inr (.inr (.inl (vf_upd h_speed p0.toNatClampNeg (FP.dadd (h_speed p0.toNatClampNeg) (FP.dmul (4598175219545276416 : UInt64) (FP.dsub p3 (h_speed p0.toNatClampNeg)))))))))), (h_sure_a, .inl (h_sure_k, 8, .inl (upd h_sure p0.toNatClampNeg ((h_sure p0.toNatClampNeg) + (1 : Int32))))), (h_coast_a, .inl (h_coast_k, 8, .inl h_coast)), (h_met_a, .inl (h_met_k, 8, .inl h_met)), (h_metSpeed_a, .inl (h_metSpeed_k, 8, .inr (.inr (.inr (.inl h_metSpeed)))))] := hD
      refine lv_aload_n hx hb dX7_join_138 rfl (lv_at hl 0 rfl) ?_
      refine lv_iload_n hx hb dX7_join_139 rfl (lv_at hl 1 rfl) ?_
      refine lv_dload hx hb dX7_join_140 (lv_at hl 4 rfl) ?_
      obtain ⟨u32, hu32, ef0⟩ := bd_of ef0
      refine xCallv (wr := [(h_x_a, .inl (h_x_k, 8, .inr (.inr (.inr (.inl (vf_upd h_x p0.toNatClampNeg (FP.dadd (h_x p0.toNatClampNeg) (FP.dmul (4602678819172646912 : UInt64) (FP.dsub p1 (h_x p0.toNatClampNeg)))))))))), (h_y_a, .inl (h_y_k, 8, .inr (.inr (.inr (.inl (vf_upd h_y p0.toNatClampNeg (FP.dadd (h_y p0.toNatClampNeg) (FP.dmul (4602678819172646912 : UInt64) (FP.dsub p2 (h_y p0.toNatClampNeg)))))))))), (h_speed_a, .inl (h_speed_k, 8, .inr (.inr (.inr (.inl (vf_upd h_speed p0.toNatClampNeg (FP.dadd (h_speed p0.toNatClampNeg) (FP.dmul (4598175219545276416 : UInt64) (FP.dsub p3 (h_speed p0.toNatClampNeg)))))))))), (h_sure_a, .inl (h_sure_k, 8, .inl (upd h_sure p0.toNatClampNeg ((h_sure p0.toNatClampNeg) + (1 : Int32)))))]) (wn := [(h_a, .inr (7, [.ref h_there_a, .ref h_x_a, .ref h_y_a, .ref h_speed_a, .ref h_sure_a, .ref h_coast_a, .ref h_met_a, .ref h_metSpeed_a, .ref h_pairing_a, .int b7])), (h_x_a, .inl (h_x_k, 8, .inr (.inr (.inr (.inl (vf_upd h_x p0.toNatClampNeg (FP.dadd (h_x p0.toNatClampNeg) (FP.dmul (4602678819172646912 : UInt64) (FP.dsub p1 (h_x p0.toNatClampNeg)))))))))), (h_y_a, .inl (h_y_k, 8, .inr (.inr (.inr (.inl (vf_upd h_y p0.toNatClampNeg (FP.dadd (h_y p0.toNatClampNeg) (FP.dmul (4602678819172646912 : UInt64) (FP.dsub p2 (h_y p0.toNatClampNeg)))))))))), (h_speed_a, .inl (h_speed_k, 8, .inr (.inr (.inr (.inl (vf_upd h_speed p0.toNatClampNeg (FP.dadd (h_speed p0.toNatClampNeg) (FP.dmul (4598175219545276416 : UInt64) (FP.dsub p3 (h_speed p0.toNatClampNeg)))))))))), (h_sure_a, .inl (h_sure_k, 8, .inl (upd h_sure p0.toNatClampNeg ((h_sure p0.toNatClampNeg) + (1 : Int32))))), (h_coast_a, .inl (h_coast_k, 8, .inl u32.1)), (h_met_a, .inl (h_met_k, 8, .inl u32.2.1)), (h_metSpeed_a, .inl (h_metSpeed_k, 8, .inr (.inr (.inr (.inl u32.2.2)))))]) [0, 5, 6, 7] [1, 2, 3, 4] [4, 0, 1, 2, 3, 5, 6, 7] (va_runV (As := [.int p0, .double p3]) (rest := []) ⟨hx, hb, hml, hown, hts⟩ (c_X7_meeting l D H.size h_a h_there_a h_x_a h_y_a h_speed_a h_sure_a h_coast_a h_met_a h_metSpeed_a h_pairing_a h_coast_k h_met_k h_metSpeed_k p0 p3 b7 h_coast h_met h_metSpeed u32.1 u32.2.1 u32.2.2 hu32) (cwV 2 hts gX7_join_X7_meeting rfl rfl rfl (by decide +kernel) ⟨Nat.le_of_ble_eq_true rfl, Nat.le_of_ble_eq_true rfl⟩) (xPreV (ci := 7) (q0 := 0) hP hD hK hN rfl rfl [0, 5, 6, 7] rfl rfl [4, 5, 6] rfl) rfl rfl hl.1 rfl (lv_room (Nat.le_of_ble_eq_true rfl)) dX7_join_142 ⟨Nat.zero_le _, Nat.zero_le _⟩) hP hD hS hA rfl rfl rfl (by decide) rfl rfl (fun H locs hP hD hS => ?_)
      have q0 := Option.some.inj ef0
      obtain ⟨t0, q1⟩ := Prod.mk.inj q0
      obtain ⟨t1, q2⟩ := Prod.mk.inj q1
      obtain ⟨t2, q3⟩ := Prod.mk.inj q2
      obtain ⟨t3, q4⟩ := Prod.mk.inj q3
      obtain ⟨t4, q5⟩ := Prod.mk.inj q4
      obtain ⟨t5, q6⟩ := Prod.mk.inj q5
      obtain ⟨t6, q7⟩ := Prod.mk.inj q6
      exact xVret (by rw [← t0, ← t1, ← t2, ← t3, ← t4, ← t5, ← t6, ← q7]) hx hb hr hlk hP hD hS dX7_join_145
  refine lv_if_eq (tgt := 33) hx hb dX7_join_6 (by decide) (fun c2 => ?_) (fun c2 => ?_)
  · have ef0 := ift ef0 c2
    exact K1 h_differ _ _ _ ⟨ef0, hP, hD, hS, lv_sub hl [0, 1, 2, 3, 4] rfl⟩
  · have ef0 := iff_ ef0 c2
    refine lv_aload_n hx hb dX7_join_9 rfl (lv_at hl 0 rfl) ?_
    refine va_get (D := D) (ci := 7) (v := .ref h_metSpeed_a) (C := RX7) (T := TX7) (N := 10) hx hb hts in_wsX7_join_X7 hown hK hP 0 rfl rfl 7 (by decide) (hts (.fieldLink RX7 35 "AssistRows$Tracks" "metSpeed" "[D") (List.mem_of_getElem? (i := 2) rfl)) (fun _ h9 => h9) rfl dX7_join_10 ?_
    refine lv_iload_n hx hb dX7_join_13 rfl (lv_at hl 1 rfl) ?_
    obtain ⟨h3, ef0⟩ := ck_of ef0
    refine va_dald hx hb hK hP 7 6 rfl rfl (inb_of h3) dX7_join_14 ?_
    refine lv_dload hx hb dX7_join_15 (lv_at hl 4 rfl) ?_
    obtain ⟨h4, ef0⟩ := ck_of ef0
    refine lv_dsub hx hb dX7_join_17 (nn_of h4) ?_
    obtain ⟨u5, hu5, ef0⟩ := bd_of ef0
    refine xCalld (wr := [(h_a, .inr (7, [.ref h_there_a, .ref h_x_a, .ref h_y_a, .ref h_speed_a, .ref h_sure_a, .ref h_coast_a, .ref h_met_a, .ref h_metSpeed_a, .ref h_pairing_a, .int h_differ])), (h_x_a, .inl (h_x_k, 8, .inr (.inr (.inr (.inl h_x))))), (h_y_a, .inl (h_y_k, 8, .inr (.inr (.inr (.inl h_y))))), (h_speed_a, .inl (h_speed_k, 8, .inr (.inr (.inr (.inl h_speed))))), (h_sure_a, .inl (h_sure_k, 8, .inl h_sure)), (h_coast_a, .inl (h_coast_k, 8, .inl h_coast)), (h_met_a, .inl (h_met_k, 8, .inl h_met)), (h_metSpeed_a, .inl (h_metSpeed_k, 8, .inr (.inr (.inr (.inl h_metSpeed)))))]) (wn := [(h_a, .inr (7, [.ref h_there_a, .ref h_x_a, .ref h_y_a, .ref h_speed_a, .ref h_sure_a, .ref h_coast_a, .ref h_met_a, .ref h_metSpeed_a, .ref h_pairing_a, .int h_differ])), (h_x_a, .inl (h_x_k, 8, .inr (.inr (.inr (.inl h_x))))), (h_y_a, .inl (h_y_k, 8, .inr (.inr (.inr (.inl h_y))))), (h_speed_a, .inl (h_speed_k, 8, .inr (.inr (.inr (.inl h_speed))))), (h_sure_a, .inl (h_sure_k, 8, .inl h_sure)), (h_coast_a, .inl (h_coast_k, 8, .inl h_coast)), (h_met_a, .inl (h_met_k, 8, .inl h_met)), (h_metSpeed_a, .inl (h_metSpeed_k, 8, .inr (.inr (.inr (.inl h_metSpeed)))))]) [] [0, 1, 2, 3, 4, 5, 6, 7] [0, 1, 2, 3, 4, 5, 6, 7] (va_runSN (As := [.double (FP.dsub (h_metSpeed p0.toNatClampNeg) p3)]) (rest := []) ⟨hx, hb, hml, hown, hts⟩ (c_X8_magnitude l D H.size (FP.dsub (h_metSpeed p0.toNatClampNeg) p3) u5 hu5) ⟨va_cnB 1 hts gX7_join_X8_magnitude_n77 rfl rfl rfl hN.2.2.2.2.1 (hts (.initialized RX8) (List.mem_of_getElem? (i := 12) rfl)) (by decide +kernel) ⟨Nat.le_of_ble_eq_true rfl, Nat.le_of_ble_eq_true rfl⟩, (hts (.static yX8_magnitude) (List.mem_of_getElem? (i := 11) rfl)), trivial⟩ (xPreS hP hD hK hN [] rfl rfl [] rfl) rfl rfl hl.1 rfl (lv_room (Nat.le_of_ble_eq_true rfl)) dX7_join_18 ⟨Nat.zero_le _, Nat.zero_le _⟩) hP hD hS hA rfl rfl rfl (by decide) rfl rfl (fun H locs hP hD hS => ?_)
    refine lv_ldc2d hx hb hown (hts (.constantDouble RX7 81 (4617315517961601024)) (List.mem_of_getElem? (i := 3) rfl)) dX7_join_21 ?_
    refine lv_dcmp hx hb dX7_join_24 ?_
    refine lv_if_le (tgt := 33) hx hb dX7_join_25 (by decide) (fun c6 => ?_) (fun c6 => ?_)
    · have ef0 := ift ef0 c6
      exact K1 h_differ _ _ _ ⟨ef0, hP, hD, hS, lv_sub hl [0, 1, 2, 3, 4] rfl⟩
    · have ef0 := iff_ ef0 c6
      refine lv_aload_n hx hb dX7_join_28 rfl (lv_at hl 0 rfl) ?_
      refine lv_iconst (v := (1 : Int32)) hx hb dX7_join_29 (by decide) ?_
      refine va_put (D := D) (ci := 7) (v := .int (1 : Int32)) (ty := .boolean) (C := RX7) (T := TX7) (N := 10) hx hb hts in_wsX7_join_X7 tyX7 tyX7_ok nmX7 hown hK hP hD hS 0 rfl rfl 9 (by decide) (hts (.fieldLink RX7 45 "AssistRows$Tracks" "differ" "Z") (List.mem_of_getElem? (i := 4) rfl)) (fun _ h9 => h9) rfl (by decide +kernel) rfl rfl (Nat.le_of_ble_eq_true rfl) dX7_join_30 (fun H locs hP hD hS => ?_)
      have hP : va_P D vwCl [(h_a, .inr (7, [.ref h_there_a, .ref h_x_a, .ref h_y_a, .ref h_speed_a, .ref h_sure_a, .ref h_coast_a, .ref h_met_a, .ref h_metSpeed_a, .ref h_pairing_a, .int (1 : Int32)])), (h_x_a, .inl (h_x_k, 8, .inr (.inr (.inr (.inl h_x))))), (h_y_a, .inl (h_y_k, 8, .inr (.inr (.inr (.inl h_y))))), (h_speed_a, .inl (h_speed_k, 8, .inr (.inr (.inr (.inl h_speed))))), (h_sure_a, .inl (h_sure_k, 8, .inl h_sure)), (h_coast_a, .inl (h_coast_k, 8, .inl h_coast)), (h_met_a, .inl (h_met_k, 8, .inl h_met)), (h_metSpeed_a, .inl (h_metSpeed_k, 8, .inr (.inr (.inr (.inl h_metSpeed)))))] H := hP
      have hD : va_D A [(h_a, .inr (7, [.ref h_there_a, .ref h_x_a, .ref h_y_a, .ref h_speed_a, .ref h_sure_a, .ref h_coast_a, .ref h_met_a, .ref h_metSpeed_a, .ref h_pairing_a, .int (1 : Int32)])), (h_x_a, .inl (h_x_k, 8, .inr (.inr (.inr (.inl h_x))))), (h_y_a, .inl (h_y_k, 8, .inr (.inr (.inr (.inl h_y))))), (h_speed_a, .inl (h_speed_k, 8, .inr (.inr (.inr (.inl h_speed))))), (h_sure_a, .inl (h_sure_k, 8, .inl h_sure)), (h_coast_a, .inl (h_coast_k, 8, .inl h_coast)), (h_met_a, .inl (h_met_k, 8, .inl h_met)), (h_metSpeed_a, .inl (h_metSpeed_k, 8, .inr (.inr (.inr (.inl h_metSpeed)))))] := hD
      exact K1 (1 : Int32) _ _ _ ⟨ef0, hP, hD, hS, lv_sub hl [0, 1, 2, 3, 4] rfl⟩

theorem in_wsX7_make_X7 : ∀ w ∈ wsX70, w ∈ wsX7_make := fun _ h => List.mem_cons_of_mem _ (List.mem_append_right _ h)
def f_X7_make_l1 (h_there : Nat → Int32) (h_x : Nat → UInt64) (h_y : Nat → UInt64) (h_speed : Nat → UInt64) (h_sure : Nat → Int32) (h_coast : Nat → Int32) (h_met : Nat → Int32) (h_metSpeed : Nat → UInt64) (p0 : UInt64) (p1 : UInt64) (p2 : UInt64) : Nat → Int32 → Option (((Nat → Int32) × (Nat → UInt64) × (Nat → UInt64) × (Nat → UInt64) × (Nat → Int32) × (Nat → Int32) × (Nat → Int32) × (Nat → UInt64)) ⊕ Unit)
  | 0, _ => none
  | n + 1, a10 =>
  if (8 : Int32) ≤ a10 then (
  some (Sum.inr ())) else
  ck (inb a10 8 = true) <|
  if (h_there a10.toNatClampNeg) = 0 then (
  ck (inb a10 8 = true) <|
  ck (inb a10 8 = true) <|
  ck (inb a10 8 = true) <|
  ck (inb a10 8 = true) <|
  ck (inb a10 8 = true) <|
  (f_X7_meeting a10 p2 h_coast h_met h_metSpeed).bind fun u19 =>
  some (Sum.inl ((upd h_there a10.toNatClampNeg (1 : Int32)), (vf_upd h_x a10.toNatClampNeg p0), (vf_upd h_y a10.toNatClampNeg p1), (vf_upd h_speed a10.toNatClampNeg p2), (upd h_sure a10.toNatClampNeg (1 : Int32)), u19.1, u19.2.1, u19.2.2))) else
  (f_X7_make_l1 h_there h_x h_y h_speed h_sure h_coast h_met h_metSpeed p0 p1 p2 n) (a10 + 1)
def f_X7_make (p0 : UInt64) (p1 : UInt64) (p2 : UInt64) (h_there : Nat → Int32) (h_x : Nat → UInt64) (h_y : Nat → UInt64) (h_speed : Nat → UInt64) (h_sure : Nat → Int32) (h_coast : Nat → Int32) (h_met : Nat → Int32) (h_metSpeed : Nat → UInt64) : Option ((Nat → Int32) × (Nat → UInt64) × (Nat → UInt64) × (Nat → UInt64) × (Nat → Int32) × (Nat → Int32) × (Nat → Int32) × (Nat → UInt64)) :=
  (f_X7_make_l1 h_there h_x h_y h_speed h_sure h_coast h_met h_metSpeed p0 p1 p2 16 (0 : Int32)).bind fun zw20 => rl zw20 (fun q => some q) fun w20 =>
  some (h_there, h_x, h_y, h_speed, h_sure, h_coast, h_met, h_metSpeed)
set_option maxHeartbeats 4000000 in
set_option maxRecDepth 100000 in
theorem c_X7_make (l : Launch) (D : va_G) (sz : Nat) (h_a : Nat) (h_there_a : Nat) (h_x_a : Nat) (h_y_a : Nat) (h_speed_a : Nat) (h_sure_a : Nat) (h_coast_a : Nat) (h_met_a : Nat) (h_metSpeed_a : Nat) (h_pairing_a : Nat) (h_there_k : ClassId) (h_x_k : ClassId) (h_y_k : ClassId) (h_speed_k : ClassId) (h_sure_k : ClassId) (h_coast_k : ClassId) (h_met_k : ClassId) (h_metSpeed_k : ClassId) (p0 : UInt64) (p1 : UInt64) (p2 : UInt64) (h_differ : Int32) (h_there : Nat → Int32) (h_x : Nat → UInt64) (h_y : Nat → UInt64) (h_speed : Nat → UInt64) (h_sure : Nat → Int32) (h_coast : Nat → Int32) (h_met : Nat → Int32) (h_metSpeed : Nat → UInt64) (r0 : Nat → Int32) (r1 : Nat → UInt64) (r2 : Nat → UInt64) (r3 : Nat → UInt64) (r4 : Nat → Int32) (r5 : Nat → Int32) (r6 : Nat → Int32) (r7 : Nat → UInt64) (hf : f_X7_make p0 p1 p2 h_there h_x h_y h_speed h_sure h_coast h_met h_metSpeed = some (r0, r1, r2, r3, r4, r5, r6, r7)) : Met l yX7_make wsX7_make { frames := 1, cells := 0, slots := 0, locals := 23 } (va_Pc [.ref h_a, .double p0, .double p1, .double p2] (xPre D [(h_a, .inr (7, [.ref h_there_a, .ref h_x_a, .ref h_y_a, .ref h_speed_a, .ref h_sure_a, .ref h_coast_a, .ref h_met_a, .ref h_metSpeed_a, .ref h_pairing_a, .int h_differ])), (h_there_a, .inl (h_there_k, 8, .inl h_there)), (h_x_a, .inl (h_x_k, 8, .inr (.inr (.inr (.inl h_x))))), (h_y_a, .inl (h_y_k, 8, .inr (.inr (.inr (.inl h_y))))), (h_speed_a, .inl (h_speed_k, 8, .inr (.inr (.inr (.inl h_speed))))), (h_sure_a, .inl (h_sure_k, 8, .inl h_sure)), (h_coast_a, .inl (h_coast_k, 8, .inl h_coast)), (h_met_a, .inl (h_met_k, 8, .inl h_met)), (h_metSpeed_a, .inl (h_metSpeed_k, 8, .inr (.inr (.inr (.inl h_metSpeed)))))] [(h_there_k, .boolean), (h_x_k, .double), (h_y_k, .double), (h_speed_k, .double), (h_sure_k, .int), (h_coast_k, .int), (h_met_k, .boolean), (h_metSpeed_k, .double)] sz)) (va_Qv (fun (_ : Unit) => True) (fun _ => xB D (va_A [(h_a, .inr (7, [.ref h_there_a, .ref h_x_a, .ref h_y_a, .ref h_speed_a, .ref h_sure_a, .ref h_coast_a, .ref h_met_a, .ref h_metSpeed_a, .ref h_pairing_a, .int h_differ])), (h_there_a, .inl (h_there_k, 8, .inl h_there)), (h_x_a, .inl (h_x_k, 8, .inr (.inr (.inr (.inl h_x))))), (h_y_a, .inl (h_y_k, 8, .inr (.inr (.inr (.inl h_y))))), (h_speed_a, .inl (h_speed_k, 8, .inr (.inr (.inr (.inl h_speed))))), (h_sure_a, .inl (h_sure_k, 8, .inl h_sure)), (h_coast_a, .inl (h_coast_k, 8, .inl h_coast)), (h_met_a, .inl (h_met_k, 8, .inl h_met)), (h_metSpeed_a, .inl (h_metSpeed_k, 8, .inr (.inr (.inr (.inl h_metSpeed)))))] sz) [(h_a, .inr (7, [.ref h_there_a, .ref h_x_a, .ref h_y_a, .ref h_speed_a, .ref h_sure_a, .ref h_coast_a, .ref h_met_a, .ref h_metSpeed_a, .ref h_pairing_a, .int h_differ])), (h_there_a, .inl (h_there_k, 8, .inl r0)), (h_x_a, .inl (h_x_k, 8, .inr (.inr (.inr (.inl r1))))), (h_y_a, .inl (h_y_k, 8, .inr (.inr (.inr (.inl r2))))), (h_speed_a, .inl (h_speed_k, 8, .inr (.inr (.inr (.inl r3))))), (h_sure_a, .inl (h_sure_k, 8, .inl r4)), (h_coast_a, .inl (h_coast_k, 8, .inl r5)), (h_met_a, .inl (h_met_k, 8, .inl r6)), (h_metSpeed_a, .inl (h_metSpeed_k, 8, .inr (.inr (.inr (.inl r7)))))]) (va_A [(h_a, .inr (7, [.ref h_there_a, .ref h_x_a, .ref h_y_a, .ref h_speed_a, .ref h_sure_a, .ref h_coast_a, .ref h_met_a, .ref h_metSpeed_a, .ref h_pairing_a, .int h_differ])), (h_there_a, .inl (h_there_k, 8, .inl h_there)), (h_x_a, .inl (h_x_k, 8, .inr (.inr (.inr (.inl h_x))))), (h_y_a, .inl (h_y_k, 8, .inr (.inr (.inr (.inl h_y))))), (h_speed_a, .inl (h_speed_k, 8, .inr (.inr (.inr (.inl h_speed))))), (h_sure_a, .inl (h_sure_k, 8, .inl h_sure)), (h_coast_a, .inl (h_coast_k, 8, .inl h_coast)), (h_met_a, .inl (h_met_k, 8, .inl h_met)), (h_metSpeed_a, .inl (h_metSpeed_k, 8, .inr (.inr (.inr (.inl h_metSpeed)))))] sz)) 0 0 (va_A [(h_a, .inr (7, [.ref h_there_a, .ref h_x_a, .ref h_y_a, .ref h_speed_a, .ref h_sure_a, .ref h_coast_a, .ref h_met_a, .ref h_metSpeed_a, .ref h_pairing_a, .int h_differ])), (h_there_a, .inl (h_there_k, 8, .inl h_there)), (h_x_a, .inl (h_x_k, 8, .inr (.inr (.inr (.inl h_x))))), (h_y_a, .inl (h_y_k, 8, .inr (.inr (.inr (.inl h_y))))), (h_speed_a, .inl (h_speed_k, 8, .inr (.inr (.inr (.inl h_speed))))), (h_sure_a, .inl (h_sure_k, 8, .inl h_sure)), (h_coast_a, .inl (h_coast_k, 8, .inl h_coast)), (h_met_a, .inl (h_met_k, 8, .inl h_met)), (h_metSpeed_a, .inl (h_metSpeed_k, 8, .inr (.inr (.inr (.inl h_metSpeed)))))] sz) := by
  refine xOfW (l := l) (y := yX7_make) (ws := wsX7_make) (D := D) (cells := [(h_a, .inr (7, [.ref h_there_a, .ref h_x_a, .ref h_y_a, .ref h_speed_a, .ref h_sure_a, .ref h_coast_a, .ref h_met_a, .ref h_metSpeed_a, .ref h_pairing_a, .int h_differ])), (h_there_a, .inl (h_there_k, 8, .inl h_there)), (h_x_a, .inl (h_x_k, 8, .inr (.inr (.inr (.inl h_x))))), (h_y_a, .inl (h_y_k, 8, .inr (.inr (.inr (.inl h_y))))), (h_speed_a, .inl (h_speed_k, 8, .inr (.inr (.inr (.inl h_speed))))), (h_sure_a, .inl (h_sure_k, 8, .inl h_sure)), (h_coast_a, .inl (h_coast_k, 8, .inl h_coast)), (h_met_a, .inl (h_met_k, 8, .inl h_met)), (h_metSpeed_a, .inl (h_metSpeed_k, 8, .inr (.inr (.inr (.inl h_metSpeed)))))]) (tys := [(h_there_k, .boolean), (h_x_k, .double), (h_y_k, .double), (h_speed_k, .double), (h_sure_k, .int), (h_coast_k, .int), (h_met_k, .boolean), (h_metSpeed_k, .double)]) (sz := sz) (av := [.ref h_a, .double p0, .double p1, .double p2]) (cc := cX7_make) (maxL := 8) (ret := none) (fun A => va_Qv (fun (_ : Unit) => True) (fun _ => xB D A [(h_a, .inr (7, [.ref h_there_a, .ref h_x_a, .ref h_y_a, .ref h_speed_a, .ref h_sure_a, .ref h_coast_a, .ref h_met_a, .ref h_metSpeed_a, .ref h_pairing_a, .int h_differ])), (h_there_a, .inl (h_there_k, 8, .inl r0)), (h_x_a, .inl (h_x_k, 8, .inr (.inr (.inr (.inl r1))))), (h_y_a, .inl (h_y_k, 8, .inr (.inr (.inr (.inl r2))))), (h_speed_a, .inl (h_speed_k, 8, .inr (.inr (.inr (.inl r3))))), (h_sure_a, .inl (h_sure_k, 8, .inl r4)), (h_coast_a, .inl (h_coast_k, 8, .inl r5)), (h_met_a, .inl (h_met_k, 8, .inl r6)), (h_metSpeed_a, .inl (h_metSpeed_k, 8, .inr (.inr (.inr (.inl r7)))))]) A) (by decide) rfl (Nat.le_of_ble_eq_true rfl) ?_
  intro p e s m below meth c A H ls hx hb hr hml hown hlk hts hP hK hD hS hA hN hl
  have hl : lv_has ls 8 [(0, .ref h_a), (1, .double p0), (3, .double p1), (5, .double p2)] := hl
  have hown : s.vm.findClass RX7 = some m.cls := hown
  have ef0 : f_X7_make p0 p1 p2 h_there h_x h_y h_speed h_sure h_coast h_met h_metSpeed = some (r0, r1, r2, r3, r4, r5, r6, r7) := hf
  rewrite [f_X7_make] at ef0
  refine lv_iconst (v := (0 : Int32)) hx hb dX7_make_0 (by decide) ?_
  refine lv_istore (lv' := [(7, .int (0 : Int32)), (0, .ref h_a), (1, .double p0), (3, .double p1), (5, .double p2)]) hx hb dX7_make_1 hl (by decide) rfl (fun ls hl => ?_)
  obtain ⟨zw20, hw20, ef0⟩ := bd_of ef0
  refine xCut (ι := Unit) (fun z H locs ls => zw20 = Sum.inr z ∧ va_P D vwCl [(h_a, .inr (7, [.ref h_there_a, .ref h_x_a, .ref h_y_a, .ref h_speed_a, .ref h_sure_a, .ref h_coast_a, .ref h_met_a, .ref h_metSpeed_a, .ref h_pairing_a, .int h_differ])), (h_there_a, .inl (h_there_k, 8, .inl h_there)), (h_x_a, .inl (h_x_k, 8, .inr (.inr (.inr (.inl h_x))))), (h_y_a, .inl (h_y_k, 8, .inr (.inr (.inr (.inl h_y))))), (h_speed_a, .inl (h_speed_k, 8, .inr (.inr (.inr (.inl h_speed))))), (h_sure_a, .inl (h_sure_k, 8, .inl h_sure)), (h_coast_a, .inl (h_coast_k, 8, .inl h_coast)), (h_met_a, .inl (h_met_k, 8, .inl h_met)), (h_metSpeed_a, .inl (h_metSpeed_k, 8, .inr (.inr (.inr (.inl h_metSpeed)))))] H ∧ va_D A [(h_a, .inr (7, [.ref h_there_a, .ref h_x_a, .ref h_y_a, .ref h_speed_a, .ref h_sure_a, .ref h_coast_a, .ref h_met_a, .ref h_metSpeed_a, .ref h_pairing_a, .int h_differ])), (h_there_a, .inl (h_there_k, 8, .inl h_there)), (h_x_a, .inl (h_x_k, 8, .inr (.inr (.inr (.inl h_x))))), (h_y_a, .inl (h_y_k, 8, .inr (.inr (.inr (.inl h_y))))), (h_speed_a, .inl (h_speed_k, 8, .inr (.inr (.inr (.inl h_speed))))), (h_sure_a, .inl (h_sure_k, 8, .inl h_sure)), (h_coast_a, .inl (h_coast_k, 8, .inl h_coast)), (h_met_a, .inl (h_met_k, 8, .inl h_met)), (h_metSpeed_a, .inl (h_metSpeed_k, 8, .inr (.inr (.inr (.inl h_metSpeed)))))] ∧ va_S A s.heap H locs ∧ lv_has ls 8 []) 76 (fun _ => []) ?_ (fun E1 => ?_)
  · intro w20 H locs ls hz
    obtain ⟨hz, hP, hD, hS, hl⟩ := hz
    have ef0 := rl_e ef0 hz
    have q0 := Option.some.inj ef0
    obtain ⟨t0, q1⟩ := Prod.mk.inj q0
    obtain ⟨t1, q2⟩ := Prod.mk.inj q1
    obtain ⟨t2, q3⟩ := Prod.mk.inj q2
    obtain ⟨t3, q4⟩ := Prod.mk.inj q3
    obtain ⟨t4, q5⟩ := Prod.mk.inj q4
    obtain ⟨t5, q6⟩ := Prod.mk.inj q5
    obtain ⟨t6, q7⟩ := Prod.mk.inj q6
    exact xVret (by rw [← t0, ← t1, ← t2, ← t3, ← t4, ← t5, ← t6, ← q7]) hx hb hr hlk hP hD hS dX7_make_76
  · refine xLoop (ι := Int32) (fun n z H locs ls => f_X7_make_l1 h_there h_x h_y h_speed h_sure h_coast h_met h_metSpeed p0 p1 p2 n z = some zw20 ∧ va_P D vwCl [(h_a, .inr (7, [.ref h_there_a, .ref h_x_a, .ref h_y_a, .ref h_speed_a, .ref h_sure_a, .ref h_coast_a, .ref h_met_a, .ref h_metSpeed_a, .ref h_pairing_a, .int h_differ])), (h_there_a, .inl (h_there_k, 8, .inl h_there)), (h_x_a, .inl (h_x_k, 8, .inr (.inr (.inr (.inl h_x))))), (h_y_a, .inl (h_y_k, 8, .inr (.inr (.inr (.inl h_y))))), (h_speed_a, .inl (h_speed_k, 8, .inr (.inr (.inr (.inl h_speed))))), (h_sure_a, .inl (h_sure_k, 8, .inl h_sure)), (h_coast_a, .inl (h_coast_k, 8, .inl h_coast)), (h_met_a, .inl (h_met_k, 8, .inl h_met)), (h_metSpeed_a, .inl (h_metSpeed_k, 8, .inr (.inr (.inr (.inl h_metSpeed)))))] H ∧ va_D A [(h_a, .inr (7, [.ref h_there_a, .ref h_x_a, .ref h_y_a, .ref h_speed_a, .ref h_sure_a, .ref h_coast_a, .ref h_met_a, .ref h_metSpeed_a, .ref h_pairing_a, .int h_differ])), (h_there_a, .inl (h_there_k, 8, .inl h_there)), (h_x_a, .inl (h_x_k, 8, .inr (.inr (.inr (.inl h_x))))), (h_y_a, .inl (h_y_k, 8, .inr (.inr (.inr (.inl h_y))))), (h_speed_a, .inl (h_speed_k, 8, .inr (.inr (.inr (.inl h_speed))))), (h_sure_a, .inl (h_sure_k, 8, .inl h_sure)), (h_coast_a, .inl (h_coast_k, 8, .inl h_coast)), (h_met_a, .inl (h_met_k, 8, .inl h_met)), (h_metSpeed_a, .inl (h_metSpeed_k, 8, .inr (.inr (.inr (.inl h_metSpeed)))))] ∧ va_S A s.heap H locs ∧ lv_has ls 8 [(0, .ref h_a), (1, .double p0), (3, .double p1), (5, .double p2), (7, .int z)]) 3 (fun _ => []) (fun z _ _ _ h => absurd (show (none : Option (((Nat → Int32) × (Nat → UInt64) × (Nat → UInt64) × (Nat → UInt64) × (Nat → Int32) × (Nat → Int32) × (Nat → Int32) × (Nat → UInt64)) ⊕ Unit)) = some _ from h.1) (fun h => nomatch h)) ?_ (fun L1 => ?_)
    · intro n L1 z H locs ls hz
      obtain ⟨a10, rfl⟩ : ∃ q, q = z := ⟨z, rfl⟩
      obtain ⟨ef1, hP, hD, hS, hl⟩ := hz
      have ef1 : f_X7_make_l1 h_there h_x h_y h_speed h_sure h_coast h_met h_metSpeed p0 p1 p2 (n + 1) a10 = some zw20 := ef1
      have hP : va_P D vwCl [(h_a, .inr (7, [.ref h_there_a, .ref h_x_a, .ref h_y_a, .ref h_speed_a, .ref h_sure_a, .ref h_coast_a, .ref h_met_a, .ref h_metSpeed_a, .ref h_pairing_a, .int h_differ])), (h_there_a, .inl (h_there_k, 8, .inl h_there)), (h_x_a, .inl (h_x_k, 8, .inr (.inr (.inr (.inl h_x))))), (h_y_a, .inl (h_y_k, 8, .inr (.inr (.inr (.inl h_y))))), (h_speed_a, .inl (h_speed_k, 8, .inr (.inr (.inr (.inl h_speed))))), (h_sure_a, .inl (h_sure_k, 8, .inl h_sure)), (h_coast_a, .inl (h_coast_k, 8, .inl h_coast)), (h_met_a, .inl (h_met_k, 8, .inl h_met)), (h_metSpeed_a, .inl (h_metSpeed_k, 8, .inr (.inr (.inr (.inl h_metSpeed)))))] H := hP
      have hD : va_D A [(h_a, .inr (7, [.ref h_there_a, .ref h_x_a, .ref h_y_a, .ref h_speed_a, .ref h_sure_a, .ref h_coast_a, .ref h_met_a, .ref h_metSpeed_a, .ref h_pairing_a, .int h_differ])), (h_there_a, .inl (h_there_k, 8, .inl h_there)), (h_x_a, .inl (h_x_k, 8, .inr (.inr (.inr (.inl h_x))))), (h_y_a, .inl (h_y_k, 8, .inr (.inr (.inr (.inl h_y))))), (h_speed_a, .inl (h_speed_k, 8, .inr (.inr (.inr (.inl h_speed))))), (h_sure_a, .inl (h_sure_k, 8, .inl h_sure)), (h_coast_a, .inl (h_coast_k, 8, .inl h_coast)), (h_met_a, .inl (h_met_k, 8, .inl h_met)), (h_metSpeed_a, .inl (h_metSpeed_k, 8, .inr (.inr (.inr (.inl h_metSpeed)))))] := hD
      have hl : lv_has ls 8 [(0, .ref h_a), (1, .double p0), (3, .double p1), (5, .double p2), (7, .int a10)] := hl
      rewrite [f_X7_make_l1] at ef1
      refine lv_iload hx hb dX7_make_3 (lv_at hl 4 rfl) ?_
      refine lv_bipush (v := (8 : Int32)) hx hb dX7_make_5 (by decide) ?_
      refine lv_icmp_ge (tgt := 76) hx hb dX7_make_7 (by decide) (fun c11 => ?_) (fun c11 => ?_)
      · have ef1 := ift ef1 c11
        exact E1 () _ _ _ ⟨(Option.some.inj ef1).symm, hP, hD, hS, lv_sub hl [] rfl⟩
      · have ef1 := iff_ ef1 c11
        refine lv_aload_n hx hb dX7_make_10 rfl (lv_at hl 0 rfl) ?_
        refine va_get (D := D) (ci := 7) (v := .ref h_there_a) (C := RX7) (T := TX7) (N := 10) hx hb hts in_wsX7_make_X7 hown hK hP 0 rfl rfl 0 (by decide) (hts (.fieldLink RX7 9 "AssistRows$Tracks" "there" "[Z") (List.mem_of_getElem? (i := 1) rfl)) (fun _ h9 => h9) rfl dX7_make_11 ?_
        refine lv_iload hx hb dX7_make_14 (lv_at hl 4 rfl) ?_
        obtain ⟨h12, ef1⟩ := ck_of ef1
        refine va_zald hx hb hK hP 1 0 rfl rfl (inb_of h12) dX7_make_16 ?_
        refine lv_if_ne (tgt := 70) hx hb dX7_make_17 (by decide) (fun c13 => ?_) (fun c13 => ?_)
        · have ef1 := iff_ ef1 c13
          refine lv_iinc (v := (a10 + 1)) (lv' := [(7, .int (a10 + 1)), (0, .ref h_a), (1, .double p0), (3, .double p1), (5, .double p2)]) hx hb dX7_make_70 hl (k := 4) rfl rfl (by decide) rfl (fun ls hl => ?_)
          refine lv_goto (tgt := 3) hx hb dX7_make_73 (by decide) ?_
          exact L1 (a10 + 1) _ _ _ ⟨ef1, hP, hD, hS, lv_sub hl [1, 2, 3, 4, 0] rfl⟩
        · have ef1 := ift ef1 c13
          refine lv_aload_n hx hb dX7_make_20 rfl (lv_at hl 0 rfl) ?_
          refine va_get (D := D) (ci := 7) (v := .ref h_there_a) (C := RX7) (T := TX7) (N := 10) hx hb hts in_wsX7_make_X7 hown hK hP 0 rfl rfl 0 (by decide) (hts (.fieldLink RX7 9 "AssistRows$Tracks" "there" "[Z") (List.mem_of_getElem? (i := 1) rfl)) (fun _ h9 => h9) rfl dX7_make_21 ?_
          refine lv_iload hx hb dX7_make_24 (lv_at hl 4 rfl) ?_
          refine lv_iconst (v := (1 : Int32)) hx hb dX7_make_26 (by decide) ?_
          obtain ⟨h14, ef1⟩ := ck_of ef1
          refine xzast rfl hx hb hK hP hD hS 1 0 rfl rfl (inb_of h14) dX7_make_27 (fun H locs hP hD hS => ?_)
          have hP : va_P D vwCl [(h_a, .inr (7, [.ref h_there_a, .ref h_x_a, .ref h_y_a, .ref h_speed_a, .ref h_sure_a, .ref h_coast_a, .ref h_met_a, .ref h_metSpeed_a, .ref h_pairing_a, .int h_differ])), (h_there_a, .inl (h_there_k, 8, .inl (upd h_there a10.toNatClampNeg (1 : Int32)))), (h_x_a, .inl (h_x_k, 8, .inr (.inr (.inr (.inl h_x))))), (h_y_a, .inl (h_y_k, 8, .inr (.inr (.inr (.inl h_y))))), (h_speed_a, .inl (h_speed_k, 8, .inr (.inr (.inr (.inl h_speed))))), (h_sure_a, .inl (h_sure_k, 8, .inl h_sure)), (h_coast_a, .inl (h_coast_k, 8, .inl h_coast)), (h_met_a, .inl (h_met_k, 8, .inl h_met)), (h_metSpeed_a, .inl (h_metSpeed_k, 8, .inr (.inr (.inr (.inl h_metSpeed)))))] H := hP
          have hD : va_D A [(h_a, .inr (7, [.ref h_there_a, .ref h_x_a, .ref h_y_a, .ref h_speed_a, .ref h_sure_a, .ref h_coast_a, .ref h_met_a, .ref h_metSpeed_a, .ref h_pairing_a, .int h_differ])), (h_there_a, .inl (h_there_k, 8, .inl (upd h_there a10.toNatClampNeg (1 : Int32)))), (h_x_a, .inl (h_x_k, 8, .inr (.inr (.inr (.inl h_x))))), (h_y_a, .inl (h_y_k, 8, .inr (.inr (.inr (.inl h_y))))), (h_speed_a, .inl (h_speed_k, 8, .inr (.inr (.inr (.inl h_speed))))), (h_sure_a, .inl (h_sure_k, 8, .inl h_sure)), (h_coast_a, .inl (h_coast_k, 8, .inl h_coast)), (h_met_a, .inl (h_met_k, 8, .inl h_met)), (h_metSpeed_a, .inl (h_metSpeed_k, 8, .inr (.inr (.inr (.inl h_metSpeed)))))] := hD
          refine lv_aload_n hx hb dX7_make_28 rfl (lv_at hl 0 rfl) ?_
          refine va_get (D := D) (ci := 7) (v := .ref h_x_a) (C := RX7) (T := TX7) (N := 10) hx hb hts in_wsX7_make_X7 hown hK hP 0 rfl rfl 1 (by decide) (hts (.fieldLink RX7 15 "AssistRows$Tracks" "x" "[D") (List.mem_of_getElem? (i := 2) rfl)) (fun _ h9 => h9) rfl dX7_make_29 ?_
          refine lv_iload hx hb dX7_make_32 (lv_at hl 4 rfl) ?_
          refine lv_dload_n hx hb dX7_make_34 rfl (lv_at hl 1 rfl) ?_
          obtain ⟨h15, ef1⟩ := ck_of ef1
          refine va_dast hx hb hK hP hD hS 2 1 rfl rfl (inb_of h15) dX7_make_35 (fun H locs hP hD hS => ?_)
          have hP : va_P D vwCl [(h_a, .inr (7, [.ref h_there_a, .ref h_x_a, .ref h_y_a, .ref h_speed_a, .ref h_sure_a, .ref h_coast_a, .ref h_met_a, .ref h_metSpeed_a, .ref h_pairing_a, .int h_differ])), (h_there_a, .inl (h_there_k, 8, .inl (upd h_there a10.toNatClampNeg (1 : Int32)))), (h_x_a, .inl (h_x_k, 8, .inr (.inr (.inr (.inl (vf_upd h_x a10.toNatClampNeg p0)))))), (h_y_a, .inl (h_y_k, 8, .inr (.inr (.inr (.inl h_y))))), (h_speed_a, .inl (h_speed_k, 8, .inr (.inr (.inr (.inl h_speed))))), (h_sure_a, .inl (h_sure_k, 8, .inl h_sure)), (h_coast_a, .inl (h_coast_k, 8, .inl h_coast)), (h_met_a, .inl (h_met_k, 8, .inl h_met)), (h_metSpeed_a, .inl (h_metSpeed_k, 8, .inr (.inr (.inr (.inl h_metSpeed)))))] H := hP
          have hD : va_D A [(h_a, .inr (7, [.ref h_there_a, .ref h_x_a, .ref h_y_a, .ref h_speed_a, .ref h_sure_a, .ref h_coast_a, .ref h_met_a, .ref h_metSpeed_a, .ref h_pairing_a, .int h_differ])), (h_there_a, .inl (h_there_k, 8, .inl (upd h_there a10.toNatClampNeg (1 : Int32)))), (h_x_a, .inl (h_x_k, 8, .inr (.inr (.inr (.inl (vf_upd h_x a10.toNatClampNeg p0)))))), (h_y_a, .inl (h_y_k, 8, .inr (.inr (.inr (.inl h_y))))), (h_speed_a, .inl (h_speed_k, 8, .inr (.inr (.inr (.inl h_speed))))), (h_sure_a, .inl (h_sure_k, 8, .inl h_sure)), (h_coast_a, .inl (h_coast_k, 8, .inl h_coast)), (h_met_a, .inl (h_met_k, 8, .inl h_met)), (h_metSpeed_a, .inl (h_metSpeed_k, 8, .inr (.inr (.inr (.inl h_metSpeed)))))] := hD
          refine lv_aload_n hx hb dX7_make_36 rfl (lv_at hl 0 rfl) ?_
          refine va_get (D := D) (ci := 7) (v := .ref h_y_a) (C := RX7) (T := TX7) (N := 10) hx hb hts in_wsX7_make_X7 hown hK hP 0 rfl rfl 2 (by decide) (hts (.fieldLink RX7 19 "AssistRows$Tracks" "y" "[D") (List.mem_of_getElem? (i := 3) rfl)) (fun _ h9 => h9) rfl dX7_make_37 ?_
          refine lv_iload hx hb dX7_make_40 (lv_at hl 4 rfl) ?_
          refine lv_dload_n hx hb dX7_make_42 rfl (lv_at hl 2 rfl) ?_
          obtain ⟨h16, ef1⟩ := ck_of ef1
          refine va_dast hx hb hK hP hD hS 3 2 rfl rfl (inb_of h16) dX7_make_43 (fun H locs hP hD hS => ?_)
          have hP : va_P D vwCl [(h_a, .inr (7, [.ref h_there_a, .ref h_x_a, .ref h_y_a, .ref h_speed_a, .ref h_sure_a, .ref h_coast_a, .ref h_met_a, .ref h_metSpeed_a, .ref h_pairing_a, .int h_differ])), (h_there_a, .inl (h_there_k, 8, .inl (upd h_there a10.toNatClampNeg (1 : Int32)))), (h_x_a, .inl (h_x_k, 8, .inr (.inr (.inr (.inl (vf_upd h_x a10.toNatClampNeg p0)))))), (h_y_a, .inl (h_y_k, 8, .inr (.inr (.inr (.inl (vf_upd h_y a10.toNatClampNeg p1)))))), (h_speed_a, .inl (h_speed_k, 8, .inr (.inr (.inr (.inl h_speed))))), (h_sure_a, .inl (h_sure_k, 8, .inl h_sure)), (h_coast_a, .inl (h_coast_k, 8, .inl h_coast)), (h_met_a, .inl (h_met_k, 8, .inl h_met)), (h_metSpeed_a, .inl (h_metSpeed_k, 8, .inr (.inr (.inr (.inl h_metSpeed)))))] H := hP
          have hD : va_D A [(h_a, .inr (7, [.ref h_there_a, .ref h_x_a, .ref h_y_a, .ref h_speed_a, .ref h_sure_a, .ref h_coast_a, .ref h_met_a, .ref h_metSpeed_a, .ref h_pairing_a, .int h_differ])), (h_there_a, .inl (h_there_k, 8, .inl (upd h_there a10.toNatClampNeg (1 : Int32)))), (h_x_a, .inl (h_x_k, 8, .inr (.inr (.inr (.inl (vf_upd h_x a10.toNatClampNeg p0)))))), (h_y_a, .inl (h_y_k, 8, .inr (.inr (.inr (.inl (vf_upd h_y a10.toNatClampNeg p1)))))), (h_speed_a, .inl (h_speed_k, 8, .inr (.inr (.inr (.inl h_speed))))), (h_sure_a, .inl (h_sure_k, 8, .inl h_sure)), (h_coast_a, .inl (h_coast_k, 8, .inl h_coast)), (h_met_a, .inl (h_met_k, 8, .inl h_met)), (h_metSpeed_a, .inl (h_metSpeed_k, 8, .inr (.inr (.inr (.inl h_metSpeed)))))] := hD
          refine lv_aload_n hx hb dX7_make_44 rfl (lv_at hl 0 rfl) ?_
          refine va_get (D := D) (ci := 7) (v := .ref h_speed_a) (C := RX7) (T := TX7) (N := 10) hx hb hts in_wsX7_make_X7 hown hK hP 0 rfl rfl 3 (by decide) (hts (.fieldLink RX7 22 "AssistRows$Tracks" "speed" "[D") (List.mem_of_getElem? (i := 4) rfl)) (fun _ h9 => h9) rfl dX7_make_45 ?_
          refine lv_iload hx hb dX7_make_48 (lv_at hl 4 rfl) ?_
          refine lv_dload hx hb dX7_make_50 (lv_at hl 3 rfl) ?_
          obtain ⟨h17, ef1⟩ := ck_of ef1
          refine va_dast hx hb hK hP hD hS 4 3 rfl rfl (inb_of h17) dX7_make_52 (fun H locs hP hD hS => ?_)
          have hP : va_P D vwCl [(h_a, .inr (7, [.ref h_there_a, .ref h_x_a, .ref h_y_a, .ref h_speed_a, .ref h_sure_a, .ref h_coast_a, .ref h_met_a, .ref h_metSpeed_a, .ref h_pairing_a, .int h_differ])), (h_there_a, .inl (h_there_k, 8, .inl (upd h_there a10.toNatClampNeg (1 : Int32)))), (h_x_a, .inl (h_x_k, 8, .inr (.inr (.inr (.inl (vf_upd h_x a10.toNatClampNeg p0)))))), (h_y_a, .inl (h_y_k, 8, .inr (.inr (.inr (.inl (vf_upd h_y a10.toNatClampNeg p1)))))), (h_speed_a, .inl (h_speed_k, 8, .inr (.inr (.inr (.inl (vf_upd h_speed a10.toNatClampNeg p2)))))), (h_sure_a, .inl (h_sure_k, 8, .inl h_sure)), (h_coast_a, .inl (h_coast_k, 8, .inl h_coast)), (h_met_a, .inl (h_met_k, 8, .inl h_met)), (h_metSpeed_a, .inl (h_metSpeed_k, 8, .inr (.inr (.inr (.inl h_metSpeed)))))] H := hP
          have hD : va_D A [(h_a, .inr (7, [.ref h_there_a, .ref h_x_a, .ref h_y_a, .ref h_speed_a, .ref h_sure_a, .ref h_coast_a, .ref h_met_a, .ref h_metSpeed_a, .ref h_pairing_a, .int h_differ])), (h_there_a, .inl (h_there_k, 8, .inl (upd h_there a10.toNatClampNeg (1 : Int32)))), (h_x_a, .inl (h_x_k, 8, .inr (.inr (.inr (.inl (vf_upd h_x a10.toNatClampNeg p0)))))), (h_y_a, .inl (h_y_k, 8, .inr (.inr (.inr (.inl (vf_upd h_y a10.toNatClampNeg p1)))))), (h_speed_a, .inl (h_speed_k, 8, .inr (.inr (.inr (.inl (vf_upd h_speed a10.toNatClampNeg p2)))))), (h_sure_a, .inl (h_sure_k, 8, .inl h_sure)), (h_coast_a, .inl (h_coast_k, 8, .inl h_coast)), (h_met_a, .inl (h_met_k, 8, .inl h_met)), (h_metSpeed_a, .inl (h_metSpeed_k, 8, .inr (.inr (.inr (.inl h_metSpeed)))))] := hD
          refine lv_aload_n hx hb dX7_make_53 rfl (lv_at hl 0 rfl) ?_
          refine va_get (D := D) (ci := 7) (v := .ref h_sure_a) (C := RX7) (T := TX7) (N := 10) hx hb hts in_wsX7_make_X7 hown hK hP 0 rfl rfl 4 (by decide) (hts (.fieldLink RX7 25 "AssistRows$Tracks" "sure" "[I") (List.mem_of_getElem? (i := 5) rfl)) (fun _ h9 => h9) rfl dX7_make_54 ?_
          refine lv_iload hx hb dX7_make_57 (lv_at hl 4 rfl) ?_
          refine lv_iconst (v := (1 : Int32)) hx hb dX7_make_59 (by decide) ?_
          obtain ⟨h18, ef1⟩ := ck_of ef1
          refine va_iast hx hb hK hP hD hS 5 4 rfl rfl (inb_of h18) dX7_make_60 (fun H locs hP hD hS => ?_)
          have hP : va_P D vwCl [(h_a, .inr (7, [.ref h_there_a, .ref h_x_a, .ref h_y_a, .ref h_speed_a, .ref h_sure_a, .ref h_coast_a, .ref h_met_a, .ref h_metSpeed_a, .ref h_pairing_a, .int h_differ])), (h_there_a, .inl (h_there_k, 8, .inl (upd h_there a10.toNatClampNeg (1 : Int32)))), (h_x_a, .inl (h_x_k, 8, .inr (.inr (.inr (.inl (vf_upd h_x a10.toNatClampNeg p0)))))), (h_y_a, .inl (h_y_k, 8, .inr (.inr (.inr (.inl (vf_upd h_y a10.toNatClampNeg p1)))))), (h_speed_a, .inl (h_speed_k, 8, .inr (.inr (.inr (.inl (vf_upd h_speed a10.toNatClampNeg p2)))))), (h_sure_a, .inl (h_sure_k, 8, .inl (upd h_sure a10.toNatClampNeg (1 : Int32)))), (h_coast_a, .inl (h_coast_k, 8, .inl h_coast)), (h_met_a, .inl (h_met_k, 8, .inl h_met)), (h_metSpeed_a, .inl (h_metSpeed_k, 8, .inr (.inr (.inr (.inl h_metSpeed)))))] H := hP
          have hD : va_D A [(h_a, .inr (7, [.ref h_there_a, .ref h_x_a, .ref h_y_a, .ref h_speed_a, .ref h_sure_a, .ref h_coast_a, .ref h_met_a, .ref h_metSpeed_a, .ref h_pairing_a, .int h_differ])), (h_there_a, .inl (h_there_k, 8, .inl (upd h_there a10.toNatClampNeg (1 : Int32)))), (h_x_a, .inl (h_x_k, 8, .inr (.inr (.inr (.inl (vf_upd h_x a10.toNatClampNeg p0)))))), (h_y_a, .inl (h_y_k, 8, .inr (.inr (.inr (.inl (vf_upd h_y a10.toNatClampNeg p1)))))), (h_speed_a, .inl (h_speed_k, 8, .inr (.inr (.inr (.inl (vf_upd h_speed a10.toNatClampNeg p2)))))), (h_sure_a, .inl (h_sure_k, 8, .inl (upd h_sure a10.toNatClampNeg (1 : Int32)))), (h_coast_a, .inl (h_coast_k, 8, .inl h_coast)), (h_met_a, .inl (h_met_k, 8, .inl h_met)), (h_metSpeed_a, .inl (h_metSpeed_k, 8, .inr (.inr (.inr (.inl h_metSpeed)))))] := hD
          refine lv_aload_n hx hb dX7_make_61 rfl (lv_at hl 0 rfl) ?_
          refine lv_iload hx hb dX7_make_62 (lv_at hl 4 rfl) ?_
          refine lv_dload hx hb dX7_make_64 (lv_at hl 3 rfl) ?_
          obtain ⟨u19, hu19, ef1⟩ := bd_of ef1
          refine xCallv (wr := [(h_there_a, .inl (h_there_k, 8, .inl (upd h_there a10.toNatClampNeg (1 : Int32)))), (h_x_a, .inl (h_x_k, 8, .inr (.inr (.inr (.inl (vf_upd h_x a10.toNatClampNeg p0)))))), (h_y_a, .inl (h_y_k, 8, .inr (.inr (.inr (.inl (vf_upd h_y a10.toNatClampNeg p1)))))), (h_speed_a, .inl (h_speed_k, 8, .inr (.inr (.inr (.inl (vf_upd h_speed a10.toNatClampNeg p2)))))), (h_sure_a, .inl (h_sure_k, 8, .inl (upd h_sure a10.toNatClampNeg (1 : Int32))))]) (wn := [(h_a, .inr (7, [.ref h_there_a, .ref h_x_a, .ref h_y_a, .ref h_speed_a, .ref h_sure_a, .ref h_coast_a, .ref h_met_a, .ref h_metSpeed_a, .ref h_pairing_a, .int h_differ])), (h_there_a, .inl (h_there_k, 8, .inl (upd h_there a10.toNatClampNeg (1 : Int32)))), (h_x_a, .inl (h_x_k, 8, .inr (.inr (.inr (.inl (vf_upd h_x a10.toNatClampNeg p0)))))), (h_y_a, .inl (h_y_k, 8, .inr (.inr (.inr (.inl (vf_upd h_y a10.toNatClampNeg p1)))))), (h_speed_a, .inl (h_speed_k, 8, .inr (.inr (.inr (.inl (vf_upd h_speed a10.toNatClampNeg p2)))))), (h_sure_a, .inl (h_sure_k, 8, .inl (upd h_sure a10.toNatClampNeg (1 : Int32)))), (h_coast_a, .inl (h_coast_k, 8, .inl u19.1)), (h_met_a, .inl (h_met_k, 8, .inl u19.2.1)), (h_metSpeed_a, .inl (h_metSpeed_k, 8, .inr (.inr (.inr (.inl u19.2.2)))))]) [0, 6, 7, 8] [1, 2, 3, 4, 5] [5, 0, 1, 2, 3, 4, 6, 7, 8] (va_runV (As := [.int a10, .double p2]) (rest := []) ⟨hx, hb, hml, hown, hts⟩ (c_X7_meeting l D H.size h_a h_there_a h_x_a h_y_a h_speed_a h_sure_a h_coast_a h_met_a h_metSpeed_a h_pairing_a h_coast_k h_met_k h_metSpeed_k a10 p2 h_differ h_coast h_met h_metSpeed u19.1 u19.2.1 u19.2.2 hu19) (cwV 2 hts gX7_make_X7_meeting rfl rfl rfl (by decide +kernel) ⟨Nat.le_of_ble_eq_true rfl, Nat.le_of_ble_eq_true rfl⟩) (xPreV (ci := 7) (q0 := 0) hP hD hK hN rfl rfl [0, 6, 7, 8] rfl rfl [5, 6, 7] rfl) rfl rfl hl.1 rfl (lv_room (Nat.le_of_ble_eq_true rfl)) dX7_make_66 ⟨Nat.zero_le _, Nat.zero_le _⟩) hP hD hS hA rfl rfl rfl (by decide) rfl rfl (fun H locs hP hD hS => ?_)
          have e1 := Option.some.inj ef1
          have ef0 := rl_l ef0 e1
          have ef0 : some ((upd h_there a10.toNatClampNeg (1 : Int32)), (vf_upd h_x a10.toNatClampNeg p0), (vf_upd h_y a10.toNatClampNeg p1), (vf_upd h_speed a10.toNatClampNeg p2), (upd h_sure a10.toNatClampNeg (1 : Int32)), u19.1, u19.2.1, u19.2.2) = some _ := ef0
          have q0 := Option.some.inj ef0
          obtain ⟨t0, q1⟩ := Prod.mk.inj q0
          obtain ⟨t1, q2⟩ := Prod.mk.inj q1
          obtain ⟨t2, q3⟩ := Prod.mk.inj q2
          obtain ⟨t3, q4⟩ := Prod.mk.inj q3
          obtain ⟨t4, q5⟩ := Prod.mk.inj q4
          obtain ⟨t5, q6⟩ := Prod.mk.inj q5
          obtain ⟨t6, q7⟩ := Prod.mk.inj q6
          exact xVret (by rw [← t0, ← t1, ← t2, ← t3, ← t4, ← t5, ← t6, ← q7]) hx hb hr hlk hP hD hS dX7_make_69
    · exact L1 16 (0 : Int32) _ _ _ ⟨hw20, hP, hD, hS, lv_sub hl [1, 2, 3, 4, 0] rfl⟩

theorem in_wsX7_age_X7 : ∀ w ∈ wsX70, w ∈ wsX7_age := fun _ h => List.mem_cons_of_mem _ (List.mem_append_right _ h)
def f_X7_age_j2 (rc : Int32 → (Nat → Int32) → (Nat → Int32) → (Nat → Int32) → Option ((Nat → Int32) × (Nat → Int32) × (Nat → Int32))) (h_x : Nat → UInt64) (a24 : Int32) (a25 : Nat → Int32) (b40 : Nat → Int32) (b41 : Nat → Int32) : Option ((Nat → Int32) × (Nat → Int32) × (Nat → Int32)) :=
  ck (inb a24 8 = true) <|
  if (4 : Int32) ≤ (b41 a24.toNatClampNeg) then (
  ck (inb a24 8 = true) <|
  rc (a24 + 1) (upd a25 a24.toNatClampNeg (0 : Int32)) b40 b41) else
  ck (inb a24 8 = true) <|
  if (Op.cmpValue (FP.dcmp (h_x a24.toNatClampNeg) FP.dconst0) .g) < 0 then (
  ck (inb a24 8 = true) <|
  rc (a24 + 1) (upd a25 a24.toNatClampNeg (0 : Int32)) b40 b41) else
  ck (inb a24 8 = true) <|
  if (Op.cmpValue (FP.dcmp (h_x a24.toNatClampNeg) (4643000109586448384 : UInt64)) .l) ≤ 0 then (
  rc (a24 + 1) a25 b40 b41) else
  ck (inb a24 8 = true) <|
  rc (a24 + 1) (upd a25 a24.toNatClampNeg (0 : Int32)) b40 b41
def f_X7_age_l1 (h_x : Nat → UInt64) (h_met : Nat → Int32) : Nat → Int32 → (Nat → Int32) → (Nat → Int32) → (Nat → Int32) → Option ((Nat → Int32) × (Nat → Int32) × (Nat → Int32))
  | 0, _, _, _, _ => none
  | n + 1, a24, a25, a26, a27 =>
  if (8 : Int32) ≤ a24 then (
  some (a25, a26, a27)) else
  ck (inb a24 8 = true) <|
  if (a25 a24.toNatClampNeg) = 0 then (
  f_X7_age_j2 (f_X7_age_l1 h_x h_met n) h_x a24 a25 a26 a27) else
  ck (inb a24 8 = true) <|
  if (h_met a24.toNatClampNeg) = 0 then (
  ck (inb a24 8 = true) <|
  ck (inb a24 8 = true) <|
  ck (inb a24 8 = true) <|
  if (a26 a24.toNatClampNeg) ≤ (1 : Int32) then (
  ck (inb a24 8 = true) <|
  f_X7_age_j2 (f_X7_age_l1 h_x h_met n) h_x a24 a25 (upd a26 a24.toNatClampNeg (1 : Int32)) (upd a27 a24.toNatClampNeg ((a27 a24.toNatClampNeg) + (1 : Int32)))) else
  ck (inb a24 8 = true) <|
  ck (inb a24 8 = true) <|
  f_X7_age_j2 (f_X7_age_l1 h_x h_met n) h_x a24 a25 (upd a26 a24.toNatClampNeg ((a26 a24.toNatClampNeg) - (1 : Int32))) (upd a27 a24.toNatClampNeg ((a27 a24.toNatClampNeg) + (1 : Int32)))) else
  f_X7_age_j2 (f_X7_age_l1 h_x h_met n) h_x a24 a25 a26 a27
def f_X7_age (h_there : Nat → Int32) (h_x : Nat → UInt64) (h_sure : Nat → Int32) (h_coast : Nat → Int32) (h_met : Nat → Int32) : Option ((Nat → Int32) × (Nat → Int32) × (Nat → Int32)) :=
  (f_X7_age_l1 h_x h_met 16 (0 : Int32) h_there h_sure h_coast).bind fun w51 =>
  some (w51.1, w51.2.1, w51.2.2)
set_option maxHeartbeats 4000000 in
set_option maxRecDepth 100000 in
theorem c_X7_age (l : Launch) (D : va_G) (sz : Nat) (h_a : Nat) (h_there_a : Nat) (h_x_a : Nat) (h_y_a : Nat) (h_speed_a : Nat) (h_sure_a : Nat) (h_coast_a : Nat) (h_met_a : Nat) (h_metSpeed_a : Nat) (h_pairing_a : Nat) (h_there_k : ClassId) (h_x_k : ClassId) (h_sure_k : ClassId) (h_coast_k : ClassId) (h_met_k : ClassId) (h_differ : Int32) (h_there : Nat → Int32) (h_x : Nat → UInt64) (h_sure : Nat → Int32) (h_coast : Nat → Int32) (h_met : Nat → Int32) (r0 : Nat → Int32) (r1 : Nat → Int32) (r2 : Nat → Int32) (hf : f_X7_age h_there h_x h_sure h_coast h_met = some (r0, r1, r2)) : Met l yX7_age wsX7_age { frames := 0, cells := 0, slots := 0, locals := 0 } (va_Pc [.ref h_a] (xPre D [(h_a, .inr (7, [.ref h_there_a, .ref h_x_a, .ref h_y_a, .ref h_speed_a, .ref h_sure_a, .ref h_coast_a, .ref h_met_a, .ref h_metSpeed_a, .ref h_pairing_a, .int h_differ])), (h_there_a, .inl (h_there_k, 8, .inl h_there)), (h_x_a, .inl (h_x_k, 8, .inr (.inr (.inr (.inl h_x))))), (h_sure_a, .inl (h_sure_k, 8, .inl h_sure)), (h_coast_a, .inl (h_coast_k, 8, .inl h_coast)), (h_met_a, .inl (h_met_k, 8, .inl h_met))] [(h_there_k, .boolean), (h_x_k, .double), (h_sure_k, .int), (h_coast_k, .int), (h_met_k, .boolean)] sz)) (va_Qv (fun (_ : Unit) => True) (fun _ => xB D (va_A [(h_a, .inr (7, [.ref h_there_a, .ref h_x_a, .ref h_y_a, .ref h_speed_a, .ref h_sure_a, .ref h_coast_a, .ref h_met_a, .ref h_metSpeed_a, .ref h_pairing_a, .int h_differ])), (h_there_a, .inl (h_there_k, 8, .inl h_there)), (h_x_a, .inl (h_x_k, 8, .inr (.inr (.inr (.inl h_x))))), (h_sure_a, .inl (h_sure_k, 8, .inl h_sure)), (h_coast_a, .inl (h_coast_k, 8, .inl h_coast)), (h_met_a, .inl (h_met_k, 8, .inl h_met))] sz) [(h_a, .inr (7, [.ref h_there_a, .ref h_x_a, .ref h_y_a, .ref h_speed_a, .ref h_sure_a, .ref h_coast_a, .ref h_met_a, .ref h_metSpeed_a, .ref h_pairing_a, .int h_differ])), (h_there_a, .inl (h_there_k, 8, .inl r0)), (h_x_a, .inl (h_x_k, 8, .inr (.inr (.inr (.inl h_x))))), (h_sure_a, .inl (h_sure_k, 8, .inl r1)), (h_coast_a, .inl (h_coast_k, 8, .inl r2)), (h_met_a, .inl (h_met_k, 8, .inl h_met))]) (va_A [(h_a, .inr (7, [.ref h_there_a, .ref h_x_a, .ref h_y_a, .ref h_speed_a, .ref h_sure_a, .ref h_coast_a, .ref h_met_a, .ref h_metSpeed_a, .ref h_pairing_a, .int h_differ])), (h_there_a, .inl (h_there_k, 8, .inl h_there)), (h_x_a, .inl (h_x_k, 8, .inr (.inr (.inr (.inl h_x))))), (h_sure_a, .inl (h_sure_k, 8, .inl h_sure)), (h_coast_a, .inl (h_coast_k, 8, .inl h_coast)), (h_met_a, .inl (h_met_k, 8, .inl h_met))] sz)) 0 0 (va_A [(h_a, .inr (7, [.ref h_there_a, .ref h_x_a, .ref h_y_a, .ref h_speed_a, .ref h_sure_a, .ref h_coast_a, .ref h_met_a, .ref h_metSpeed_a, .ref h_pairing_a, .int h_differ])), (h_there_a, .inl (h_there_k, 8, .inl h_there)), (h_x_a, .inl (h_x_k, 8, .inr (.inr (.inr (.inl h_x))))), (h_sure_a, .inl (h_sure_k, 8, .inl h_sure)), (h_coast_a, .inl (h_coast_k, 8, .inl h_coast)), (h_met_a, .inl (h_met_k, 8, .inl h_met))] sz) := by
  refine xOfW (l := l) (y := yX7_age) (ws := wsX7_age) (D := D) (cells := [(h_a, .inr (7, [.ref h_there_a, .ref h_x_a, .ref h_y_a, .ref h_speed_a, .ref h_sure_a, .ref h_coast_a, .ref h_met_a, .ref h_metSpeed_a, .ref h_pairing_a, .int h_differ])), (h_there_a, .inl (h_there_k, 8, .inl h_there)), (h_x_a, .inl (h_x_k, 8, .inr (.inr (.inr (.inl h_x))))), (h_sure_a, .inl (h_sure_k, 8, .inl h_sure)), (h_coast_a, .inl (h_coast_k, 8, .inl h_coast)), (h_met_a, .inl (h_met_k, 8, .inl h_met))]) (tys := [(h_there_k, .boolean), (h_x_k, .double), (h_sure_k, .int), (h_coast_k, .int), (h_met_k, .boolean)]) (sz := sz) (av := [.ref h_a]) (cc := cX7_age) (maxL := 2) (ret := none) (fun A => va_Qv (fun (_ : Unit) => True) (fun _ => xB D A [(h_a, .inr (7, [.ref h_there_a, .ref h_x_a, .ref h_y_a, .ref h_speed_a, .ref h_sure_a, .ref h_coast_a, .ref h_met_a, .ref h_metSpeed_a, .ref h_pairing_a, .int h_differ])), (h_there_a, .inl (h_there_k, 8, .inl r0)), (h_x_a, .inl (h_x_k, 8, .inr (.inr (.inr (.inl h_x))))), (h_sure_a, .inl (h_sure_k, 8, .inl r1)), (h_coast_a, .inl (h_coast_k, 8, .inl r2)), (h_met_a, .inl (h_met_k, 8, .inl h_met))]) A) (by decide) rfl (Nat.le_of_ble_eq_true rfl) ?_
  intro p e s m below meth c A H ls hx hb hr hml hown hlk hts hP hK hD hS hA hN hl
  have hl : lv_has ls 2 [(0, .ref h_a)] := hl
  have hown : s.vm.findClass RX7 = some m.cls := hown
  have ef0 : f_X7_age h_there h_x h_sure h_coast h_met = some (r0, r1, r2) := hf
  rewrite [f_X7_age] at ef0
  refine lv_iconst (v := (0 : Int32)) hx hb dX7_age_0 (by decide) ?_
  refine lv_istore_n (lv' := [(1, .int (0 : Int32)), (0, .ref h_a)]) hx hb dX7_age_1 rfl hl (by decide) rfl (fun ls hl => ?_)
  obtain ⟨zw51, hw51, ef0⟩ := bd_of ef0
  refine xCut (ι := (Nat → Int32) × (Nat → Int32) × (Nat → Int32)) (fun z H locs ls => z = zw51 ∧ va_P D vwCl [(h_a, .inr (7, [.ref h_there_a, .ref h_x_a, .ref h_y_a, .ref h_speed_a, .ref h_sure_a, .ref h_coast_a, .ref h_met_a, .ref h_metSpeed_a, .ref h_pairing_a, .int h_differ])), (h_there_a, .inl (h_there_k, 8, .inl z.1)), (h_x_a, .inl (h_x_k, 8, .inr (.inr (.inr (.inl h_x))))), (h_sure_a, .inl (h_sure_k, 8, .inl z.2.1)), (h_coast_a, .inl (h_coast_k, 8, .inl z.2.2)), (h_met_a, .inl (h_met_k, 8, .inl h_met))] H ∧ va_D A [(h_a, .inr (7, [.ref h_there_a, .ref h_x_a, .ref h_y_a, .ref h_speed_a, .ref h_sure_a, .ref h_coast_a, .ref h_met_a, .ref h_metSpeed_a, .ref h_pairing_a, .int h_differ])), (h_there_a, .inl (h_there_k, 8, .inl z.1)), (h_x_a, .inl (h_x_k, 8, .inr (.inr (.inr (.inl h_x))))), (h_sure_a, .inl (h_sure_k, 8, .inl z.2.1)), (h_coast_a, .inl (h_coast_k, 8, .inl z.2.2)), (h_met_a, .inl (h_met_k, 8, .inl h_met))] ∧ va_S A s.heap H locs ∧ lv_has ls 2 []) 115 (fun _ => []) ?_ (fun E1 => ?_)
  · intro w51 H locs ls hz
    obtain ⟨hz, hP, hD, hS, hl⟩ := hz
    subst hz
    have q0 := Option.some.inj ef0
    obtain ⟨t0, q1⟩ := Prod.mk.inj q0
    obtain ⟨t1, q2⟩ := Prod.mk.inj q1
    exact xVret (by rw [← t0, ← t1, ← q2]) hx hb hr hlk hP hD hS dX7_age_115
  · refine xLoop (ι := Int32 × (Nat → Int32) × (Nat → Int32) × (Nat → Int32)) (fun n z H locs ls => f_X7_age_l1 h_x h_met n z.1 z.2.1 z.2.2.1 z.2.2.2 = some zw51 ∧ va_P D vwCl [(h_a, .inr (7, [.ref h_there_a, .ref h_x_a, .ref h_y_a, .ref h_speed_a, .ref h_sure_a, .ref h_coast_a, .ref h_met_a, .ref h_metSpeed_a, .ref h_pairing_a, .int h_differ])), (h_there_a, .inl (h_there_k, 8, .inl z.2.1)), (h_x_a, .inl (h_x_k, 8, .inr (.inr (.inr (.inl h_x))))), (h_sure_a, .inl (h_sure_k, 8, .inl z.2.2.1)), (h_coast_a, .inl (h_coast_k, 8, .inl z.2.2.2)), (h_met_a, .inl (h_met_k, 8, .inl h_met))] H ∧ va_D A [(h_a, .inr (7, [.ref h_there_a, .ref h_x_a, .ref h_y_a, .ref h_speed_a, .ref h_sure_a, .ref h_coast_a, .ref h_met_a, .ref h_metSpeed_a, .ref h_pairing_a, .int h_differ])), (h_there_a, .inl (h_there_k, 8, .inl z.2.1)), (h_x_a, .inl (h_x_k, 8, .inr (.inr (.inr (.inl h_x))))), (h_sure_a, .inl (h_sure_k, 8, .inl z.2.2.1)), (h_coast_a, .inl (h_coast_k, 8, .inl z.2.2.2)), (h_met_a, .inl (h_met_k, 8, .inl h_met))] ∧ va_S A s.heap H locs ∧ lv_has ls 2 [(0, .ref h_a), (1, .int z.1)]) 2 (fun _ => []) (fun z _ _ _ h => absurd (show (none : Option ((Nat → Int32) × (Nat → Int32) × (Nat → Int32))) = some _ from h.1) (fun h => nomatch h)) ?_ (fun L1 => ?_)
    · intro n L1 z H locs ls hz
      obtain ⟨a24, a25, a26, a27⟩ := z
      obtain ⟨ef1, hP, hD, hS, hl⟩ := hz
      have ef1 : f_X7_age_l1 h_x h_met (n + 1) a24 a25 a26 a27 = some zw51 := ef1
      have hP : va_P D vwCl [(h_a, .inr (7, [.ref h_there_a, .ref h_x_a, .ref h_y_a, .ref h_speed_a, .ref h_sure_a, .ref h_coast_a, .ref h_met_a, .ref h_metSpeed_a, .ref h_pairing_a, .int h_differ])), (h_there_a, .inl (h_there_k, 8, .inl a25)), (h_x_a, .inl (h_x_k, 8, .inr (.inr (.inr (.inl h_x))))), (h_sure_a, .inl (h_sure_k, 8, .inl a26)), (h_coast_a, .inl (h_coast_k, 8, .inl a27)), (h_met_a, .inl (h_met_k, 8, .inl h_met))] H := hP
      have hD : va_D A [(h_a, .inr (7, [.ref h_there_a, .ref h_x_a, .ref h_y_a, .ref h_speed_a, .ref h_sure_a, .ref h_coast_a, .ref h_met_a, .ref h_metSpeed_a, .ref h_pairing_a, .int h_differ])), (h_there_a, .inl (h_there_k, 8, .inl a25)), (h_x_a, .inl (h_x_k, 8, .inr (.inr (.inr (.inl h_x))))), (h_sure_a, .inl (h_sure_k, 8, .inl a26)), (h_coast_a, .inl (h_coast_k, 8, .inl a27)), (h_met_a, .inl (h_met_k, 8, .inl h_met))] := hD
      have hl : lv_has ls 2 [(0, .ref h_a), (1, .int a24)] := hl
      rewrite [f_X7_age_l1] at ef1
      refine lv_iload_n hx hb dX7_age_2 rfl (lv_at hl 1 rfl) ?_
      refine lv_bipush (v := (8 : Int32)) hx hb dX7_age_3 (by decide) ?_
      refine lv_icmp_ge (tgt := 115) hx hb dX7_age_5 (by decide) (fun c28 => ?_) (fun c28 => ?_)
      · have ef1 := ift ef1 c28
        exact E1 (a25, a26, a27) _ _ _ ⟨Option.some.inj ef1, hP, hD, hS, lv_sub hl [] rfl⟩
      · have ef1 := iff_ ef1 c28
        refine lv_aload_n hx hb dX7_age_8 rfl (lv_at hl 0 rfl) ?_
        refine va_get (D := D) (ci := 7) (v := .ref h_there_a) (C := RX7) (T := TX7) (N := 10) hx hb hts in_wsX7_age_X7 hown hK hP 0 rfl rfl 0 (by decide) (hts (.fieldLink RX7 9 "AssistRows$Tracks" "there" "[Z") (List.mem_of_getElem? (i := 1) rfl)) (fun _ h9 => h9) rfl dX7_age_9 ?_
        refine lv_iload_n hx hb dX7_age_12 rfl (lv_at hl 1 rfl) ?_
        obtain ⟨h29, ef1⟩ := ck_of ef1
        refine va_zald hx hb hK hP 1 0 rfl rfl (inb_of h29) dX7_age_13 ?_
        refine xCut (ι := (Nat → Int32) × (Nat → Int32)) (fun z H locs ls => f_X7_age_j2 (f_X7_age_l1 h_x h_met n) h_x a24 a25 z.1 z.2 = some zw51 ∧ va_P D vwCl [(h_a, .inr (7, [.ref h_there_a, .ref h_x_a, .ref h_y_a, .ref h_speed_a, .ref h_sure_a, .ref h_coast_a, .ref h_met_a, .ref h_metSpeed_a, .ref h_pairing_a, .int h_differ])), (h_there_a, .inl (h_there_k, 8, .inl a25)), (h_x_a, .inl (h_x_k, 8, .inr (.inr (.inr (.inl h_x))))), (h_sure_a, .inl (h_sure_k, 8, .inl z.1)), (h_coast_a, .inl (h_coast_k, 8, .inl z.2)), (h_met_a, .inl (h_met_k, 8, .inl h_met))] H ∧ va_D A [(h_a, .inr (7, [.ref h_there_a, .ref h_x_a, .ref h_y_a, .ref h_speed_a, .ref h_sure_a, .ref h_coast_a, .ref h_met_a, .ref h_metSpeed_a, .ref h_pairing_a, .int h_differ])), (h_there_a, .inl (h_there_k, 8, .inl a25)), (h_x_a, .inl (h_x_k, 8, .inr (.inr (.inr (.inl h_x))))), (h_sure_a, .inl (h_sure_k, 8, .inl z.1)), (h_coast_a, .inl (h_coast_k, 8, .inl z.2)), (h_met_a, .inl (h_met_k, 8, .inl h_met))] ∧ va_S A s.heap H locs ∧ lv_has ls 2 [(0, .ref h_a), (1, .int a24)]) 68 (fun z => []) ?_ (fun K2 => ?_)
        · intro z H locs ls hz
          obtain ⟨b40, b41⟩ := z
          obtain ⟨ef1, hP, hD, hS, hl⟩ := hz
          have ef1 : f_X7_age_j2 (f_X7_age_l1 h_x h_met n) h_x a24 a25 b40 b41 = some zw51 := ef1
          have hP : va_P D vwCl [(h_a, .inr (7, [.ref h_there_a, .ref h_x_a, .ref h_y_a, .ref h_speed_a, .ref h_sure_a, .ref h_coast_a, .ref h_met_a, .ref h_metSpeed_a, .ref h_pairing_a, .int h_differ])), (h_there_a, .inl (h_there_k, 8, .inl a25)), (h_x_a, .inl (h_x_k, 8, .inr (.inr (.inr (.inl h_x))))), (h_sure_a, .inl (h_sure_k, 8, .inl b40)), (h_coast_a, .inl (h_coast_k, 8, .inl b41)), (h_met_a, .inl (h_met_k, 8, .inl h_met))] H := hP
          have hD : va_D A [(h_a, .inr (7, [.ref h_there_a, .ref h_x_a, .ref h_y_a, .ref h_speed_a, .ref h_sure_a, .ref h_coast_a, .ref h_met_a, .ref h_metSpeed_a, .ref h_pairing_a, .int h_differ])), (h_there_a, .inl (h_there_k, 8, .inl a25)), (h_x_a, .inl (h_x_k, 8, .inr (.inr (.inr (.inl h_x))))), (h_sure_a, .inl (h_sure_k, 8, .inl b40)), (h_coast_a, .inl (h_coast_k, 8, .inl b41)), (h_met_a, .inl (h_met_k, 8, .inl h_met))] := hD
          have hl : lv_has ls 2 [(0, .ref h_a), (1, .int a24)] := hl
          rewrite [f_X7_age_j2] at ef1
          refine lv_aload_n hx hb dX7_age_68 rfl (lv_at hl 0 rfl) ?_
          refine va_get (D := D) (ci := 7) (v := .ref h_coast_a) (C := RX7) (T := TX7) (N := 10) hx hb hts in_wsX7_age_X7 hown hK hP 0 rfl rfl 5 (by decide) (hts (.fieldLink RX7 29 "AssistRows$Tracks" "coast" "[I") (List.mem_of_getElem? (i := 3) rfl)) (fun _ h9 => h9) rfl dX7_age_69 ?_
          refine lv_iload_n hx hb dX7_age_72 rfl (lv_at hl 1 rfl) ?_
          obtain ⟨h42, ef1⟩ := ck_of ef1
          refine va_iald hx hb hK hP 4 3 rfl rfl (inb_of h42) dX7_age_73 ?_
          refine lv_iconst (v := (4 : Int32)) hx hb dX7_age_74 (by decide) ?_
          refine lv_icmp_ge (tgt := 102) hx hb dX7_age_75 (by decide) (fun c43 => ?_) (fun c43 => ?_)
          · have ef1 := ift ef1 c43
            refine lv_aload_n hx hb dX7_age_102 rfl (lv_at hl 0 rfl) ?_
            refine va_get (D := D) (ci := 7) (v := .ref h_there_a) (C := RX7) (T := TX7) (N := 10) hx hb hts in_wsX7_age_X7 hown hK hP 0 rfl rfl 0 (by decide) (hts (.fieldLink RX7 9 "AssistRows$Tracks" "there" "[Z") (List.mem_of_getElem? (i := 1) rfl)) (fun _ h9 => h9) rfl dX7_age_103 ?_
            refine lv_iload_n hx hb dX7_age_106 rfl (lv_at hl 1 rfl) ?_
            refine lv_iconst (v := (0 : Int32)) hx hb dX7_age_107 (by decide) ?_
            obtain ⟨h44, ef1⟩ := ck_of ef1
            refine xzast rfl hx hb hK hP hD hS 1 0 rfl rfl (inb_of h44) dX7_age_108 (fun H locs hP hD hS => ?_)
            have hP : va_P D vwCl [(h_a, .inr (7, [.ref h_there_a, .ref h_x_a, .ref h_y_a, .ref h_speed_a, .ref h_sure_a, .ref h_coast_a, .ref h_met_a, .ref h_metSpeed_a, .ref h_pairing_a, .int h_differ])), (h_there_a, .inl (h_there_k, 8, .inl (upd a25 a24.toNatClampNeg (0 : Int32)))), (h_x_a, .inl (h_x_k, 8, .inr (.inr (.inr (.inl h_x))))), (h_sure_a, .inl (h_sure_k, 8, .inl b40)), (h_coast_a, .inl (h_coast_k, 8, .inl b41)), (h_met_a, .inl (h_met_k, 8, .inl h_met))] H := hP
            have hD : va_D A [(h_a, .inr (7, [.ref h_there_a, .ref h_x_a, .ref h_y_a, .ref h_speed_a, .ref h_sure_a, .ref h_coast_a, .ref h_met_a, .ref h_metSpeed_a, .ref h_pairing_a, .int h_differ])), (h_there_a, .inl (h_there_k, 8, .inl (upd a25 a24.toNatClampNeg (0 : Int32)))), (h_x_a, .inl (h_x_k, 8, .inr (.inr (.inr (.inl h_x))))), (h_sure_a, .inl (h_sure_k, 8, .inl b40)), (h_coast_a, .inl (h_coast_k, 8, .inl b41)), (h_met_a, .inl (h_met_k, 8, .inl h_met))] := hD
            refine lv_iinc (v := (a24 + 1)) (lv' := [(1, .int (a24 + 1)), (0, .ref h_a)]) hx hb dX7_age_109 hl (k := 1) rfl rfl (by decide) rfl (fun ls hl => ?_)
            refine lv_goto (tgt := 2) hx hb dX7_age_112 (by decide) ?_
            exact L1 ((a24 + 1), (upd a25 a24.toNatClampNeg (0 : Int32)), b40, b41) _ _ _ ⟨ef1, hP, hD, hS, lv_sub hl [1, 0] rfl⟩
          · have ef1 := iff_ ef1 c43
            refine lv_aload_n hx hb dX7_age_78 rfl (lv_at hl 0 rfl) ?_
            refine va_get (D := D) (ci := 7) (v := .ref h_x_a) (C := RX7) (T := TX7) (N := 10) hx hb hts in_wsX7_age_X7 hown hK hP 0 rfl rfl 1 (by decide) (hts (.fieldLink RX7 15 "AssistRows$Tracks" "x" "[D") (List.mem_of_getElem? (i := 5) rfl)) (fun _ h9 => h9) rfl dX7_age_79 ?_
            refine lv_iload_n hx hb dX7_age_82 rfl (lv_at hl 1 rfl) ?_
            obtain ⟨h45, ef1⟩ := ck_of ef1
            refine va_dald hx hb hK hP 2 1 rfl rfl (inb_of h45) dX7_age_83 ?_
            refine lv_dconst0 hx hb dX7_age_84 ?_
            refine lv_dcmp hx hb dX7_age_85 ?_
            refine lv_if_lt (tgt := 102) hx hb dX7_age_86 (by decide) (fun c46 => ?_) (fun c46 => ?_)
            · have ef1 := ift ef1 c46
              refine lv_aload_n hx hb dX7_age_102 rfl (lv_at hl 0 rfl) ?_
              refine va_get (D := D) (ci := 7) (v := .ref h_there_a) (C := RX7) (T := TX7) (N := 10) hx hb hts in_wsX7_age_X7 hown hK hP 0 rfl rfl 0 (by decide) (hts (.fieldLink RX7 9 "AssistRows$Tracks" "there" "[Z") (List.mem_of_getElem? (i := 1) rfl)) (fun _ h9 => h9) rfl dX7_age_103 ?_
              refine lv_iload_n hx hb dX7_age_106 rfl (lv_at hl 1 rfl) ?_
              refine lv_iconst (v := (0 : Int32)) hx hb dX7_age_107 (by decide) ?_
              obtain ⟨h47, ef1⟩ := ck_of ef1
              refine xzast rfl hx hb hK hP hD hS 1 0 rfl rfl (inb_of h47) dX7_age_108 (fun H locs hP hD hS => ?_)
              have hP : va_P D vwCl [(h_a, .inr (7, [.ref h_there_a, .ref h_x_a, .ref h_y_a, .ref h_speed_a, .ref h_sure_a, .ref h_coast_a, .ref h_met_a, .ref h_metSpeed_a, .ref h_pairing_a, .int h_differ])), (h_there_a, .inl (h_there_k, 8, .inl (upd a25 a24.toNatClampNeg (0 : Int32)))), (h_x_a, .inl (h_x_k, 8, .inr (.inr (.inr (.inl h_x))))), (h_sure_a, .inl (h_sure_k, 8, .inl b40)), (h_coast_a, .inl (h_coast_k, 8, .inl b41)), (h_met_a, .inl (h_met_k, 8, .inl h_met))] H := hP
              have hD : va_D A [(h_a, .inr (7, [.ref h_there_a, .ref h_x_a, .ref h_y_a, .ref h_speed_a, .ref h_sure_a, .ref h_coast_a, .ref h_met_a, .ref h_metSpeed_a, .ref h_pairing_a, .int h_differ])), (h_there_a, .inl (h_there_k, 8, .inl (upd a25 a24.toNatClampNeg (0 : Int32)))), (h_x_a, .inl (h_x_k, 8, .inr (.inr (.inr (.inl h_x))))), (h_sure_a, .inl (h_sure_k, 8, .inl b40)), (h_coast_a, .inl (h_coast_k, 8, .inl b41)), (h_met_a, .inl (h_met_k, 8, .inl h_met))] := hD
              refine lv_iinc (v := (a24 + 1)) (lv' := [(1, .int (a24 + 1)), (0, .ref h_a)]) hx hb dX7_age_109 hl (k := 1) rfl rfl (by decide) rfl (fun ls hl => ?_)
              refine lv_goto (tgt := 2) hx hb dX7_age_112 (by decide) ?_
              exact L1 ((a24 + 1), (upd a25 a24.toNatClampNeg (0 : Int32)), b40, b41) _ _ _ ⟨ef1, hP, hD, hS, lv_sub hl [1, 0] rfl⟩
            · have ef1 := iff_ ef1 c46
              refine lv_aload_n hx hb dX7_age_89 rfl (lv_at hl 0 rfl) ?_
              refine va_get (D := D) (ci := 7) (v := .ref h_x_a) (C := RX7) (T := TX7) (N := 10) hx hb hts in_wsX7_age_X7 hown hK hP 0 rfl rfl 1 (by decide) (hts (.fieldLink RX7 15 "AssistRows$Tracks" "x" "[D") (List.mem_of_getElem? (i := 5) rfl)) (fun _ h9 => h9) rfl dX7_age_90 ?_
              refine lv_iload_n hx hb dX7_age_93 rfl (lv_at hl 1 rfl) ?_
              obtain ⟨h48, ef1⟩ := ck_of ef1
              refine va_dald hx hb hK hP 2 1 rfl rfl (inb_of h48) dX7_age_94 ?_
              refine lv_ldc2d hx hb hown (hts (.constantDouble RX7 95 (4643000109586448384)) (List.mem_of_getElem? (i := 6) rfl)) dX7_age_95 ?_
              refine lv_dcmp hx hb dX7_age_98 ?_
              refine lv_if_le (tgt := 109) hx hb dX7_age_99 (by decide) (fun c49 => ?_) (fun c49 => ?_)
              · have ef1 := ift ef1 c49
                refine lv_iinc (v := (a24 + 1)) (lv' := [(1, .int (a24 + 1)), (0, .ref h_a)]) hx hb dX7_age_109 hl (k := 1) rfl rfl (by decide) rfl (fun ls hl => ?_)
                refine lv_goto (tgt := 2) hx hb dX7_age_112 (by decide) ?_
                exact L1 ((a24 + 1), a25, b40, b41) _ _ _ ⟨ef1, hP, hD, hS, lv_sub hl [1, 0] rfl⟩
              · have ef1 := iff_ ef1 c49
                refine lv_aload_n hx hb dX7_age_102 rfl (lv_at hl 0 rfl) ?_
                refine va_get (D := D) (ci := 7) (v := .ref h_there_a) (C := RX7) (T := TX7) (N := 10) hx hb hts in_wsX7_age_X7 hown hK hP 0 rfl rfl 0 (by decide) (hts (.fieldLink RX7 9 "AssistRows$Tracks" "there" "[Z") (List.mem_of_getElem? (i := 1) rfl)) (fun _ h9 => h9) rfl dX7_age_103 ?_
                refine lv_iload_n hx hb dX7_age_106 rfl (lv_at hl 1 rfl) ?_
                refine lv_iconst (v := (0 : Int32)) hx hb dX7_age_107 (by decide) ?_
                obtain ⟨h50, ef1⟩ := ck_of ef1
                refine xzast rfl hx hb hK hP hD hS 1 0 rfl rfl (inb_of h50) dX7_age_108 (fun H locs hP hD hS => ?_)
                have hP : va_P D vwCl [(h_a, .inr (7, [.ref h_there_a, .ref h_x_a, .ref h_y_a, .ref h_speed_a, .ref h_sure_a, .ref h_coast_a, .ref h_met_a, .ref h_metSpeed_a, .ref h_pairing_a, .int h_differ])), (h_there_a, .inl (h_there_k, 8, .inl (upd a25 a24.toNatClampNeg (0 : Int32)))), (h_x_a, .inl (h_x_k, 8, .inr (.inr (.inr (.inl h_x))))), (h_sure_a, .inl (h_sure_k, 8, .inl b40)), (h_coast_a, .inl (h_coast_k, 8, .inl b41)), (h_met_a, .inl (h_met_k, 8, .inl h_met))] H := hP
                have hD : va_D A [(h_a, .inr (7, [.ref h_there_a, .ref h_x_a, .ref h_y_a, .ref h_speed_a, .ref h_sure_a, .ref h_coast_a, .ref h_met_a, .ref h_metSpeed_a, .ref h_pairing_a, .int h_differ])), (h_there_a, .inl (h_there_k, 8, .inl (upd a25 a24.toNatClampNeg (0 : Int32)))), (h_x_a, .inl (h_x_k, 8, .inr (.inr (.inr (.inl h_x))))), (h_sure_a, .inl (h_sure_k, 8, .inl b40)), (h_coast_a, .inl (h_coast_k, 8, .inl b41)), (h_met_a, .inl (h_met_k, 8, .inl h_met))] := hD
                refine lv_iinc (v := (a24 + 1)) (lv' := [(1, .int (a24 + 1)), (0, .ref h_a)]) hx hb dX7_age_109 hl (k := 1) rfl rfl (by decide) rfl (fun ls hl => ?_)
                refine lv_goto (tgt := 2) hx hb dX7_age_112 (by decide) ?_
                exact L1 ((a24 + 1), (upd a25 a24.toNatClampNeg (0 : Int32)), b40, b41) _ _ _ ⟨ef1, hP, hD, hS, lv_sub hl [1, 0] rfl⟩
        refine lv_if_eq (tgt := 68) hx hb dX7_age_14 (by decide) (fun c30 => ?_) (fun c30 => ?_)
        · have ef1 := ift ef1 c30
          exact K2 (a26, a27) _ _ _ ⟨ef1, hP, hD, hS, lv_sub hl [0, 1] rfl⟩
        · have ef1 := iff_ ef1 c30
          refine lv_aload_n hx hb dX7_age_17 rfl (lv_at hl 0 rfl) ?_
          refine va_get (D := D) (ci := 7) (v := .ref h_met_a) (C := RX7) (T := TX7) (N := 10) hx hb hts in_wsX7_age_X7 hown hK hP 0 rfl rfl 6 (by decide) (hts (.fieldLink RX7 32 "AssistRows$Tracks" "met" "[Z") (List.mem_of_getElem? (i := 2) rfl)) (fun _ h9 => h9) rfl dX7_age_18 ?_
          refine lv_iload_n hx hb dX7_age_21 rfl (lv_at hl 1 rfl) ?_
          obtain ⟨h31, ef1⟩ := ck_of ef1
          refine va_zald hx hb hK hP 5 4 rfl rfl (inb_of h31) dX7_age_22 ?_
          refine lv_if_ne (tgt := 68) hx hb dX7_age_23 (by decide) (fun c32 => ?_) (fun c32 => ?_)
          · have ef1 := iff_ ef1 c32
            exact K2 (a26, a27) _ _ _ ⟨ef1, hP, hD, hS, lv_sub hl [0, 1] rfl⟩
          · have ef1 := ift ef1 c32
            refine lv_aload_n hx hb dX7_age_26 rfl (lv_at hl 0 rfl) ?_
            refine va_get (D := D) (ci := 7) (v := .ref h_coast_a) (C := RX7) (T := TX7) (N := 10) hx hb hts in_wsX7_age_X7 hown hK hP 0 rfl rfl 5 (by decide) (hts (.fieldLink RX7 29 "AssistRows$Tracks" "coast" "[I") (List.mem_of_getElem? (i := 3) rfl)) (fun _ h9 => h9) rfl dX7_age_27 ?_
            refine lv_iload_n hx hb dX7_age_30 rfl (lv_at hl 1 rfl) ?_
            refine lv_aload_n hx hb dX7_age_31 rfl (lv_at hl 0 rfl) ?_
            refine va_get (D := D) (ci := 7) (v := .ref h_coast_a) (C := RX7) (T := TX7) (N := 10) hx hb hts in_wsX7_age_X7 hown hK hP 0 rfl rfl 5 (by decide) (hts (.fieldLink RX7 29 "AssistRows$Tracks" "coast" "[I") (List.mem_of_getElem? (i := 3) rfl)) (fun _ h9 => h9) rfl dX7_age_32 ?_
            refine lv_iload_n hx hb dX7_age_35 rfl (lv_at hl 1 rfl) ?_
            obtain ⟨h33, ef1⟩ := ck_of ef1
            refine va_iald hx hb hK hP 4 3 rfl rfl (inb_of h33) dX7_age_36 ?_
            refine lv_iconst (v := (1 : Int32)) hx hb dX7_age_37 (by decide) ?_
            refine lv_iadd hx hb dX7_age_38 ?_
            obtain ⟨h34, ef1⟩ := ck_of ef1
            refine va_iast hx hb hK hP hD hS 4 3 rfl rfl (inb_of h34) dX7_age_39 (fun H locs hP hD hS => ?_)
            have hP : va_P D vwCl [(h_a, .inr (7, [.ref h_there_a, .ref h_x_a, .ref h_y_a, .ref h_speed_a, .ref h_sure_a, .ref h_coast_a, .ref h_met_a, .ref h_metSpeed_a, .ref h_pairing_a, .int h_differ])), (h_there_a, .inl (h_there_k, 8, .inl a25)), (h_x_a, .inl (h_x_k, 8, .inr (.inr (.inr (.inl h_x))))), (h_sure_a, .inl (h_sure_k, 8, .inl a26)), (h_coast_a, .inl (h_coast_k, 8, .inl (upd a27 a24.toNatClampNeg ((a27 a24.toNatClampNeg) + (1 : Int32))))), (h_met_a, .inl (h_met_k, 8, .inl h_met))] H := hP
            have hD : va_D A [(h_a, .inr (7, [.ref h_there_a, .ref h_x_a, .ref h_y_a, .ref h_speed_a, .ref h_sure_a, .ref h_coast_a, .ref h_met_a, .ref h_metSpeed_a, .ref h_pairing_a, .int h_differ])), (h_there_a, .inl (h_there_k, 8, .inl a25)), (h_x_a, .inl (h_x_k, 8, .inr (.inr (.inr (.inl h_x))))), (h_sure_a, .inl (h_sure_k, 8, .inl a26)), (h_coast_a, .inl (h_coast_k, 8, .inl (upd a27 a24.toNatClampNeg ((a27 a24.toNatClampNeg) + (1 : Int32))))), (h_met_a, .inl (h_met_k, 8, .inl h_met))] := hD
            refine lv_aload_n hx hb dX7_age_40 rfl (lv_at hl 0 rfl) ?_
            refine va_get (D := D) (ci := 7) (v := .ref h_sure_a) (C := RX7) (T := TX7) (N := 10) hx hb hts in_wsX7_age_X7 hown hK hP 0 rfl rfl 4 (by decide) (hts (.fieldLink RX7 25 "AssistRows$Tracks" "sure" "[I") (List.mem_of_getElem? (i := 4) rfl)) (fun _ h9 => h9) rfl dX7_age_41 ?_
            refine lv_iload_n hx hb dX7_age_44 rfl (lv_at hl 1 rfl) ?_
            refine lv_aload_n hx hb dX7_age_45 rfl (lv_at hl 0 rfl) ?_
            refine va_get (D := D) (ci := 7) (v := .ref h_sure_a) (C := RX7) (T := TX7) (N := 10) hx hb hts in_wsX7_age_X7 hown hK hP 0 rfl rfl 4 (by decide) (hts (.fieldLink RX7 25 "AssistRows$Tracks" "sure" "[I") (List.mem_of_getElem? (i := 4) rfl)) (fun _ h9 => h9) rfl dX7_age_46 ?_
            refine lv_iload_n hx hb dX7_age_49 rfl (lv_at hl 1 rfl) ?_
            obtain ⟨h35, ef1⟩ := ck_of ef1
            refine va_iald hx hb hK hP 3 2 rfl rfl (inb_of h35) dX7_age_50 ?_
            refine lv_iconst (v := (1 : Int32)) hx hb dX7_age_51 (by decide) ?_
            refine lv_icmp_le (tgt := 66) hx hb dX7_age_52 (by decide) (fun c36 => ?_) (fun c36 => ?_)
            · have ef1 := ift ef1 c36
              refine lv_iconst (v := (1 : Int32)) hx hb dX7_age_66 (by decide) ?_
              obtain ⟨h37, ef1⟩ := ck_of ef1
              refine va_iast hx hb hK hP hD hS 3 2 rfl rfl (inb_of h37) dX7_age_67 (fun H locs hP hD hS => ?_)
              have hP : va_P D vwCl [(h_a, .inr (7, [.ref h_there_a, .ref h_x_a, .ref h_y_a, .ref h_speed_a, .ref h_sure_a, .ref h_coast_a, .ref h_met_a, .ref h_metSpeed_a, .ref h_pairing_a, .int h_differ])), (h_there_a, .inl (h_there_k, 8, .inl a25)), (h_x_a, .inl (h_x_k, 8, .inr (.inr (.inr (.inl h_x))))), (h_sure_a, .inl (h_sure_k, 8, .inl (upd a26 a24.toNatClampNeg (1 : Int32)))), (h_coast_a, .inl (h_coast_k, 8, .inl (upd a27 a24.toNatClampNeg ((a27 a24.toNatClampNeg) + (1 : Int32))))), (h_met_a, .inl (h_met_k, 8, .inl h_met))] H := hP
              have hD : va_D A [(h_a, .inr (7, [.ref h_there_a, .ref h_x_a, .ref h_y_a, .ref h_speed_a, .ref h_sure_a, .ref h_coast_a, .ref h_met_a, .ref h_metSpeed_a, .ref h_pairing_a, .int h_differ])), (h_there_a, .inl (h_there_k, 8, .inl a25)), (h_x_a, .inl (h_x_k, 8, .inr (.inr (.inr (.inl h_x))))), (h_sure_a, .inl (h_sure_k, 8, .inl (upd a26 a24.toNatClampNeg (1 : Int32)))), (h_coast_a, .inl (h_coast_k, 8, .inl (upd a27 a24.toNatClampNeg ((a27 a24.toNatClampNeg) + (1 : Int32))))), (h_met_a, .inl (h_met_k, 8, .inl h_met))] := hD
              exact K2 ((upd a26 a24.toNatClampNeg (1 : Int32)), (upd a27 a24.toNatClampNeg ((a27 a24.toNatClampNeg) + (1 : Int32)))) _ _ _ ⟨ef1, hP, hD, hS, lv_sub hl [0, 1] rfl⟩
            · have ef1 := iff_ ef1 c36
              refine lv_aload_n hx hb dX7_age_55 rfl (lv_at hl 0 rfl) ?_
              refine va_get (D := D) (ci := 7) (v := .ref h_sure_a) (C := RX7) (T := TX7) (N := 10) hx hb hts in_wsX7_age_X7 hown hK hP 0 rfl rfl 4 (by decide) (hts (.fieldLink RX7 25 "AssistRows$Tracks" "sure" "[I") (List.mem_of_getElem? (i := 4) rfl)) (fun _ h9 => h9) rfl dX7_age_56 ?_
              refine lv_iload_n hx hb dX7_age_59 rfl (lv_at hl 1 rfl) ?_
              obtain ⟨h38, ef1⟩ := ck_of ef1
              refine va_iald hx hb hK hP 3 2 rfl rfl (inb_of h38) dX7_age_60 ?_
              refine lv_iconst (v := (1 : Int32)) hx hb dX7_age_61 (by decide) ?_
              refine lv_isub hx hb dX7_age_62 ?_
              refine lv_goto (tgt := 67) hx hb dX7_age_63 (by decide) ?_
              obtain ⟨h39, ef1⟩ := ck_of ef1
              refine va_iast hx hb hK hP hD hS 3 2 rfl rfl (inb_of h39) dX7_age_67 (fun H locs hP hD hS => ?_)
              have hP : va_P D vwCl [(h_a, .inr (7, [.ref h_there_a, .ref h_x_a, .ref h_y_a, .ref h_speed_a, .ref h_sure_a, .ref h_coast_a, .ref h_met_a, .ref h_metSpeed_a, .ref h_pairing_a, .int h_differ])), (h_there_a, .inl (h_there_k, 8, .inl a25)), (h_x_a, .inl (h_x_k, 8, .inr (.inr (.inr (.inl h_x))))), (h_sure_a, .inl (h_sure_k, 8, .inl (upd a26 a24.toNatClampNeg ((a26 a24.toNatClampNeg) - (1 : Int32))))), (h_coast_a, .inl (h_coast_k, 8, .inl (upd a27 a24.toNatClampNeg ((a27 a24.toNatClampNeg) + (1 : Int32))))), (h_met_a, .inl (h_met_k, 8, .inl h_met))] H := hP
              have hD : va_D A [(h_a, .inr (7, [.ref h_there_a, .ref h_x_a, .ref h_y_a, .ref h_speed_a, .ref h_sure_a, .ref h_coast_a, .ref h_met_a, .ref h_metSpeed_a, .ref h_pairing_a, .int h_differ])), (h_there_a, .inl (h_there_k, 8, .inl a25)), (h_x_a, .inl (h_x_k, 8, .inr (.inr (.inr (.inl h_x))))), (h_sure_a, .inl (h_sure_k, 8, .inl (upd a26 a24.toNatClampNeg ((a26 a24.toNatClampNeg) - (1 : Int32))))), (h_coast_a, .inl (h_coast_k, 8, .inl (upd a27 a24.toNatClampNeg ((a27 a24.toNatClampNeg) + (1 : Int32))))), (h_met_a, .inl (h_met_k, 8, .inl h_met))] := hD
              exact K2 ((upd a26 a24.toNatClampNeg ((a26 a24.toNatClampNeg) - (1 : Int32))), (upd a27 a24.toNatClampNeg ((a27 a24.toNatClampNeg) + (1 : Int32)))) _ _ _ ⟨ef1, hP, hD, hS, lv_sub hl [0, 1] rfl⟩
    · exact L1 16 ((0 : Int32), h_there, h_sure, h_coast) _ _ _ ⟨hw51, hP, hD, hS, lv_sub hl [1, 0] rfl⟩

theorem in_wsX7_leadOn_X2 : ∀ w ∈ wsX20, w ∈ wsX7_leadOn := fun _ h => List.mem_cons_of_mem _ (List.mem_append_right _ h)
theorem in_wsX7_leadOn_X7 : ∀ w ∈ wsX70, w ∈ wsX7_leadOn := fun _ h => List.mem_cons_of_mem _ (List.mem_append_left _ (List.mem_append_right _ h))
def f_X7_leadOn_j2 (rc : Int32 → UInt64 → Int32 → Option Int32) (h_x : Nat → UInt64) (a19 : Int32) (a20 : UInt64) (a21 : Int32) (b33 : Int32) : Option Int32 :=
  if b33 = 0 then (
  rc a19 a20 (a21 + 1)) else
  if a19 = (-1 : Int32) then (
  ck (inb a21 8 = true) <|
  rc a21 (h_x a21.toNatClampNeg) (a21 + 1)) else
  ck (inb a21 8 = true) <|
  if 0 ≤ (Op.cmpValue (FP.dcmp (h_x a21.toNatClampNeg) a20) .g) then (
  rc a19 a20 (a21 + 1)) else
  ck (inb a21 8 = true) <|
  rc a21 (h_x a21.toNatClampNeg) (a21 + 1)
def f_X7_leadOn_l1 (h_there : Nat → Int32) (h_x : Nat → UInt64) (h_y : Nat → UInt64) (h_sure : Nat → Int32) (g0_offset : UInt64) (g0_slope : UInt64) (g0_curve : UInt64) : Nat → Int32 → UInt64 → Int32 → Option Int32
  | 0, _, _, _ => none
  | n + 1, a19, a20, a21 =>
  if (8 : Int32) ≤ a21 then (
  some a19) else
  ck (inb a21 8 = true) <|
  if (h_there a21.toNatClampNeg) = 0 then (
  f_X7_leadOn_j2 (f_X7_leadOn_l1 h_there h_x h_y h_sure g0_offset g0_slope g0_curve n) h_x a19 a20 a21 (0 : Int32)) else
  ck (inb a21 8 = true) <|
  if (h_sure a21.toNatClampNeg) < (3 : Int32) then (
  f_X7_leadOn_j2 (f_X7_leadOn_l1 h_there h_x h_y h_sure g0_offset g0_slope g0_curve n) h_x a19 a20 a21 (0 : Int32)) else
  ck (inb a21 8 = true) <|
  ck (inb a21 8 = true) <|
  (f_X2_middle (h_x a21.toNatClampNeg) g0_offset g0_slope g0_curve).bind fun u29 =>
  ck (nnb (FP.dsub (h_y a21.toNatClampNeg) u29) = true) <|
  (f_X8_magnitude (FP.dsub (h_y a21.toNatClampNeg) u29)).bind fun u31 =>
  if 0 < (Op.cmpValue (FP.dcmp u31 (4610560118520545280 : UInt64)) .g) then (
  f_X7_leadOn_j2 (f_X7_leadOn_l1 h_there h_x h_y h_sure g0_offset g0_slope g0_curve n) h_x a19 a20 a21 (0 : Int32)) else
  f_X7_leadOn_j2 (f_X7_leadOn_l1 h_there h_x h_y h_sure g0_offset g0_slope g0_curve n) h_x a19 a20 a21 (1 : Int32)
def f_X7_leadOn (h_there : Nat → Int32) (h_x : Nat → UInt64) (h_y : Nat → UInt64) (h_sure : Nat → Int32) (g0_offset : UInt64) (g0_slope : UInt64) (g0_curve : UInt64) : Option Int32 :=
  (f_X7_leadOn_l1 h_there h_x h_y h_sure g0_offset g0_slope g0_curve 16 (-1 : Int32) FP.dconst0 (0 : Int32)).bind fun w40 =>
  some w40
set_option maxHeartbeats 4000000 in
set_option maxRecDepth 100000 in
theorem c_X7_leadOn (l : Launch) (D : va_G) (sz : Nat) (h_a : Nat) (g0_a : Nat) (h_there_a : Nat) (h_x_a : Nat) (h_y_a : Nat) (h_speed_a : Nat) (h_sure_a : Nat) (h_coast_a : Nat) (h_met_a : Nat) (h_metSpeed_a : Nat) (h_pairing_a : Nat) (h_there_k : ClassId) (h_x_k : ClassId) (h_y_k : ClassId) (h_sure_k : ClassId) (h_differ : Int32) (h_there : Nat → Int32) (h_x : Nat → UInt64) (h_y : Nat → UInt64) (h_sure : Nat → Int32) (g0_offset : UInt64) (g0_slope : UInt64) (g0_curve : UInt64) (r0 : Int32) (hf : f_X7_leadOn h_there h_x h_y h_sure g0_offset g0_slope g0_curve = some r0) : Met l yX7_leadOn wsX7_leadOn { frames := 1, cells := 0, slots := 0, locals := 22 } (va_Pc [.ref h_a, .ref g0_a] (xPre D [(h_a, .inr (7, [.ref h_there_a, .ref h_x_a, .ref h_y_a, .ref h_speed_a, .ref h_sure_a, .ref h_coast_a, .ref h_met_a, .ref h_metSpeed_a, .ref h_pairing_a, .int h_differ])), (h_there_a, .inl (h_there_k, 8, .inl h_there)), (h_x_a, .inl (h_x_k, 8, .inr (.inr (.inr (.inl h_x))))), (h_y_a, .inl (h_y_k, 8, .inr (.inr (.inr (.inl h_y))))), (h_sure_a, .inl (h_sure_k, 8, .inl h_sure)), (g0_a, .inr (2, [.double g0_offset, .double g0_slope, .double g0_curve]))] [(h_there_k, .boolean), (h_x_k, .double), (h_y_k, .double), (h_sure_k, .int)] sz)) (va_Qi (fun (x : Int32) (_ : Unit) => x = r0) (fun _ => xB D (va_A [(h_a, .inr (7, [.ref h_there_a, .ref h_x_a, .ref h_y_a, .ref h_speed_a, .ref h_sure_a, .ref h_coast_a, .ref h_met_a, .ref h_metSpeed_a, .ref h_pairing_a, .int h_differ])), (h_there_a, .inl (h_there_k, 8, .inl h_there)), (h_x_a, .inl (h_x_k, 8, .inr (.inr (.inr (.inl h_x))))), (h_y_a, .inl (h_y_k, 8, .inr (.inr (.inr (.inl h_y))))), (h_sure_a, .inl (h_sure_k, 8, .inl h_sure)), (g0_a, .inr (2, [.double g0_offset, .double g0_slope, .double g0_curve]))] sz) [(h_a, .inr (7, [.ref h_there_a, .ref h_x_a, .ref h_y_a, .ref h_speed_a, .ref h_sure_a, .ref h_coast_a, .ref h_met_a, .ref h_metSpeed_a, .ref h_pairing_a, .int h_differ])), (h_there_a, .inl (h_there_k, 8, .inl h_there)), (h_x_a, .inl (h_x_k, 8, .inr (.inr (.inr (.inl h_x))))), (h_y_a, .inl (h_y_k, 8, .inr (.inr (.inr (.inl h_y))))), (h_sure_a, .inl (h_sure_k, 8, .inl h_sure)), (g0_a, .inr (2, [.double g0_offset, .double g0_slope, .double g0_curve]))]) (va_A [(h_a, .inr (7, [.ref h_there_a, .ref h_x_a, .ref h_y_a, .ref h_speed_a, .ref h_sure_a, .ref h_coast_a, .ref h_met_a, .ref h_metSpeed_a, .ref h_pairing_a, .int h_differ])), (h_there_a, .inl (h_there_k, 8, .inl h_there)), (h_x_a, .inl (h_x_k, 8, .inr (.inr (.inr (.inl h_x))))), (h_y_a, .inl (h_y_k, 8, .inr (.inr (.inr (.inl h_y))))), (h_sure_a, .inl (h_sure_k, 8, .inl h_sure)), (g0_a, .inr (2, [.double g0_offset, .double g0_slope, .double g0_curve]))] sz)) 0 0 (va_A [(h_a, .inr (7, [.ref h_there_a, .ref h_x_a, .ref h_y_a, .ref h_speed_a, .ref h_sure_a, .ref h_coast_a, .ref h_met_a, .ref h_metSpeed_a, .ref h_pairing_a, .int h_differ])), (h_there_a, .inl (h_there_k, 8, .inl h_there)), (h_x_a, .inl (h_x_k, 8, .inr (.inr (.inr (.inl h_x))))), (h_y_a, .inl (h_y_k, 8, .inr (.inr (.inr (.inl h_y))))), (h_sure_a, .inl (h_sure_k, 8, .inl h_sure)), (g0_a, .inr (2, [.double g0_offset, .double g0_slope, .double g0_curve]))] sz) := by
  refine xOfW (l := l) (y := yX7_leadOn) (ws := wsX7_leadOn) (D := D) (cells := [(h_a, .inr (7, [.ref h_there_a, .ref h_x_a, .ref h_y_a, .ref h_speed_a, .ref h_sure_a, .ref h_coast_a, .ref h_met_a, .ref h_metSpeed_a, .ref h_pairing_a, .int h_differ])), (h_there_a, .inl (h_there_k, 8, .inl h_there)), (h_x_a, .inl (h_x_k, 8, .inr (.inr (.inr (.inl h_x))))), (h_y_a, .inl (h_y_k, 8, .inr (.inr (.inr (.inl h_y))))), (h_sure_a, .inl (h_sure_k, 8, .inl h_sure)), (g0_a, .inr (2, [.double g0_offset, .double g0_slope, .double g0_curve]))]) (tys := [(h_there_k, .boolean), (h_x_k, .double), (h_y_k, .double), (h_sure_k, .int)]) (sz := sz) (av := [.ref h_a, .ref g0_a]) (cc := cX7_leadOn) (maxL := 7) (ret := (some .int)) (fun A => va_Qi (fun (x : Int32) (_ : Unit) => x = r0) (fun _ => xB D A [(h_a, .inr (7, [.ref h_there_a, .ref h_x_a, .ref h_y_a, .ref h_speed_a, .ref h_sure_a, .ref h_coast_a, .ref h_met_a, .ref h_metSpeed_a, .ref h_pairing_a, .int h_differ])), (h_there_a, .inl (h_there_k, 8, .inl h_there)), (h_x_a, .inl (h_x_k, 8, .inr (.inr (.inr (.inl h_x))))), (h_y_a, .inl (h_y_k, 8, .inr (.inr (.inr (.inl h_y))))), (h_sure_a, .inl (h_sure_k, 8, .inl h_sure)), (g0_a, .inr (2, [.double g0_offset, .double g0_slope, .double g0_curve]))]) A) (by decide) rfl (Nat.le_of_ble_eq_true rfl) ?_
  intro p e s m below meth c A H ls hx hb hr hml hown hlk hts hP hK hD hS hA hN hl
  have hl : lv_has ls 7 [(0, .ref h_a), (1, .ref g0_a)] := hl
  have hown : s.vm.findClass RX7 = some m.cls := hown
  have ef0 : f_X7_leadOn h_there h_x h_y h_sure g0_offset g0_slope g0_curve = some r0 := hf
  rewrite [f_X7_leadOn] at ef0
  refine lv_iconst (v := (-1 : Int32)) hx hb dX7_leadOn_0 (by decide) ?_
  refine lv_istore_n (lv' := [(2, .int (-1 : Int32)), (0, .ref h_a), (1, .ref g0_a)]) hx hb dX7_leadOn_1 rfl hl (by decide) rfl (fun ls hl => ?_)
  refine lv_dconst0 hx hb dX7_leadOn_2 ?_
  refine lv_dstore_n (lv' := [(3, .double FP.dconst0), (2, .int (-1 : Int32)), (0, .ref h_a), (1, .ref g0_a)]) hx hb dX7_leadOn_3 rfl hl (by decide) rfl (fun ls hl => ?_)
  refine lv_iconst (v := (0 : Int32)) hx hb dX7_leadOn_4 (by decide) ?_
  refine lv_istore (lv' := [(5, .int (0 : Int32)), (3, .double FP.dconst0), (2, .int (-1 : Int32)), (0, .ref h_a), (1, .ref g0_a)]) hx hb dX7_leadOn_5 hl (by decide) rfl (fun ls hl => ?_)
  obtain ⟨zw40, hw40, ef0⟩ := bd_of ef0
  refine xCut (ι := Int32) (fun z H locs ls => z = zw40 ∧ va_P D vwCl [(h_a, .inr (7, [.ref h_there_a, .ref h_x_a, .ref h_y_a, .ref h_speed_a, .ref h_sure_a, .ref h_coast_a, .ref h_met_a, .ref h_metSpeed_a, .ref h_pairing_a, .int h_differ])), (h_there_a, .inl (h_there_k, 8, .inl h_there)), (h_x_a, .inl (h_x_k, 8, .inr (.inr (.inr (.inl h_x))))), (h_y_a, .inl (h_y_k, 8, .inr (.inr (.inr (.inl h_y))))), (h_sure_a, .inl (h_sure_k, 8, .inl h_sure)), (g0_a, .inr (2, [.double g0_offset, .double g0_slope, .double g0_curve]))] H ∧ va_D A [(h_a, .inr (7, [.ref h_there_a, .ref h_x_a, .ref h_y_a, .ref h_speed_a, .ref h_sure_a, .ref h_coast_a, .ref h_met_a, .ref h_metSpeed_a, .ref h_pairing_a, .int h_differ])), (h_there_a, .inl (h_there_k, 8, .inl h_there)), (h_x_a, .inl (h_x_k, 8, .inr (.inr (.inr (.inl h_x))))), (h_y_a, .inl (h_y_k, 8, .inr (.inr (.inr (.inl h_y))))), (h_sure_a, .inl (h_sure_k, 8, .inl h_sure)), (g0_a, .inr (2, [.double g0_offset, .double g0_slope, .double g0_curve]))] ∧ va_S A s.heap H locs ∧ lv_has ls 7 [(2, .int z)]) 110 (fun _ => []) ?_ (fun E1 => ?_)
  · intro w40 H locs ls hz
    obtain ⟨hz, hP, hD, hS, hl⟩ := hz
    subst hz
    refine lv_iload_n hx hb dX7_leadOn_110 rfl (lv_at hl 0 rfl) ?_
    have q0 := Option.some.inj ef0
    exact xIret q0 rfl hx hb hr hlk hP hD hS dX7_leadOn_111
  · refine xLoop (ι := Int32 × UInt64 × Int32) (fun n z H locs ls => f_X7_leadOn_l1 h_there h_x h_y h_sure g0_offset g0_slope g0_curve n z.1 z.2.1 z.2.2 = some zw40 ∧ va_P D vwCl [(h_a, .inr (7, [.ref h_there_a, .ref h_x_a, .ref h_y_a, .ref h_speed_a, .ref h_sure_a, .ref h_coast_a, .ref h_met_a, .ref h_metSpeed_a, .ref h_pairing_a, .int h_differ])), (h_there_a, .inl (h_there_k, 8, .inl h_there)), (h_x_a, .inl (h_x_k, 8, .inr (.inr (.inr (.inl h_x))))), (h_y_a, .inl (h_y_k, 8, .inr (.inr (.inr (.inl h_y))))), (h_sure_a, .inl (h_sure_k, 8, .inl h_sure)), (g0_a, .inr (2, [.double g0_offset, .double g0_slope, .double g0_curve]))] H ∧ va_D A [(h_a, .inr (7, [.ref h_there_a, .ref h_x_a, .ref h_y_a, .ref h_speed_a, .ref h_sure_a, .ref h_coast_a, .ref h_met_a, .ref h_metSpeed_a, .ref h_pairing_a, .int h_differ])), (h_there_a, .inl (h_there_k, 8, .inl h_there)), (h_x_a, .inl (h_x_k, 8, .inr (.inr (.inr (.inl h_x))))), (h_y_a, .inl (h_y_k, 8, .inr (.inr (.inr (.inl h_y))))), (h_sure_a, .inl (h_sure_k, 8, .inl h_sure)), (g0_a, .inr (2, [.double g0_offset, .double g0_slope, .double g0_curve]))] ∧ va_S A s.heap H locs ∧ lv_has ls 7 [(0, .ref h_a), (1, .ref g0_a), (2, .int z.1), (3, .double z.2.1), (5, .int z.2.2)]) 7 (fun _ => []) (fun z _ _ _ h => absurd (show (none : Option Int32) = some _ from h.1) (fun h => nomatch h)) ?_ (fun L1 => ?_)
    · intro n L1 z H locs ls hz
      obtain ⟨a19, a20, a21⟩ := z
      obtain ⟨ef1, hP, hD, hS, hl⟩ := hz
      have ef1 : f_X7_leadOn_l1 h_there h_x h_y h_sure g0_offset g0_slope g0_curve (n + 1) a19 a20 a21 = some zw40 := ef1
      have hP : va_P D vwCl [(h_a, .inr (7, [.ref h_there_a, .ref h_x_a, .ref h_y_a, .ref h_speed_a, .ref h_sure_a, .ref h_coast_a, .ref h_met_a, .ref h_metSpeed_a, .ref h_pairing_a, .int h_differ])), (h_there_a, .inl (h_there_k, 8, .inl h_there)), (h_x_a, .inl (h_x_k, 8, .inr (.inr (.inr (.inl h_x))))), (h_y_a, .inl (h_y_k, 8, .inr (.inr (.inr (.inl h_y))))), (h_sure_a, .inl (h_sure_k, 8, .inl h_sure)), (g0_a, .inr (2, [.double g0_offset, .double g0_slope, .double g0_curve]))] H := hP
      have hD : va_D A [(h_a, .inr (7, [.ref h_there_a, .ref h_x_a, .ref h_y_a, .ref h_speed_a, .ref h_sure_a, .ref h_coast_a, .ref h_met_a, .ref h_metSpeed_a, .ref h_pairing_a, .int h_differ])), (h_there_a, .inl (h_there_k, 8, .inl h_there)), (h_x_a, .inl (h_x_k, 8, .inr (.inr (.inr (.inl h_x))))), (h_y_a, .inl (h_y_k, 8, .inr (.inr (.inr (.inl h_y))))), (h_sure_a, .inl (h_sure_k, 8, .inl h_sure)), (g0_a, .inr (2, [.double g0_offset, .double g0_slope, .double g0_curve]))] := hD
      have hl : lv_has ls 7 [(0, .ref h_a), (1, .ref g0_a), (2, .int a19), (3, .double a20), (5, .int a21)] := hl
      rewrite [f_X7_leadOn_l1] at ef1
      refine lv_iload hx hb dX7_leadOn_7 (lv_at hl 4 rfl) ?_
      refine lv_bipush (v := (8 : Int32)) hx hb dX7_leadOn_9 (by decide) ?_
      refine lv_icmp_ge (tgt := 110) hx hb dX7_leadOn_11 (by decide) (fun c22 => ?_) (fun c22 => ?_)
      · have ef1 := ift ef1 c22
        exact E1 a19 _ _ _ ⟨Option.some.inj ef1, hP, hD, hS, lv_sub hl [2] rfl⟩
      · have ef1 := iff_ ef1 c22
        refine lv_aload_n hx hb dX7_leadOn_14 rfl (lv_at hl 0 rfl) ?_
        refine va_get (D := D) (ci := 7) (v := .ref h_there_a) (C := RX7) (T := TX7) (N := 10) hx hb hts in_wsX7_leadOn_X7 hown hK hP 0 rfl rfl 0 (by decide) (hts (.fieldLink RX7 9 "AssistRows$Tracks" "there" "[Z") (List.mem_of_getElem? (i := 1) rfl)) (fun _ h9 => h9) rfl dX7_leadOn_15 ?_
        refine lv_iload hx hb dX7_leadOn_18 (lv_at hl 4 rfl) ?_
        obtain ⟨h23, ef1⟩ := ck_of ef1
        refine va_zald hx hb hK hP 1 0 rfl rfl (inb_of h23) dX7_leadOn_20 ?_
        refine xCut (ι := Int32) (fun z H locs ls => f_X7_leadOn_j2 (f_X7_leadOn_l1 h_there h_x h_y h_sure g0_offset g0_slope g0_curve n) h_x a19 a20 a21 z = some zw40 ∧ va_P D vwCl [(h_a, .inr (7, [.ref h_there_a, .ref h_x_a, .ref h_y_a, .ref h_speed_a, .ref h_sure_a, .ref h_coast_a, .ref h_met_a, .ref h_metSpeed_a, .ref h_pairing_a, .int h_differ])), (h_there_a, .inl (h_there_k, 8, .inl h_there)), (h_x_a, .inl (h_x_k, 8, .inr (.inr (.inr (.inl h_x))))), (h_y_a, .inl (h_y_k, 8, .inr (.inr (.inr (.inl h_y))))), (h_sure_a, .inl (h_sure_k, 8, .inl h_sure)), (g0_a, .inr (2, [.double g0_offset, .double g0_slope, .double g0_curve]))] H ∧ va_D A [(h_a, .inr (7, [.ref h_there_a, .ref h_x_a, .ref h_y_a, .ref h_speed_a, .ref h_sure_a, .ref h_coast_a, .ref h_met_a, .ref h_metSpeed_a, .ref h_pairing_a, .int h_differ])), (h_there_a, .inl (h_there_k, 8, .inl h_there)), (h_x_a, .inl (h_x_k, 8, .inr (.inr (.inr (.inl h_x))))), (h_y_a, .inl (h_y_k, 8, .inr (.inr (.inr (.inl h_y))))), (h_sure_a, .inl (h_sure_k, 8, .inl h_sure)), (g0_a, .inr (2, [.double g0_offset, .double g0_slope, .double g0_curve]))] ∧ va_S A s.heap H locs ∧ lv_has ls 7 [(0, .ref h_a), (1, .ref g0_a), (2, .int a19), (3, .double a20), (5, .int a21)]) 69 (fun z => [.int z]) ?_ (fun K2 => ?_)
        · intro z H locs ls hz
          obtain ⟨b33, rfl⟩ : ∃ q, q = z := ⟨z, rfl⟩
          obtain ⟨ef1, hP, hD, hS, hl⟩ := hz
          have ef1 : f_X7_leadOn_j2 (f_X7_leadOn_l1 h_there h_x h_y h_sure g0_offset g0_slope g0_curve n) h_x a19 a20 a21 b33 = some zw40 := ef1
          have hP : va_P D vwCl [(h_a, .inr (7, [.ref h_there_a, .ref h_x_a, .ref h_y_a, .ref h_speed_a, .ref h_sure_a, .ref h_coast_a, .ref h_met_a, .ref h_metSpeed_a, .ref h_pairing_a, .int h_differ])), (h_there_a, .inl (h_there_k, 8, .inl h_there)), (h_x_a, .inl (h_x_k, 8, .inr (.inr (.inr (.inl h_x))))), (h_y_a, .inl (h_y_k, 8, .inr (.inr (.inr (.inl h_y))))), (h_sure_a, .inl (h_sure_k, 8, .inl h_sure)), (g0_a, .inr (2, [.double g0_offset, .double g0_slope, .double g0_curve]))] H := hP
          have hD : va_D A [(h_a, .inr (7, [.ref h_there_a, .ref h_x_a, .ref h_y_a, .ref h_speed_a, .ref h_sure_a, .ref h_coast_a, .ref h_met_a, .ref h_metSpeed_a, .ref h_pairing_a, .int h_differ])), (h_there_a, .inl (h_there_k, 8, .inl h_there)), (h_x_a, .inl (h_x_k, 8, .inr (.inr (.inr (.inl h_x))))), (h_y_a, .inl (h_y_k, 8, .inr (.inr (.inr (.inl h_y))))), (h_sure_a, .inl (h_sure_k, 8, .inl h_sure)), (g0_a, .inr (2, [.double g0_offset, .double g0_slope, .double g0_curve]))] := hD
          have hl : lv_has ls 7 [(0, .ref h_a), (1, .ref g0_a), (2, .int a19), (3, .double a20), (5, .int a21)] := hl
          rewrite [f_X7_leadOn_j2] at ef1
          refine W.eq (g2 := F0 m 69 ls [.int b33]) rfl ?_
          refine lv_istore (lv' := [(6, .int b33), (0, .ref h_a), (1, .ref g0_a), (2, .int a19), (3, .double a20), (5, .int a21)]) hx hb dX7_leadOn_69 hl (by decide) rfl (fun ls hl => ?_)
          refine lv_iload hx hb dX7_leadOn_71 (lv_at hl 0 rfl) ?_
          refine lv_if_eq (tgt := 104) hx hb dX7_leadOn_73 (by decide) (fun c34 => ?_) (fun c34 => ?_)
          · have ef1 := ift ef1 c34
            refine lv_iinc (v := (a21 + 1)) (lv' := [(5, .int (a21 + 1)), (6, .int b33), (0, .ref h_a), (1, .ref g0_a), (2, .int a19), (3, .double a20)]) hx hb dX7_leadOn_104 hl (k := 5) rfl rfl (by decide) rfl (fun ls hl => ?_)
            refine lv_goto (tgt := 7) hx hb dX7_leadOn_107 (by decide) ?_
            exact L1 (a19, a20, (a21 + 1)) _ _ _ ⟨ef1, hP, hD, hS, lv_sub hl [2, 3, 4, 5, 0] rfl⟩
          · have ef1 := iff_ ef1 c34
            refine lv_iload_n hx hb dX7_leadOn_76 rfl (lv_at hl 3 rfl) ?_
            refine lv_iconst (v := (-1 : Int32)) hx hb dX7_leadOn_77 (by decide) ?_
            refine lv_icmp_eq (tgt := 93) hx hb dX7_leadOn_78 (by decide) (fun c35 => ?_) (fun c35 => ?_)
            · have ef1 := ift ef1 c35
              refine lv_iload hx hb dX7_leadOn_93 (lv_at hl 5 rfl) ?_
              refine lv_istore_n (lv' := [(2, .int a21), (6, .int b33), (0, .ref h_a), (1, .ref g0_a), (3, .double a20), (5, .int a21)]) hx hb dX7_leadOn_95 rfl hl (by decide) rfl (fun ls hl => ?_)
              refine lv_aload_n hx hb dX7_leadOn_96 rfl (lv_at hl 2 rfl) ?_
              refine va_get (D := D) (ci := 7) (v := .ref h_x_a) (C := RX7) (T := TX7) (N := 10) hx hb hts in_wsX7_leadOn_X7 hown hK hP 0 rfl rfl 1 (by decide) (hts (.fieldLink RX7 15 "AssistRows$Tracks" "x" "[D") (List.mem_of_getElem? (i := 4) rfl)) (fun _ h9 => h9) rfl dX7_leadOn_97 ?_
              refine lv_iload hx hb dX7_leadOn_100 (lv_at hl 5 rfl) ?_
              obtain ⟨h36, ef1⟩ := ck_of ef1
              refine va_dald hx hb hK hP 2 1 rfl rfl (inb_of h36) dX7_leadOn_102 ?_
              refine lv_dstore_n (lv' := [(3, .double (h_x a21.toNatClampNeg)), (2, .int a21), (6, .int b33), (0, .ref h_a), (1, .ref g0_a), (5, .int a21)]) hx hb dX7_leadOn_103 rfl hl (by decide) rfl (fun ls hl => ?_)
              refine lv_iinc (v := (a21 + 1)) (lv' := [(5, .int (a21 + 1)), (3, .double (h_x a21.toNatClampNeg)), (2, .int a21), (6, .int b33), (0, .ref h_a), (1, .ref g0_a)]) hx hb dX7_leadOn_104 hl (k := 5) rfl rfl (by decide) rfl (fun ls hl => ?_)
              refine lv_goto (tgt := 7) hx hb dX7_leadOn_107 (by decide) ?_
              exact L1 (a21, (h_x a21.toNatClampNeg), (a21 + 1)) _ _ _ ⟨ef1, hP, hD, hS, lv_sub hl [4, 5, 2, 1, 0] rfl⟩
            · have ef1 := iff_ ef1 c35
              refine lv_aload_n hx hb dX7_leadOn_81 rfl (lv_at hl 1 rfl) ?_
              refine va_get (D := D) (ci := 7) (v := .ref h_x_a) (C := RX7) (T := TX7) (N := 10) hx hb hts in_wsX7_leadOn_X7 hown hK hP 0 rfl rfl 1 (by decide) (hts (.fieldLink RX7 15 "AssistRows$Tracks" "x" "[D") (List.mem_of_getElem? (i := 4) rfl)) (fun _ h9 => h9) rfl dX7_leadOn_82 ?_
              refine lv_iload hx hb dX7_leadOn_85 (lv_at hl 5 rfl) ?_
              obtain ⟨h37, ef1⟩ := ck_of ef1
              refine va_dald hx hb hK hP 2 1 rfl rfl (inb_of h37) dX7_leadOn_87 ?_
              refine lv_dload_n hx hb dX7_leadOn_88 rfl (lv_at hl 4 rfl) ?_
              refine lv_dcmp hx hb dX7_leadOn_89 ?_
              refine lv_if_ge (tgt := 104) hx hb dX7_leadOn_90 (by decide) (fun c38 => ?_) (fun c38 => ?_)
              · have ef1 := ift ef1 c38
                refine lv_iinc (v := (a21 + 1)) (lv' := [(5, .int (a21 + 1)), (6, .int b33), (0, .ref h_a), (1, .ref g0_a), (2, .int a19), (3, .double a20)]) hx hb dX7_leadOn_104 hl (k := 5) rfl rfl (by decide) rfl (fun ls hl => ?_)
                refine lv_goto (tgt := 7) hx hb dX7_leadOn_107 (by decide) ?_
                exact L1 (a19, a20, (a21 + 1)) _ _ _ ⟨ef1, hP, hD, hS, lv_sub hl [2, 3, 4, 5, 0] rfl⟩
              · have ef1 := iff_ ef1 c38
                refine lv_iload hx hb dX7_leadOn_93 (lv_at hl 5 rfl) ?_
                refine lv_istore_n (lv' := [(2, .int a21), (6, .int b33), (0, .ref h_a), (1, .ref g0_a), (3, .double a20), (5, .int a21)]) hx hb dX7_leadOn_95 rfl hl (by decide) rfl (fun ls hl => ?_)
                refine lv_aload_n hx hb dX7_leadOn_96 rfl (lv_at hl 2 rfl) ?_
                refine va_get (D := D) (ci := 7) (v := .ref h_x_a) (C := RX7) (T := TX7) (N := 10) hx hb hts in_wsX7_leadOn_X7 hown hK hP 0 rfl rfl 1 (by decide) (hts (.fieldLink RX7 15 "AssistRows$Tracks" "x" "[D") (List.mem_of_getElem? (i := 4) rfl)) (fun _ h9 => h9) rfl dX7_leadOn_97 ?_
                refine lv_iload hx hb dX7_leadOn_100 (lv_at hl 5 rfl) ?_
                obtain ⟨h39, ef1⟩ := ck_of ef1
                refine va_dald hx hb hK hP 2 1 rfl rfl (inb_of h39) dX7_leadOn_102 ?_
                refine lv_dstore_n (lv' := [(3, .double (h_x a21.toNatClampNeg)), (2, .int a21), (6, .int b33), (0, .ref h_a), (1, .ref g0_a), (5, .int a21)]) hx hb dX7_leadOn_103 rfl hl (by decide) rfl (fun ls hl => ?_)
                refine lv_iinc (v := (a21 + 1)) (lv' := [(5, .int (a21 + 1)), (3, .double (h_x a21.toNatClampNeg)), (2, .int a21), (6, .int b33), (0, .ref h_a), (1, .ref g0_a)]) hx hb dX7_leadOn_104 hl (k := 5) rfl rfl (by decide) rfl (fun ls hl => ?_)
                refine lv_goto (tgt := 7) hx hb dX7_leadOn_107 (by decide) ?_
                exact L1 (a21, (h_x a21.toNatClampNeg), (a21 + 1)) _ _ _ ⟨ef1, hP, hD, hS, lv_sub hl [4, 5, 2, 1, 0] rfl⟩
        refine lv_if_eq (tgt := 68) hx hb dX7_leadOn_21 (by decide) (fun c24 => ?_) (fun c24 => ?_)
        · have ef1 := ift ef1 c24
          refine lv_iconst (v := (0 : Int32)) hx hb dX7_leadOn_68 (by decide) ?_
          exact K2 (0 : Int32) _ _ _ ⟨ef1, hP, hD, hS, lv_sub hl [0, 1, 2, 3, 4] rfl⟩
        · have ef1 := iff_ ef1 c24
          refine lv_aload_n hx hb dX7_leadOn_24 rfl (lv_at hl 0 rfl) ?_
          refine va_get (D := D) (ci := 7) (v := .ref h_sure_a) (C := RX7) (T := TX7) (N := 10) hx hb hts in_wsX7_leadOn_X7 hown hK hP 0 rfl rfl 4 (by decide) (hts (.fieldLink RX7 25 "AssistRows$Tracks" "sure" "[I") (List.mem_of_getElem? (i := 2) rfl)) (fun _ h9 => h9) rfl dX7_leadOn_25 ?_
          refine lv_iload hx hb dX7_leadOn_28 (lv_at hl 4 rfl) ?_
          obtain ⟨h25, ef1⟩ := ck_of ef1
          refine va_iald hx hb hK hP 4 3 rfl rfl (inb_of h25) dX7_leadOn_30 ?_
          refine lv_iconst (v := (3 : Int32)) hx hb dX7_leadOn_31 (by decide) ?_
          refine lv_icmp_lt (tgt := 68) hx hb dX7_leadOn_32 (by decide) (fun c26 => ?_) (fun c26 => ?_)
          · have ef1 := ift ef1 c26
            refine lv_iconst (v := (0 : Int32)) hx hb dX7_leadOn_68 (by decide) ?_
            exact K2 (0 : Int32) _ _ _ ⟨ef1, hP, hD, hS, lv_sub hl [0, 1, 2, 3, 4] rfl⟩
          · have ef1 := iff_ ef1 c26
            refine lv_aload_n hx hb dX7_leadOn_35 rfl (lv_at hl 0 rfl) ?_
            refine va_get (D := D) (ci := 7) (v := .ref h_y_a) (C := RX7) (T := TX7) (N := 10) hx hb hts in_wsX7_leadOn_X7 hown hK hP 0 rfl rfl 2 (by decide) (hts (.fieldLink RX7 19 "AssistRows$Tracks" "y" "[D") (List.mem_of_getElem? (i := 3) rfl)) (fun _ h9 => h9) rfl dX7_leadOn_36 ?_
            refine lv_iload hx hb dX7_leadOn_39 (lv_at hl 4 rfl) ?_
            obtain ⟨h27, ef1⟩ := ck_of ef1
            refine va_dald hx hb hK hP 3 2 rfl rfl (inb_of h27) dX7_leadOn_41 ?_
            refine lv_aload_n hx hb dX7_leadOn_42 rfl (lv_at hl 1 rfl) ?_
            refine lv_aload_n hx hb dX7_leadOn_43 rfl (lv_at hl 0 rfl) ?_
            refine va_get (D := D) (ci := 7) (v := .ref h_x_a) (C := RX7) (T := TX7) (N := 10) hx hb hts in_wsX7_leadOn_X7 hown hK hP 0 rfl rfl 1 (by decide) (hts (.fieldLink RX7 15 "AssistRows$Tracks" "x" "[D") (List.mem_of_getElem? (i := 4) rfl)) (fun _ h9 => h9) rfl dX7_leadOn_44 ?_
            refine lv_iload hx hb dX7_leadOn_47 (lv_at hl 4 rfl) ?_
            obtain ⟨h28, ef1⟩ := ck_of ef1
            refine va_dald hx hb hK hP 2 1 rfl rfl (inb_of h28) dX7_leadOn_49 ?_
            obtain ⟨u29, hu29, ef1⟩ := bd_of ef1
            refine xCalld (wr := [(h_a, .inr (7, [.ref h_there_a, .ref h_x_a, .ref h_y_a, .ref h_speed_a, .ref h_sure_a, .ref h_coast_a, .ref h_met_a, .ref h_metSpeed_a, .ref h_pairing_a, .int h_differ])), (h_there_a, .inl (h_there_k, 8, .inl h_there)), (h_x_a, .inl (h_x_k, 8, .inr (.inr (.inr (.inl h_x))))), (h_y_a, .inl (h_y_k, 8, .inr (.inr (.inr (.inl h_y))))), (h_sure_a, .inl (h_sure_k, 8, .inl h_sure))]) (wn := [(h_a, .inr (7, [.ref h_there_a, .ref h_x_a, .ref h_y_a, .ref h_speed_a, .ref h_sure_a, .ref h_coast_a, .ref h_met_a, .ref h_metSpeed_a, .ref h_pairing_a, .int h_differ])), (h_there_a, .inl (h_there_k, 8, .inl h_there)), (h_x_a, .inl (h_x_k, 8, .inr (.inr (.inr (.inl h_x))))), (h_y_a, .inl (h_y_k, 8, .inr (.inr (.inr (.inl h_y))))), (h_sure_a, .inl (h_sure_k, 8, .inl h_sure)), (g0_a, .inr (2, [.double g0_offset, .double g0_slope, .double g0_curve]))]) [5] [0, 1, 2, 3, 4] [0, 1, 2, 3, 4, 5] (va_runV (As := [.double (h_x a21.toNatClampNeg)]) (rest := [.double (h_y a21.toNatClampNeg)]) ⟨hx, hb, hml, hown, hts⟩ (c_X2_middle l D H.size g0_a (h_x a21.toNatClampNeg) g0_offset g0_slope g0_curve u29 hu29) (cwV 1 hts gX7_leadOn_X2_middle rfl rfl rfl (by decide +kernel) ⟨Nat.le_of_ble_eq_true rfl, Nat.le_of_ble_eq_true rfl⟩) (xPreV (ci := 2) (q0 := 5) hP hD hK hN rfl rfl [5] rfl rfl [] rfl) rfl rfl hl.1 rfl (lv_room (Nat.le_of_ble_eq_true rfl)) dX7_leadOn_50 ⟨Nat.zero_le _, Nat.zero_le _⟩) hP hD hS hA rfl rfl rfl (by decide) rfl rfl (fun H locs hP hD hS => ?_)
            obtain ⟨h30, ef1⟩ := ck_of ef1
            refine lv_dsub hx hb dX7_leadOn_53 (nn_of h30) ?_
            obtain ⟨u31, hu31, ef1⟩ := bd_of ef1
            refine xCalld (wr := [(h_a, .inr (7, [.ref h_there_a, .ref h_x_a, .ref h_y_a, .ref h_speed_a, .ref h_sure_a, .ref h_coast_a, .ref h_met_a, .ref h_metSpeed_a, .ref h_pairing_a, .int h_differ])), (h_there_a, .inl (h_there_k, 8, .inl h_there)), (h_x_a, .inl (h_x_k, 8, .inr (.inr (.inr (.inl h_x))))), (h_y_a, .inl (h_y_k, 8, .inr (.inr (.inr (.inl h_y))))), (h_sure_a, .inl (h_sure_k, 8, .inl h_sure)), (g0_a, .inr (2, [.double g0_offset, .double g0_slope, .double g0_curve]))]) (wn := [(h_a, .inr (7, [.ref h_there_a, .ref h_x_a, .ref h_y_a, .ref h_speed_a, .ref h_sure_a, .ref h_coast_a, .ref h_met_a, .ref h_metSpeed_a, .ref h_pairing_a, .int h_differ])), (h_there_a, .inl (h_there_k, 8, .inl h_there)), (h_x_a, .inl (h_x_k, 8, .inr (.inr (.inr (.inl h_x))))), (h_y_a, .inl (h_y_k, 8, .inr (.inr (.inr (.inl h_y))))), (h_sure_a, .inl (h_sure_k, 8, .inl h_sure)), (g0_a, .inr (2, [.double g0_offset, .double g0_slope, .double g0_curve]))]) [] [0, 1, 2, 3, 4, 5] [0, 1, 2, 3, 4, 5] (va_runSN (As := [.double (FP.dsub (h_y a21.toNatClampNeg) u29)]) (rest := []) ⟨hx, hb, hml, hown, hts⟩ (c_X8_magnitude l D H.size (FP.dsub (h_y a21.toNatClampNeg) u29) u31 hu31) ⟨va_cnB 1 hts gX7_leadOn_X8_magnitude_n77 rfl rfl rfl hN.2.2.2.2.1 (hts (.initialized RX8) (List.mem_of_getElem? (i := 15) rfl)) (by decide +kernel) ⟨Nat.le_of_ble_eq_true rfl, Nat.le_of_ble_eq_true rfl⟩, (hts (.static yX8_magnitude) (List.mem_of_getElem? (i := 14) rfl)), trivial⟩ (xPreS hP hD hK hN [] rfl rfl [] rfl) rfl rfl hl.1 rfl (lv_room (Nat.le_of_ble_eq_true rfl)) dX7_leadOn_54 ⟨Nat.zero_le _, Nat.zero_le _⟩) hP hD hS hA rfl rfl rfl (by decide) rfl rfl (fun H locs hP hD hS => ?_)
            refine lv_ldc2d hx hb hown (hts (.constantDouble RX7 102 (4610560118520545280)) (List.mem_of_getElem? (i := 5) rfl)) dX7_leadOn_57 ?_
            refine lv_dcmp hx hb dX7_leadOn_60 ?_
            refine lv_if_gt (tgt := 68) hx hb dX7_leadOn_61 (by decide) (fun c32 => ?_) (fun c32 => ?_)
            · have ef1 := ift ef1 c32
              refine lv_iconst (v := (0 : Int32)) hx hb dX7_leadOn_68 (by decide) ?_
              exact K2 (0 : Int32) _ _ _ ⟨ef1, hP, hD, hS, lv_sub hl [0, 1, 2, 3, 4] rfl⟩
            · have ef1 := iff_ ef1 c32
              refine lv_iconst (v := (1 : Int32)) hx hb dX7_leadOn_64 (by decide) ?_
              refine lv_goto (tgt := 69) hx hb dX7_leadOn_65 (by decide) ?_
              exact K2 (1 : Int32) _ _ _ ⟨ef1, hP, hD, hS, lv_sub hl [0, 1, 2, 3, 4] rfl⟩
    · exact L1 16 ((-1 : Int32), FP.dconst0, (0 : Int32)) _ _ _ ⟨hw40, hP, hD, hS, lv_sub hl [3, 4, 2, 1, 0] rfl⟩

theorem in_wsX7_secondsTo_X7 : ∀ w ∈ wsX70, w ∈ wsX7_secondsTo := fun _ h => List.mem_cons_of_mem _ (List.mem_append_right _ h)
def f_X7_secondsTo (p0 : Int32) (p1 : UInt64) (h_there : Nat → Int32) (h_x : Nat → UInt64) (h_speed : Nat → UInt64) : Option UInt64 :=
  (f_X7_isThere p0 h_there).bind fun u1 =>
  if u1 = 0 then (
  some (13830554455654793216 : UInt64)) else
  ck (inb p0 8 = true) <|
  ck (nnb (FP.dsub p1 (h_speed p0.toNatClampNeg)) = true) <|
  if (Op.cmpValue (FP.dcmp (FP.dsub p1 (h_speed p0.toNatClampNeg)) FP.dconst0) .l) ≤ 0 then (
  some (13830554455654793216 : UInt64)) else
  ck (inb p0 8 = true) <|
  ck (nnb (FP.ddiv (h_x p0.toNatClampNeg) (FP.dsub p1 (h_speed p0.toNatClampNeg))) = true) <|
  some (FP.ddiv (h_x p0.toNatClampNeg) (FP.dsub p1 (h_speed p0.toNatClampNeg)))
set_option maxHeartbeats 4000000 in
set_option maxRecDepth 100000 in
theorem c_X7_secondsTo (l : Launch) (D : va_G) (sz : Nat) (h_a : Nat) (h_there_a : Nat) (h_x_a : Nat) (h_y_a : Nat) (h_speed_a : Nat) (h_sure_a : Nat) (h_coast_a : Nat) (h_met_a : Nat) (h_metSpeed_a : Nat) (h_pairing_a : Nat) (h_there_k : ClassId) (h_x_k : ClassId) (h_speed_k : ClassId) (p0 : Int32) (p1 : UInt64) (h_differ : Int32) (h_there : Nat → Int32) (h_x : Nat → UInt64) (h_speed : Nat → UInt64) (r0 : UInt64) (hf : f_X7_secondsTo p0 p1 h_there h_x h_speed = some r0) : Met l yX7_secondsTo wsX7_secondsTo { frames := 1, cells := 0, slots := 0, locals := 21 } (va_Pc [.ref h_a, .int p0, .double p1] (xPre D [(h_a, .inr (7, [.ref h_there_a, .ref h_x_a, .ref h_y_a, .ref h_speed_a, .ref h_sure_a, .ref h_coast_a, .ref h_met_a, .ref h_metSpeed_a, .ref h_pairing_a, .int h_differ])), (h_there_a, .inl (h_there_k, 8, .inl h_there)), (h_x_a, .inl (h_x_k, 8, .inr (.inr (.inr (.inl h_x))))), (h_speed_a, .inl (h_speed_k, 8, .inr (.inr (.inr (.inl h_speed)))))] [(h_there_k, .boolean), (h_x_k, .double), (h_speed_k, .double)] sz)) (va_Qd (fun (x : UInt64) (_ : Unit) => x = r0) (fun _ => xB D (va_A [(h_a, .inr (7, [.ref h_there_a, .ref h_x_a, .ref h_y_a, .ref h_speed_a, .ref h_sure_a, .ref h_coast_a, .ref h_met_a, .ref h_metSpeed_a, .ref h_pairing_a, .int h_differ])), (h_there_a, .inl (h_there_k, 8, .inl h_there)), (h_x_a, .inl (h_x_k, 8, .inr (.inr (.inr (.inl h_x))))), (h_speed_a, .inl (h_speed_k, 8, .inr (.inr (.inr (.inl h_speed)))))] sz) [(h_a, .inr (7, [.ref h_there_a, .ref h_x_a, .ref h_y_a, .ref h_speed_a, .ref h_sure_a, .ref h_coast_a, .ref h_met_a, .ref h_metSpeed_a, .ref h_pairing_a, .int h_differ])), (h_there_a, .inl (h_there_k, 8, .inl h_there)), (h_x_a, .inl (h_x_k, 8, .inr (.inr (.inr (.inl h_x))))), (h_speed_a, .inl (h_speed_k, 8, .inr (.inr (.inr (.inl h_speed)))))]) (va_A [(h_a, .inr (7, [.ref h_there_a, .ref h_x_a, .ref h_y_a, .ref h_speed_a, .ref h_sure_a, .ref h_coast_a, .ref h_met_a, .ref h_metSpeed_a, .ref h_pairing_a, .int h_differ])), (h_there_a, .inl (h_there_k, 8, .inl h_there)), (h_x_a, .inl (h_x_k, 8, .inr (.inr (.inr (.inl h_x))))), (h_speed_a, .inl (h_speed_k, 8, .inr (.inr (.inr (.inl h_speed)))))] sz)) 0 0 (va_A [(h_a, .inr (7, [.ref h_there_a, .ref h_x_a, .ref h_y_a, .ref h_speed_a, .ref h_sure_a, .ref h_coast_a, .ref h_met_a, .ref h_metSpeed_a, .ref h_pairing_a, .int h_differ])), (h_there_a, .inl (h_there_k, 8, .inl h_there)), (h_x_a, .inl (h_x_k, 8, .inr (.inr (.inr (.inl h_x))))), (h_speed_a, .inl (h_speed_k, 8, .inr (.inr (.inr (.inl h_speed)))))] sz) := by
  refine xOfW (l := l) (y := yX7_secondsTo) (ws := wsX7_secondsTo) (D := D) (cells := [(h_a, .inr (7, [.ref h_there_a, .ref h_x_a, .ref h_y_a, .ref h_speed_a, .ref h_sure_a, .ref h_coast_a, .ref h_met_a, .ref h_metSpeed_a, .ref h_pairing_a, .int h_differ])), (h_there_a, .inl (h_there_k, 8, .inl h_there)), (h_x_a, .inl (h_x_k, 8, .inr (.inr (.inr (.inl h_x))))), (h_speed_a, .inl (h_speed_k, 8, .inr (.inr (.inr (.inl h_speed)))))]) (tys := [(h_there_k, .boolean), (h_x_k, .double), (h_speed_k, .double)]) (sz := sz) (av := [.ref h_a, .int p0, .double p1]) (cc := cX7_secondsTo) (maxL := 6) (ret := (some .double)) (fun A => va_Qd (fun (x : UInt64) (_ : Unit) => x = r0) (fun _ => xB D A [(h_a, .inr (7, [.ref h_there_a, .ref h_x_a, .ref h_y_a, .ref h_speed_a, .ref h_sure_a, .ref h_coast_a, .ref h_met_a, .ref h_metSpeed_a, .ref h_pairing_a, .int h_differ])), (h_there_a, .inl (h_there_k, 8, .inl h_there)), (h_x_a, .inl (h_x_k, 8, .inr (.inr (.inr (.inl h_x))))), (h_speed_a, .inl (h_speed_k, 8, .inr (.inr (.inr (.inl h_speed)))))]) A) (by decide) rfl (Nat.le_of_ble_eq_true rfl) ?_
  intro p e s m below meth c A H ls hx hb hr hml hown hlk hts hP hK hD hS hA hN hl
  have hl : lv_has ls 6 [(0, .ref h_a), (1, .int p0), (2, .double p1)] := hl
  have hown : s.vm.findClass RX7 = some m.cls := hown
  have ef0 : f_X7_secondsTo p0 p1 h_there h_x h_speed = some r0 := hf
  rewrite [f_X7_secondsTo] at ef0
  refine lv_aload_n hx hb dX7_secondsTo_0 rfl (lv_at hl 0 rfl) ?_
  refine lv_iload_n hx hb dX7_secondsTo_1 rfl (lv_at hl 1 rfl) ?_
  obtain ⟨u1, hu1, ef0⟩ := bd_of ef0
  refine xCalli (wr := [(h_x_a, .inl (h_x_k, 8, .inr (.inr (.inr (.inl h_x))))), (h_speed_a, .inl (h_speed_k, 8, .inr (.inr (.inr (.inl h_speed)))))]) (wn := [(h_a, .inr (7, [.ref h_there_a, .ref h_x_a, .ref h_y_a, .ref h_speed_a, .ref h_sure_a, .ref h_coast_a, .ref h_met_a, .ref h_metSpeed_a, .ref h_pairing_a, .int h_differ])), (h_there_a, .inl (h_there_k, 8, .inl h_there)), (h_x_a, .inl (h_x_k, 8, .inr (.inr (.inr (.inl h_x))))), (h_speed_a, .inl (h_speed_k, 8, .inr (.inr (.inr (.inl h_speed)))))]) [0, 1] [2, 3] [2, 3, 0, 1] (va_runV (As := [.int p0]) (rest := []) ⟨hx, hb, hml, hown, hts⟩ (c_X7_isThere l D H.size h_a h_there_a h_x_a h_y_a h_speed_a h_sure_a h_coast_a h_met_a h_metSpeed_a h_pairing_a h_there_k p0 h_differ h_there u1 hu1) (cwV 1 hts gX7_secondsTo_X7_isThere rfl rfl rfl (by decide +kernel) ⟨Nat.le_of_ble_eq_true rfl, Nat.le_of_ble_eq_true rfl⟩) (xPreV (ci := 7) (q0 := 0) hP hD hK hN rfl rfl [0, 1] rfl rfl [0] rfl) rfl rfl hl.1 rfl (lv_room (Nat.le_of_ble_eq_true rfl)) dX7_secondsTo_2 ⟨Nat.zero_le _, Nat.zero_le _⟩) hP hD hS hA rfl rfl rfl (by decide) rfl rfl (fun H locs hP hD hS => ?_)
  refine lv_if_ne (tgt := 12) hx hb dX7_secondsTo_5 (by decide) (fun c2 => ?_) (fun c2 => ?_)
  · have ef0 := iff_ ef0 c2
    refine lv_dload_n hx hb dX7_secondsTo_12 rfl (lv_at hl 2 rfl) ?_
    refine lv_aload_n hx hb dX7_secondsTo_13 rfl (lv_at hl 0 rfl) ?_
    refine va_get (D := D) (ci := 7) (v := .ref h_speed_a) (C := RX7) (T := TX7) (N := 10) hx hb hts in_wsX7_secondsTo_X7 hown hK hP 0 rfl rfl 3 (by decide) (hts (.fieldLink RX7 22 "AssistRows$Tracks" "speed" "[D") (List.mem_of_getElem? (i := 2) rfl)) (fun _ h9 => h9) rfl dX7_secondsTo_14 ?_
    refine lv_iload_n hx hb dX7_secondsTo_17 rfl (lv_at hl 1 rfl) ?_
    obtain ⟨h3, ef0⟩ := ck_of ef0
    refine va_dald hx hb hK hP 3 2 rfl rfl (inb_of h3) dX7_secondsTo_18 ?_
    obtain ⟨h4, ef0⟩ := ck_of ef0
    refine lv_dsub hx hb dX7_secondsTo_19 (nn_of h4) ?_
    refine lv_dstore (lv' := [(4, .double (FP.dsub p1 (h_speed p0.toNatClampNeg))), (0, .ref h_a), (1, .int p0), (2, .double p1)]) hx hb dX7_secondsTo_20 hl (by decide) rfl (fun ls hl => ?_)
    refine lv_dload hx hb dX7_secondsTo_22 (lv_at hl 0 rfl) ?_
    refine lv_dconst0 hx hb dX7_secondsTo_24 ?_
    refine lv_dcmp hx hb dX7_secondsTo_25 ?_
    refine lv_if_le (tgt := 41) hx hb dX7_secondsTo_26 (by decide) (fun c5 => ?_) (fun c5 => ?_)
    · have ef0 := ift ef0 c5
      refine lv_ldc2d hx hb hown (hts (.constantDouble RX7 104 (13830554455654793216)) (List.mem_of_getElem? (i := 1) rfl)) dX7_secondsTo_41 ?_
      have q0 := Option.some.inj ef0
      exact xDret q0 rfl hx hb hr hlk hP hD hS dX7_secondsTo_44
    · have ef0 := iff_ ef0 c5
      refine lv_aload_n hx hb dX7_secondsTo_29 rfl (lv_at hl 1 rfl) ?_
      refine va_get (D := D) (ci := 7) (v := .ref h_x_a) (C := RX7) (T := TX7) (N := 10) hx hb hts in_wsX7_secondsTo_X7 hown hK hP 0 rfl rfl 1 (by decide) (hts (.fieldLink RX7 15 "AssistRows$Tracks" "x" "[D") (List.mem_of_getElem? (i := 3) rfl)) (fun _ h9 => h9) rfl dX7_secondsTo_30 ?_
      refine lv_iload_n hx hb dX7_secondsTo_33 rfl (lv_at hl 2 rfl) ?_
      obtain ⟨h6, ef0⟩ := ck_of ef0
      refine va_dald hx hb hK hP 2 1 rfl rfl (inb_of h6) dX7_secondsTo_34 ?_
      refine lv_dload hx hb dX7_secondsTo_35 (lv_at hl 0 rfl) ?_
      obtain ⟨h7, ef0⟩ := ck_of ef0
      refine lv_ddiv hx hb dX7_secondsTo_37 (nn_of h7) ?_
      refine lv_goto (tgt := 44) hx hb dX7_secondsTo_38 (by decide) ?_
      have q0 := Option.some.inj ef0
      exact xDret q0 rfl hx hb hr hlk hP hD hS dX7_secondsTo_44
  · have ef0 := ift ef0 c2
    refine lv_ldc2d hx hb hown (hts (.constantDouble RX7 104 (13830554455654793216)) (List.mem_of_getElem? (i := 1) rfl)) dX7_secondsTo_8 ?_
    have q0 := Option.some.inj ef0
    exact xDret q0 rfl hx hb hr hlk hP hD hS dX7_secondsTo_11

theorem in_wsX7_read_X7 : ∀ w ∈ wsX70, w ∈ wsX7_read := fun _ h => List.mem_cons_of_mem _ (List.mem_append_right _ h)
def f_X7_read (p0 : Int32) (p1 : Int32) (h_there : Nat → Int32) (h_x : Nat → UInt64) (h_y : Nat → UInt64) (h_speed : Nat → UInt64) (h_sure : Nat → Int32) (h_coast : Nat → Int32) : Option Int32 :=
  (f_X7_isThere p0 h_there).bind fun u1 =>
  if u1 = 0 then (
  some (0 : Int32)) else
  if p1 = (0 : Int32) then (
  some (1 : Int32)) else
  if p1 = (1 : Int32) then (
  ck (inb p0 8 = true) <|
  some (h_sure p0.toNatClampNeg)) else
  if p1 = (2 : Int32) then (
  ck (inb p0 8 = true) <|
  some (h_coast p0.toNatClampNeg)) else
  if p1 = (3 : Int32) then (
  ck (inb p0 8 = true) <|
  ck (nnb (FP.dmul (h_x p0.toNatClampNeg) (4636737291354636288 : UInt64)) = true) <|
  some (FP.d2i (FP.dmul (h_x p0.toNatClampNeg) (4636737291354636288 : UInt64)))) else
  if p1 = (4 : Int32) then (
  ck (inb p0 8 = true) <|
  ck (nnb (FP.dmul (h_y p0.toNatClampNeg) (4636737291354636288 : UInt64)) = true) <|
  some (FP.d2i (FP.dmul (h_y p0.toNatClampNeg) (4636737291354636288 : UInt64)))) else
  ck (inb p0 8 = true) <|
  ck (nnb (FP.dmul (h_speed p0.toNatClampNeg) (4636737291354636288 : UInt64)) = true) <|
  some (FP.d2i (FP.dmul (h_speed p0.toNatClampNeg) (4636737291354636288 : UInt64)))
set_option maxHeartbeats 4000000 in
set_option maxRecDepth 100000 in
theorem c_X7_read (l : Launch) (D : va_G) (sz : Nat) (h_a : Nat) (h_there_a : Nat) (h_x_a : Nat) (h_y_a : Nat) (h_speed_a : Nat) (h_sure_a : Nat) (h_coast_a : Nat) (h_met_a : Nat) (h_metSpeed_a : Nat) (h_pairing_a : Nat) (h_there_k : ClassId) (h_x_k : ClassId) (h_y_k : ClassId) (h_speed_k : ClassId) (h_sure_k : ClassId) (h_coast_k : ClassId) (p0 : Int32) (p1 : Int32) (h_differ : Int32) (h_there : Nat → Int32) (h_x : Nat → UInt64) (h_y : Nat → UInt64) (h_speed : Nat → UInt64) (h_sure : Nat → Int32) (h_coast : Nat → Int32) (r0 : Int32) (hf : f_X7_read p0 p1 h_there h_x h_y h_speed h_sure h_coast = some r0) : Met l yX7_read wsX7_read { frames := 1, cells := 0, slots := 0, locals := 21 } (va_Pc [.ref h_a, .int p0, .int p1] (xPre D [(h_a, .inr (7, [.ref h_there_a, .ref h_x_a, .ref h_y_a, .ref h_speed_a, .ref h_sure_a, .ref h_coast_a, .ref h_met_a, .ref h_metSpeed_a, .ref h_pairing_a, .int h_differ])), (h_there_a, .inl (h_there_k, 8, .inl h_there)), (h_x_a, .inl (h_x_k, 8, .inr (.inr (.inr (.inl h_x))))), (h_y_a, .inl (h_y_k, 8, .inr (.inr (.inr (.inl h_y))))), (h_speed_a, .inl (h_speed_k, 8, .inr (.inr (.inr (.inl h_speed))))), (h_sure_a, .inl (h_sure_k, 8, .inl h_sure)), (h_coast_a, .inl (h_coast_k, 8, .inl h_coast))] [(h_there_k, .boolean), (h_x_k, .double), (h_y_k, .double), (h_speed_k, .double), (h_sure_k, .int), (h_coast_k, .int)] sz)) (va_Qi (fun (x : Int32) (_ : Unit) => x = r0) (fun _ => xB D (va_A [(h_a, .inr (7, [.ref h_there_a, .ref h_x_a, .ref h_y_a, .ref h_speed_a, .ref h_sure_a, .ref h_coast_a, .ref h_met_a, .ref h_metSpeed_a, .ref h_pairing_a, .int h_differ])), (h_there_a, .inl (h_there_k, 8, .inl h_there)), (h_x_a, .inl (h_x_k, 8, .inr (.inr (.inr (.inl h_x))))), (h_y_a, .inl (h_y_k, 8, .inr (.inr (.inr (.inl h_y))))), (h_speed_a, .inl (h_speed_k, 8, .inr (.inr (.inr (.inl h_speed))))), (h_sure_a, .inl (h_sure_k, 8, .inl h_sure)), (h_coast_a, .inl (h_coast_k, 8, .inl h_coast))] sz) [(h_a, .inr (7, [.ref h_there_a, .ref h_x_a, .ref h_y_a, .ref h_speed_a, .ref h_sure_a, .ref h_coast_a, .ref h_met_a, .ref h_metSpeed_a, .ref h_pairing_a, .int h_differ])), (h_there_a, .inl (h_there_k, 8, .inl h_there)), (h_x_a, .inl (h_x_k, 8, .inr (.inr (.inr (.inl h_x))))), (h_y_a, .inl (h_y_k, 8, .inr (.inr (.inr (.inl h_y))))), (h_speed_a, .inl (h_speed_k, 8, .inr (.inr (.inr (.inl h_speed))))), (h_sure_a, .inl (h_sure_k, 8, .inl h_sure)), (h_coast_a, .inl (h_coast_k, 8, .inl h_coast))]) (va_A [(h_a, .inr (7, [.ref h_there_a, .ref h_x_a, .ref h_y_a, .ref h_speed_a, .ref h_sure_a, .ref h_coast_a, .ref h_met_a, .ref h_metSpeed_a, .ref h_pairing_a, .int h_differ])), (h_there_a, .inl (h_there_k, 8, .inl h_there)), (h_x_a, .inl (h_x_k, 8, .inr (.inr (.inr (.inl h_x))))), (h_y_a, .inl (h_y_k, 8, .inr (.inr (.inr (.inl h_y))))), (h_speed_a, .inl (h_speed_k, 8, .inr (.inr (.inr (.inl h_speed))))), (h_sure_a, .inl (h_sure_k, 8, .inl h_sure)), (h_coast_a, .inl (h_coast_k, 8, .inl h_coast))] sz)) 0 0 (va_A [(h_a, .inr (7, [.ref h_there_a, .ref h_x_a, .ref h_y_a, .ref h_speed_a, .ref h_sure_a, .ref h_coast_a, .ref h_met_a, .ref h_metSpeed_a, .ref h_pairing_a, .int h_differ])), (h_there_a, .inl (h_there_k, 8, .inl h_there)), (h_x_a, .inl (h_x_k, 8, .inr (.inr (.inr (.inl h_x))))), (h_y_a, .inl (h_y_k, 8, .inr (.inr (.inr (.inl h_y))))), (h_speed_a, .inl (h_speed_k, 8, .inr (.inr (.inr (.inl h_speed))))), (h_sure_a, .inl (h_sure_k, 8, .inl h_sure)), (h_coast_a, .inl (h_coast_k, 8, .inl h_coast))] sz) := by
  refine xOfW (l := l) (y := yX7_read) (ws := wsX7_read) (D := D) (cells := [(h_a, .inr (7, [.ref h_there_a, .ref h_x_a, .ref h_y_a, .ref h_speed_a, .ref h_sure_a, .ref h_coast_a, .ref h_met_a, .ref h_metSpeed_a, .ref h_pairing_a, .int h_differ])), (h_there_a, .inl (h_there_k, 8, .inl h_there)), (h_x_a, .inl (h_x_k, 8, .inr (.inr (.inr (.inl h_x))))), (h_y_a, .inl (h_y_k, 8, .inr (.inr (.inr (.inl h_y))))), (h_speed_a, .inl (h_speed_k, 8, .inr (.inr (.inr (.inl h_speed))))), (h_sure_a, .inl (h_sure_k, 8, .inl h_sure)), (h_coast_a, .inl (h_coast_k, 8, .inl h_coast))]) (tys := [(h_there_k, .boolean), (h_x_k, .double), (h_y_k, .double), (h_speed_k, .double), (h_sure_k, .int), (h_coast_k, .int)]) (sz := sz) (av := [.ref h_a, .int p0, .int p1]) (cc := cX7_read) (maxL := 3) (ret := (some .int)) (fun A => va_Qi (fun (x : Int32) (_ : Unit) => x = r0) (fun _ => xB D A [(h_a, .inr (7, [.ref h_there_a, .ref h_x_a, .ref h_y_a, .ref h_speed_a, .ref h_sure_a, .ref h_coast_a, .ref h_met_a, .ref h_metSpeed_a, .ref h_pairing_a, .int h_differ])), (h_there_a, .inl (h_there_k, 8, .inl h_there)), (h_x_a, .inl (h_x_k, 8, .inr (.inr (.inr (.inl h_x))))), (h_y_a, .inl (h_y_k, 8, .inr (.inr (.inr (.inl h_y))))), (h_speed_a, .inl (h_speed_k, 8, .inr (.inr (.inr (.inl h_speed))))), (h_sure_a, .inl (h_sure_k, 8, .inl h_sure)), (h_coast_a, .inl (h_coast_k, 8, .inl h_coast))]) A) (by decide) rfl (Nat.le_of_ble_eq_true rfl) ?_
  intro p e s m below meth c A H ls hx hb hr hml hown hlk hts hP hK hD hS hA hN hl
  have hl : lv_has ls 3 [(0, .ref h_a), (1, .int p0), (2, .int p1)] := hl
  have hown : s.vm.findClass RX7 = some m.cls := hown
  have ef0 : f_X7_read p0 p1 h_there h_x h_y h_speed h_sure h_coast = some r0 := hf
  rewrite [f_X7_read] at ef0
  refine lv_aload_n hx hb dX7_read_0 rfl (lv_at hl 0 rfl) ?_
  refine lv_iload_n hx hb dX7_read_1 rfl (lv_at hl 1 rfl) ?_
  obtain ⟨u1, hu1, ef0⟩ := bd_of ef0
  refine xCalli (wr := [(h_x_a, .inl (h_x_k, 8, .inr (.inr (.inr (.inl h_x))))), (h_y_a, .inl (h_y_k, 8, .inr (.inr (.inr (.inl h_y))))), (h_speed_a, .inl (h_speed_k, 8, .inr (.inr (.inr (.inl h_speed))))), (h_sure_a, .inl (h_sure_k, 8, .inl h_sure)), (h_coast_a, .inl (h_coast_k, 8, .inl h_coast))]) (wn := [(h_a, .inr (7, [.ref h_there_a, .ref h_x_a, .ref h_y_a, .ref h_speed_a, .ref h_sure_a, .ref h_coast_a, .ref h_met_a, .ref h_metSpeed_a, .ref h_pairing_a, .int h_differ])), (h_there_a, .inl (h_there_k, 8, .inl h_there)), (h_x_a, .inl (h_x_k, 8, .inr (.inr (.inr (.inl h_x))))), (h_y_a, .inl (h_y_k, 8, .inr (.inr (.inr (.inl h_y))))), (h_speed_a, .inl (h_speed_k, 8, .inr (.inr (.inr (.inl h_speed))))), (h_sure_a, .inl (h_sure_k, 8, .inl h_sure)), (h_coast_a, .inl (h_coast_k, 8, .inl h_coast))]) [0, 1] [2, 3, 4, 5, 6] [5, 6, 0, 1, 2, 3, 4] (va_runV (As := [.int p0]) (rest := []) ⟨hx, hb, hml, hown, hts⟩ (c_X7_isThere l D H.size h_a h_there_a h_x_a h_y_a h_speed_a h_sure_a h_coast_a h_met_a h_metSpeed_a h_pairing_a h_there_k p0 h_differ h_there u1 hu1) (cwV 1 hts gX7_read_X7_isThere rfl rfl rfl (by decide +kernel) ⟨Nat.le_of_ble_eq_true rfl, Nat.le_of_ble_eq_true rfl⟩) (xPreV (ci := 7) (q0 := 0) hP hD hK hN rfl rfl [0, 1] rfl rfl [0] rfl) rfl rfl hl.1 rfl (lv_room (Nat.le_of_ble_eq_true rfl)) dX7_read_2 ⟨Nat.zero_le _, Nat.zero_le _⟩) hP hD hS hA rfl rfl rfl (by decide) rfl rfl (fun H locs hP hD hS => ?_)
  refine lv_if_ne (tgt := 10) hx hb dX7_read_5 (by decide) (fun c2 => ?_) (fun c2 => ?_)
  · have ef0 := iff_ ef0 c2
    refine lv_iload_n hx hb dX7_read_10 rfl (lv_at hl 2 rfl) ?_
    by_cases c3 : p1 = (0 : Int32)
    · have ef0 := ift ef0 c3
      refine lv_tableIn (tgt := 44) hx hb dX7_read_11 (by rw [c3]; decide) (by rw [c3]; decide) (by rw [c3]; rfl) (by decide) ?_
      refine lv_iconst (v := (1 : Int32)) hx hb dX7_read_44 (by decide) ?_
      have q0 := Option.some.inj ef0
      exact xIret q0 rfl hx hb hr hlk hP hD hS dX7_read_45
    · have ef0 := iff_ ef0 c3
      by_cases c4 : p1 = (1 : Int32)
      · have ef0 := ift ef0 c4
        refine lv_tableIn (tgt := 46) hx hb dX7_read_11 (by rw [c4]; decide) (by rw [c4]; decide) (by rw [c4]; rfl) (by decide) ?_
        refine lv_aload_n hx hb dX7_read_46 rfl (lv_at hl 0 rfl) ?_
        refine va_get (D := D) (ci := 7) (v := .ref h_sure_a) (C := RX7) (T := TX7) (N := 10) hx hb hts in_wsX7_read_X7 hown hK hP 0 rfl rfl 4 (by decide) (hts (.fieldLink RX7 25 "AssistRows$Tracks" "sure" "[I") (List.mem_of_getElem? (i := 1) rfl)) (fun _ h9 => h9) rfl dX7_read_47 ?_
        refine lv_iload_n hx hb dX7_read_50 rfl (lv_at hl 1 rfl) ?_
        obtain ⟨h5, ef0⟩ := ck_of ef0
        refine va_iald hx hb hK hP 5 4 rfl rfl (inb_of h5) dX7_read_51 ?_
        have q0 := Option.some.inj ef0
        exact xIret q0 rfl hx hb hr hlk hP hD hS dX7_read_52
      · have ef0 := iff_ ef0 c4
        by_cases c6 : p1 = (2 : Int32)
        · have ef0 := ift ef0 c6
          refine lv_tableIn (tgt := 53) hx hb dX7_read_11 (by rw [c6]; decide) (by rw [c6]; decide) (by rw [c6]; rfl) (by decide) ?_
          refine lv_aload_n hx hb dX7_read_53 rfl (lv_at hl 0 rfl) ?_
          refine va_get (D := D) (ci := 7) (v := .ref h_coast_a) (C := RX7) (T := TX7) (N := 10) hx hb hts in_wsX7_read_X7 hown hK hP 0 rfl rfl 5 (by decide) (hts (.fieldLink RX7 29 "AssistRows$Tracks" "coast" "[I") (List.mem_of_getElem? (i := 2) rfl)) (fun _ h9 => h9) rfl dX7_read_54 ?_
          refine lv_iload_n hx hb dX7_read_57 rfl (lv_at hl 1 rfl) ?_
          obtain ⟨h7, ef0⟩ := ck_of ef0
          refine va_iald hx hb hK hP 6 5 rfl rfl (inb_of h7) dX7_read_58 ?_
          have q0 := Option.some.inj ef0
          exact xIret q0 rfl hx hb hr hlk hP hD hS dX7_read_59
        · have ef0 := iff_ ef0 c6
          by_cases c8 : p1 = (3 : Int32)
          · have ef0 := ift ef0 c8
            refine lv_tableIn (tgt := 60) hx hb dX7_read_11 (by rw [c8]; decide) (by rw [c8]; decide) (by rw [c8]; rfl) (by decide) ?_
            refine lv_aload_n hx hb dX7_read_60 rfl (lv_at hl 0 rfl) ?_
            refine va_get (D := D) (ci := 7) (v := .ref h_x_a) (C := RX7) (T := TX7) (N := 10) hx hb hts in_wsX7_read_X7 hown hK hP 0 rfl rfl 1 (by decide) (hts (.fieldLink RX7 15 "AssistRows$Tracks" "x" "[D") (List.mem_of_getElem? (i := 3) rfl)) (fun _ h9 => h9) rfl dX7_read_61 ?_
            refine lv_iload_n hx hb dX7_read_64 rfl (lv_at hl 1 rfl) ?_
            obtain ⟨h9, ef0⟩ := ck_of ef0
            refine va_dald hx hb hK hP 2 1 rfl rfl (inb_of h9) dX7_read_65 ?_
            refine lv_ldc2d hx hb hown (hts (.constantDouble RX7 85 (4636737291354636288)) (List.mem_of_getElem? (i := 4) rfl)) dX7_read_66 ?_
            obtain ⟨h10, ef0⟩ := ck_of ef0
            refine lv_dmul hx hb dX7_read_69 (nn_of h10) ?_
            refine lv_d2i hx hb dX7_read_70 ?_
            have q0 := Option.some.inj ef0
            exact xIret q0 rfl hx hb hr hlk hP hD hS dX7_read_71
          · have ef0 := iff_ ef0 c8
            by_cases c11 : p1 = (4 : Int32)
            · have ef0 := ift ef0 c11
              refine lv_tableIn (tgt := 72) hx hb dX7_read_11 (by rw [c11]; decide) (by rw [c11]; decide) (by rw [c11]; rfl) (by decide) ?_
              refine lv_aload_n hx hb dX7_read_72 rfl (lv_at hl 0 rfl) ?_
              refine va_get (D := D) (ci := 7) (v := .ref h_y_a) (C := RX7) (T := TX7) (N := 10) hx hb hts in_wsX7_read_X7 hown hK hP 0 rfl rfl 2 (by decide) (hts (.fieldLink RX7 19 "AssistRows$Tracks" "y" "[D") (List.mem_of_getElem? (i := 5) rfl)) (fun _ h9 => h9) rfl dX7_read_73 ?_
              refine lv_iload_n hx hb dX7_read_76 rfl (lv_at hl 1 rfl) ?_
              obtain ⟨h12, ef0⟩ := ck_of ef0
              refine va_dald hx hb hK hP 3 2 rfl rfl (inb_of h12) dX7_read_77 ?_
              refine lv_ldc2d hx hb hown (hts (.constantDouble RX7 85 (4636737291354636288)) (List.mem_of_getElem? (i := 4) rfl)) dX7_read_78 ?_
              obtain ⟨h13, ef0⟩ := ck_of ef0
              refine lv_dmul hx hb dX7_read_81 (nn_of h13) ?_
              refine lv_d2i hx hb dX7_read_82 ?_
              have q0 := Option.some.inj ef0
              exact xIret q0 rfl hx hb hr hlk hP hD hS dX7_read_83
            · have ef0 := iff_ ef0 c11
              have qc3 := toInt_ne c3 (z := 0) (by decide)
              have qc4 := toInt_ne c4 (z := 1) (by decide)
              have qc6 := toInt_ne c6 (z := 2) (by decide)
              have qc8 := toInt_ne c8 (z := 3) (by decide)
              have qc11 := toInt_ne c11 (z := 4) (by decide)
              refine lv_tableOut (tgt := 84) hx hb dX7_read_11 (by omega) (by decide) ?_
              refine lv_aload_n hx hb dX7_read_84 rfl (lv_at hl 0 rfl) ?_
              refine va_get (D := D) (ci := 7) (v := .ref h_speed_a) (C := RX7) (T := TX7) (N := 10) hx hb hts in_wsX7_read_X7 hown hK hP 0 rfl rfl 3 (by decide) (hts (.fieldLink RX7 22 "AssistRows$Tracks" "speed" "[D") (List.mem_of_getElem? (i := 6) rfl)) (fun _ h9 => h9) rfl dX7_read_85 ?_
              refine lv_iload_n hx hb dX7_read_88 rfl (lv_at hl 1 rfl) ?_
              obtain ⟨h14, ef0⟩ := ck_of ef0
              refine va_dald hx hb hK hP 4 3 rfl rfl (inb_of h14) dX7_read_89 ?_
              refine lv_ldc2d hx hb hown (hts (.constantDouble RX7 85 (4636737291354636288)) (List.mem_of_getElem? (i := 4) rfl)) dX7_read_90 ?_
              obtain ⟨h15, ef0⟩ := ck_of ef0
              refine lv_dmul hx hb dX7_read_93 (nn_of h15) ?_
              refine lv_d2i hx hb dX7_read_94 ?_
              have q0 := Option.some.inj ef0
              exact xIret q0 rfl hx hb hr hlk hP hD hS dX7_read_95
  · have ef0 := ift ef0 c2
    refine lv_iconst (v := (0 : Int32)) hx hb dX7_read_8 (by decide) ?_
    have q0 := Option.some.inj ef0
    exact xIret q0 rfl hx hb hr hlk hP hD hS dX7_read_9
