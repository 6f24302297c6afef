theorem in_wsX5_keep_X5 : ∀ w ∈ wsX50, w ∈ wsX5_keep := fun _ h => List.mem_cons_of_mem _ (List.mem_append_right _ h)
def f_X5_keep_l1 (h_tried : Nat → Int32) : Nat → Int32 → (Nat → Int32) → Option ((Nat → Int32))
  | 0, _, _ => none
  | n + 1, a4, a5 =>
  if (4 : Int32) ≤ a4 then (
  some a5) else
  ck (inb a4 4 = true) <|
  ck (inb a4 4 = true) <|
  (f_X5_keep_l1 h_tried n) (a4 + 1) (upd a5 a4.toNatClampNeg (h_tried a4.toNatClampNeg))
def f_X5_keep (p0 : Int32) (p1 : Int32) (h_best : Nat → Int32) (h_tried : Nat → Int32) : Option (Int32 × Int32 × (Nat → Int32)) :=
  (f_X5_keep_l1 h_tried 16 (0 : Int32) h_best).bind fun w9 =>
  some (p0, p1, w9)
set_option maxHeartbeats 4000000 in
set_option maxRecDepth 100000 in
theorem c_X5_keep (l : Launch) (D : va_G) (sz : Nat) (h_a : Nat) (h_best_a : Nat) (h_tried_a : Nat) (h_costs_a : Nat) (h_taken_a : Nat) (h_best_k : ClassId) (h_tried_k : ClassId) (p0 : Int32) (p1 : Int32) (h_count : Int32) (h_bestJoined : Int32) (h_bestSum : Int32) (h_best : Nat → Int32) (h_tried : Nat → Int32) (r0 : Int32) (r1 : Int32) (r2 : Nat → Int32) (hf : f_X5_keep p0 p1 h_best h_tried = some (r0, r1, r2)) : Met l yX5_keep wsX5_keep { frames := 0, cells := 0, slots := 0, locals := 0 } (va_Pc [.ref h_a, .int p0, .int p1] (xPre D [(h_a, .inr (5, [.ref h_best_a, .ref h_tried_a, .ref h_costs_a, .ref h_taken_a, .int h_count, .int h_bestJoined, .int h_bestSum])), (h_best_a, .inl (h_best_k, 4, .inl h_best)), (h_tried_a, .inl (h_tried_k, 4, .inl h_tried))] [(h_best_k, .int), (h_tried_k, .int)] sz)) (va_Qv (fun (_ : Unit) => True) (fun _ => xB D (va_A [(h_a, .inr (5, [.ref h_best_a, .ref h_tried_a, .ref h_costs_a, .ref h_taken_a, .int h_count, .int h_bestJoined, .int h_bestSum])), (h_best_a, .inl (h_best_k, 4, .inl h_best)), (h_tried_a, .inl (h_tried_k, 4, .inl h_tried))] sz) [(h_a, .inr (5, [.ref h_best_a, .ref h_tried_a, .ref h_costs_a, .ref h_taken_a, .int h_count, .int r0, .int r1])), (h_best_a, .inl (h_best_k, 4, .inl r2)), (h_tried_a, .inl (h_tried_k, 4, .inl h_tried))]) (va_A [(h_a, .inr (5, [.ref h_best_a, .ref h_tried_a, .ref h_costs_a, .ref h_taken_a, .int h_count, .int h_bestJoined, .int h_bestSum])), (h_best_a, .inl (h_best_k, 4, .inl h_best)), (h_tried_a, .inl (h_tried_k, 4, .inl h_tried))] sz)) 0 0 (va_A [(h_a, .inr (5, [.ref h_best_a, .ref h_tried_a, .ref h_costs_a, .ref h_taken_a, .int h_count, .int h_bestJoined, .int h_bestSum])), (h_best_a, .inl (h_best_k, 4, .inl h_best)), (h_tried_a, .inl (h_tried_k, 4, .inl h_tried))] sz) := by
  refine xOfW (l := l) (y := yX5_keep) (ws := wsX5_keep) (D := D) (cells := [(h_a, .inr (5, [.ref h_best_a, .ref h_tried_a, .ref h_costs_a, .ref h_taken_a, .int h_count, .int h_bestJoined, .int h_bestSum])), (h_best_a, .inl (h_best_k, 4, .inl h_best)), (h_tried_a, .inl (h_tried_k, 4, .inl h_tried))]) (tys := [(h_best_k, .int), (h_tried_k, .int)]) (sz := sz) (av := [.ref h_a, .int p0, .int p1]) (cc := cX5_keep) (maxL := 4) (ret := none) (fun A => va_Qv (fun (_ : Unit) => True) (fun _ => xB D A [(h_a, .inr (5, [.ref h_best_a, .ref h_tried_a, .ref h_costs_a, .ref h_taken_a, .int h_count, .int r0, .int r1])), (h_best_a, .inl (h_best_k, 4, .inl r2)), (h_tried_a, .inl (h_tried_k, 4, .inl h_tried))]) A) (by decide) rfl (Nat.le_of_ble_eq_true rfl) ?_
  intro p e s m below meth c A H ls hx hb hr hml hown hlk hts hP hK hD hS hA hN hl
  have hl : lv_has ls 4 [(0, .ref h_a), (1, .int p0), (2, .int p1)] := hl
  have hown : s.vm.findClass RX5 = some m.cls := hown
  have ef0 : f_X5_keep p0 p1 h_best h_tried = some (r0, r1, r2) := hf
  rewrite [f_X5_keep] at ef0
  refine lv_aload_n hx hb dX5_keep_0 rfl (lv_at hl 0 rfl) ?_
  refine lv_iload_n hx hb dX5_keep_1 rfl (lv_at hl 1 rfl) ?_
  refine va_put (D := D) (ci := 5) (v := .int p0) (ty := .int) (C := RX5) (T := TX5) (N := 7) hx hb hts in_wsX5_keep_X5 tyX5 tyX5_ok nmX5 hown hK hP hD hS 0 rfl rfl 5 (by decide) (hts (.fieldLink RX5 32 "AssistRows$Pairing" "bestJoined" "I") (List.mem_of_getElem? (i := 1) rfl)) (fun _ h9 => h9) rfl (by decide +kernel) rfl rfl (Nat.le_of_ble_eq_true rfl) dX5_keep_2 (fun H locs hP hD hS => ?_)
  have hP : va_P D vwCl [(h_a, .inr (5, [.ref h_best_a, .ref h_tried_a, .ref h_costs_a, .ref h_taken_a, .int h_count, .int p0, .int h_bestSum])), (h_best_a, .inl (h_best_k, 4, .inl h_best)), (h_tried_a, .inl (h_tried_k, 4, .inl h_tried))] H := hP
  have hD : va_D A [(h_a, .inr (5, [.ref h_best_a, .ref h_tried_a, .ref h_costs_a, .ref h_taken_a, .int h_count, .int p0, .int h_bestSum])), (h_best_a, .inl (h_best_k, 4, .inl h_best)), (h_tried_a, .inl (h_tried_k, 4, .inl h_tried))] := hD
  refine lv_aload_n hx hb dX5_keep_5 rfl (lv_at hl 0 rfl) ?_
  refine lv_iload_n hx hb dX5_keep_6 rfl (lv_at hl 2 rfl) ?_
  refine va_put (D := D) (ci := 5) (v := .int p1) (ty := .int) (C := RX5) (T := TX5) (N := 7) hx hb hts in_wsX5_keep_X5 tyX5 tyX5_ok nmX5 hown hK hP hD hS 0 rfl rfl 6 (by decide) (hts (.fieldLink RX5 35 "AssistRows$Pairing" "bestSum" "I") (List.mem_of_getElem? (i := 2) rfl)) (fun _ h9 => h9) rfl (by decide +kernel) rfl rfl (Nat.le_of_ble_eq_true rfl) dX5_keep_7 (fun H locs hP hD hS => ?_)
  have hP : va_P D vwCl [(h_a, .inr (5, [.ref h_best_a, .ref h_tried_a, .ref h_costs_a, .ref h_taken_a, .int h_count, .int p0, .int p1])), (h_best_a, .inl (h_best_k, 4, .inl h_best)), (h_tried_a, .inl (h_tried_k, 4, .inl h_tried))] H := hP
  have hD : va_D A [(h_a, .inr (5, [.ref h_best_a, .ref h_tried_a, .ref h_costs_a, .ref h_taken_a, .int h_count, .int p0, .int p1])), (h_best_a, .inl (h_best_k, 4, .inl h_best)), (h_tried_a, .inl (h_tried_k, 4, .inl h_tried))] := hD
  refine lv_iconst (v := (0 : Int32)) hx hb dX5_keep_10 (by decide) ?_
  refine lv_istore_n (lv' := [(3, .int (0 : Int32)), (0, .ref h_a), (1, .int p0), (2, .int p1)]) hx hb dX5_keep_11 rfl hl (by decide) rfl (fun ls hl => ?_)
  obtain ⟨zw9, hw9, ef0⟩ := bd_of ef0
  refine xCut (ι := (Nat → Int32)) (fun z H locs ls => z = zw9 ∧ va_P D vwCl [(h_a, .inr (5, [.ref h_best_a, .ref h_tried_a, .ref h_costs_a, .ref h_taken_a, .int h_count, .int p0, .int p1])), (h_best_a, .inl (h_best_k, 4, .inl z)), (h_tried_a, .inl (h_tried_k, 4, .inl h_tried))] H ∧ va_D A [(h_a, .inr (5, [.ref h_best_a, .ref h_tried_a, .ref h_costs_a, .ref h_taken_a, .int h_count, .int p0, .int p1])), (h_best_a, .inl (h_best_k, 4, .inl z)), (h_tried_a, .inl (h_tried_k, 4, .inl h_tried))] ∧ va_S A s.heap H locs ∧ lv_has ls 4 []) 35 (fun _ => []) ?_ (fun E1 => ?_)
  · intro w9 H locs ls hz
    obtain ⟨hz, hP, hD, hS, hl⟩ := hz
    subst hz
    have q0 := Option.some.inj ef0
    obtain ⟨t0, q1⟩ := Prod.mk.inj q0
    obtain ⟨t1, q2⟩ := Prod.mk.inj q1
    exact xVret (by rw [← t0, ← t1, ← q2]) hx hb hr hlk hP hD hS dX5_keep_35
  · refine xLoop (ι := Int32 × (Nat → Int32)) (fun n z H locs ls => f_X5_keep_l1 h_tried n z.1 z.2 = some zw9 ∧ va_P D vwCl [(h_a, .inr (5, [.ref h_best_a, .ref h_tried_a, .ref h_costs_a, .ref h_taken_a, .int h_count, .int p0, .int p1])), (h_best_a, .inl (h_best_k, 4, .inl z.2)), (h_tried_a, .inl (h_tried_k, 4, .inl h_tried))] H ∧ va_D A [(h_a, .inr (5, [.ref h_best_a, .ref h_tried_a, .ref h_costs_a, .ref h_taken_a, .int h_count, .int p0, .int p1])), (h_best_a, .inl (h_best_k, 4, .inl z.2)), (h_tried_a, .inl (h_tried_k, 4, .inl h_tried))] ∧ va_S A s.heap H locs ∧ lv_has ls 4 [(0, .ref h_a), (3, .int z.1)]) 12 (fun _ => []) (fun z _ _ _ h => absurd (show (none : Option ((Nat → Int32))) = some _ from h.1) (fun h => nomatch h)) ?_ (fun L1 => ?_)
    · intro n L1 z H locs ls hz
      obtain ⟨a4, a5⟩ := z
      obtain ⟨ef1, hP, hD, hS, hl⟩ := hz
      have ef1 : f_X5_keep_l1 h_tried (n + 1) a4 a5 = some zw9 := ef1
      have hP : va_P D vwCl [(h_a, .inr (5, [.ref h_best_a, .ref h_tried_a, .ref h_costs_a, .ref h_taken_a, .int h_count, .int p0, .int p1])), (h_best_a, .inl (h_best_k, 4, .inl a5)), (h_tried_a, .inl (h_tried_k, 4, .inl h_tried))] H := hP
      have hD : va_D A [(h_a, .inr (5, [.ref h_best_a, .ref h_tried_a, .ref h_costs_a, .ref h_taken_a, .int h_count, .int p0, .int p1])), (h_best_a, .inl (h_best_k, 4, .inl a5)), (h_tried_a, .inl (h_tried_k, 4, .inl h_tried))] := hD
      have hl : lv_has ls 4 [(0, .ref h_a), (3, .int a4)] := hl
      rewrite [f_X5_keep_l1] at ef1
      refine lv_iload_n hx hb dX5_keep_12 rfl (lv_at hl 1 rfl) ?_
      refine lv_iconst (v := (4 : Int32)) hx hb dX5_keep_13 (by decide) ?_
      refine lv_icmp_ge (tgt := 35) hx hb dX5_keep_14 (by decide) (fun c6 => ?_) (fun c6 => ?_)
      · have ef1 := ift ef1 c6
        exact E1 a5 _ _ _ ⟨Option.some.inj ef1, hP, hD, hS, lv_sub hl [] rfl⟩
      · have ef1 := iff_ ef1 c6
        refine lv_aload_n hx hb dX5_keep_17 rfl (lv_at hl 0 rfl) ?_
        refine va_get (D := D) (ci := 5) (v := .ref h_best_a) (C := RX5) (T := TX5) (N := 7) hx hb hts in_wsX5_keep_X5 hown hK hP 0 rfl rfl 0 (by decide) (hts (.fieldLink RX5 9 "AssistRows$Pairing" "best" "[I") (List.mem_of_getElem? (i := 3) rfl)) (fun _ h9 => h9) rfl dX5_keep_18 ?_
        refine lv_iload_n hx hb dX5_keep_21 rfl (lv_at hl 1 rfl) ?_
        refine lv_aload_n hx hb dX5_keep_22 rfl (lv_at hl 0 rfl) ?_
        refine va_get (D := D) (ci := 5) (v := .ref h_tried_a) (C := RX5) (T := TX5) (N := 7) hx hb hts in_wsX5_keep_X5 hown hK hP 0 rfl rfl 1 (by decide) (hts (.fieldLink RX5 15 "AssistRows$Pairing" "tried" "[I") (List.mem_of_getElem? (i := 4) rfl)) (fun _ h9 => h9) rfl dX5_keep_23 ?_
        refine lv_iload_n hx hb dX5_keep_26 rfl (lv_at hl 1 rfl) ?_
        obtain ⟨h7, ef1⟩ := ck_of ef1
        refine va_iald hx hb hK hP 2 1 rfl rfl (inb_of h7) dX5_keep_27 ?_
        obtain ⟨h8, ef1⟩ := ck_of ef1
        refine va_iast hx hb hK hP hD hS 1 0 rfl rfl (inb_of h8) dX5_keep_28 (fun H locs hP hD hS => ?_)
        have hP : va_P D vwCl [(h_a, .inr (5, [.ref h_best_a, .ref h_tried_a, .ref h_costs_a, .ref h_taken_a, .int h_count, .int p0, .int p1])), (h_best_a, .inl (h_best_k, 4, .inl (upd a5 a4.toNatClampNeg (h_tried a4.toNatClampNeg)))), (h_tried_a, .inl (h_tried_k, 4, .inl h_tried))] H := hP
        have hD : va_D A [(h_a, .inr (5, [.ref h_best_a, .ref h_tried_a, .ref h_costs_a, .ref h_taken_a, .int h_count, .int p0, .int p1])), (h_best_a, .inl (h_best_k, 4, .inl (upd a5 a4.toNatClampNeg (h_tried a4.toNatClampNeg)))), (h_tried_a, .inl (h_tried_k, 4, .inl h_tried))] := hD
        refine lv_iinc (v := (a4 + 1)) (lv' := [(3, .int (a4 + 1)), (0, .ref h_a)]) hx hb dX5_keep_29 hl (k := 1) rfl rfl (by decide) rfl (fun ls hl => ?_)
        refine lv_goto (tgt := 12) hx hb dX5_keep_32 (by decide) ?_
        exact L1 ((a4 + 1), (upd a5 a4.toNatClampNeg (h_tried a4.toNatClampNeg))) _ _ _ ⟨ef1, hP, hD, hS, lv_sub hl [1, 0] rfl⟩
    · exact L1 16 ((0 : Int32), h_best) _ _ _ ⟨hw9, hP, hD, hS, lv_sub hl [1, 0] rfl⟩
