/-! the class's one throw, and the law's catch -/
section XTHROW
/-- what a throw needs of the world: the text, two statics of Throwable that stay, four words -/
def xTh (A : Nat → Prop) (sa : Nat) (U : State) : Prop := vk_R RX8 192 "a speed of 0" sa U ∧ vx_Zq Bundle.tN "UNASSIGNED_STACK" Bundle.steD A U U.heap ∧ vx_Zq Bundle.tN "SUPPRESSED_SENTINEL" Bundle.listD A U U.heap ∧ va_Nw (.declares (Bundle.initS "java/lang/RuntimeException")) U ∧ va_Nw (.declares (Bundle.initS "java/lang/Exception")) U ∧ va_Nw (.declares (Bundle.initS "java/lang/Throwable")) U ∧ va_Nw (.castable "java/lang/ArithmeticException" "java/lang/ArithmeticException") U
theorem xTh_call {A0 A : Nat → Prop} {sa : Nat} {s U : State} {H : Heap} {locs : List Loc} (h : xTh A0 sa s) (hS : va_S A0 s.heap H locs) (hAB : ∀ q, A q → A0 q) (hU : U.heap = H) (hW : s.WarmedH U.vm) : xTh A sa U := by
  obtain ⟨h1, h2, h3, h4, h5, h6, h7⟩ := h
  refine ⟨vk_R.warm hW h1, ?_, ?_, va_Nw.warmD hW h4, va_Nw.warmD hW h5, va_Nw.warmD hW h6, va_Nw.warmC hW h7⟩
  · rw [hU]; exact ((h2.kept (fun a ha hn => hS.2.1 a ha hn)).narrow hAB).moved hW.alike
  · rw [hU]; exact ((h3.kept (fun a ha hn => hS.2.1 a ha hn)).narrow hAB).moved hW.alike
theorem xTh_blind {A : Nat → Prop} {sa : Nat} {U : State} {g : JFrame} {mk : MethodId} {a : Array Value} (h : xTh A sa U) : xTh A sa (U.calling g mk a) := by
  obtain ⟨h1, h2, h3, h4, h5, h6, h7⟩ := h
  exact ⟨vk_R.same (u := U) rfl h1, vx_Zq.moved (u := U) (U := U.calling g mk a) (Vm.Alike.refl U.vm) h2, vx_Zq.moved (u := U) (U := U.calling g mk a) (Vm.Alike.refl U.vm) h3, va_Nw.same (u := U) rfl rfl h4, va_Nw.same (u := U) rfl rfl h5, va_Nw.same (u := U) rfl rfl h6, va_Nw.same (u := U) rfl rfl h7⟩
theorem lg0 {x : Int64} (h : lg_cmp x 0 = 0) : x = 0 := by
  unfold lg_cmp at h
  by_cases h1 : x > 0
  · rw [if_pos h1] at h; exact absurd h (by decide)
  · rw [if_neg h1] at h
    by_cases h2 : x = 0
    · exact h2
    · rw [if_neg h2] at h; exact absurd h (by decide)
abbrev xAE : String := "java/lang/ArithmeticException"
abbrev xNs : List String := ["java/lang/RuntimeException", "java/lang/Exception"]
abbrev xBw : List Cond := [.declares (Bundle.initS "java/lang/RuntimeException"), .declares (Bundle.initS "java/lang/Exception"), .declares (Bundle.initS "java/lang/Throwable"), .castable "java/lang/ArithmeticException" "java/lang/ArithmeticException"]
theorem xBw_in : ∀ w ∈ (vx_atS RX8 194 xAE xNs).filter (fun w => !goodWord w), w ∈ xBw := by decide +kernel
theorem xBw_ot : ∀ w ∈ Cond.classLink RX8 190 xAE :: Cond.initialized xAE :: vx_atS RX8 194 xAE xNs, vx_ot w = true := by decide +kernel
set_option maxHeartbeats 4000000 in
set_option maxRecDepth 100000 in
theorem c_X8_whole (l : Launch) (hlt : l.stackTraces = false) (sz sa h_a : Nat) (p0 p1 : Int64) : vx_Met l yX8_whole wsX8_whole { frames := 6, cells := 1, slots := 6, locals := 90 } (va_Pc [.ref h_a, .long p0, .long p1] (fun U => U.heap.size = sz ∧ xTh (fun q => sz ≤ q) sa U)) (va_Ql (fun (x : Int64) (_ : Unit) => ¬ p1 = 0 ∧ x = p0 / p1) (fun _ _ => True) (fun q => sz ≤ q)) (vx_X (fun (_ : Unit) => p1 = 0) (fun E _ _ => E = xAE) (fun q => sz ≤ q)) 1 6 (fun q => sz ≤ q) := by
  refine vx_ofW (cc := cX8_whole) (maxL := 5) (ret := (some .long)) (by decide) rfl ?_
  intro p e s m args below meth c s₁ B hml hout hv
  obtain ⟨rfl, hsz, hT⟩ := hv
  have hx := B.exec
  have hb := B.bytes
  have hr := B.returns
  have hlk := B.notSynchronized
  have hts := atoms_spec (ws := wsX8_whole) B.pre
  have hown : s.vm.findClass RX8 = some m.cls := findClass_of_methodNamed B.named
  subst hsz
  have hS : va_S (fun q : Nat => s.heap.size ≤ q) s.heap s.heap [] := va_S.rf
  have hl := lv_entry ([.ref h_a, .long p0, .long p1]) (n := 5) (Nat.le_of_ble_eq_true rfl)
  rw [lg_entry_eq]
  generalize (lg_sl ([.ref h_a, .long p0, .long p1]) ++ List.replicate (5 - (lg_sl ([.ref h_a, .long p0, .long p1])).length) Slot.unset).toArray = ls at hl ⊢
  have hl : lv_has ls 5 [(0, .ref h_a), (1, .long p0), (3, .long p1)] := hl
  refine lv_lload_n hx hb dX8_whole_0 rfl (lv_at hl 2 rfl) ?_
  refine lv_lconst (v := (0 : Int64)) hx hb dX8_whole_1 (by decide) ?_
  refine W.lcmp hx hb dX8_whole_2 ?_
  refine lv_if_ne (tgt := 16) hx hb dX8_whole_3 (by decide) (fun c1 => ?_) (fun c1 => ?_)
  · have hne : ¬ p1 = 0 := fun h => c1 (by rw [h]; decide)
    refine lv_lload_n hx hb dX8_whole_16 rfl (lv_at hl 1 rfl) ?_
    refine lv_lload_n hx hb dX8_whole_17 rfl (lv_at hl 2 rfl) ?_
    refine lv_ldiv hx hb dX8_whole_18 hne ?_
    refine W.widen (k := 1) (n := 6) (Nat.le_of_ble_eq_true rfl) (Nat.le_of_ble_eq_true rfl) ?_
    exact vx_ret (W.lret hx hb hr (fun t ht _ => ⟨⟨p0 / p1, (), rfl, ⟨hne, rfl⟩, trivial⟩, hS.F ht⟩) hS.2.2 dX8_whole_19 hlk)
  · have hz := lg0 c1
    have hat : ∀ w ∈ vx_atS RX8 194 xAE xNs, w.before (#[Value.ref h_a, Value.long p0, Value.long p1]) s = true := vx_hat (fun w h => hts w (List.mem_cons_of_mem _ (List.mem_append_right _ h))) xBw_in (vx_c (va_Nw.use rfl hT.2.2.2.1) (vx_c (va_Nw.use rfl hT.2.2.2.2.1) (vx_c (va_Nw.use rfl hT.2.2.2.2.2.1) (vx_c (va_Nw.use rfl hT.2.2.2.2.2.2) vx_n))))
    exact vx_throwS (own := RX8) (cls := xAE) (text := "a speed of 0") (names := xNs) (ik := 190) (is := 192) (ic := 194) (mc := 1) (ms := 6) (sa := sa) (A := fun q : Nat => s.heap.size ≤ q) hx hb hlt hown (by decide) (by decide) (hts (.classLink RX8 190 "java/lang/ArithmeticException") (List.mem_of_getElem? (i := 1) rfl)) (hts (.initialized "java/lang/ArithmeticException") (List.mem_of_getElem? (i := 2) rfl)) hT.1 hat xBw_ot hT.2.1 hT.2.2.1 hS (hl.1.trans hml.symm) dX8_whole_6 dX8_whole_9 dX8_whole_10 dX8_whole_12 dX8_whole_15 (fun x h => absurd (hout x h) (fun h => h)) (Nat.le_of_ble_eq_true rfl) (Nat.le_of_ble_eq_true rfl) (Nat.le_of_ble_eq_true rfl) (Nat.le_of_ble_eq_true rfl) hlk (fun t _ h1 h2 => ⟨(), hz, rfl, h1, fun q hq _ => h2 q hq⟩) (fun z h => absurd h List.not_mem_nil) (Nat.le_refl _) (Nat.le_refl _)
/-- the law's helper starts here -/
def xPreL (D : va_G) (ws : va_W) (tys : List (ClassId × FieldType)) (sz sa : Nat) (U : State) : Prop := U.heap.size = sz ∧ va_P D vwCl ws U.heap ∧ va_K D vwCl tys U ∧ va_D (fun _ => True) ws ∧ xTh (va_A ws sz) sa U
theorem xPreL_blind {D : va_G} {ws : va_W} {tys : List (ClassId × FieldType)} {sz sa : Nat} {av : List Value} : FrameBlind (va_Pc av (xPreL D ws tys sz sa)) := by
  intro a U g mk q
  obtain ⟨q0, q1, qP, qK, qD, qT⟩ := q
  exact ⟨q0, q1, qP, va_K.moved (u := U) (U := U.calling g mk a) (Vm.Alike.refl U.vm) qK, qD, xTh_blind qT⟩
theorem xPreT_blind {sz sa : Nat} {av : List Value} : FrameBlind (va_Pc av (fun U => U.heap.size = sz ∧ xTh (fun q => sz ≤ q) sa U)) := by
  intro a U g mk q
  obtain ⟨q0, q1, qT⟩ := q
  exact ⟨q0, q1, xTh_blind qT⟩
set_option maxHeartbeats 4000000 in
set_option maxRecDepth 100000 in
theorem c_L_whole (l : Launch) (hlt : l.stackTraces = false) (D : va_G) (sz sa x_a o_a : Nat) (k : ClassId) (fs : List Value) (p0 p1 : Int64) (f g : Nat → Int64) (r : Int32) (h1 : p1 = 0 → r = 1 ∧ g = f) (h2 : ¬ p1 = 0 → r = 0 ∧ g = vp_updL f 0 (p0 / p1)) : vx_Met l yL_whole wsL_whole { frames := 7, cells := 1, slots := 6, locals := 120 } (va_Pc [.ref x_a, .long p0, .long p1, .ref o_a] (xPreL D [(x_a, .inr (8, fs)), (o_a, .inl (k, 1, .inr (.inl f)))] [(k, .long)] sz sa)) (va_Qi (fun (x : Int32) (_ : Unit) => x = r) (fun _ => xB D (va_A [(x_a, .inr (8, fs)), (o_a, .inl (k, 1, .inr (.inl f)))] sz) [(x_a, .inr (8, fs)), (o_a, .inl (k, 1, .inr (.inl g)))]) (va_A [(x_a, .inr (8, fs)), (o_a, .inl (k, 1, .inr (.inl f)))] sz)) (vx_X (fun (_ : Unit) => False) (fun _ _ _ => True) (fun _ => False)) 1 6 (va_A [(x_a, .inr (8, fs)), (o_a, .inl (k, 1, .inr (.inl f)))] sz) := by
  refine vx_ofWH (cc := cL_whole) (maxL := 7) (ret := (some .int)) (hh := [(0, 10, 13, 13)]) (by decide) rfl ?_
  intro p e s m args below meth c s₁ B hml hv
  obtain ⟨rfl, hsz, hP, hK, hD0, hT⟩ := hv
  have hx := B.exec
  have hb := B.bytes
  have hr := B.returns
  have hlk := B.notSynchronized
  have hts := atoms_spec (ws := wsL_whole) B.pre
  have hown : s.vm.findClass RL = some m.cls := findClass_of_methodNamed B.named
  have htab := vx_table (x := yL_whole) B (hts (.codeWith yL_whole cL_whole 7 (some .int) [(0, 10, 13, 13)]) List.mem_cons_self)
  subst hsz
  have hD := hD0.self (sz := s.heap.size)
  generalize hAe : va_A [(x_a, .inr (8, fs)), (o_a, .inl (k, 1, .inr (.inl f)))] s.heap.size = A at hD hT ⊢
  have hA : ∀ q : Nat, s.heap.size ≤ q → A q := fun q h => by rw [← hAe]; exact Or.inr h
  have hS : va_S A s.heap s.heap [] := va_S.rf
  have hl := lv_entry ([.ref x_a, .long p0, .long p1, .ref o_a]) (n := 7) (Nat.le_of_ble_eq_true rfl)
  rw [lg_entry_eq]
  generalize (lg_sl ([.ref x_a, .long p0, .long p1, .ref o_a]) ++ List.replicate (7 - (lg_sl ([.ref x_a, .long p0, .long p1, .ref o_a])).length) Slot.unset).toArray = ls at hl ⊢
  have hl : lv_has ls 7 [(0, .ref x_a), (1, .long p0), (3, .long p1), (5, .ref o_a)] := hl
  refine lv_aload hx hb dL_whole_0 (lv_at hl 3 rfl) ?_
  refine lv_iconst (v := (0 : Int32)) hx hb dL_whole_2 (by decide) ?_
  refine lv_aload_n hx hb dL_whole_3 rfl (lv_at hl 0 rfl) ?_
  refine lv_lload_n hx hb dL_whole_4 rfl (lv_at hl 1 rfl) ?_
  refine lv_lload_n hx hb dL_whole_5 rfl (lv_at hl 2 rfl) ?_
  refine vx_calll (vx_runV (As := [.long p0, .long p1]) (rest := [.int (0 : Int32), .ref o_a]) ⟨hx, hb, hml, hown, hts⟩ (c_X8_whole l hlt s.heap.size sa x_a p0 p1) (cwV 2 hts gL_whole_X8_whole rfl rfl rfl (by decide +kernel) ⟨Nat.le_of_ble_eq_true rfl, Nat.le_of_ble_eq_true rfl⟩) ⟨xPreT_blind, va_recv hK hP (ci := 8) (q0 := 0) rfl rfl, fun U hU hW => ⟨rfl, by rw [hU], xTh_call hT hS (fun q h => hA q h) hU hW⟩⟩ rfl rfl hl.1 rfl (lv_room (Nat.le_of_ble_eq_true rfl)) dL_whole_6 ⟨Nat.le_of_ble_eq_true rfl, Nat.le_of_ble_eq_true rfl⟩) hS (fun q h1 h2 => absurd h1 (Nat.not_lt.mpr h2)) (fun q h => hA q h) (fun q h1 h2 => absurd h1 (Nat.not_lt.mpr h2)) (fun E ce q9 u t H locs ht hvm hz hE hz1 hk1 hS hq9 hv9 hc9 => ?_) (fun x u t H locs ht hvm hw hB hz1 hk1 hS => ?_)
  · have hP := hP.kept (fun k q hq => hk1 q.1 (hP k q hq).lt (Nat.not_le.mpr (hP k q hq).lt))
    obtain ⟨e1, e2⟩ := h1 hz
    subst hE
    refine vx_catch (own := RL) (name := xAE) (E := xAE) hown [] ⟨0, 10, 13, 13⟩ [] (by rw [htab]; rfl) (fun z h => absurd h List.not_mem_nil) (by decide) (by decide) (hts (.classLink RL 13 "java/lang/ArithmeticException") (List.mem_of_getElem? (i := 1) rfl)) (va_Nw.use rfl hT.2.2.2.2.2.2) hq9 hv9 hc9 ?_
    refine lv_astore (lv' := [(6, .ref q9), (0, .ref x_a), (1, .long p0), (3, .long p1), (5, .ref o_a)]) hx hb dL_whole_13 hl (by decide) rfl (fun ls hl => ?_)
    refine lv_iconst (v := (1 : Int32)) hx hb dL_whole_15 (by decide) ?_
    refine W.widen (k := 1) (n := 6) (Nat.le_of_ble_eq_true rfl) (Nat.le_of_ble_eq_true rfl) ?_
    exact vx_ret (xIret e1.symm (by rw [e2]) hx hb hr hlk hP hD hS dL_whole_16)
  · have hP := hP.kept (fun k q hq => hk1 q.1 (hP k q hq).lt (Nat.not_le.mpr (hP k q hq).lt))
    obtain ⟨e1, e2⟩ := h2 hw.1
    refine va_last hx hb hK hP hD hS 1 0 rfl rfl (inb_of (i := 0) (n := 1) (by decide)) dL_whole_9 (fun H locs hP hD hS => ?_)
    refine lv_goto (tgt := 17) hx hb dL_whole_10 (by decide) ?_
    refine lv_iconst (v := (0 : Int32)) hx hb dL_whole_17 (by decide) ?_
    refine W.widen (k := 1) (n := 6) (Nat.le_of_ble_eq_true rfl) (Nat.le_of_ble_eq_true rfl) ?_
    have hP : va_P D vwCl [(x_a, .inr (8, fs)), (o_a, .inl (k, 1, .inr (.inl (vp_updL f 0 x))))] H := hP
    have hD : va_D A [(x_a, .inr (8, fs)), (o_a, .inl (k, 1, .inr (.inl (vp_updL f 0 x))))] := hD
    exact vx_ret (xIret e1.symm (by rw [e2, hw.2]) hx hb hr hlk hP hD hS dL_whole_18)
end XTHROW
