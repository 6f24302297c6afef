/-! My base: partial pure functions that the walks answer to, and short forms of the kit's rows. -/
section XBASE
def ck {α : Type} (b : Prop) [Decidable b] (k : Option α) : Option α := if b then k else none
theorem ck_of {α : Type} {b : Prop} [Decidable b] {k : Option α} {r : α} (h : ck b k = some r) : b ∧ k = some r := by
  unfold ck at h
  by_cases hb : b
  · rw [if_pos hb] at h; exact ⟨hb, h⟩
  · rw [if_neg hb] at h; cases h
theorem ck_eq {α : Type} {b : Prop} [Decidable b] {k : Option α} (hb : b) : ck b k = k := if_pos hb
theorem ift {α : Type} {b : Prop} [Decidable b] {x y : Option α} {r : α} (h : (if b then x else y) = some r) (hb : b) : x = some r := by
  rwa [if_pos hb] at h
theorem iff_ {α : Type} {b : Prop} [Decidable b] {x y : Option α} {r : α} (h : (if b then x else y) = some r) (hb : ¬ b) : y = some r := by
  rwa [if_neg hb] at h
theorem bd_of {α β : Type} {o : Option β} {k : β → Option α} {r : α} (h : o.bind k = some r) : ∃ u, o = some u ∧ k u = some r := by
  cases o with
  | none => cases h
  | some u => exact ⟨u, rfl, h⟩
/-- a loop's end, or a return out of it -/
def rl {α β γ : Type} (u : α ⊕ β) (k1 : α → Option γ) (k2 : β → Option γ) : Option γ := match u with
  | .inl x => k1 x
  | .inr y => k2 y
theorem rl_r {α β γ : Type} {v : β} {k1 : α → Option γ} {k2 : β → Option γ} {r : γ} (h : rl (.inr v) k1 k2 = some r) : k2 v = some r := h
theorem rl_l {α β γ : Type} {u : α ⊕ β} {x : α} {k1 : α → Option γ} {k2 : β → Option γ} {r : γ} (h : rl u k1 k2 = some r) (e : Sum.inl x = u) : k1 x = some r := by
  subst e
  exact h
theorem rl_e {α β γ : Type} {u : α ⊕ β} {v : β} {k1 : α → Option γ} {k2 : β → Option γ} {r : γ} (h : rl u k1 k2 = some r) (e : u = Sum.inr v) : k2 v = some r := by
  subst e
  exact h
theorem toInt_ne {x k : Int32} (h : ¬ x = k) {z : Int} (hz : k.toInt = z) : x.toInt ≠ z := fun q => h (Int32.toInt_inj.mp (q.trans hz.symm))
/-- no NaN -/
def nn (r : UInt64) : Prop := r &&& 0x7fffffffffffffff ≤ 0x7ff0000000000000
theorem nn_of {r : UInt64} (h : decide (r &&& 0x7fffffffffffffff ≤ 0x7ff0000000000000) = true) : vf_n64 r := of_decide_eq_true (p := r &&& 0x7fffffffffffffff ≤ 0x7ff0000000000000) h
abbrev nnb (r : UInt64) : Bool := decide (r &&& 0x7fffffffffffffff ≤ 0x7ff0000000000000)
/-- an index in its row -/
def inb (i : Int32) (n : Nat) : Bool := !(decide (i < 0) || decide (n ≤ i.toNatClampNeg))
theorem inb_of {i : Int32} {n : Nat} (h : inb i n = true) : vp_in i n := by
  unfold inb at h
  unfold vp_in
  intro q
  rcases q with q | q
  · simp [q] at h
  · simp [q] at h
/-- a boolean -/
def zb (x : Int32) : Bool := decide (x = 0) || decide (x = 1)
theorem zb_nar {x : Int32} (h : zb x = true) : narrow .boolean (.int x) = .int x := by
  unfold zb at h
  rw [Bool.or_eq_true] at h
  rcases h with h | h
  · have h := of_decide_eq_true h; subst h; rfl
  · have h := of_decide_eq_true h; subst h; rfl
theorem zb_fit {x : Int32} (h : zb x = true) : fits .boolean (.int x) = true := by
  unfold zb at h
  rw [Bool.or_eq_true] at h
  rcases h with h | h
  · have h := of_decide_eq_true h; subst h; rfl
  · have h := of_decide_eq_true h; subst h; rfl
theorem zb_vp {x : Int32} (h : zb x = true) : vp_nar .boolean x = x := by
  unfold vp_nar
  rw [zb_nar h]
/-- the links to nest mates that the class's methods use -/
def nw (U : State) : Prop := va_Nw (.methodLinkNest RX0 9 yX8_within "AssistRows") U ∧ va_Nw (.methodLinkNest RX0 27 yX8_magnitude "AssistRows") U ∧ va_Nw (.methodLinkNest RX2 27 yX8_between "AssistRows") U ∧ va_Nw (.methodLinkNest RX3 34 yX8_within "AssistRows") U ∧ va_Nw (.methodLinkNest RX7 77 yX8_magnitude "AssistRows") U ∧ va_Nw (.methodLinkNest RX7 40 yX5_init "AssistRows") U ∧ va_Nw (.methodLinkNest RX8 9 yX4_init "AssistRows") U ∧ va_Nw (.methodLinkNest RX8 21 yX7_init "AssistRows") U ∧ va_Nw (.methodLinkNest RX8 28 yX2_init "AssistRows") U ∧ va_Nw (.methodLinkNest RX8 35 yX0_init "AssistRows") U ∧ va_Nw (.methodLinkNest RX8 42 yX3_init "AssistRows") U ∧ va_Nw (.methodLinkNest RX8 49 yX1_init "AssistRows") U ∧ va_Nw (.methodLinkNest RX8 56 yX6_init "AssistRows") U
theorem nw_warm {s U : State} (hW : s.WarmedH U.vm) (h : nw s) : nw U := by
  obtain ⟨h1, h2, h3, h4, h5, h6, h7, h8, h9, h10, h11, h12, h13⟩ := h
  exact ⟨va_Nw.warmM hW h1, va_Nw.warmM hW h2, va_Nw.warmM hW h3, va_Nw.warmM hW h4, va_Nw.warmM hW h5, va_Nw.warmM hW h6, va_Nw.warmM hW h7, va_Nw.warmM hW h8, va_Nw.warmM hW h9, va_Nw.warmM hW h10, va_Nw.warmM hW h11, va_Nw.warmM hW h12, va_Nw.warmM hW h13⟩
theorem nw_same {s U : State} (hW : s.vm = U.vm) (h : nw s) : nw U := by
  obtain ⟨h1, h2, h3, h4, h5, h6, h7, h8, h9, h10, h11, h12, h13⟩ := h
  exact ⟨va_Nw.same rfl hW h1, va_Nw.same rfl hW h2, va_Nw.same rfl hW h3, va_Nw.same rfl hW h4, va_Nw.same rfl hW h5, va_Nw.same rfl hW h6, va_Nw.same rfl hW h7, va_Nw.same rfl hW h8, va_Nw.same rfl hW h9, va_Nw.same rfl hW h10, va_Nw.same rfl hW h11, va_Nw.same rfl hW h12, va_Nw.same rfl hW h13⟩
/-- where a method starts -/
def xPre (D : va_G) (ws : va_W) (tys : List (ClassId × FieldType)) (sz : Nat) (U : State) : Prop := U.heap.size = sz ∧ va_P D vwCl ws U.heap ∧ va_K D vwCl tys U ∧ va_D (fun _ => True) ws ∧ nw U
/-- the world behind it -/
def xB (D : va_G) (A : Nat → Prop) (ws : va_W) (t : State) : Prop := va_P D vwCl ws t.heap ∧ va_D A ws
theorem va_P.sub2 {D : va_G} {cl : List vw_C} {ws wc : va_W} {H : Heap} (hP : va_P D cl ws H) (isC : List Nat) (hC : isC.map (fun i => ws[i]?) = wc.map some) : va_P D cl wc H := by
  intro k q h
  have h1 : (isC.map (fun i => ws[i]?))[k]? = some (some q) := by rw [hC, List.getElem?_map, h]; rfl
  rw [List.getElem?_map] at h1
  cases hi : isC[k]? with
  | none => rw [hi] at h1; cases h1
  | some i => rw [hi] at h1; exact hP i q (Option.some.inj h1)
theorem xPre_blind {D : va_G} {ws : va_W} {tys : List (ClassId × FieldType)} {sz : Nat} {av : List Value} : FrameBlind (va_Pc av (xPre D ws tys sz)) := by
  intro a U g mk q
  obtain ⟨q0, q1, qP, qK, qD, qN⟩ := q
  exact ⟨q0, q1, qP, va_K.moved (u := U) (U := U.calling g mk a) (Vm.Alike.refl U.vm) qK, qD, nw_same (s := U) rfl qN⟩
theorem xPreS {D : va_G} {A : Nat → Prop} {ws wc : va_W} {tys tyc : List (ClassId × FieldType)} {s : State} {H : Heap} {As : List Value} (hP : va_P D vwCl ws H) (hD : va_D A ws) (hK : va_K D vwCl tys s) (hN : nw s) (isC : List Nat) (hnd : va_nd isC = true) (hC : isC.map (fun i => ws[i]?) = wc.map some) (isT : List Nat) (hT : isT.filterMap (fun i => tys[i]?) = tyc) : PreS s H (va_Pc As (xPre D wc tyc H.size)) As :=
  ⟨xPre_blind, fun U hU hW => ⟨rfl, by rw [hU], by rw [hU]; exact hP.sub2 isC hC, va_K.moved hW.alike (hK.sub isT hT), (hD.sub isC hnd hC).weaken (fun _ _ _ _ => trivial), nw_warm hW hN⟩⟩
theorem xPreV {D : va_G} {A : Nat → Prop} {ws wc : va_W} {tys tyc : List (ClassId × FieldType)} {s : State} {H : Heap} {As : List Value} {b : Addr} {ci q0 : Nat} {q : vw_C} {fs : List Value} (hP : va_P D vwCl ws H) (hD : va_D A ws) (hK : va_K D vwCl tys s) (hN : nw s) (hc : vwCl[ci]? = some q) (he : ws[q0]? = some (b, .inr (ci, fs))) (isC : List Nat) (hnd : va_nd isC = true) (hC : isC.map (fun i => ws[i]?) = wc.map some) (isT : List Nat) (hT : isT.filterMap (fun i => tys[i]?) = tyc) : PreV s H q.1 b (va_Pc (.ref b :: As) (xPre D wc tyc H.size)) As :=
  ⟨xPre_blind, va_recv hK hP hc he, (xPreS (As := .ref b :: As) hP hD hK hN isC hnd hC isT hT).2⟩
section
variable {p : Program} {l : Launch} {e : Env} {R : Room} {s : State} {m : MethodId} {args : Array Value} {below : List Frame} {meth : Method} {c : Code} {H : Heap} {locs : List Loc} {cells slots : Nat} {Q : State → Prop} {A : Nat → Prop} {D : va_G} {ws wc wr w1 wn : va_W} {pc : Nat} {ls : Array Slot} {st0 rest : List Value} {a : Array Value}
/-- what stands behind a call, in the order that the caller wants -/
theorem xJoin {H1 : Heap} {locs1 : List Loc} (hP : va_P D vwCl ws H) (hD : va_D A ws) (hF : ∀ q, va_A wc H.size q → A q) (isC isR isO : List Nat) (hC : isC.map (fun i => ws[i]?) = wc.map some) (hR : isR.map (fun i => ws[i]?) = wr.map some) (hn : va_nd isR = true) (hdis : ∀ i ∈ isR, i ∉ isC) (hO : isO.map (fun i => (wr ++ w1)[i]?) = wn.map some) (hnO : va_nd isO = true) (hk : ∀ q : Nat, q < H.size → ¬ va_A wc H.size q → H1[q]? = H[q]?) (hP1 : va_P D vwCl w1 H1) (hD1 : va_D (va_A wc H.size) w1) : va_P D vwCl wn H1 ∧ va_D A wn := by
  obtain ⟨h1, h2⟩ := va_join hP hD isC isR hC hR hn hdis hk hF hP1 hD1
  exact ⟨h1.sub2 isO hO, h2.sub isO hnO hO⟩
theorem xCalli {v : Int32} (isC isR isO : List Nat) (hr : va_Run p l e R s m args below meth c H locs cells slots 0 0 (F0 m pc ls st0) rest (va_Qi (fun (x : Int32) (_ : Unit) => x = v) (fun _ => xB D (va_A wc H.size) w1) (va_A wc H.size) a) (va_A wc H.size))
    (hP : va_P D vwCl ws H) (hD : va_D A ws) (hS : va_S A s.heap H locs) (hA : ∀ q : Nat, s.heap.size ≤ q → A q) (hC : isC.map (fun i => ws[i]?) = wc.map some) (hR : isR.map (fun i => ws[i]?) = wr.map some) (hn : va_nd isR = true) (hdis : ∀ i ∈ isR, i ∉ isC) (hO : isO.map (fun i => (wr ++ w1)[i]?) = wn.map some) (hnO : va_nd isO = true)
    (kk : ∀ (H1 : Heap) (locs1 : List Loc), va_P D vwCl wn H1 → va_D A wn → va_S A s.heap H1 locs1 → W p l e R s m args below meth c H1 locs1 cells slots Q (F0 m (pc + 3) ls (.int v :: rest))) : W p l e R s m args below meth c H locs cells slots Q (F0 m pc ls st0) := by
  have hF := va_free hD hS hA isC hC
  refine va_calli hr hS (fun q _ h => hF q h) hF (fun r u t H1 locs1 ht hvm hw hB hz1 hk1 hS1 => ?_)
  obtain ⟨hP1, hD1⟩ := hB
  rw [ht] at hP1
  obtain ⟨h1, h2⟩ := xJoin (locs1 := locs1) hP hD hF isC isR isO hC hR hn hdis hO hnO hk1 hP1 hD1
  rw [hw]
  exact kk H1 locs1 h1 h2 hS1
theorem xCalld {v : UInt64} (isC isR isO : List Nat) (hr : va_Run p l e R s m args below meth c H locs cells slots 0 0 (F0 m pc ls st0) rest (va_Qd (fun (x : UInt64) (_ : Unit) => x = v) (fun _ => xB D (va_A wc H.size) w1) (va_A wc H.size) a) (va_A wc H.size))
    (hP : va_P D vwCl ws H) (hD : va_D A ws) (hS : va_S A s.heap H locs) (hA : ∀ q : Nat, s.heap.size ≤ q → A q) (hC : isC.map (fun i => ws[i]?) = wc.map some) (hR : isR.map (fun i => ws[i]?) = wr.map some) (hn : va_nd isR = true) (hdis : ∀ i ∈ isR, i ∉ isC) (hO : isO.map (fun i => (wr ++ w1)[i]?) = wn.map some) (hnO : va_nd isO = true)
    (kk : ∀ (H1 : Heap) (locs1 : List Loc), va_P D vwCl wn H1 → va_D A wn → va_S A s.heap H1 locs1 → W p l e R s m args below meth c H1 locs1 cells slots Q (F0 m (pc + 3) ls (.double v :: rest))) : W p l e R s m args below meth c H locs cells slots Q (F0 m pc ls st0) := by
  have hF := va_free hD hS hA isC hC
  refine va_calld hr hS (fun q _ h => hF q h) hF (fun r u t H1 locs1 ht hvm hw hB hz1 hk1 hS1 => ?_)
  obtain ⟨hP1, hD1⟩ := hB
  rw [ht] at hP1
  obtain ⟨h1, h2⟩ := xJoin (locs1 := locs1) hP hD hF isC isR isO hC hR hn hdis hO hnO hk1 hP1 hD1
  rw [hw]
  exact kk H1 locs1 h1 h2 hS1
theorem xCalll {v : Int64} (isC isR isO : List Nat) (hr : va_Run p l e R s m args below meth c H locs cells slots 0 0 (F0 m pc ls st0) rest (va_Ql (fun (x : Int64) (_ : Unit) => x = v) (fun _ => xB D (va_A wc H.size) w1) (va_A wc H.size) a) (va_A wc H.size))
    (hP : va_P D vwCl ws H) (hD : va_D A ws) (hS : va_S A s.heap H locs) (hA : ∀ q : Nat, s.heap.size ≤ q → A q) (hC : isC.map (fun i => ws[i]?) = wc.map some) (hR : isR.map (fun i => ws[i]?) = wr.map some) (hn : va_nd isR = true) (hdis : ∀ i ∈ isR, i ∉ isC) (hO : isO.map (fun i => (wr ++ w1)[i]?) = wn.map some) (hnO : va_nd isO = true)
    (kk : ∀ (H1 : Heap) (locs1 : List Loc), va_P D vwCl wn H1 → va_D A wn → va_S A s.heap H1 locs1 → W p l e R s m args below meth c H1 locs1 cells slots Q (F0 m (pc + 3) ls (.long v :: rest))) : W p l e R s m args below meth c H locs cells slots Q (F0 m pc ls st0) := by
  have hF := va_free hD hS hA isC hC
  refine va_calll hr hS (fun q _ h => hF q h) hF (fun r u t H1 locs1 ht hvm hw hB hz1 hk1 hS1 => ?_)
  obtain ⟨hP1, hD1⟩ := hB
  rw [ht] at hP1
  obtain ⟨h1, h2⟩ := xJoin (locs1 := locs1) hP hD hF isC isR isO hC hR hn hdis hO hnO hk1 hP1 hD1
  rw [hw]
  exact kk H1 locs1 h1 h2 hS1
theorem xCallv (isC isR isO : List Nat) (hr : va_Run p l e R s m args below meth c H locs cells slots 0 0 (F0 m pc ls st0) rest (va_Qv (fun (_ : Unit) => True) (fun _ => xB D (va_A wc H.size) w1) (va_A wc H.size) a) (va_A wc H.size))
    (hP : va_P D vwCl ws H) (hD : va_D A ws) (hS : va_S A s.heap H locs) (hA : ∀ q : Nat, s.heap.size ≤ q → A q) (hC : isC.map (fun i => ws[i]?) = wc.map some) (hR : isR.map (fun i => ws[i]?) = wr.map some) (hn : va_nd isR = true) (hdis : ∀ i ∈ isR, i ∉ isC) (hO : isO.map (fun i => (wr ++ w1)[i]?) = wn.map some) (hnO : va_nd isO = true)
    (kk : ∀ (H1 : Heap) (locs1 : List Loc), va_P D vwCl wn H1 → va_D A wn → va_S A s.heap H1 locs1 → W p l e R s m args below meth c H1 locs1 cells slots Q (F0 m (pc + 3) ls rest)) : W p l e R s m args below meth c H locs cells slots Q (F0 m pc ls st0) := by
  have hF := va_free hD hS hA isC hC
  refine va_callv hr hS (fun q _ h => hF q h) hF (fun u t H1 locs1 ht hvm hw hB hz1 hk1 hS1 => ?_)
  obtain ⟨hP1, hD1⟩ := hB
  rw [ht] at hP1
  obtain ⟨h1, h2⟩ := xJoin (locs1 := locs1) hP hD hF isC isR isO hC hR hn hdis hO hnO hk1 hP1 hD1
  exact kk H1 locs1 h1 h2 hS1
/-- a point that is reached by several ways: walked once -/
theorem xCut {ι : Type} (I : ι → Heap → List Loc → Array Slot → Prop) (pcj : Nat) (stj : ι → List Value) {g : JFrame}
    (h1 : ∀ (a : ι) (H : Heap) (locs : List Loc) (ls : Array Slot), I a H locs ls → W p l e R s m args below meth c H locs cells slots Q (F0 m pcj ls (stj a)))
    (h2 : (∀ (a : ι) (H : Heap) (locs : List Loc) (ls : Array Slot), I a H locs ls → W p l e R s m args below meth c H locs cells slots Q (F0 m pcj ls (stj a))) → W p l e R s m args below meth c H locs cells slots Q g) : W p l e R s m args below meth c H locs cells slots Q g := h2 h1
/-- a loop's head: walked once, by induction on what its function may still go -/
theorem xLoop {ι : Type} (I : Nat → ι → Heap → List Loc → Array Slot → Prop) (pcj : Nat) (stj : ι → List Value) {g : JFrame} (h0 : ∀ (a : ι) (H : Heap) (locs : List Loc) (ls : Array Slot), ¬ I 0 a H locs ls)
    (h1 : ∀ n : Nat, (∀ (a : ι) (H : Heap) (locs : List Loc) (ls : Array Slot), I n a H locs ls → W p l e R s m args below meth c H locs cells slots Q (F0 m pcj ls (stj a))) → ∀ (a : ι) (H : Heap) (locs : List Loc) (ls : Array Slot), I (n + 1) a H locs ls → W p l e R s m args below meth c H locs cells slots Q (F0 m pcj ls (stj a)))
    (h2 : (∀ (n : Nat) (a : ι) (H : Heap) (locs : List Loc) (ls : Array Slot), I n a H locs ls → W p l e R s m args below meth c H locs cells slots Q (F0 m pcj ls (stj a))) → W p l e R s m args below meth c H locs cells slots Q g) : W p l e R s m args below meth c H locs cells slots Q g := by
  refine h2 ?_
  intro n
  induction n with
  | zero => exact fun a H locs ls h => absurd h (h0 a H locs ls)
  | succ n ih => exact h1 n ih
/-- ends -/
theorem xIret {cc : ByteArray} {v v' : Int32} {ws' : va_W} (hv : v = v') (hws : ws = ws') (hexec : p.tables.exec = Jvm.exec) (hb : c.code = cc) (hr : meth.sig.returnType = some .int) (hlk : meth.locks = false) (hP : va_P D vwCl ws H) (hD : va_D A ws) (hS : va_S A s.heap H locs) (hdg : decode cc pc = .ok (.ireturn, 1)) : W p l e R s m args below meth c H locs cells slots (MQ below (va_Qi (fun (x : Int32) (_ : Unit) => x = v') (fun _ => xB D A ws') A) args s cells slots A) (F0 m pc ls [.int v]) := by
  subst hv; subst hws
  exact W.iret hexec hb hr (fun t ht _ => ⟨⟨v, (), rfl, rfl, by rw [ht]; exact hP, hD⟩, hS.F ht⟩) hS.2.2 hdg hlk
theorem xZret {cc : ByteArray} {v v' : Int32} {ws' : va_W} (hv : v = v') (hws : ws = ws') (hexec : p.tables.exec = Jvm.exec) (hb : c.code = cc) (hr : meth.sig.returnType = some .boolean) (hz : zb v = true) (hlk : meth.locks = false) (hP : va_P D vwCl ws H) (hD : va_D A ws) (hS : va_S A s.heap H locs) (hdg : decode cc pc = .ok (.ireturn, 1)) : W p l e R s m args below meth c H locs cells slots (MQ below (va_Qi (fun (x : Int32) (_ : Unit) => x = v') (fun _ => xB D A ws') A) args s cells slots A) (F0 m pc ls [.int v]) := by
  subst hv; subst hws
  exact W.zret hexec hb hr (zb_nar hz) (fun t ht _ => ⟨⟨v, (), rfl, rfl, by rw [ht]; exact hP, hD⟩, hS.F ht⟩) hS.2.2 hdg hlk
theorem xDret {cc : ByteArray} {v v' : UInt64} {ws' : va_W} (hv : v = v') (hws : ws = ws') (hexec : p.tables.exec = Jvm.exec) (hb : c.code = cc) (hr : meth.sig.returnType = some .double) (hlk : meth.locks = false) (hP : va_P D vwCl ws H) (hD : va_D A ws) (hS : va_S A s.heap H locs) (hdg : decode cc pc = .ok (.dreturn, 1)) : W p l e R s m args below meth c H locs cells slots (MQ below (va_Qd (fun (x : UInt64) (_ : Unit) => x = v') (fun _ => xB D A ws') A) args s cells slots A) (F0 m pc ls [.double v]) := by
  subst hv; subst hws
  exact W.dret hexec hb hr (fun t ht _ => ⟨⟨v, (), rfl, rfl, by rw [ht]; exact hP, hD⟩, hS.F ht⟩) hS.2.2 hdg hlk
theorem xLret {cc : ByteArray} {v v' : Int64} {ws' : va_W} (hv : v = v') (hws : ws = ws') (hexec : p.tables.exec = Jvm.exec) (hb : c.code = cc) (hr : meth.sig.returnType = some .long) (hlk : meth.locks = false) (hP : va_P D vwCl ws H) (hD : va_D A ws) (hS : va_S A s.heap H locs) (hdg : decode cc pc = .ok (.lreturn, 1)) : W p l e R s m args below meth c H locs cells slots (MQ below (va_Ql (fun (x : Int64) (_ : Unit) => x = v') (fun _ => xB D A ws') A) args s cells slots A) (F0 m pc ls [.long v]) := by
  subst hv; subst hws
  exact W.lret hexec hb hr (fun t ht _ => ⟨⟨v, (), rfl, rfl, by rw [ht]; exact hP, hD⟩, hS.F ht⟩) hS.2.2 hdg hlk
theorem xVret {cc : ByteArray} {ws' : va_W} (hws : ws = ws') (hexec : p.tables.exec = Jvm.exec) (hb : c.code = cc) (hr : meth.sig.returnType = none) (hlk : meth.locks = false) (hP : va_P D vwCl ws H) (hD : va_D A ws) (hS : va_S A s.heap H locs) (hdg : decode cc pc = .ok (.return_, 1)) : W p l e R s m args below meth c H locs cells slots (MQ below (va_Qv (fun (_ : Unit) => True) (fun _ => xB D A ws') A) args s cells slots A) (F0 m pc ls []) := by
  subst hws
  exact W.vret hexec hb hr (fun t ht _ => ⟨⟨(), rfl, trivial, by rw [ht]; exact hP, hD⟩, hS.F ht⟩) hS.2.2 hdg hlk
theorem xzast {cc : ByteArray} {tys : List (ClassId × FieldType)} {H0 : Heap} {x : Int32} (hz : zb x = true) (hexec : p.tables.exec = Jvm.exec) (hb : c.code = cc) (hK : va_K D vwCl tys s) (hP : va_P D vwCl ws H) (hD : va_D A ws) (hS : va_S A H0 H locs) (q0 t0 : Nat) {q : Addr} {cA : ClassId} {n : Nat} {f : Nat → Int32} (ha : ws[q0]? = some (q, .inl (cA, n, .inl f))) (ht : tys[t0]? = some (cA, .boolean)) {i : Int32} (hin : vp_in i n) (hdg : decode cc pc = .ok (.bastore, 1))
    (kk : ∀ (H1 : Heap) (locs1 : List Loc), va_P D vwCl (ws.set q0 (q, .inl (cA, n, .inl (upd f i.toNatClampNeg x)))) H1 → va_D A (ws.set q0 (q, .inl (cA, n, .inl (upd f i.toNatClampNeg x)))) → va_S A H0 H1 locs1 → W p l e R s m args below meth c H1 locs1 cells slots Q (F0 m (pc + 1) ls rest)) : W p l e R s m args below meth c H locs cells slots Q (F0 m pc ls (.int x :: .int i :: .ref q :: rest)) := by
  refine va_zast hexec hb hK hP hD hS q0 t0 ha ht hin hdg (fun H1 l1 h1 h2 h3 => ?_)
  rw [zb_vp hz] at h1 h2
  exact kk H1 l1 h1 h2 h3
end
/-- a method's body, from its entry -/
theorem xOfW {l : Launch} {y : MethodName} {ws ws' : List Cond} {rm : Room} {cc : ByteArray} {maxL : Nat} {ret : Option FieldType} {D : va_G} {cells : va_W} {tys : List (ClassId × FieldType)} {sz : Nat} {av : List Value} (Qf : (Nat → Prop) → Array Value → State → Outcome → State → Prop)
    (hy : plainName y.cls = true) (hw : ws = Cond.code y cc maxL ret :: ws') (hlen : (lg_sl av).length ≤ maxL)
    (body : ∀ (p : Program) (e : Env) (s : State) (m : MethodId) (below : List Frame) (meth : Method) (c : Code) (A : Nat → Prop) (H : Heap) (ls : Array Slot), p.tables.exec = Jvm.exec → c.code = cc → meth.sig.returnType = ret → c.maxLocals = maxL → s.vm.findClass y.cls = some m.cls → meth.locks = false → (∀ w ∈ ws, w.before av.toArray s = true) → va_P D vwCl cells H → va_K D vwCl tys s → va_D A cells → va_S A s.heap H [] → (∀ q : Nat, s.heap.size ≤ q → A q) → nw s → lv_has ls maxL (lv_args 0 av) →
      W p l e rm s m av.toArray below meth c H [] 0 0 (MQ below (Qf A) av.toArray s 0 0 A) (F0 m 0 ls [])) :
    Met l y ws rm (va_Pc av (xPre D cells tys sz)) (Qf (va_A cells sz)) 0 0 (va_A cells sz) := by
  refine Met.ofW (cc := cc) (maxL := maxL) (ret := ret) hy hw ?_
  intro p e s m args below meth c s₁ B hml hv
  obtain ⟨rfl, hsz, hP, hK, hD0, hN⟩ := hv
  subst hsz
  have hl := lv_entry av hlen
  rw [lg_entry_eq]
  exact body p e s m below meth c (va_A cells s.heap.size) s.heap _ B.exec B.bytes B.returns hml (findClass_of_methodNamed B.named) B.notSynchronized (atoms_spec (ws := ws) B.pre) hP hK hD0.self va_S.rf (fun q h => Or.inr h) hN hl
end XBASE
