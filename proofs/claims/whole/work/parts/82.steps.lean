/-! Bounds of a step, and what holds of the tracks between steps. -/
section XSTEPS
theorem age_two {th met cc sc ms mc tf ts : Int32} {x mx : UInt64} (hth : z01 th) (h : ¬ th = 0 → (met = 0 → mc = cc) ∧ ms = sc ∧ mx = x ∧ (¬ met = 0 → cc = 0)) (hm : met = 0 ↔ tf = 0 ∧ ts = 0) :
    agT th (agC th met cc) x = coT (coW (coU th tf ts) th mc) mx ∧ z01 (agT th (agC th met cc) x) ∧
      (¬ agT th (agC th met cc) x = 0 → ¬ th = 0 ∧ agC th met cc = coC (coU th tf ts) mc ∧ agS th met sc = coS (coU th tf ts) ms ∧ 0 ≤ zv x ∧ zv x ≤ zv 4643000109586448384 ∧ ¬ 4 ≤ agC th met cc) := by
  by_cases m0 : met = 0
  · exact age_one hth (fun q => ⟨(h q).1 m0, (h q).2.1, (h q).2.2.1, (h q).2.2.2⟩) hm
  · have e : coU th tf ts = false := by
      unfold coU
      by_cases f0 : tf = 0
      · have s0 : ¬ ts = 0 := fun w => m0 (hm.mpr ⟨f0, w⟩)
        rw [decide_eq_false s0]; simp
      · rw [decide_eq_false f0]; simp
    have k := age_one (mc := cc) hth (fun q => ⟨rfl, (h q).2.1, (h q).2.2.1, (h q).2.2.2⟩) hm
    have nf : ¬ false = true := by decide
    have w1 : ∀ a, coW false th a = th := fun a => by unfold coW; rw [if_neg nf]
    have w2 : ∀ a, coC false a = 0 := fun a => by unfold coC; rw [if_neg nf]
    rw [e, w1, w2] at k
    rw [e, w1, w2]
    exact k
/-- how far the reference's own numbers may drift -/
def XN (N : Nat) (a : UInt64) : Prop := NN a ∧ -((2 ^ N : Nat) : Int) ≤ zv a ∧ zv a ≤ ((2 ^ N : Nat) : Int)
theorem hx_zv : zv HX = ((2 ^ 1133 : Nat) : Int) := by decide +kernel
theorem lx_zv : zv LX = -((2 ^ 1133 : Nat) : Int) := by decide +kernel
theorem pow_le {a b : Nat} (h : a ≤ b) : ((2 ^ a : Nat) : Int) ≤ ((2 ^ b : Nat) : Int) := Int.ofNat_le.mpr (Nat.pow_le_pow_right (by decide) h)
theorem XW.xn {a : UInt64} {N : Nat} (h : XW a) (hN : 1133 ≤ N) : XN N a := by
  obtain ⟨h1, h2, h3⟩ := h
  have := pow_le hN
  rw [lx_zv] at h2
  rw [hx_zv] at h3
  exact ⟨h1, by omega, by omega⟩
theorem XN.mono {a : UInt64} {N M : Nat} (h : XN N a) (hN : N ≤ M) : XN M a := by
  obtain ⟨h1, h2, h3⟩ := h
  have := pow_le hN
  exact ⟨h1, by omega, by omega⟩
theorem big_zv : zv 7759702157959364608 = ((2 ^ 1774 : Nat) : Int) := by decide +kernel
theorem big_nz : zv 16983074194814140416 = -((2 ^ 1774 : Nat) : Int) := by decide +kernel
theorem XN.bd {a : UInt64} {N : Nat} (h : XN N a) (hN : N ≤ 1774) : Bd 1724 a := by
  obtain ⟨h1, h2, h3⟩ := h
  have := pow_le hN
  have e := big_zv
  exact Bd.lim (V := 7759702157959364608) h1 (bits_df (by decide)).nn (by omega) (by decide)
theorem RN.bd {lo hi a V : UInt64} {K : Nat} (h : RN lo hi a) (hV : DF V) (hl : -zv V ≤ zv lo) (hh : zv hi ≤ zv V) (hK : V.toNat % 2 ^ 63 < K * 2 ^ 52) : Bd K a := by
  obtain ⟨h1, h2, h3⟩ := h
  exact Bd.lim h1 hV.nn (by omega) hK
abbrev SP (a : UInt64) : Prop := RN FP.dconst0 4634626229029306368 a
abbrev TI (a : UInt64) : Prop := RN FP.dconst0 4681608360884174848 a
theorem TI.df {a : UInt64} (h : TI a) : DF a := RN.df h (bits_df (by decide)) (bits_df (by decide))
theorem SP.df {a : UInt64} (h : SP a) : DF a := RN.df h (bits_df (by decide)) (bits_df (by decide))
theorem SP.bd {a : UInt64} (h : SP a) : Bd 1084 a := RN.bd h hi_df (by decide +kernel) (by decide +kernel) (by decide)
theorem VW.bd {a : UInt64} (h : VW a) : Bd 1084 a := RN.bd h hi_df (by decide +kernel) (by decide +kernel) (by decide)
/-- how far a track goes in a step -/
theorem go_bound {v sp t now : UInt64} (hv : VW v) (hs : SP sp) (ht : TI t) (hn : TI now) : NN (FP.dsub v sp) ∧ NN (FP.dsub t now) ∧ NN (FP.dmul (FP.dsub v sp) (FP.dsub t now)) ∧ DF (FP.dmul (FP.dsub v sp) (FP.dsub t now)) ∧ - ((2 ^ 1099 : Nat) : Int) ≤ zv (FP.dmul (FP.dsub v sp) (FP.dsub t now)) ∧ zv (FP.dmul (FP.dsub v sp) (FP.dsub t now)) ≤ ((2 ^ 1099 : Nat) : Int) := by
  have z70 : zv 4634626229029306368 ≤ zv 4635329916471083008 := by decide +kernel
  have z10 : -zv 4635329916471083008 + zv 4634626229029306368 ≤ zv 13845191154443747328 := by decide +kernel
  have n80 : zv 13858701953325858816 = - zv 4635329916471083008 := by decide +kernel
  have d80 : DF 4635329916471083008 := bits_df (by decide)
  have dm80 : DF 13858701953325858816 := bits_df (by decide)
  have e0 : zv FP.dconst0 = 0 := zv0
  obtain ⟨-, v1, v2⟩ := id hv
  obtain ⟨-, s1, s2⟩ := id hs
  obtain ⟨-, t1, t2⟩ := id ht
  obtain ⟨-, w1, w2⟩ := id hn
  have n1 := dsub_nn hv.df hs.df
  have n2 := dsub_nn ht.df hn.df
  have u1 := dsub_le (V := 4635329916471083008) hv.df hs.df d80.nn (by omega)
  have u2 := dsub_ge (V := 13858701953325858816) hv.df hs.df dm80.nn (by omega)
  have b1 : Bd 1030 (FP.dsub v sp) := Bd.lim (V := 4635329916471083008) n1 d80.nn (by omega) (by decide)
  have n5 : zv 13904980397738950656 = - zv 4681608360884174848 := by decide +kernel
  have d5 : DF 4681608360884174848 := bits_df (by decide)
  have dm5 : DF 13904980397738950656 := bits_df (by decide)
  have u3 := dsub_le (V := 4681608360884174848) ht.df hn.df d5.nn (by omega)
  have u4 := dsub_ge (V := 13904980397738950656) ht.df hn.df dm5.nn (by omega)
  have b2 : Bd 1040 (FP.dsub t now) := Bd.lim (V := 4681608360884174848) n2 d5.nn (by omega) (by decide)
  have b3 := b1.mul b2 (by decide) (by decide)
  have d3 := b3.df (by decide)
  have z25 : zv 4719772409484279808 = ((2 ^ 1099 : Nat) : Int) := by decide +kernel
  have b4 := b3.top d3.nn (V := 4719772409484279808) (bits_df (by decide)).nn (by decide)
  exact ⟨n1, n2, d3.nn, d3, by omega, by omega⟩
abbrev X250 (a : UInt64) : Prop := 0 ≤ zv a ∧ zv a ≤ zv 4643000109586448384
theorem go_class {x v sp t now : UInt64} (hx : XW x) (h2 : X250 x) (hv : VW v) (hs : SP sp) (ht : TI t) (hn : TI now) : XW (mvd x v sp (FP.dsub t now)) := by
  obtain ⟨n1, n2, n3, d3, p1, p2⟩ := go_bound hv hs ht hn
  obtain ⟨q1, q2⟩ := h2
  have k : zv 4643000109586448384 + ((2 ^ 1099 : Nat) : Int) ≤ zv HX := by decide +kernel
  have k2 : zv LX = - zv HX := by decide +kernel
  have dh : DF HX := bits_df (by decide)
  have dl : DF LX := bits_df (by decide)
  have kp : 0 ≤ zv 4643000109586448384 := by decide +kernel
  refine ⟨dadd_nn hx.df d3, ?_, ?_⟩
  · exact dadd_ge hx.df d3 dl.nn (by omega)
  · exact dadd_le hx.df d3 dh.nn (by omega)
theorem XN.df {a : UInt64} {N : Nat} (h : XN N a) (hN : N ≤ 1774) : DF a := (h.bd hN).df (by decide)
theorem go_ref {x v sp t now : UInt64} {N : Nat} (hx : XN N x) (hN : 1133 ≤ N) (hM : N ≤ 1740) (hv : VW v) (hs : SP sp) (ht : TI t) (hn : TI now) : XN (N + 1) (mvd x v sp (FP.dsub t now)) := by
  obtain ⟨n1, n2, n3, d3, p1, p2⟩ := go_bound hv hs ht hn
  have dx := hx.df (by omega)
  obtain ⟨h1, h2, h3⟩ := hx
  have k := pow_le (show 1099 ≤ N by omega)
  have e : ((2 ^ (N + 1) : Nat) : Int) = ((2 ^ N : Nat) : Int) + ((2 ^ N : Nat) : Int) := by rw [Nat.pow_succ]; omega
  have nz : FP.Core.zval FP.Core.b64 (FP.Core.negate (pw (N + 1))) = - ((2 ^ (N + 1) : Nat) : Int) := by rw [zv_neg, pw_zv]
  refine ⟨dadd_nn dx d3, ?_, ?_⟩
  · have := FP.Core.sum_ge FP.Core.good_b64 dx d3 (FP.Core.val64_fits x) (FP.Core.val64_fits _) (V := FP.Core.negate (pw (N + 1))) (FP.Core.negate_fits (pw_fits (by omega))) (FP.Core.negate_ne_nan (pw_nn _)) (by rw [nz]; unfold zv at *; omega)
    rw [← FP.Core.val64_dadd, nz] at this
    exact this
  · have := FP.Core.sum_le FP.Core.good_b64 dx d3 (FP.Core.val64_fits x) (FP.Core.val64_fits _) (V := pw (N + 1)) (pw_fits (by omega)) (pw_nn _) (by rw [pw_zv]; unfold zv at *; omega)
    rw [← FP.Core.val64_dadd, pw_zv] at this
    exact this
abbrev OW (a : UInt64) : Prop := RN 13840687554816376832 4617315517961601024 a
abbrev SW (a : UInt64) : Prop := RN 13830554455654793216 FP.dconst1 a
abbrev CW (a : UInt64) : Prop := RN 13800290266158863483 4576918229304087675 a
theorem OW.bd {a : UInt64} (h : OW a) : Bd 1026 a := RN.bd h (V := 4617315517961601024) (bits_df (by decide)) (by decide +kernel) (by decide +kernel) (by decide)
theorem SW.bd {a : UInt64} (h : SW a) : Bd 1024 a := RN.bd h (V := FP.dconst1) (bits_df (by decide)) (by decide +kernel) (by decide +kernel) (by decide)
theorem CW.bd {a : UInt64} (h : CW a) : Bd 1023 a := RN.bd h (V := 4576918229304087675) (bits_df (by decide)) (by decide +kernel) (by decide +kernel) (by decide)
theorem dadd_nr {a b : UInt64} (ha : DF a) (hb : NN b) : NN (FP.dadd a b) := by
  rw [show FP.dadd a b = FP.dadd b a from FP.Core.dadd_comm _ _]
  exact NN.of (FP.Core.dadd_out hb.not ha)
theorem mid_far {x o s c : UInt64} {N : Nat} (hx : XN N x) (hN : N ≤ 1774) (ho : OW o) (hs : SW s) (hc : CW c) : Mid x o s c := by
  have bx := hx.bd hN
  have b1 := bx.mul hc.bd (by decide) (by decide)
  have b2 := (hs.bd.mono (show 1024 ≤ 1724 + 1023 - 1025 + 3 by decide)).add b1 (by decide)
  have n3 := dmul_nn (bx.df (by decide)) (b2.df (by decide))
  exact ⟨(b1.df (by decide)).nn, (b2.df (by decide)).nn, n3, dadd_nr (ho.bd.df (by decide)) n3⟩
theorem X250.bd {a : UInt64} (h : NN a) (h2 : X250 a) : Bd 1031 a := by
  obtain ⟨h3, h4⟩ := h2
  exact Bd.lim (V := 4643000109586448384) h (bits_df (by decide)).nn (by omega) (by decide)
theorem mid_near {x y o s c : UInt64} (h : NN x) (h2 : X250 x) (hy : YW y) (ho : OW o) (hs : SW s) (hc : CW c) : NN (FP.dsub y (mdl x o s c)) := by
  have bx := X250.bd h h2
  have b1 := bx.mul hc.bd (by decide) (by decide)
  have b2 := (hs.bd.mono (show 1024 ≤ 1031 + 1023 - 1025 + 3 by decide)).add b1 (by decide)
  have b3 := bx.mul b2 (by decide) (by decide)
  have b4 := (ho.bd.mono (show 1026 ≤ 1031 + (1031 + 1023 - 1025 + 3 + 2) - 1025 + 3 by decide)).add b3 (by decide)
  exact dsub_nn hy.df (b4.df (by decide))
/-- one track between steps -/
def IT (N : Nat) (th : Int32) (x y v : UInt64) (su co : Int32) (th' : Int32) (x' y' v' : UInt64) (su' co' : Int32) : Prop :=
  z01 th ∧ th' = th ∧ (XW x ∧ YW y ∧ VW v) ∧ (XN N x' ∧ VW v') ∧ (¬ th = 0 → x' = x ∧ y' = y ∧ v' = v ∧ su' = su ∧ co' = co ∧ X250 x)
theorem IT.mono {N M : Nat} {th : Int32} {x y v : UInt64} {su co : Int32} {th' : Int32} {x' y' v' : UInt64} {su' co' : Int32} (h : IT N th x y v su co th' x' y' v' su' co') (hN : N ≤ M) : IT M th x y v su co th' x' y' v' su' co' := by
  obtain ⟨h1, h2, h3, ⟨h4, h5⟩, h6⟩ := h
  exact ⟨h1, h2, h3, ⟨h4.mono hN, h5⟩, h6⟩
/-- a track that has moved, its meetings forgotten -/
theorem IT.go {N : Nat} {th : Int32} {x y v x1 xr sp t now : UInt64} {su co me : Int32} {ms : UInt64} {th' : Int32} {x' y' v' : UInt64} {su' co' tf ts : Int32} {sf : UInt64} (h : IT N th x y v su co th' x' y' v' su' co') (hN : 1133 ≤ N) (hM : N ≤ 1740) (hs : SP sp) (ht : TI t) (hn : TI now) (e1 : x1 = if th = 0 then x else mvd x v sp (FP.dsub t now)) (e2 : xr = mvd x' v' sp (FP.dsub t now)) (em : me = 0) (ef : tf = 0) (es : ts = 0) : RT (XN (N + 1)) th x1 y v su co me ms th' xr y' v' su' co' tf ts sf := by
  obtain ⟨h1, h2, ⟨h3, h4, h5⟩, ⟨h6, h7⟩, h8⟩ := h
  refine ⟨h1, h2, ⟨?_, h4, h5, fun q => absurd em q⟩, ⟨?_, h7⟩, fun q => ?_, ⟨fun _ => ⟨ef, es⟩, fun _ => em⟩, fun q => absurd em q, fun _ q => absurd ef q⟩
  · rw [e1]
    by_cases q : th = 0
    · rw [if_pos q]; exact h3
    · rw [if_neg q]; exact go_class h3 (h8 q).2.2.2.2.2 h5 hs ht hn
  · rw [e2]; exact go_ref h6 hN hM h7 hs ht hn
  · obtain ⟨r1, r2, r3, r4, r5, -⟩ := h8 q
    exact ⟨by rw [e1, e2, if_neg q, r1, r3], r2, r3, r4, fun _ => r5, fun w => absurd em w⟩
/-- a track that has aged -/
theorem RT.age {N : Nat} {th : Int32} {x y v : UInt64} {su co me : Int32} {ms : UInt64} {th' : Int32} {x' y' v' : UInt64} {su' co' tf ts : Int32} {sf : UInt64} (h : RT (XN N) th x y v su co me ms th' x' y' v' su' co' tf ts sf) : IT N (agT th (agC th me co) x) x y v (agS th me su) (agC th me co) (coT (coW (coU th' tf ts) th' co') x') x' y' v' (coS (coU th' tf ts) su') (coC (coU th' tf ts) co') := by
  obtain ⟨h1, h2, ⟨h3, h4, h5, -⟩, ⟨h6, h7⟩, h8, h9, h10, h11⟩ := h
  subst h2
  obtain ⟨a1, a2, a3⟩ := age_two (mc := co') (ms := su') (mx := x') (cc := co) (sc := su) (x := x) h1 (fun q => ⟨(h8 q).2.2.2.2.1, (h8 q).2.2.2.1, (h8 q).1, (h8 q).2.2.2.2.2⟩) h9
  refine ⟨a2, a1.symm, ⟨h3, h4, h5⟩, ⟨h6, h7⟩, fun q => ?_⟩
  obtain ⟨b1, b2, b3, b4, b5, -⟩ := a3 q
  obtain ⟨r1, r2, r3, -⟩ := h8 b1
  exact ⟨r1, r2, r3, b3.symm, b2.symm, b4, b5⟩
end XSTEPS
