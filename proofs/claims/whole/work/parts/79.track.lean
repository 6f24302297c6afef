/-! One track in a meeting: what class and reference know of it. -/
section XTRACK
/-- a number in a range -/
def RN (lo hi a : UInt64) : Prop := NN a ∧ rg a lo hi
def LX : UInt64 := 14096266833669652480
def HX : UInt64 := 4872894796814876672
abbrev XW (a : UInt64) : Prop := RN LX HX a
abbrev YW (a : UInt64) : Prop := RN 13849694754071117824 4626322717216342016 a
abbrev VW (a : UInt64) : Prop := RN 13845191154443747328 4634626229029306368 a
theorem bits_df {a : UInt64} (h : a.toNat % 2 ^ 63 < 2047 * 2 ^ 52) : DF a := FP.Core.fin_of_lt h (Nat.le_refl _)
theorem RN.df {lo hi a : UInt64} (h : RN lo hi a) (hl : DF lo) (hh : DF hi) : DF a := df_of h.1 hl hh h.2.1 h.2.2
theorem XW.df {a : UInt64} (h : XW a) : DF a := RN.df h (bits_df (by decide)) (bits_df (by decide))
theorem YW.df {a : UInt64} (h : YW a) : DF a := RN.df h (bits_df (by decide)) (bits_df (by decide))
theorem VW.df {a : UInt64} (h : VW a) : DF a := RN.df h (bits_df (by decide)) (bits_df (by decide))
def hf (a m : UInt64) : UInt64 := FP.dadd a (FP.dmul 4602678819172646912 (FP.dsub m a))
def qf (a m : UInt64) : UInt64 := FP.dadd a (FP.dmul 4598175219545276416 (FP.dsub m a))
theorem hf_in {lo hi a m : UInt64} (hl : DF lo) (hh : DF hi) (hw : zv hi - zv lo ≤ zv HI) (ha : RN lo hi a) (hm : RN lo hi m) : NN (FP.dsub m a) ∧ NN (FP.dmul 4602678819172646912 (FP.dsub m a)) ∧ NN (FP.dadd a (FP.dmul 4602678819172646912 (FP.dsub m a))) ∧ RN lo hi (hf a m) := by
  obtain ⟨a1, a2, a3⟩ := id ha
  obtain ⟨m1, m2, m3⟩ := id hm
  obtain ⟨h1, h2, h3, h4, h5⟩ := mid part_half (by decide) (bits_df (by decide)) (ha.df hl hh) (hm.df hl hh) (by omega) (by omega)
  refine ⟨h1.nn, h2, h3, h3, ?_⟩
  rcases Int.le_total (zv a) (zv m) with q | q
  · obtain ⟨q1, q2⟩ := h4 q
    exact ⟨Int.le_trans a2 q1, Int.le_trans q2 m3⟩
  · obtain ⟨q1, q2⟩ := h5 q
    exact ⟨Int.le_trans m2 q1, Int.le_trans q2 a3⟩
theorem qf_in {lo hi a m : UInt64} (hl : DF lo) (hh : DF hi) (hw : zv hi - zv lo ≤ zv HI) (ha : RN lo hi a) (hm : RN lo hi m) : NN (FP.dsub m a) ∧ NN (FP.dmul 4598175219545276416 (FP.dsub m a)) ∧ NN (FP.dadd a (FP.dmul 4598175219545276416 (FP.dsub m a))) ∧ RN lo hi (qf a m) := by
  obtain ⟨a1, a2, a3⟩ := id ha
  obtain ⟨m1, m2, m3⟩ := id hm
  obtain ⟨h1, h2, h3, h4, h5⟩ := mid part_quarter (by decide) (bits_df (by decide)) (ha.df hl hh) (hm.df hl hh) (by omega) (by omega)
  refine ⟨h1.nn, h2, h3, h3, ?_⟩
  rcases Int.le_total (zv a) (zv m) with q | q
  · obtain ⟨q1, q2⟩ := h4 q
    exact ⟨Int.le_trans a2 q1, Int.le_trans q2 m3⟩
  · obtain ⟨q1, q2⟩ := h5 q
    exact ⟨Int.le_trans m2 q1, Int.le_trans q2 a3⟩
theorem hX {a m : UInt64} (ha : XW a) (hm : XW m) : NN (FP.dsub m a) ∧ NN (FP.dmul 4602678819172646912 (FP.dsub m a)) ∧ NN (FP.dadd a (FP.dmul 4602678819172646912 (FP.dsub m a))) ∧ XW (hf a m) := hf_in (bits_df (by decide)) (bits_df (by decide)) (by decide +kernel) ha hm
theorem hY {a m : UInt64} (ha : YW a) (hm : YW m) : NN (FP.dsub m a) ∧ NN (FP.dmul 4602678819172646912 (FP.dsub m a)) ∧ NN (FP.dadd a (FP.dmul 4602678819172646912 (FP.dsub m a))) ∧ YW (hf a m) := hf_in (bits_df (by decide)) (bits_df (by decide)) (by decide +kernel) ha hm
theorem hV {a m : UInt64} (ha : VW a) (hm : VW m) : NN (FP.dsub m a) ∧ NN (FP.dmul 4598175219545276416 (FP.dsub m a)) ∧ NN (FP.dadd a (FP.dmul 4598175219545276416 (FP.dsub m a))) ∧ VW (qf a m) := qf_in (bits_df (by decide)) (bits_df (by decide)) (by decide +kernel) ha hm
def suN (su : Int32) : Int32 := if 5 ≤ su then 5 else su + 1
/-- one track: the class's there, x, y, v, sure, coast, met, speed met; the reference's there, x, y, v, sure, coast, told first, told second, speed first -/
def RT (P : UInt64 → Prop) (th : Int32) (x y v : UInt64) (su co me : Int32) (ms : UInt64) (th' : Int32) (x' y' v' : UInt64) (su' co' tf ts : Int32) (sf : UInt64) : Prop :=
  z01 th ∧ th' = th ∧ (XW x ∧ YW y ∧ VW v ∧ (¬ me = 0 → VW ms)) ∧ (P x' ∧ VW v') ∧ (¬ th = 0 → x' = x ∧ y' = y ∧ v' = v ∧ su' = su ∧ (me = 0 → co' = co) ∧ (¬ me = 0 → co = 0)) ∧ (me = 0 ↔ tf = 0 ∧ ts = 0) ∧ (¬ me = 0 → ¬ th = 0) ∧ (ts = 0 → ¬ tf = 0 → sf = ms)
section
variable {P : UInt64 → Prop} {th su co me th' su' co' tf ts : Int32} {x y v ms x' y' v' sf a b c : UInt64}
theorem RT_J0 (hP : ∀ a, XW a → P a) (h : RT P th x y v su co me ms th' x' y' v' su' co' tf ts sf) (ht : ¬ th = 0) (ha : XW a) (hb : YW b) (hc : VW c) : RT P th (hf x a) (hf y b) (qf v c) (suN su) 0 1 c th' (hf x' a) (hf y' b) (qf v' c) (suN su') co' 1 ts c := by
  obtain ⟨h1, h2, ⟨h3, h4, h5, h6⟩, ⟨h7, h8⟩, h9, h10, h11, h12⟩ := h
  obtain ⟨rfl, rfl, rfl, rfl, e5, e6⟩ := h9 ht
  have w1 := (hX h3 ha).2.2.2
  have w2 := (hY h4 hb).2.2.2
  have w3 := (hV h5 hc).2.2.2
  exact ⟨h1, h2, ⟨w1, w2, w3, fun _ => hc⟩, ⟨hP _ w1, w3⟩, fun _ => ⟨rfl, rfl, rfl, rfl, fun q => absurd q n10, fun _ => rfl⟩, ⟨fun q => absurd q n10, fun q => absurd q.1 n10⟩, fun _ => ht, fun _ _ => rfl⟩
theorem RT_J1 (hP : ∀ a, XW a → P a) (h : RT P th x y v su co me ms th' x' y' v' su' co' tf ts sf) (ht : ¬ th = 0) (ha : XW a) (hb : YW b) (hc : VW c) : RT P th (hf x a) (hf y b) (qf v c) (suN su) 0 1 c th' (hf x' a) (hf y' b) (qf v' c) (suN su') co' tf 1 sf := by
  obtain ⟨h1, h2, ⟨h3, h4, h5, h6⟩, ⟨h7, h8⟩, h9, h10, h11, h12⟩ := h
  obtain ⟨rfl, rfl, rfl, rfl, e5, e6⟩ := h9 ht
  have w1 := (hX h3 ha).2.2.2
  have w2 := (hY h4 hb).2.2.2
  have w3 := (hV h5 hc).2.2.2
  exact ⟨h1, h2, ⟨w1, w2, w3, fun _ => hc⟩, ⟨hP _ w1, w3⟩, fun _ => ⟨rfl, rfl, rfl, rfl, fun q => absurd q n10, fun _ => rfl⟩, ⟨fun q => absurd q n10, fun q => absurd q.2 n10⟩, fun _ => ht, fun q _ => absurd q n10⟩
theorem RT_K0 (hP : ∀ a, XW a → P a) (ha : XW a) (hb : YW b) (hc : VW c) : RT P 1 a b c 1 0 1 c 1 a b c 1 0 1 ts c :=
  ⟨.inr rfl, rfl, ⟨ha, hb, hc, fun _ => hc⟩, ⟨hP _ ha, hc⟩, fun _ => ⟨rfl, rfl, rfl, rfl, fun q => absurd q n10, fun _ => rfl⟩, ⟨fun q => absurd q n10, fun q => absurd q.1 n10⟩, fun _ => n10, fun _ _ => rfl⟩
theorem RT_K1 (hP : ∀ a, XW a → P a) (ha : XW a) (hb : YW b) (hc : VW c) : RT P 1 a b c 1 0 1 c 1 a b c 1 0 tf 1 sf :=
  ⟨.inr rfl, rfl, ⟨ha, hb, hc, fun _ => hc⟩, ⟨hP _ ha, hc⟩, fun _ => ⟨rfl, rfl, rfl, rfl, fun q => absurd q n10, fun _ => rfl⟩, ⟨fun q => absurd q n10, fun q => absurd q.2 n10⟩, fun _ => n10, fun q _ => absurd q n10⟩
end
end XTRACK
