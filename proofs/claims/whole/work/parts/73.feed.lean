/-! the tape -/
def bC (x s : Int32) : Int32 := (x.toUInt32 >>> (s.toUInt32 &&& Int32.toUInt32 31)).toInt32 &&& 255
def bR (x k : Int32) : Int32 := ((x >>> ((8 * k) &&& 31)).toInt8.toInt32).toInt8.toInt32
theorem bC_rng (x s : Int32) : rng (bC x s) 0 255 := by
  unfold bC
  rw [pk_and _ (m := 255) 8 (by decide)]
  exact rng_nI (by omega) (by omega)
theorem sx8 (X : BitVec 32) (c : Nat) (hc : c ≤ 24) : ((((X.sshiftRight c).signExtend 8).signExtend 32).signExtend 8) = ((X >>> c) &&& 255#32).signExtend 8 := by
  apply BitVec.eq_of_getLsbD_eq
  intro i hi
  have h255 : (255#32).getLsbD i = true := by
    have : i = 0 ∨ i = 1 ∨ i = 2 ∨ i = 3 ∨ i = 4 ∨ i = 5 ∨ i = 6 ∨ i = 7 := by omega
    rcases this with rfl | rfl | rfl | rfl | rfl | rfl | rfl | rfl <;> decide
  rw [BitVec.getLsbD_signExtend, BitVec.getLsbD_signExtend, BitVec.getLsbD_signExtend, BitVec.getLsbD_signExtend, BitVec.getLsbD_and, h255, BitVec.getLsbD_sshiftRight, BitVec.getLsbD_ushiftRight]
  have h1 : decide (i < 8) = true := by simp; omega
  have h2 : i < 32 := by omega
  have h3 : i < 8 := by omega
  simp only [h1, h2, h3, if_true, decide_true, Bool.true_and, Bool.and_true]
  have h4 : c + i < 32 := by omega
  simp [h2, h4]
theorem bRC3 (x : Int32) : bR x 3 = (bC x 24).toInt8.toInt32 := congrArg Int8.toInt32 (Int8.toBitVec_inj.mp (sx8 x.toBitVec 24 (by decide)))
theorem bRC2 (x : Int32) : bR x 2 = (bC x 16).toInt8.toInt32 := congrArg Int8.toInt32 (Int8.toBitVec_inj.mp (sx8 x.toBitVec 16 (by decide)))
theorem bRC1 (x : Int32) : bR x 1 = (bC x 8).toInt8.toInt32 := congrArg Int8.toInt32 (Int8.toBitVec_inj.mp (sx8 x.toBitVec 8 (by decide)))
theorem bRC0 (x : Int32) : bR x 0 = (bC x 0).toInt8.toInt32 := congrArg Int8.toInt32 (Int8.toBitVec_inj.mp (sx8 x.toBitVec 0 (by decide)))
/-- m cells from n on of the array a are written, and its count -/
def FD (M M' : ZM) (a la lj n m : Nat) (f : Nat → Int32) : Prop := zI M' la lj = nI (n + m) ∧ (∀ j, j < m → zI M' a (n + j) = f j) ∧ (∀ b j, ¬ (b = a ∧ n ≤ j ∧ j < n + m) → ¬ (b = la ∧ j = lj) → zI M' b j = zI M b j) ∧ zN M' = zN M ∧ (∀ b, zK M' b = zK M b) ∧ (∀ b, zL M' b = zL M b) ∧ (∀ b j, zA M' b j = zA M b j) ∧ (∀ b j, zJ M' b j = zJ M b j)
theorem FD.rfl {M : ZM} {a la lj n : Nat} {f : Nat → Int32} (h : zI M la lj = nI n) : FD M M a la lj n 0 f := ⟨h, fun j hj => absurd hj (by omega), fun _ _ _ _ => _root_.rfl, _root_.rfl, fun _ => _root_.rfl, fun _ => _root_.rfl, fun _ _ => _root_.rfl, fun _ _ => _root_.rfl⟩
theorem FD.step {M M' : ZM} {a la lj n m : Nat} {f : Nat → Int32} (h : FD M M' a la lj n m f) (hne : a ≠ la) : FD M (sI (sI M' a (n + m) (f m)) la lj (nI (n + m) + 1)) a la lj n (m + 1) f := by
  obtain ⟨h1, h2, h3, h4⟩ := h
  refine ⟨?_, fun j hj => ?_, fun b j hn1 hn2 => ?_, h4⟩
  · rw [zI_eq, nI_1]
    exact _root_.rfl
  · rw [zI_ne hne]
    by_cases c : j = m
    · subst c
      rw [zI_eq]
    · rw [zI_nk (by omega)]
      exact h2 j (by omega)
  · rw [zI_sI, if_neg hn2, zI_sI, if_neg (by omega)]
    exact h3 b j (by omega) hn2
section Feed
variable {E : ZE} {l : Launch} {d nc ns : Nat} {M0 M : ZM} {K : Option Value → ZM → Prop} {n m : Nat} {f : Nat → Int32} {x : Int32}
theorem c_append (hS : Stat M) (hF : FD M0 M 21 20 1 n m f) (hb : n + m + 4 ≤ 200) (f0 : f m = bC x 24) (f1 : f (m + 1) = bC x 16) (f2 : f (m + 2) = bC x 8) (f3 : f (m + 3) = bC x 0) (k : ∀ M', Stat M' → FD M0 M' 21 20 1 n (m + 4) f → K none M') : AW E l d nc ns mX8_append 0 (zargs 3 [.ref 20, .int x]) [] M K := by
  have st : ∀ (M : ZM) (m : Nat) (s : Int32), Stat M → FD M0 M 21 20 1 n m f → n + m < 200 → ¬ s < 0 → f m = bC x s → AW E l d nc ns mX8_append 3 [some (.ref 20), some (.int x), some (.int (s + (-8)))] [] (sI (sI M 21 (n + m) (f m)) 20 1 (nI (n + m) + 1)) K → AW E l d nc ns mX8_append 3 [some (.ref 20), some (.int x), some (.int s)] [] M K := by
    intro M m s hS hF hb hs hf hk
    have c1 : ¬ (200 : Int32) ≤ nI (n + m) := by rw [show (200 : Int32) = nI 200 from rfl]; exact nI_ge hb (by omega)
    have c2 : vp_in (nI (n + m)) 200 := vp_in_nI hb (by decide)
    have c3 : (nI (n + m)).toNatClampNeg = n + m := nI_clamp (by omega)
    refine t_X8_append_3 hS ?_
    have h1 := hF.1
    unfold bC at hf
    simp (disch := omega) only [hs, h1, c1, c2, c3, ← hf, zI_ne, true_implies, false_implies, implies_true, not_true_eq_false, not_false_eq_true, and_true, true_and, Option.some.injEq, reduceCtorEq, forall_eq', forall_eq]
    exact hk
  refine t_X8_append hS (st M m 24 hS hF (by omega) (by decide) f0 ?_)
  have F1 := hF.step (by decide)
  refine st _ (m + 1) (24 + -8) hS.wI.wI F1 (by omega) (by decide) f1 ?_
  have F2 := F1.step (by decide)
  refine st _ (m + 2) (24 + -8 + -8) hS.wI.wI.wI.wI F2 (by omega) (by decide) f2 ?_
  have F3 := F2.step (by decide)
  refine st _ (m + 3) (24 + -8 + -8 + -8) hS.wI.wI.wI.wI.wI.wI F3 (by omega) (by decide) f3 ?_
  have F4 := F3.step (by decide)
  exact t_X8_append_3 hS.wI.wI.wI.wI.wI.wI.wI.wI (br_t (by decide) (k _ hS.wI.wI.wI.wI.wI.wI.wI.wI F4))
theorem r_feedOne (hS : Stat M) (hF : FD M0 M 65 31 41 n m f) (hb : n + m + 4 ≤ 200) (f0 : f m = bR x 3) (f1 : f (m + 1) = bR x 2) (f2 : f (m + 2) = bR x 1) (f3 : f (m + 3) = bR x 0) (k : ∀ M', Stat M' → FD M0 M' 65 31 41 n (m + 4) f → K none M') : AW E l d nc ns mX11_feedOne 0 (zargs 3 [.ref 31, .int x]) [] M K := by
  have st : ∀ (M : ZM) (m : Nat) (s : Int32), Stat M → FD M0 M 65 31 41 n m f → n + m < 200 → ¬ s < 0 → f m = bR x s → AW E l d nc ns mX11_feedOne 2 [some (.ref 31), some (.int x), some (.int (s + (-1)))] [] (sI (sI M 65 (n + m) (f m)) 31 41 (nI (n + m) + 1)) K → AW E l d nc ns mX11_feedOne 2 [some (.ref 31), some (.int x), some (.int s)] [] M K := by
    intro M m s hS hF hb hs hf hk
    have c2 : vp_in (nI (n + m)) 200 := vp_in_nI hb (by decide)
    have c3 : (nI (n + m)).toNatClampNeg = n + m := nI_clamp (by omega)
    refine t_X11_feedOne_2 hS ?_
    have h1 := hF.1
    unfold bR at hf
    simp (disch := omega) only [hs, h1, c2, c3, ← hf, zI_ne, true_implies, false_implies, implies_true, not_true_eq_false, not_false_eq_true, and_true, true_and, Option.some.injEq, reduceCtorEq, forall_eq', forall_eq]
    exact hk
  refine t_X11_feedOne hS (st M m 3 hS hF (by omega) (by decide) f0 ?_)
  have F1 := hF.step (by decide)
  refine st _ (m + 1) (3 + -1) hS.wI.wI F1 (by omega) (by decide) f1 ?_
  have F2 := F1.step (by decide)
  refine st _ (m + 2) (3 + -1 + -1) hS.wI.wI.wI.wI F2 (by omega) (by decide) f2 ?_
  have F3 := F2.step (by decide)
  refine st _ (m + 3) (3 + -1 + -1 + -1) hS.wI.wI.wI.wI.wI.wI F3 (by omega) (by decide) f3 ?_
  have F4 := F3.step (by decide)
  exact t_X11_feedOne_2 hS.wI.wI.wI.wI.wI.wI.wI.wI (br_t (by decide) (k _ hS.wI.wI.wI.wI.wI.wI.wI.wI F4))
end Feed
