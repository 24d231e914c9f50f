def bst (w : Nat → Int) : Nat := if w 1 ≤ w 0 ∧ w 2 ≤ w 0 ∧ w 3 ≤ w 0 then 0 else if w 2 ≤ w 1 ∧ w 3 ≤ w 1 then 1 else if w 3 ≤ w 2 then 2 else 3
theorem bst_eq {w : Nat → Int} {k : Nat} (h : (k = 0 ∧ w 1 ≤ w 0 ∧ w 2 ≤ w 0 ∧ w 3 ≤ w 0) ∨ (k = 1 ∧ w 0 < w 1 ∧ w 2 ≤ w 1 ∧ w 3 ≤ w 1) ∨ (k = 2 ∧ w 0 < w 2 ∧ w 1 < w 2 ∧ w 3 ≤ w 2) ∨ (k = 3 ∧ w 0 < w 3 ∧ w 1 < w 3 ∧ w 2 < w 3)) : bst w = k := by
  unfold bst
  rcases h with h | h | h | h
  · rw [if_pos (by omega)]
    exact h.1.symm
  · rw [if_neg (by omega), if_pos (by omega)]
    exact h.1.symm
  · rw [if_neg (by omega), if_neg (by omega), if_pos (by omega)]
    exact h.1.symm
  · rw [if_neg (by omega), if_neg (by omega), if_neg (by omega)]
    exact h.1.symm
theorem bst_lt (w : Nat → Int) : bst w < 4 := by
  unfold bst
  split
  · omega
  · split
    · omega
    · split <;> omega
def wrI (ρ : RV) (s : Nat) (k : Nat) : Int := (wrB ρ s (nI k)).toInt
theorem wrI_b {g : Gh} {t i : Nat} {ρ : RV} (hr : RIg g t ρ) (hi : i < nS ρ) : (-2000000000 ≤ wrI ρ i 0) ∧ (-2000000000 ≤ wrI ρ i 1) ∧ (-2000000000 < wrI ρ i 2) ∧ 0 ≤ wrI ρ i 3 := by
  have hm : smo ρ i < nM ρ := (hr.l (hr.sa hi).2.1).2.1
  obtain ⟨r1, r2, r3, r4, r5, r6⟩ := hr.m hm
  have pr := prR_rng (day := ρ 31 1 / 24) hr hm
  obtain ⟨w, hw, ew⟩ := dg_lt (ρ 79 (tN (ρ 61 i))) 3
  have ew : wrn ρ i = nI w := ew
  have us : 0 ≤ (usW ρ (smo ρ i) (wrn ρ i)).toInt := by
    rw [ew]
    unfold usW
    obtain ⟨e1, e2, e3⟩ := rng_of pr (by decide)
    obtain ⟨p, hp⟩ : ∃ p, p = tN (prR ρ (smo ρ i) (ρ 31 1 / 24)) := ⟨_, rfl⟩
    rw [← hp] at e1 e2
    have e90 : (90 : Int32) - 8 * nI w = nI (90 - 8 * w) := by
      rw [show (8 : Int32) = nI 8 from rfl, pk_mul, show (90 : Int32) = nI 90 from rfl, pk_sub (by omega)]
    have hpq : p * (90 - 8 * w) ≤ 99999 * 90 := Nat.mul_le_mul (by omega) (by omega)
    rw [e1, e90, pk_mul, show (100 : Int32) = nI 100 from rfl, pk_div (by omega) (by decide) (by decide), nI_toInt (by omega)]
    omega
  have us2 : (usW ρ (smo ρ i) (wrn ρ i)).toInt ≤ 99999 * 90 := by
    rw [ew]
    unfold usW
    obtain ⟨e1, e2, e3⟩ := rng_of pr (by decide)
    obtain ⟨p, hp⟩ : ∃ p, p = tN (prR ρ (smo ρ i) (ρ 31 1 / 24)) := ⟨_, rfl⟩
    rw [← hp] at e1 e2
    have e90 : (90 : Int32) - 8 * nI w = nI (90 - 8 * w) := by
      rw [show (8 : Int32) = nI 8 from rfl, pk_mul, show (90 : Int32) = nI 90 from rfl, pk_sub (by omega)]
    have hpq : p * (90 - 8 * w) ≤ 99999 * 90 := Nat.mul_le_mul (by omega) (by omega)
    rw [e1, e90, pk_mul, show (100 : Int32) = nI 100 from rfl, pk_div (by omega) (by decide) (by decide), nI_toInt (by omega)]
    omega
  have v : (-2000000000 : Int32).toInt = -2000000000 := by decide
  refine ⟨?_, ?_, ?_, ?_⟩
  · unfold wrI wrB
    rw [if_pos (show nI 0 = 0 from rfl)]
    split
    · have := pr.1
      omega
    · rw [v]
      exact Int.le_refl _
  · unfold wrI wrB
    rw [if_neg (show ¬ nI 1 = 0 by decide), if_pos (show nI 1 = 1 from rfl)]
    split
    · rw [v]
      exact Int.le_refl _
    · omega
  · unfold wrI wrB
    rw [if_neg (show ¬ nI 2 = 0 by decide), if_neg (show ¬ nI 2 = 1 by decide), if_pos (show nI 2 = 2 from rfl)]
    obtain ⟨x1, x2, x3⟩ := rng_of r4 (by decide)
    obtain ⟨y1, y2, y3⟩ := nn_of us
    rw [x1, y1, pk_sub_toInt (by omega) (by omega)]
    omega
  · unfold wrI wrB
    rw [if_neg (show ¬ nI 3 = 0 by decide), if_neg (show ¬ nI 3 = 1 by decide), if_neg (show ¬ nI 3 = 2 by decide)]
    obtain ⟨x1, x2, x3⟩ := rng_of r3 (by decide)
    rw [x1, show (100 : Int32) = nI 100 from rfl, pk_div (by omega) (by decide) (by decide), nI_toInt (by omega)]
    omega
section Best
variable {E : ZE} {l : Launch} {d nc ns : Nat} {g : Gh} {t : Nat} {μ : ZM} {ρ : RV} {K : Option Value → ZM → Prop} {i : Nat} {x1 x2 : Int32}
theorem c_bestWay (hS : Stat μ) (hr : RIg g t ρ) (hc : CRg g μ ρ) (hi : i < nS ρ) (st : ρ 48 i = 2) (k : K (some (.int (nI (bst (wrI ρ i))))) μ) : AW E l (d + 3) nc ns mX10_bestWay 0 (zargs 4 [.ref 11, .ref (saF μ i)]) [] μ K := by
  have W : ∀ {d nc ns : Nat} {K : Option Value → ZM → Prop} (w : Nat), w < 4 → K (some (.int (wrB ρ i (nI w)))) μ → AW E l (d + 2) nc ns mX10_worthNow 0 (zargs 3 [.ref 11, .ref (saF μ i), .int (nI w)]) [] μ K := fun w hw k => c_worthNow hS hr hc hi st hw k
  refine t_X10_bestWay hS ?_
  refine t_X10_bestWay_4 hS (br_f (by decide) ?_)
  refine W 1 (by decide) ⟨_, rfl, hS, ?_⟩
  refine W 0 (by decide) ⟨_, rfl, hS, ?_⟩
  rw [i_le]
  refine ⟨fun q1 => ?_, fun q1 => ?_⟩
  · refine t_X10_bestWay_4 hS (br_f (by decide) ?_)
    refine W 2 (by decide) ⟨_, rfl, hS, ?_⟩
    refine W 0 (by decide) ⟨_, rfl, hS, ?_⟩
    rw [i_le]
    refine ⟨fun q2 => ?_, fun q2 => ?_⟩
    · refine t_X10_bestWay_4 hS (br_f (by decide) ?_)
      refine W 3 (by decide) ⟨_, rfl, hS, ?_⟩
      refine W 0 (by decide) ⟨_, rfl, hS, ?_⟩
      rw [i_le]
      refine ⟨fun q3 => ?_, fun q3 => ?_⟩
      · refine t_X10_bestWay_4 hS (br_t (by decide) ?_)
        rw [bst_eq (k := 0) (by unfold wrI; omega)] at k
        exact k
      · refine t_X10_bestWay_4 hS (br_t (by decide) ?_)
        rw [bst_eq (k := 3) (by unfold wrI; omega)] at k
        exact k
    · refine t_X10_bestWay_4 hS (br_f (by decide) ?_)
      refine W 3 (by decide) ⟨_, rfl, hS, ?_⟩
      refine W 2 (by decide) ⟨_, rfl, hS, ?_⟩
      rw [i_le]
      refine ⟨fun q3 => ?_, fun q3 => ?_⟩
      · refine t_X10_bestWay_4 hS (br_t (by decide) ?_)
        rw [bst_eq (k := 2) (by unfold wrI; omega)] at k
        exact k
      · refine t_X10_bestWay_4 hS (br_t (by decide) ?_)
        rw [bst_eq (k := 3) (by unfold wrI; omega)] at k
        exact k
  · refine t_X10_bestWay_4 hS (br_f (by decide) ?_)
    refine W 2 (by decide) ⟨_, rfl, hS, ?_⟩
    refine W 1 (by decide) ⟨_, rfl, hS, ?_⟩
    rw [i_le]
    refine ⟨fun q2 => ?_, fun q2 => ?_⟩
    · refine t_X10_bestWay_4 hS (br_f (by decide) ?_)
      refine W 3 (by decide) ⟨_, rfl, hS, ?_⟩
      refine W 1 (by decide) ⟨_, rfl, hS, ?_⟩
      rw [i_le]
      refine ⟨fun q3 => ?_, fun q3 => ?_⟩
      · refine t_X10_bestWay_4 hS (br_t (by decide) ?_)
        rw [bst_eq (k := 1) (by unfold wrI; omega)] at k
        exact k
      · refine t_X10_bestWay_4 hS (br_t (by decide) ?_)
        rw [bst_eq (k := 3) (by unfold wrI; omega)] at k
        exact k
    · refine t_X10_bestWay_4 hS (br_f (by decide) ?_)
      refine W 3 (by decide) ⟨_, rfl, hS, ?_⟩
      refine W 2 (by decide) ⟨_, rfl, hS, ?_⟩
      rw [i_le]
      refine ⟨fun q3 => ?_, fun q3 => ?_⟩
      · refine t_X10_bestWay_4 hS (br_t (by decide) ?_)
        rw [bst_eq (k := 2) (by unfold wrI; omega)] at k
        exact k
      · refine t_X10_bestWay_4 hS (br_t (by decide) ?_)
        rw [bst_eq (k := 3) (by unfold wrI; omega)] at k
        exact k
theorem r_best26 (hS : Stat μ) (hr : RIg g t ρ) (hρ : rf μ = ρ) (hi : i < nS ρ) (st : ρ 48 i = 2) (k : ∀ b, b = bst (wrI ρ i) → AW E l (d + 3) nc ns mX11_sort 26 [some (.ref 31), some (.int (nI i)), some (.int (nI b)), some (.int (-1))] [] μ K) : AW E l (d + 3) nc ns mX11_sort 26 [some (.ref 31), some (.int (nI i)), some (.int 3), some (.int 2)] [] μ K := by
  have W : ∀ {d nc ns : Nat} {K : Option Value → ZM → Prop} (w : Nat), w < 4 → K (some (.int (wrB ρ i (nI w)))) μ → AW E l (d + 2) nc ns mX11_worthBy 0 (zargs 7 [.ref 31, .int (nI i), .int (nI w)]) [] μ K := fun w hw k => r_worthBy hS hr hρ hi st hw k
  obtain ⟨z0, z1, z2, z3⟩ := wrI_b hr hi
  have v : (-2000000000 : Int32).toInt = -2000000000 := by decide
  unfold wrI at z0 z1 z2 z3
  refine t_X11_sort_26 hS (br_f (by decide) ?_)
  refine W 2 (by decide) ⟨_, rfl, hS, ?_⟩
  rw [i_eq, v]
  refine ⟨fun p2 => ?_, fun p2 => ?_⟩
  · refine t_X11_sort_26 hS (br_f (by decide) ?_)
    refine W 1 (by decide) ⟨_, rfl, hS, ?_⟩
    rw [i_eq, v]
    refine ⟨fun p1 => ?_, fun p1 => ?_⟩
    · refine t_X11_sort_26 hS (br_f (by decide) ?_)
      refine W 0 (by decide) ⟨_, rfl, hS, ?_⟩
      rw [i_eq, v]
      refine ⟨fun p0 => ?_, fun p0 => ?_⟩
      · exact k 3 (bst_eq (by unfold wrI; omega)).symm
      · refine W 0 (by decide) ⟨_, rfl, hS, ?_⟩
        refine W 3 (by decide) ⟨_, rfl, hS, ?_⟩
        rw [i_lt]
        refine ⟨fun q0 => ?_, fun q0 => ?_⟩
        · exact k 3 (bst_eq (by unfold wrI; omega)).symm
        · exact k 0 (bst_eq (by unfold wrI; omega)).symm
    · refine W 1 (by decide) ⟨_, rfl, hS, ?_⟩
      refine W 3 (by decide) ⟨_, rfl, hS, ?_⟩
      rw [i_lt]
      refine ⟨fun q1 => ?_, fun q1 => ?_⟩
      · refine t_X11_sort_26 hS (br_f (by decide) ?_)
        refine W 0 (by decide) ⟨_, rfl, hS, ?_⟩
        rw [i_eq, v]
        refine ⟨fun p0 => ?_, fun p0 => ?_⟩
        · exact k 3 (bst_eq (by unfold wrI; omega)).symm
        · refine W 0 (by decide) ⟨_, rfl, hS, ?_⟩
          refine W 3 (by decide) ⟨_, rfl, hS, ?_⟩
          rw [i_lt]
          refine ⟨fun q0 => ?_, fun q0 => ?_⟩
          · exact k 3 (bst_eq (by unfold wrI; omega)).symm
          · exact k 0 (bst_eq (by unfold wrI; omega)).symm
      · refine t_X11_sort_26 hS (br_f (by decide) ?_)
        refine W 0 (by decide) ⟨_, rfl, hS, ?_⟩
        rw [i_eq, v]
        refine ⟨fun p0 => ?_, fun p0 => ?_⟩
        · exact k 1 (bst_eq (by unfold wrI; omega)).symm
        · refine W 0 (by decide) ⟨_, rfl, hS, ?_⟩
          refine W 1 (by decide) ⟨_, rfl, hS, ?_⟩
          rw [i_lt]
          refine ⟨fun q0 => ?_, fun q0 => ?_⟩
          · exact k 1 (bst_eq (by unfold wrI; omega)).symm
          · exact k 0 (bst_eq (by unfold wrI; omega)).symm
  · refine W 2 (by decide) ⟨_, rfl, hS, ?_⟩
    refine W 3 (by decide) ⟨_, rfl, hS, ?_⟩
    rw [i_lt]
    refine ⟨fun q2 => ?_, fun q2 => ?_⟩
    · refine t_X11_sort_26 hS (br_f (by decide) ?_)
      refine W 1 (by decide) ⟨_, rfl, hS, ?_⟩
      rw [i_eq, v]
      refine ⟨fun p1 => ?_, fun p1 => ?_⟩
      · refine t_X11_sort_26 hS (br_f (by decide) ?_)
        refine W 0 (by decide) ⟨_, rfl, hS, ?_⟩
        rw [i_eq, v]
        refine ⟨fun p0 => ?_, fun p0 => ?_⟩
        · exact k 3 (bst_eq (by unfold wrI; omega)).symm
        · refine W 0 (by decide) ⟨_, rfl, hS, ?_⟩
          refine W 3 (by decide) ⟨_, rfl, hS, ?_⟩
          rw [i_lt]
          refine ⟨fun q0 => ?_, fun q0 => ?_⟩
          · exact k 3 (bst_eq (by unfold wrI; omega)).symm
          · exact k 0 (bst_eq (by unfold wrI; omega)).symm
      · refine W 1 (by decide) ⟨_, rfl, hS, ?_⟩
        refine W 3 (by decide) ⟨_, rfl, hS, ?_⟩
        rw [i_lt]
        refine ⟨fun q1 => ?_, fun q1 => ?_⟩
        · refine t_X11_sort_26 hS (br_f (by decide) ?_)
          refine W 0 (by decide) ⟨_, rfl, hS, ?_⟩
          rw [i_eq, v]
          refine ⟨fun p0 => ?_, fun p0 => ?_⟩
          · exact k 3 (bst_eq (by unfold wrI; omega)).symm
          · refine W 0 (by decide) ⟨_, rfl, hS, ?_⟩
            refine W 3 (by decide) ⟨_, rfl, hS, ?_⟩
            rw [i_lt]
            refine ⟨fun q0 => ?_, fun q0 => ?_⟩
            · exact k 3 (bst_eq (by unfold wrI; omega)).symm
            · exact k 0 (bst_eq (by unfold wrI; omega)).symm
        · refine t_X11_sort_26 hS (br_f (by decide) ?_)
          refine W 0 (by decide) ⟨_, rfl, hS, ?_⟩
          rw [i_eq, v]
          refine ⟨fun p0 => ?_, fun p0 => ?_⟩
          · exact k 1 (bst_eq (by unfold wrI; omega)).symm
          · refine W 0 (by decide) ⟨_, rfl, hS, ?_⟩
            refine W 1 (by decide) ⟨_, rfl, hS, ?_⟩
            rw [i_lt]
            refine ⟨fun q0 => ?_, fun q0 => ?_⟩
            · exact k 1 (bst_eq (by unfold wrI; omega)).symm
            · exact k 0 (bst_eq (by unfold wrI; omega)).symm
    · refine t_X11_sort_26 hS (br_f (by decide) ?_)
      refine W 1 (by decide) ⟨_, rfl, hS, ?_⟩
      rw [i_eq, v]
      refine ⟨fun p1 => ?_, fun p1 => ?_⟩
      · refine t_X11_sort_26 hS (br_f (by decide) ?_)
        refine W 0 (by decide) ⟨_, rfl, hS, ?_⟩
        rw [i_eq, v]
        refine ⟨fun p0 => ?_, fun p0 => ?_⟩
        · exact k 2 (bst_eq (by unfold wrI; omega)).symm
        · refine W 0 (by decide) ⟨_, rfl, hS, ?_⟩
          refine W 2 (by decide) ⟨_, rfl, hS, ?_⟩
          rw [i_lt]
          refine ⟨fun q0 => ?_, fun q0 => ?_⟩
          · exact k 2 (bst_eq (by unfold wrI; omega)).symm
          · exact k 0 (bst_eq (by unfold wrI; omega)).symm
      · refine W 1 (by decide) ⟨_, rfl, hS, ?_⟩
        refine W 2 (by decide) ⟨_, rfl, hS, ?_⟩
        rw [i_lt]
        refine ⟨fun q1 => ?_, fun q1 => ?_⟩
        · refine t_X11_sort_26 hS (br_f (by decide) ?_)
          refine W 0 (by decide) ⟨_, rfl, hS, ?_⟩
          rw [i_eq, v]
          refine ⟨fun p0 => ?_, fun p0 => ?_⟩
          · exact k 2 (bst_eq (by unfold wrI; omega)).symm
          · refine W 0 (by decide) ⟨_, rfl, hS, ?_⟩
            refine W 2 (by decide) ⟨_, rfl, hS, ?_⟩
            rw [i_lt]
            refine ⟨fun q0 => ?_, fun q0 => ?_⟩
            · exact k 2 (bst_eq (by unfold wrI; omega)).symm
            · exact k 0 (bst_eq (by unfold wrI; omega)).symm
        · refine t_X11_sort_26 hS (br_f (by decide) ?_)
          refine W 0 (by decide) ⟨_, rfl, hS, ?_⟩
          rw [i_eq, v]
          refine ⟨fun p0 => ?_, fun p0 => ?_⟩
          · exact k 1 (bst_eq (by unfold wrI; omega)).symm
          · refine W 0 (by decide) ⟨_, rfl, hS, ?_⟩
            refine W 1 (by decide) ⟨_, rfl, hS, ?_⟩
            rw [i_lt]
            refine ⟨fun q0 => ?_, fun q0 => ?_⟩
            · exact k 1 (bst_eq (by unfold wrI; omega)).symm
            · exact k 0 (bst_eq (by unfold wrI; omega)).symm
end Best
