/-! pointers -/
section Ptr
variable {g : Gh} {t : Nat} {μ : ZM} {ρ : RV} {i j m : Nat}
theorem pm_eq (hr : RIg g t ρ) (hc : CRg g μ ρ) (hj : j < nS ρ) (hm : m < nM ρ) : (maF μ (smo ρ j) = maF μ m) = (ρ 45 (ρ 49 j).toNatClampNeg = nI m) := by
  have h1 := (hr.sa hj).2.1
  have h2 := hr.l h1
  have b := hr.s.1.2
  show (maF μ (lm ρ (sl ρ j)) = maF μ m) = (ρ 45 (sl ρ j) = nI m)
  rw [ma_eq hr hc h2.2.1 hm, h2.1, nI_eq (by have := h2.2.1; omega) (by omega)]
theorem pmm_eq (hr : RIg g t ρ) (hc : CRg g μ ρ) (hj : j < nS ρ) (hi : i < nS ρ) : (maF μ (smo ρ j) = maF μ (smo ρ i)) = (ρ 45 (ρ 49 j).toNatClampNeg = ρ 45 (ρ 49 i).toNatClampNeg) := by
  have h2 := hr.l (hr.sa hi).2.1
  show (maF μ (smo ρ j) = maF μ (lm ρ (sl ρ i))) = (_ = ρ 45 (sl ρ i))
  rw [pm_eq hr hc hj h2.2.1, h2.1]
theorem pl_eq (hr : RIg g t ρ) (hc : CRg g μ ρ) (hj : j < nS ρ) (hi : i < nL ρ) : (laF μ (sl ρ j) = laF μ i) = (ρ 49 j = nI i) := by
  have h1 := hr.sa hj
  have b := hr.s.2.1.2
  rw [la_eq hr hc h1.2.1 hi, h1.1, nI_eq (by have := h1.2.1; omega) (by omega)]
theorem pml_eq (hr : RIg g t ρ) (hc : CRg g μ ρ) (hj : j < nL ρ) (hm : m < nM ρ) : (maF μ (lm ρ j) = maF μ m) = (ρ 45 j = nI m) := by
  have h1 := hr.l hj
  have b := hr.s.1.2
  rw [ma_eq hr hc h1.2.1 hm, h1.1, nI_eq (by have := h1.2.1; omega) (by omega)]
theorem k_ma11 (hr : RIg g t ρ) (hc : CRg g μ ρ) (hj : j < nS ρ) : 11 ≤ maF μ (smo ρ j) := by
  have := (k_ma hc (hr.l (hr.sa hj).2.1).2.1).2.2.2.1
  unfold smo
  omega
theorem k_la11 (hr : RIg g t ρ) (hc : CRg g μ ρ) (hj : j < nS ρ) : 11 ≤ laF μ (sl ρ j) := by
  have := (k_la hc (hr.sa hj).2.1).2.1
  omega
theorem v_sl (hr : RIg g t ρ) (hj : j < nS ρ) : vp_in (ρ 49 j) 60 := by
  have h1 := hr.sa hj
  have b := hr.s.2.1.2
  rw [h1.1]
  exact vp_in_nI (by have := h1.2.1; omega) (by decide)
theorem dyF_lt (hr : RIg g t ρ) (hj : j < nS ρ) {x : Int32} (hx : ¬ 2999 < x) : (x < dyF (ρ 59 j)) = (x < ρ 55 j / 24 ∨ ρ 59 j < 0 ∨ x < ρ 59 j) := by
  obtain ⟨d1, d2, d3, d4, d5, d6, d7, d8, d9, d10, d11, d12, d13, d14, d15, d16, d17, d18, d19⟩ := hr.sa hj
  rw [i_lt, show (2999 : Int32).toInt = 2999 from by decide] at hx
  have e0 : (0 : Int32).toInt = 0 := by decide
  rcases d15 with e | ⟨⟨e1, e2⟩, e3, -⟩
  · rw [e]
    apply propext
    constructor
    · exact fun _ => Or.inr (Or.inl (by decide))
    · intro _
      rw [show dyF (-1) = 3000 from by decide, i_lt, show (3000 : Int32).toInt = 3000 from by decide]
      omega
  · have n1 : ¬ ρ 59 j = -1 := by
      rw [i_eq, show (-1 : Int32).toInt = -1 from by decide]
      omega
    unfold dyF
    rw [if_neg n1]
    apply propext
    rw [i_lt, i_lt, i_lt, e0]
    omega
end Ptr
def fLo (ρ : RV) (x1 x2 x3 : Int32) (i : Nat) : Int32 := if ρ 49 i = x1 ∧ ¬ x3 < ρ 55 i / 24 ∧ (x2 = 0 ∨ (¬ ρ 59 i < 0 ∧ ¬ x3 < ρ 59 i)) then 1 else 0
def fJo (ρ : RV) (x1 x2 x3 x4 : Int32) (i : Nat) : Int32 := if ρ 48 i = 0 ∧ ρ 45 (ρ 49 i).toNatClampNeg = x1 ∧ ρ 52 i = x2 ∧ ¬ ρ 55 i < x3 ∧ ¬ x4 < ρ 55 i then 1 else 0
def fTh (ρ : RV) (s : Nat) (i : Nat) : Int32 := if ρ 54 i = ρ 54 s ∧ ρ 45 (ρ 49 i).toNatClampNeg = ρ 45 (ρ 49 s).toNatClampNeg then 1 else 0
def fBo (ρ : RV) (x1 : Int32) (i : Nat) : Int32 := if ρ 53 i = x1 then 1 else 0
def fSp (ρ : RV) (x1 : Int32) (i : Nat) : Int32 := if ρ 53 i = x1 then ρ 56 i else 0
def fBb (ρ : RV) (x1 x2 x3 : Int32) (i : Nat) : Int32 := if ρ 53 i = x1 ∧ ¬ dyF (ρ 58 i) < x2 ∧ ¬ x3 < dyF (ρ 58 i) then 1 else 0
def fTi (ρ : RV) (s : Nat) (x2 : Int32) (i : Nat) : Int32 := if ρ 53 i = ρ 53 s ∧ ¬ ρ 58 i < 0 ∧ ¬ x2 - ρ 58 i < 0 ∧ ¬ 359 < x2 - ρ 58 i then 1 else 0
section LoopB
variable {E : ZE} {l : Launch} {d nc ns : Nat} {g : Gh} {L : Nat} {X : Nat → Int32} {t : Nat} {μ : ZM} {ρ : RV} {K : Option Value → ZM → Prop} {x1 x2 x3 x4 : Int32}
theorem c_ofLot {i : Nat} (hS : Stat μ) (hr : RIg g t ρ) (hc : CRg g μ ρ) (hi : i < nL ρ) (hx : ¬ 2999 < x3) (k : K (some (.int (sS (fLo ρ (nI i) x2 x3) (nS ρ)))) μ) : AW E l (d + 2) nc ns mX10_ofLot 36 [some (.ref 11), none, some (.int x2), some (.int x3), some (.ref (laF μ i)), some (.int 0), some (.int 0), none] [] μ K := by
  obtain ⟨s1, s2, s3, s4, s5, s6, s7, s8, s9, s10, s11⟩ := hc.s
  obtain ⟨b1, b2, b3, b4, b5, b6, b7, b8⟩ := hr.s
  have b300 := b3.2
  have lE : ρ 31 22 ≤ nI (nS ρ) := by rw [← b3.1]; exact Int32.le_refl _
  have kl : 11 ≤ laF μ i := by have := (k_la hc hi).2.1; omega
  refine lpd (P := fun j => AW E l (d + 2) nc ns mX10_ofLot 36 [some (.ref 11), none, some (.int x2), some (.int x3), some (.ref (laF μ i)), some (.int (sS (fLo ρ (nI i) x2 x3) j)), some (.int (nI j)), none] [] μ K) (n := nS ρ) ?_ ?_
  · refine t_X10_ofLot_36 hS ?_
    simp (disch := omega) only [s3, lE, true_implies, false_implies, implies_true, not_true_eq_false, not_false_eq_true, and_true, true_and, Option.some.injEq, reduceCtorEq, forall_eq', forall_eq]
    exact k
  · intro j hj ih
    have l1 : ¬ ρ 31 22 ≤ nI j := by rw [b3.1]; exact nI_ge hj (by omega)
    have l3 : vp_in (nI j) 300 := vp_in_nI (by omega) (by decide)
    have l4 : (nI j).toNatClampNeg = j := nI_clamp (by omega)
    obtain ⟨d1, d2, d3, d4, d5, d6, d7, d8, d9, d10, d11, d12, d13, d14, d15, d16, d17, d18, d19⟩ := hr.sa hj
    obtain ⟨c1, c2, c3, c4, c5, c6, c7, c8, c9, c10, c11, c12, c13, c14, c15, c16, c17, c18, c19, c20, c21, c22, c23⟩ := hc.sa hj
    have kl2 := k_la11 hr hc hj
    refine t_X10_ofLot_36 hS ?_
    simp only [sS, fLo, ← nI_1] at ih
    simp (disch := omega) only [s3, l1, l3, l4, c1, c4, c7, c13, c18, kl, kl2, pl_eq hr hc hj hi, dyF_lt hr hj hx, true_implies, false_implies, implies_true, not_true_eq_false, not_false_eq_true, and_true, true_and, Option.some.injEq, reduceCtorEq, forall_eq', forall_eq]
    by_cases q1 : ρ 49 j = nI i <;> by_cases q2 : x2 = 0 <;> by_cases q3 : x3 < ρ 55 j / 24 <;> by_cases q4 : ρ 59 j < 0 <;> by_cases q5 : x3 < ρ 59 j
    all_goals
      simp (disch := omega) only [q1, q2, q3, q4, q5, if_true, if_false, true_or, or_true, false_or, or_false, and_false, false_and, and_self, or_self, Int32.add_zero, true_implies, false_implies, implies_true, not_true_eq_false, not_false_eq_true, and_true, true_and, Option.some.injEq, reduceCtorEq, forall_eq', forall_eq] at ih ⊢
      exact ih
theorem r_ofLot  (hS : Stat μ) (hr : RIg g t ρ) (hρ : rf μ = ρ)  (k : K (some (.int (sS (fLo ρ x1 x2 x3) (nS ρ)))) μ) : AW E l (d + 2) nc ns mX11_ofLot 32 [some (.ref 31), some (.int x1), some (.int x2), some (.int x3), some (.int 0), some (.int 0)] [] μ K := by
  have R : ∀ a j, 31 ≤ a → a < 88 → zI μ a j = ρ a j := fun a j h1 h2 => rfz hρ h1 h2
  obtain ⟨b1, b2, b3, b4, b5, b6, b7, b8⟩ := hr.s
  have b300 := b3.2
  have lE : ρ 31 22 ≤ nI (nS ρ) := by rw [← b3.1]; exact Int32.le_refl _
  refine lpd (P := fun j => AW E l (d + 2) nc ns mX11_ofLot 32 [some (.ref 31), some (.int x1), some (.int x2), some (.int x3), some (.int (sS (fLo ρ x1 x2 x3) j)), some (.int (nI j))] [] μ K) (n := nS ρ) ?_ ?_
  · refine t_X11_ofLot_32 hS ?_
    simp (disch := omega) only [R, lE, true_implies, false_implies, implies_true, not_true_eq_false, not_false_eq_true, and_true, true_and, Option.some.injEq, reduceCtorEq, forall_eq', forall_eq]
    exact k
  · intro j hj ih
    have l1 : ¬ ρ 31 22 ≤ nI j := by rw [b3.1]; exact nI_ge hj (by omega)
    have l3 : vp_in (nI j) 300 := vp_in_nI (by omega) (by decide)
    have l4 : (nI j).toNatClampNeg = j := nI_clamp (by omega)
    obtain ⟨d1, d2, d3, d4, d5, d6, d7, d8, d9, d10, d11, d12, d13, d14, d15, d16, d17, d18, d19⟩ := hr.sa hj
    refine t_X11_ofLot_32 hS ?_
    simp only [sS, fLo, ← nI_1] at ih
    simp (disch := omega) only [R, l1, l3, l4, true_implies, false_implies, implies_true, not_true_eq_false, not_false_eq_true, and_true, true_and, Option.some.injEq, reduceCtorEq, forall_eq', forall_eq]
    by_cases q1 : ρ 49 j = x1 <;> by_cases q2 : x2 = 0 <;> by_cases q3 : x3 < ρ 55 j / 24 <;> by_cases q4 : ρ 59 j < 0 <;> by_cases q5 : x3 < ρ 59 j
    all_goals
      simp (disch := omega) only [q1, q2, q3, q4, q5, if_true, if_false, true_or, or_true, false_or, or_false, and_false, false_and, and_self, or_self, Int32.add_zero, true_implies, false_implies, implies_true, not_true_eq_false, not_false_eq_true, and_true, true_and, Option.some.injEq, reduceCtorEq, forall_eq', forall_eq] at ih ⊢
      exact ih
theorem c_threes13 {i : Nat} (hS : Stat μ) (hr : RIg g t ρ) (hc : CRg g μ ρ) (hi : i < nS ρ) (h0 : ¬ ρ 54 i = 0) (k : K (some (.int (sS (fTh ρ i) (nS ρ)))) μ) : AW E l (d + 1) nc ns mX10_threesOf 13 [some (.ref 11), some (.ref (saF μ i)), some (.int 0), some (.int 0)] [] μ K := by
  obtain ⟨s1, s2, s3, s4, s5, s6, s7, s8, s9, s10, s11⟩ := hc.s
  obtain ⟨b1, b2, b3, b4, b5, b6, b7, b8⟩ := hr.s
  have b300 := b3.2
  have lE : ρ 31 22 ≤ nI (nS ρ) := by rw [← b3.1]; exact Int32.le_refl _
  have ka := k_ma11 hr hc hi
  obtain ⟨w1, w2, w3, w4, w5, w6, w7, w8, w9, w10, -⟩ := hc.sa hi
  refine lpd (P := fun j => AW E l (d + 1) nc ns mX10_threesOf 13 [some (.ref 11), some (.ref (saF μ i)), some (.int (sS (fTh ρ i) j)), some (.int (nI j))] [] μ K) (n := nS ρ) ?_ ?_
  · refine t_X10_threesOf_13 hS ?_
    simp (disch := omega) only [s3, lE, true_implies, false_implies, implies_true, not_true_eq_false, not_false_eq_true, and_true, true_and, Option.some.injEq, reduceCtorEq, forall_eq', forall_eq]
    exact k
  · intro j hj ih
    have l1 : ¬ ρ 31 22 ≤ nI j := by rw [b3.1]; exact nI_ge hj (by omega)
    have l3 : vp_in (nI j) 300 := vp_in_nI (by omega) (by decide)
    have l4 : (nI j).toNatClampNeg = j := nI_clamp (by omega)
    obtain ⟨d1, d2, d3, d4, d5, d6, d7, d8, d9, d10, d11, d12, d13, d14, d15, d16, d17, d18, d19⟩ := hr.sa hj
    obtain ⟨c1, c2, c3, c4, c5, c6, c7, c8, c9, c10, c11, c12, c13, c14, c15, c16, c17, c18, c19, c20, c21, c22, c23⟩ := hc.sa hj
    have ka2 := k_ma11 hr hc hj
    refine t_X10_threesOf_13 hS ?_
    simp only [sS, fTh, ← nI_1] at ih
    simp (disch := omega) only [s3, l1, l3, l4, c1, c4, c6, c10, w4, w6, w10, ka, ka2, pmm_eq hr hc hj hi, true_implies, false_implies, implies_true, not_true_eq_false, not_false_eq_true, and_true, true_and, Option.some.injEq, reduceCtorEq, forall_eq', forall_eq]
    by_cases q0 : ρ 54 j = 0
    · have q1 : ¬ ρ 54 j = ρ 54 i := by rw [q0]; exact fun z => h0 z.symm
      simp (disch := omega) only [q0, q1, if_true, if_false, true_or, or_true, false_or, or_false, and_false, false_and, and_self, or_self, Int32.add_zero, true_implies, false_implies, implies_true, not_true_eq_false, not_false_eq_true, and_true, true_and, Option.some.injEq, reduceCtorEq, forall_eq', forall_eq] at ih ⊢
      have q1 : ¬ 0 = ρ 54 i := fun z => h0 z.symm
      simp (disch := omega) only [q1, if_true, if_false, true_or, or_true, false_or, or_false, and_false, false_and, and_self, or_self, Int32.add_zero, true_implies, false_implies, implies_true, not_true_eq_false, not_false_eq_true, and_true, true_and, Option.some.injEq, reduceCtorEq, forall_eq', forall_eq] at ih ⊢
      exact ih
    by_cases q1 : ρ 54 j = ρ 54 i <;> by_cases q2 : ρ 45 (ρ 49 j).toNatClampNeg = ρ 45 (ρ 49 i).toNatClampNeg
    all_goals
      simp (disch := omega) only [q0, h0, q1, q2, if_true, if_false, true_or, or_true, false_or, or_false, and_false, false_and, and_self, or_self, Int32.add_zero, true_implies, false_implies, implies_true, not_true_eq_false, not_false_eq_true, and_true, true_and, Option.some.injEq, reduceCtorEq, forall_eq', forall_eq] at ih ⊢
      exact ih
theorem r_threes15 {i : Nat} (hS : Stat μ) (hr : RIg g t ρ) (hρ : rf μ = ρ) (hi : i < nS ρ) (k : K (some (.int (sS (fTh ρ i) (nS ρ)))) μ) : AW E l (d + 1) nc ns mX11_threes 15 [some (.ref 31), some (.int (nI i)), some (.int 0), some (.int 0)] [] μ K := by
  have R : ∀ a j, 31 ≤ a → a < 88 → zI μ a j = ρ a j := fun a j h1 h2 => rfz hρ h1 h2
  obtain ⟨b1, b2, b3, b4, b5, b6, b7, b8⟩ := hr.s
  have b300 := b3.2
  have lE : ρ 31 22 ≤ nI (nS ρ) := by rw [← b3.1]; exact Int32.le_refl _
  have w1 : vp_in (nI i) 300 := vp_in_nI (by omega) (by decide)
  have w2 : (nI i).toNatClampNeg = i := nI_clamp (by omega)
  have w3 := v_sl hr hi
  refine lpd (P := fun j => AW E l (d + 1) nc ns mX11_threes 15 [some (.ref 31), some (.int (nI i)), some (.int (sS (fTh ρ i) j)), some (.int (nI j))] [] μ K) (n := nS ρ) ?_ ?_
  · refine t_X11_threes_15 hS ?_
    simp (disch := omega) only [R, lE, true_implies, false_implies, implies_true, not_true_eq_false, not_false_eq_true, and_true, true_and, Option.some.injEq, reduceCtorEq, forall_eq', forall_eq]
    exact k
  · intro j hj ih
    have l1 : ¬ ρ 31 22 ≤ nI j := by rw [b3.1]; exact nI_ge hj (by omega)
    have l3 : vp_in (nI j) 300 := vp_in_nI (by omega) (by decide)
    have l4 : (nI j).toNatClampNeg = j := nI_clamp (by omega)
    obtain ⟨d1, d2, d3, d4, d5, d6, d7, d8, d9, d10, d11, d12, d13, d14, d15, d16, d17, d18, d19⟩ := hr.sa hj
    refine t_X11_threes_15 hS ?_
    simp only [sS, fTh, ← nI_1] at ih
    simp (disch := omega) only [R, l1, l3, l4, w1, w2, w3, v_sl hr hj, true_implies, false_implies, implies_true, not_true_eq_false, not_false_eq_true, and_true, true_and, Option.some.injEq, reduceCtorEq, forall_eq', forall_eq]
    by_cases q1 : ρ 54 j = ρ 54 i <;> by_cases q2 : ρ 45 (ρ 49 j).toNatClampNeg = ρ 45 (ρ 49 i).toNatClampNeg
    all_goals
      simp (disch := omega) only [q1, q2, if_true, if_false, true_or, or_true, false_or, or_false, and_false, false_and, and_self, or_self, Int32.add_zero, true_implies, false_implies, implies_true, not_true_eq_false, not_false_eq_true, and_true, true_and, Option.some.injEq, reduceCtorEq, forall_eq', forall_eq] at ih ⊢
      exact ih
theorem c_boughtBy4  (hS : Stat μ) (hr : RIg g t ρ) (hc : CRg g μ ρ)  (k : K (some (.int (sS (fBo ρ x1) (nS ρ)))) μ) : AW E l d nc ns mX10_boughtBy 4 [some (.ref 11), some (.int x1), some (.int 0), some (.int 0)] [] μ K := by
  obtain ⟨s1, s2, s3, s4, s5, s6, s7, s8, s9, s10, s11⟩ := hc.s
  obtain ⟨b1, b2, b3, b4, b5, b6, b7, b8⟩ := hr.s
  have b300 := b3.2
  have lE : ρ 31 22 ≤ nI (nS ρ) := by rw [← b3.1]; exact Int32.le_refl _
  refine lpd (P := fun j => AW E l d nc ns mX10_boughtBy 4 [some (.ref 11), some (.int x1), some (.int (sS (fBo ρ x1) j)), some (.int (nI j))] [] μ K) (n := nS ρ) ?_ ?_
  · refine t_X10_boughtBy_4 hS ?_
    simp (disch := omega) only [s3, lE, true_implies, false_implies, implies_true, not_true_eq_false, not_false_eq_true, and_true, true_and, Option.some.injEq, reduceCtorEq, forall_eq', forall_eq]
    exact k
  · intro j hj ih
    have l1 : ¬ ρ 31 22 ≤ nI j := by rw [b3.1]; exact nI_ge hj (by omega)
    have l3 : vp_in (nI j) 300 := vp_in_nI (by omega) (by decide)
    have l4 : (nI j).toNatClampNeg = j := nI_clamp (by omega)
    obtain ⟨d1, d2, d3, d4, d5, d6, d7, d8, d9, d10, d11, d12, d13, d14, d15, d16, d17, d18, d19⟩ := hr.sa hj
    obtain ⟨c1, c2, c3, c4, c5, c6, c7, c8, c9, c10, c11, c12, c13, c14, c15, c16, c17, c18, c19, c20, c21, c22, c23⟩ := hc.sa hj
    refine t_X10_boughtBy_4 hS ?_
    simp only [sS, fBo, ← nI_1] at ih
    simp (disch := omega) only [s3, l1, l3, l4, c1, c4, c12, true_implies, false_implies, implies_true, not_true_eq_false, not_false_eq_true, and_true, true_and, Option.some.injEq, reduceCtorEq, forall_eq', forall_eq]
    by_cases q1 : ρ 53 j = x1
    all_goals
      simp (disch := omega) only [q1, if_true, if_false, true_or, or_true, false_or, or_false, and_false, false_and, and_self, or_self, Int32.add_zero, true_implies, false_implies, implies_true, not_true_eq_false, not_false_eq_true, and_true, true_and, Option.some.injEq, reduceCtorEq, forall_eq', forall_eq] at ih ⊢
      exact ih
theorem c_spentBy4  (hS : Stat μ) (hr : RIg g t ρ) (hc : CRg g μ ρ)  (k : K (some (.int (sS (fSp ρ x1) (nS ρ)))) μ) : AW E l d nc ns mX10_spentBy 4 [some (.ref 11), some (.int x1), some (.int 0), some (.int 0)] [] μ K := by
  obtain ⟨s1, s2, s3, s4, s5, s6, s7, s8, s9, s10, s11⟩ := hc.s
  obtain ⟨b1, b2, b3, b4, b5, b6, b7, b8⟩ := hr.s
  have b300 := b3.2
  have lE : ρ 31 22 ≤ nI (nS ρ) := by rw [← b3.1]; exact Int32.le_refl _
  refine lpd (P := fun j => AW E l d nc ns mX10_spentBy 4 [some (.ref 11), some (.int x1), some (.int (sS (fSp ρ x1) j)), some (.int (nI j))] [] μ K) (n := nS ρ) ?_ ?_
  · refine t_X10_spentBy_4 hS ?_
    simp (disch := omega) only [s3, lE, true_implies, false_implies, implies_true, not_true_eq_false, not_false_eq_true, and_true, true_and, Option.some.injEq, reduceCtorEq, forall_eq', forall_eq]
    exact k
  · intro j hj ih
    have l1 : ¬ ρ 31 22 ≤ nI j := by rw [b3.1]; exact nI_ge hj (by omega)
    have l3 : vp_in (nI j) 300 := vp_in_nI (by omega) (by decide)
    have l4 : (nI j).toNatClampNeg = j := nI_clamp (by omega)
    obtain ⟨d1, d2, d3, d4, d5, d6, d7, d8, d9, d10, d11, d12, d13, d14, d15, d16, d17, d18, d19⟩ := hr.sa hj
    obtain ⟨c1, c2, c3, c4, c5, c6, c7, c8, c9, c10, c11, c12, c13, c14, c15, c16, c17, c18, c19, c20, c21, c22, c23⟩ := hc.sa hj
    refine t_X10_spentBy_4 hS ?_
    simp only [sS, fSp, ← nI_1] at ih
    simp (disch := omega) only [s3, l1, l3, l4, c1, c4, c12, c14, true_implies, false_implies, implies_true, not_true_eq_false, not_false_eq_true, and_true, true_and, Option.some.injEq, reduceCtorEq, forall_eq', forall_eq]
    by_cases q1 : ρ 53 j = x1
    all_goals
      simp (disch := omega) only [q1, if_true, if_false, true_or, or_true, false_or, or_false, and_false, false_and, and_self, or_self, Int32.add_zero, true_implies, false_implies, implies_true, not_true_eq_false, not_false_eq_true, and_true, true_and, Option.some.injEq, reduceCtorEq, forall_eq', forall_eq] at ih ⊢
      exact ih
theorem c_backOf6  (hS : Stat μ) (hr : RIg g t ρ) (hc : CRg g μ ρ)  (k : K (some (.int (sS (fBb ρ x1 x2 x3) (nS ρ)))) μ) : AW E l (d + 1) nc ns mX10_backOfBuyer 6 [some (.ref 11), some (.int x1), some (.int x2), some (.int x3), some (.int 0), some (.int 0), none] [] μ K := by
  obtain ⟨s1, s2, s3, s4, s5, s6, s7, s8, s9, s10, s11⟩ := hc.s
  obtain ⟨b1, b2, b3, b4, b5, b6, b7, b8⟩ := hr.s
  have b300 := b3.2
  have lE : ρ 31 22 ≤ nI (nS ρ) := by rw [← b3.1]; exact Int32.le_refl _
  refine lpd (P := fun j => AW E l (d + 1) nc ns mX10_backOfBuyer 6 [some (.ref 11), some (.int x1), some (.int x2), some (.int x3), some (.int (sS (fBb ρ x1 x2 x3) j)), some (.int (nI j)), none] [] μ K) (n := nS ρ) ?_ ?_
  · refine t_X10_backOfBuyer_6 hS ?_
    simp (disch := omega) only [s3, lE, true_implies, false_implies, implies_true, not_true_eq_false, not_false_eq_true, and_true, true_and, Option.some.injEq, reduceCtorEq, forall_eq', forall_eq]
    exact k
  · intro j hj ih
    have l1 : ¬ ρ 31 22 ≤ nI j := by rw [b3.1]; exact nI_ge hj (by omega)
    have l3 : vp_in (nI j) 300 := vp_in_nI (by omega) (by decide)
    have l4 : (nI j).toNatClampNeg = j := nI_clamp (by omega)
    obtain ⟨d1, d2, d3, d4, d5, d6, d7, d8, d9, d10, d11, d12, d13, d14, d15, d16, d17, d18, d19⟩ := hr.sa hj
    obtain ⟨c1, c2, c3, c4, c5, c6, c7, c8, c9, c10, c11, c12, c13, c14, c15, c16, c17, c18, c19, c20, c21, c22, c23⟩ := hc.sa hj
    refine t_X10_backOfBuyer_6 hS ?_
    simp only [sS, fBb, ← nI_1] at ih
    simp (disch := omega) only [s3, l1, l3, l4, c1, c4, c12, c17, true_implies, false_implies, implies_true, not_true_eq_false, not_false_eq_true, and_true, true_and, Option.some.injEq, reduceCtorEq, forall_eq', forall_eq]
    by_cases q1 : ρ 53 j = x1 <;> by_cases q2 : dyF (ρ 58 j) < x2 <;> by_cases q3 : x3 < dyF (ρ 58 j)
    all_goals
      simp (disch := omega) only [q1, q2, q3, if_true, if_false, true_or, or_true, false_or, or_false, and_false, false_and, and_self, or_self, Int32.add_zero, true_implies, false_implies, implies_true, not_true_eq_false, not_false_eq_true, and_true, true_and, Option.some.injEq, reduceCtorEq, forall_eq', forall_eq] at ih ⊢
      exact ih
theorem r_times18 {i : Nat} (hS : Stat μ) (hr : RIg g t ρ) (hρ : rf μ = ρ) (hi : i < nS ρ) (k : K (some (.int (sS (fTi ρ i x2) (nS ρ)))) μ) : AW E l (d + 1) nc ns mX11_times 18 [some (.ref 31), some (.int (nI i)), some (.int x2), some (.int 0), some (.int 0)] [] μ K := by
  have R : ∀ a j, 31 ≤ a → a < 88 → zI μ a j = ρ a j := fun a j h1 h2 => rfz hρ h1 h2
  obtain ⟨b1, b2, b3, b4, b5, b6, b7, b8⟩ := hr.s
  have b300 := b3.2
  have lE : ρ 31 22 ≤ nI (nS ρ) := by rw [← b3.1]; exact Int32.le_refl _
  have w1 : vp_in (nI i) 300 := vp_in_nI (by omega) (by decide)
  have w2 : (nI i).toNatClampNeg = i := nI_clamp (by omega)
  refine lpd (P := fun j => AW E l (d + 1) nc ns mX11_times 18 [some (.ref 31), some (.int (nI i)), some (.int x2), some (.int (sS (fTi ρ i x2) j)), some (.int (nI j))] [] μ K) (n := nS ρ) ?_ ?_
  · refine t_X11_times_18 hS ?_
    simp (disch := omega) only [R, lE, true_implies, false_implies, implies_true, not_true_eq_false, not_false_eq_true, and_true, true_and, Option.some.injEq, reduceCtorEq, forall_eq', forall_eq]
    exact k
  · intro j hj ih
    have l1 : ¬ ρ 31 22 ≤ nI j := by rw [b3.1]; exact nI_ge hj (by omega)
    have l3 : vp_in (nI j) 300 := vp_in_nI (by omega) (by decide)
    have l4 : (nI j).toNatClampNeg = j := nI_clamp (by omega)
    obtain ⟨d1, d2, d3, d4, d5, d6, d7, d8, d9, d10, d11, d12, d13, d14, d15, d16, d17, d18, d19⟩ := hr.sa hj
    refine t_X11_times_18 hS ?_
    simp only [sS, fTi, ← nI_1] at ih
    simp (disch := omega) only [R, l1, l3, l4, w1, w2, true_implies, false_implies, implies_true, not_true_eq_false, not_false_eq_true, and_true, true_and, Option.some.injEq, reduceCtorEq, forall_eq', forall_eq]
    by_cases q1 : ρ 53 j = ρ 53 i <;> by_cases q2 : ρ 58 j < 0 <;> by_cases q3 : x2 - ρ 58 j < 0 <;> by_cases q4 : 359 < x2 - ρ 58 j
    all_goals
      simp (disch := omega) only [q1, q2, q3, q4, if_true, if_false, true_or, or_true, false_or, or_false, and_false, false_and, and_self, or_self, Int32.add_zero, true_implies, false_implies, implies_true, not_true_eq_false, not_false_eq_true, and_true, true_and, Option.some.injEq, reduceCtorEq, forall_eq', forall_eq] at ih ⊢
      exact ih
end LoopB
