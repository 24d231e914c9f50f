theorem daF_1 {x : Int32} (h : rng x 0 2) : (daF x = 1) = (x = 1) := by
  rcases three_of h with rfl | rfl | rfl <;> decide
section LoopA
variable {E : ZE} {l : Launch} {d nc ns : Nat} {g : Gh} {L : Nat} {X : Nat → Int32} {t : Nat} {μ : ZM} {ρ : RV} {K : Option Value → ZM → Prop} {x1 x2 x3 x4 : Int32}
def fCa (ρ : RV) (x1 x2 : Int32) (i : Nat) : Int32 := if ρ 63 i = x1 ∧ (x2 = 0 ∨ ρ 64 i = 1) then 1 else 0
theorem c_carrier (hS : Stat μ) (hr : RIg g t ρ) (hc : CRg g μ ρ) (k : K (some (.int (sS (fCa ρ x1 x2) (nS ρ)))) μ) : AW E l (d + 2) nc ns mX10_carrier 23 [some (.ref 11), some (.int x1), some (.int x2), some (.int 0), some (.int 0), none] [] μ K := by
  obtain ⟨s1, s2, s3, s4, s5, s6, s7, s8, s9, s10, s11⟩ := hc.s
  obtain ⟨b1, b2, b3, b4, b5, b6, b7, b8⟩ := hr.s
  have b300 := b3.2
  have lE : ρ 31 22 ≤ nI (nS ρ) := by rw [← b3.1]; exact Int32.le_refl _
  refine lpd (P := fun j => AW E l (d + 2) nc ns mX10_carrier 23 [some (.ref 11), some (.int x1), some (.int x2), some (.int (sS (fCa ρ x1 x2) j)), some (.int (nI j)), none] [] μ K) (n := nS ρ) ?_ ?_
  · refine t_X10_carrier_23 hS ?_
    simp (disch := omega) only [s3, lE, true_implies, false_implies, implies_true, not_true_eq_false, not_false_eq_true, and_true, true_and, Option.some.injEq, reduceCtorEq, forall_eq', forall_eq]
    exact k
  · intro j hj ih
    have l1 : ¬ ρ 31 22 ≤ nI j := by rw [b3.1]; exact nI_ge hj (by omega)
    have l3 : vp_in (nI j) 300 := vp_in_nI (by omega) (by decide)
    have l4 : (nI j).toNatClampNeg = j := nI_clamp (by omega)
    obtain ⟨d1, d2, d3, d4, d5, d6, d7, d8, d9, d10, d11, d12, d13, d14, d15, d16, d17, d18, d19⟩ := hr.sa hj
    obtain ⟨c1, c2, c3, c4, c5, c6, c7, c8, c9, c10, c11, c12, c13, c14, c15, c16, c17, c18, c19, c20, c21, c22, c23⟩ := hc.sa hj
    refine t_X10_carrier_23 hS ?_
    simp only [sS, fCa, ← nI_1] at ih
    simp (disch := omega) only [s3, l1, l3, l4, c1, c4, c20, c21, daF_1 d19, true_implies, false_implies, implies_true, not_true_eq_false, not_false_eq_true, and_true, true_and, Option.some.injEq, reduceCtorEq, forall_eq', forall_eq]
    by_cases q1 : ρ 63 j = x1 <;> by_cases q2 : x2 = 0 <;> by_cases q3 : ρ 64 j = 1
    all_goals
      simp (disch := omega) only [q1, q2, q3, if_true, if_false, true_or, or_true, false_or, or_false, and_false, false_and, and_self, or_self, Int32.add_zero, true_implies, false_implies, implies_true, not_true_eq_false, not_false_eq_true, and_true, true_and, Option.some.injEq, reduceCtorEq, forall_eq', forall_eq] at ih ⊢
      exact ih
theorem r_carrier (hS : Stat μ) (hr : RIg g t ρ) (hρ : rf μ = ρ) (k : K (some (.int (sS (fCa ρ x1 x2) (nS ρ)))) μ) : AW E l (d + 1) nc ns mX11_carrier 25 [some (.ref 31), some (.int x1), some (.int x2), some (.int 0), some (.int 0)] [] μ K := by
  have R : ∀ a j, 31 ≤ a → a < 88 → zI μ a j = ρ a j := fun a j h1 h2 => rfz hρ h1 h2
  obtain ⟨b1, b2, b3, b4, b5, b6, b7, b8⟩ := hr.s
  have b300 := b3.2
  have lE : ρ 31 22 ≤ nI (nS ρ) := by rw [← b3.1]; exact Int32.le_refl _
  refine lpd (P := fun j => AW E l (d + 1) nc ns mX11_carrier 25 [some (.ref 31), some (.int x1), some (.int x2), some (.int (sS (fCa ρ x1 x2) j)), some (.int (nI j))] [] μ K) (n := nS ρ) ?_ ?_
  · refine t_X11_carrier_25 hS ?_
    simp (disch := omega) only [R, lE, true_implies, false_implies, implies_true, not_true_eq_false, not_false_eq_true, and_true, true_and, Option.some.injEq, reduceCtorEq, forall_eq', forall_eq]
    exact k
  · intro j hj ih
    have l1 : ¬ ρ 31 22 ≤ nI j := by rw [b3.1]; exact nI_ge hj (by omega)
    have l3 : vp_in (nI j) 300 := vp_in_nI (by omega) (by decide)
    have l4 : (nI j).toNatClampNeg = j := nI_clamp (by omega)
    obtain ⟨d1, d2, d3, d4, d5, d6, d7, d8, d9, d10, d11, d12, d13, d14, d15, d16, d17, d18, d19⟩ := hr.sa hj
    refine t_X11_carrier_25 hS ?_
    simp only [sS, fCa, ← nI_1] at ih
    simp (disch := omega) only [R, l1, l3, l4, true_implies, false_implies, implies_true, not_true_eq_false, not_false_eq_true, and_true, true_and, Option.some.injEq, reduceCtorEq, forall_eq', forall_eq]
    by_cases q1 : ρ 63 j = x1 <;> by_cases q2 : x2 = 0 <;> by_cases q3 : ρ 64 j = 1
    all_goals
      simp (disch := omega) only [q1, q2, q3, if_true, if_false, true_or, or_true, false_or, or_false, and_false, false_and, and_self, or_self, Int32.add_zero, true_implies, false_implies, implies_true, not_true_eq_false, not_false_eq_true, and_true, true_and, Option.some.injEq, reduceCtorEq, forall_eq', forall_eq] at ih ⊢
      exact ih
end LoopA
section LoopAp
variable {E : ZE} {l : Launch} {d : Nat} {g : Gh} {L : Nat} {X : Nat → Int32} {t : Nat} {μ : ZM} {x1 x2 x3 x4 : Int32}
theorem pr_carrier (hI : IV g L X t μ) : PRp E l d L X t mX10_carrier mX11_carrier [some (.ref 11), some (.int x1), some (.int x2), none, none, none] [some (.ref 31), some (.int x1), some (.int x2), none, none] μ := by
  obtain ⟨ρ, hρ⟩ : ∃ ρ, rf μ = ρ := ⟨_, rfl⟩
  have hS := hI.st
  have hr := hI.r hρ
  have hc := hI.c hρ
  have R : ∀ a j, 31 ≤ a → a < 88 → zI μ a j = ρ a j := fun a j h1 h2 => rfz hρ h1 h2
  obtain ⟨s1, s2, s3, s4, s5, s6, s7, s8, s9, s10, s11⟩ := hc.s
  obtain ⟨b1, b2, b3, b4, b5, b6, b7, b8⟩ := hr.s
  have hU : IV g L X (t + 1) μ := hI.up (Nat.le_succ t)
  refine PRp.mk fun K hK => ?_
  by_cases z1 : x1 < 0
  · refine t_X10_carrier hS ?_
    simp (disch := omega) only [z1, true_implies, false_implies, implies_true, not_true_eq_false, not_false_eq_true, and_true, true_and, Option.some.injEq, reduceCtorEq, forall_eq', forall_eq]
    refine hK _ _ hS hI.s0 fun Q hQ => t_X11_carrier hS ?_
    simp (disch := omega) only [z1, R, true_implies, false_implies, implies_true, not_true_eq_false, not_false_eq_true, and_true, true_and, Option.some.injEq, reduceCtorEq, forall_eq', forall_eq]
    exact hQ _ _ hU
  by_cases z2 : 4 < x1
  · refine t_X10_carrier hS ?_
    simp (disch := omega) only [z1, z2, true_implies, false_implies, implies_true, not_true_eq_false, not_false_eq_true, and_true, true_and, Option.some.injEq, reduceCtorEq, forall_eq', forall_eq]
    refine hK _ _ hS hI.s0 fun Q hQ => t_X11_carrier hS ?_
    simp (disch := omega) only [z1, z2, R, true_implies, false_implies, implies_true, not_true_eq_false, not_false_eq_true, and_true, true_and, Option.some.injEq, reduceCtorEq, forall_eq', forall_eq]
    exact hQ _ _ hU
  by_cases y1 : x2 < 0
  · refine t_X10_carrier hS ?_
    simp (disch := omega) only [z1, z2, y1, true_implies, false_implies, implies_true, not_true_eq_false, not_false_eq_true, and_true, true_and, Option.some.injEq, reduceCtorEq, forall_eq', forall_eq]
    refine hK _ _ hS hI.s0 fun Q hQ => t_X11_carrier hS ?_
    simp (disch := omega) only [z1, z2, y1, R, true_implies, false_implies, implies_true, not_true_eq_false, not_false_eq_true, and_true, true_and, Option.some.injEq, reduceCtorEq, forall_eq', forall_eq]
    exact hQ _ _ hU
  by_cases y2 : 1 < x2
  · refine t_X10_carrier hS ?_
    simp (disch := omega) only [z1, z2, y1, y2, true_implies, false_implies, implies_true, not_true_eq_false, not_false_eq_true, and_true, true_and, Option.some.injEq, reduceCtorEq, forall_eq', forall_eq]
    refine hK _ _ hS hI.s0 fun Q hQ => t_X11_carrier hS ?_
    simp (disch := omega) only [z1, z2, y1, y2, R, true_implies, false_implies, implies_true, not_true_eq_false, not_false_eq_true, and_true, true_and, Option.some.injEq, reduceCtorEq, forall_eq', forall_eq]
    exact hQ _ _ hU
  refine t_X10_carrier hS ?_
  simp (disch := omega) only [z1, z2, y1, y2, true_implies, false_implies, implies_true, not_true_eq_false, not_false_eq_true, and_true, true_and, Option.some.injEq, reduceCtorEq, forall_eq', forall_eq]
  refine c_carrier hS hr hc ?_
  refine hK _ _ hS hI.s0 fun Q hQ => t_X11_carrier hS ?_
  simp (disch := omega) only [z1, z2, y1, y2, true_implies, false_implies, implies_true, not_true_eq_false, not_false_eq_true, and_true, true_and, Option.some.injEq, reduceCtorEq, forall_eq', forall_eq]
  exact r_carrier hS hr hρ (hQ _ _ hU)
end LoopAp
