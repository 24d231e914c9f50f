section SellP
variable {E : ZE} {l : Launch} {d : Nat} {g : Gh} {L : Nat} {X : Nat → Int32} {t : Nat} {μ : ZM} {x1 x2 x3 x4 x5 : Int32}
theorem pr_sell (hI : IV g L X t μ) : PRp E l d L X t mX10_sell mX11_sell [some (.ref 11), some (.int x1), some (.int x2), some (.int x3), some (.int x4), some (.int x5), none, none] [some (.ref 31), some (.int x1), some (.int x2), some (.int x3), some (.int x4), some (.int x5), none, none, none] μ := by
  have hI0 := hI
  by_cases main : (∃ i, i < nL (rf μ) ∧ x1 = nI i) ∧ ¬ x2 < 1 ∧ ¬ 999999 < x2 ∧ ¬ x3 < 0 ∧ ¬ 20999 < x3 ∧ ¬ x4 < 0 ∧ ¬ 999999 < x4 ∧ x4 - x4 / 100 * 100 ≤ 60 ∧ (x5 = -1 ∨ ∃ q, q < nN (rf μ) ∧ x5 = nI q)
  · obtain ⟨⟨i, hi, rfl⟩, y1, y2, y3, y4, y5, y6, y7, rfl | ⟨q, hq, rfl⟩⟩ := main
    · exact pr_sell0 hI hi y1 y2 y3 y4 y5 y6 y7
    · exact pr_sellN hq hI hi y1 y2 y3 y4 y5 y6 y7
  obtain ⟨ρ, hρ⟩ : ∃ ρ, rf μ = ρ := ⟨_, rfl⟩
  have hS := hI.st
  have hr := hI.r hρ
  have hc := hI.c hρ
  have R : ∀ a j, 31 ≤ a → a < 88 → zI μ a j = ρ a j := fun a j h1 h2 => rfz hρ h1 h2
  obtain ⟨s1, s2, s3, s4, s5, s6, s7, s8, s9, s10, s11⟩ := hc.s
  obtain ⟨b1, b2, b3, b4, b5, b6, b7, b8⟩ := hr.s
  have hU : IV g L X (t + 1) μ := hI.up (Nat.le_succ t)
  refine PRp.mk fun K hK => ?_
  rw [hρ] at main
  rcases ix3 x1 (n := nL ρ) (by have := b2.2; omega) with h | ⟨h, h'⟩ | ⟨i, hi, rfl⟩
  · refine t_X10_sell hS ?_
    simp (disch := omega) only [h, true_implies, false_implies, implies_true, not_true_eq_false, not_false_eq_true, and_true, true_and, Option.some.injEq, reduceCtorEq, forall_eq', forall_eq]
    refine hK _ _ hS hI.s0 fun Q hQ => t_X11_sell hS ?_
    simp (disch := omega) only [h, R, true_implies, false_implies, implies_true, not_true_eq_false, not_false_eq_true, and_true, true_and, Option.some.injEq, reduceCtorEq, forall_eq', forall_eq]
    exact hQ _ _ hU
  · rw [← b2.1] at h'
    refine t_X10_sell hS ?_
    simp (disch := omega) only [h, h', s2, true_implies, false_implies, implies_true, not_true_eq_false, not_false_eq_true, and_true, true_and, Option.some.injEq, reduceCtorEq, forall_eq', forall_eq]
    refine hK _ _ hS hI.s0 fun Q hQ => t_X11_sell hS ?_
    simp (disch := omega) only [h, h', R, true_implies, false_implies, implies_true, not_true_eq_false, not_false_eq_true, and_true, true_and, Option.some.injEq, reduceCtorEq, forall_eq', forall_eq]
    exact hQ _ _ hU
  · have b60 := b2.2
    have h1 : ¬ nI i < 0 := nI_pos (by omega)
    have h2 := ix_lt (by omega) hi
    have h3 : vp_in (nI i) 60 := vp_in_nI (by omega) (by decide)
    have h4 : (nI i).toNatClampNeg = i := nI_clamp (by omega)
    rw [← b2.1] at h2
    obtain ⟨c1, c2, c3, c4, c5, c6, c7⟩ := hc.l hi
    by_cases y1 : x2 < 1
    · refine t_X10_sell hS ?_
      simp (disch := omega) only [h1, h2, h3, h4, y1, s2, c1, true_implies, false_implies, implies_true, not_true_eq_false, not_false_eq_true, and_true, true_and, Option.some.injEq, reduceCtorEq, forall_eq', forall_eq]
      refine hK _ _ hS hI.s0 fun Q hQ => t_X11_sell hS ?_
      simp (disch := omega) only [h1, h2, h3, h4, y1, R, true_implies, false_implies, implies_true, not_true_eq_false, not_false_eq_true, and_true, true_and, Option.some.injEq, reduceCtorEq, forall_eq', forall_eq]
      exact hQ _ _ hU
    by_cases y2 : 999999 < x2
    · refine t_X10_sell hS ?_
      simp (disch := omega) only [h1, h2, h3, h4, y1, y2, s2, c1, true_implies, false_implies, implies_true, not_true_eq_false, not_false_eq_true, and_true, true_and, Option.some.injEq, reduceCtorEq, forall_eq', forall_eq]
      refine hK _ _ hS hI.s0 fun Q hQ => t_X11_sell hS ?_
      simp (disch := omega) only [h1, h2, h3, h4, y1, y2, R, true_implies, false_implies, implies_true, not_true_eq_false, not_false_eq_true, and_true, true_and, Option.some.injEq, reduceCtorEq, forall_eq', forall_eq]
      exact hQ _ _ hU
    by_cases y3 : x3 < 0
    · refine t_X10_sell hS ?_
      simp (disch := omega) only [h1, h2, h3, h4, y1, y2, y3, s2, c1, true_implies, false_implies, implies_true, not_true_eq_false, not_false_eq_true, and_true, true_and, Option.some.injEq, reduceCtorEq, forall_eq', forall_eq]
      refine hK _ _ hS hI.s0 fun Q hQ => t_X11_sell hS ?_
      simp (disch := omega) only [h1, h2, h3, h4, y1, y2, y3, R, true_implies, false_implies, implies_true, not_true_eq_false, not_false_eq_true, and_true, true_and, Option.some.injEq, reduceCtorEq, forall_eq', forall_eq]
      exact hQ _ _ hU
    by_cases y4 : 20999 < x3
    · refine t_X10_sell hS ?_
      simp (disch := omega) only [h1, h2, h3, h4, y1, y2, y3, y4, s2, c1, true_implies, false_implies, implies_true, not_true_eq_false, not_false_eq_true, and_true, true_and, Option.some.injEq, reduceCtorEq, forall_eq', forall_eq]
      refine hK _ _ hS hI.s0 fun Q hQ => t_X11_sell hS ?_
      simp (disch := omega) only [h1, h2, h3, h4, y1, y2, y3, y4, R, true_implies, false_implies, implies_true, not_true_eq_false, not_false_eq_true, and_true, true_and, Option.some.injEq, reduceCtorEq, forall_eq', forall_eq]
      exact hQ _ _ hU
    by_cases y5 : x4 < 0
    · refine t_X10_sell hS ?_
      simp (disch := omega) only [h1, h2, h3, h4, y1, y2, y3, y4, y5, s2, c1, true_implies, false_implies, implies_true, not_true_eq_false, not_false_eq_true, and_true, true_and, Option.some.injEq, reduceCtorEq, forall_eq', forall_eq]
      refine hK _ _ hS hI.s0 fun Q hQ => t_X11_sell hS ?_
      simp (disch := omega) only [h1, h2, h3, h4, y1, y2, y3, y4, y5, R, true_implies, false_implies, implies_true, not_true_eq_false, not_false_eq_true, and_true, true_and, Option.some.injEq, reduceCtorEq, forall_eq', forall_eq]
      exact hQ _ _ hU
    by_cases y6 : 999999 < x4
    · refine t_X10_sell hS ?_
      simp (disch := omega) only [h1, h2, h3, h4, y1, y2, y3, y4, y5, y6, s2, c1, true_implies, false_implies, implies_true, not_true_eq_false, not_false_eq_true, and_true, true_and, Option.some.injEq, reduceCtorEq, forall_eq', forall_eq]
      refine hK _ _ hS hI.s0 fun Q hQ => t_X11_sell hS ?_
      simp (disch := omega) only [h1, h2, h3, h4, y1, y2, y3, y4, y5, y6, R, true_implies, false_implies, implies_true, not_true_eq_false, not_false_eq_true, and_true, true_and, Option.some.injEq, reduceCtorEq, forall_eq', forall_eq]
      exact hQ _ _ hU
    by_cases y7 : x4 - x4 / 100 * 100 ≤ 60
    · have y8 : ¬ 60 < x4 - x4 / 100 * 100 := Int32.not_lt.mpr y7
      have z1 : ¬ x5 = -1 := fun z => main ⟨⟨i, hi, rfl⟩, y1, y2, y3, y4, y5, y6, y7, Or.inl z⟩
      have b200 := b6.2
      rcases ix3 x5 (n := nN ρ) (by omega) with h | ⟨h, h'⟩ | ⟨q, hq, e⟩
      · refine t_X10_sell hS ?_
        simp (disch := omega) only [h1, h2, h3, h4, y1, y2, y3, y4, y5, y6, y7, y8, z1, h, s2, c1, true_implies, false_implies, implies_true, not_true_eq_false, not_false_eq_true, and_true, true_and, Option.some.injEq, reduceCtorEq, forall_eq', forall_eq]
        refine hK _ _ hS hI.s0 fun Q hQ => t_X11_sell hS ?_
        simp (disch := omega) only [h1, h2, h3, h4, y1, y2, y3, y4, y5, y6, y7, y8, z1, h, R, true_implies, false_implies, implies_true, not_true_eq_false, not_false_eq_true, and_true, true_and, Option.some.injEq, reduceCtorEq, forall_eq', forall_eq]
        exact hQ _ _ hU
      · have z2 : ρ 31 74 ≤ x5 := by
          rw [i_lt, show (1 : Int32) = nI 1 from rfl, pk_sub_toInt (by omega) (by decide)] at h'
          rw [b6.1, i_le, nI_toInt (by omega)]
          omega
        rw [← b6.1] at h'
        refine t_X10_sell hS ?_
        simp (disch := omega) only [h1, h2, h3, h4, y1, y2, y3, y4, y5, y6, y7, y8, z1, z2, h, h', s2, s7, c1, true_implies, false_implies, implies_true, not_true_eq_false, not_false_eq_true, and_true, true_and, Option.some.injEq, reduceCtorEq, forall_eq', forall_eq]
        refine hK _ _ hS hI.s0 fun Q hQ => t_X11_sell hS ?_
        simp (disch := omega) only [h1, h2, h3, h4, y1, y2, y3, y4, y5, y6, y7, y8, z1, z2, h, h', R, true_implies, false_implies, implies_true, not_true_eq_false, not_false_eq_true, and_true, true_and, Option.some.injEq, reduceCtorEq, forall_eq', forall_eq]
        exact hQ _ _ hU
      · exact absurd ⟨⟨i, hi, rfl⟩, y1, y2, y3, y4, y5, y6, y7, Or.inr ⟨q, hq, e⟩⟩ main
    · have y8 : 60 < x4 - x4 / 100 * 100 := Int32.not_le.mp y7
      refine t_X10_sell hS ?_
      simp (disch := omega) only [h1, h2, h3, h4, y1, y2, y3, y4, y5, y6, y7, y8, s2, c1, true_implies, false_implies, implies_true, not_true_eq_false, not_false_eq_true, and_true, true_and, Option.some.injEq, reduceCtorEq, forall_eq', forall_eq]
      refine hK _ _ hS hI.s0 fun Q hQ => t_X11_sell hS ?_
      simp (disch := omega) only [h1, h2, h3, h4, y1, y2, y3, y4, y5, y6, y7, y8, R, true_implies, false_implies, implies_true, not_true_eq_false, not_false_eq_true, and_true, true_and, Option.some.injEq, reduceCtorEq, forall_eq', forall_eq]
      exact hQ _ _ hU
end SellP
