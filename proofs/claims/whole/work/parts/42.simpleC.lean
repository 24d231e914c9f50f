theorem rf_z {μ : ZM} {a j : Nat} (h1 : 31 ≤ a) (h2 : a < 88) : rf μ a j = zI μ a j := (rfz rfl h1 h2).symm
theorem RIs.cg2 {ρ ρ' : RV} (r : RIs ρ) (h : ∀ j, j = 1 ∨ j = 3 ∨ j = 18 ∨ j = 22 ∨ j = 41 ∨ j = 42 ∨ j = 60 ∨ j = 74 → ρ' 31 j = ρ 31 j) : RIs ρ' := by
  unfold RIs nM nL nS nA nT nN tL at r ⊢
  rw [h 3 (by decide), h 18 (by decide), h 22 (by decide), h 60 (by decide), h 42 (by decide), h 74 (by decide), h 41 (by decide), h 1 (by decide)]
  exact r
theorem three_of {x : Int32} (h : rng x 0 2) : x = 0 ∨ x = 1 ∨ x = 2 := by
  obtain ⟨h1, h2⟩ := h
  rw [i_eq, i_eq, i_eq]
  have e0 : (0 : Int32).toInt = 0 := by decide
  have e1 : (1 : Int32).toInt = 1 := by decide
  have e2 : (2 : Int32).toInt = 2 := by decide
  omega
section SimC
variable {E : ZE} {l : Launch} {d : Nat} {g : Gh} {L : Nat} {X : Nat → Int32} {t : Nat} {μ : ZM} {x1 x2 x3 : Int32}
theorem pr_till (hI : IV g L X t μ) : PRp E l d L X t mX10_till mX11_till [some (.ref 11), some (.int x1)] [some (.ref 31), some (.int x1)] μ := by
  obtain ⟨ρ, hρ⟩ : ∃ ρ, rf μ = ρ := ⟨_, rfl⟩
  have hS := hI.st
  have hr := hI.r hρ
  have hc := hI.c hρ
  have R : ∀ a j, 31 ≤ a → a < 88 → zI μ a j = ρ a j := fun a j h1 h2 => rfz hρ h1 h2
  obtain ⟨s1, s2, s3, s4, s5, s6, s7, s8, s9, s10, s11⟩ := hc.s
  obtain ⟨b1, b2, b3, b4, b5, b6, b7, b8⟩ := hr.s
  have hU : IV g L X (t + 1) μ := hI.up (Nat.le_succ t)
  refine PRp.mk fun K hK => ?_
  by_cases y1 : x1 < 1
  · refine t_X10_till hS ?_
    simp (disch := omega) only [y1, true_implies, false_implies, implies_true, not_true_eq_false, not_false_eq_true, and_true, true_and, Option.some.injEq, reduceCtorEq, forall_eq', forall_eq]
    refine hK _ _ hS hI.s0 fun Q hQ => t_X11_till hS ?_
    simp (disch := omega) only [y1, R, true_implies, false_implies, implies_true, not_true_eq_false, not_false_eq_true, and_true, true_and, Option.some.injEq, reduceCtorEq, forall_eq', forall_eq]
    exact hQ _ _ hU
  by_cases y2 : 999999 < x1
  · refine t_X10_till hS ?_
    simp (disch := omega) only [y1, y2, true_implies, false_implies, implies_true, not_true_eq_false, not_false_eq_true, and_true, true_and, Option.some.injEq, reduceCtorEq, forall_eq', forall_eq]
    refine hK _ _ hS hI.s0 fun Q hQ => t_X11_till hS ?_
    simp (disch := omega) only [y1, y2, R, true_implies, false_implies, implies_true, not_true_eq_false, not_false_eq_true, and_true, true_and, Option.some.injEq, reduceCtorEq, forall_eq', forall_eq]
    exact hQ _ _ hU
  refine t_X10_till hS ?_
  simp (disch := omega) only [y1, y2, zI_eq, s8, true_implies, false_implies, implies_true, not_true_eq_false, not_false_eq_true, and_true, true_and, Option.some.injEq, reduceCtorEq, forall_eq', forall_eq]
  refine hK _ _ hS.wI (hI.s0.wi (by decide)) fun Q hQ => t_X11_till hS.wI ?_
  simp (disch := omega) only [y1, y2, zI_eq, zI_ne, R, true_implies, false_implies, implies_true, not_true_eq_false, not_false_eq_true, and_true, true_and, Option.some.injEq, reduceCtorEq, forall_eq', forall_eq]
  refine hQ g _ ?_
  refine IV.fr0 (Ps := fun _ => False) (Pa := fun _ => False) (Pl := fun _ => False) (Pm := fun _ => False) hI hS.wI.wI ((EqX.rfl.wi (W0.p (by decide))).wi (W0.rp (by decide))) (fun _ => rfl) hρ rfl (Nat.le_succ t) ?_ (fun _ _ p => p.elim) (fun _ _ p => p.elim) (fun _ _ p => p.elim) (fun _ _ p => p.elim) ⟨fun _ p => p.elim, fun _ p => p.elim, fun _ p => p.elim⟩ ?_ ?_ ?_ (fun _ p => p.elim)
  · refine hr.s.cg2 fun j hj => ?_
    simp (disch := omega) only [rf_z, zI_ne, zI_nk, R]
  · refine hr.w.cg ?_ (fun j _ => ?_) (fun j _ _ q => ?_)
    · unfold nA
      simp (disch := omega) only [rf_z, zI_ne, zI_nk, R]
    · unfold as_
      simp (disch := omega) only [rf_z, zI_ne, zI_nk, R, true_implies, false_implies, implies_true, not_true_eq_false, not_false_eq_true, and_true, true_and, Option.some.injEq, reduceCtorEq, forall_eq', forall_eq, and_self]
    · simp (disch := omega) only [rf_z, zI_ne, zI_nk, R]
      exact q
  · unfold CRs
    simp (disch := omega) only [rf_z, saF_i, maF_i, laF_i, aaF_i, taF_i, zA_sI, zK_sI, zN_sI, zL_sI, zI_ne, zI_nk, zI_eq, R, s1, s2, s3, s4, s5, s6, s7, s8, s9, s10, s11, true_implies, false_implies, implies_true, not_true_eq_false, not_false_eq_true, and_true, true_and, Option.some.injEq, reduceCtorEq, forall_eq', forall_eq]
  · refine hc.n.cg ?_ ?_ (fun j => ?_) (fun j => ?_) (fun j => ?_) (fun j => ?_)
    · unfold nN
      simp (disch := omega) only [rf_z, zI_ne, zI_nk, R]
    · unfold tL
      simp (disch := omega) only [rf_z, zI_ne, zI_nk, R]
    all_goals simp (disch := omega) only [rf_z, zI_ne, zI_nk, R]
end SimC
