theorem zJ_nn {μ : ZM} {b j c n : Nat} (h : b ≠ zN μ) : zJ (sNew μ c n) b j = zJ μ b j := by rw [zJ_sNew, if_neg h]
section PairM
variable {E : ZE} {l : Launch} {d : Nat} {g : Gh} {L : Nat} {X : Nat → Int32} {t : Nat} {μ : ZM} {x1 x2 x3 x4 : Int32}
theorem pr_model (hI : IV g L X t μ) : PRp E l d L X t mX10_model mX11_model [some (.ref 11), some (.int x1), some (.int x2), some (.int x3)] [some (.ref 31), some (.int x1), some (.int x2), some (.int x3)] μ := by
  obtain ⟨ρ, hρ⟩ : ∃ ρ, rf μ = ρ := ⟨_, rfl⟩
  have hS := hI.st
  have hr := hI.r hρ
  have hc := hI.c hρ
  have R : ∀ a j, 31 ≤ a → a < 88 → zI μ a j = ρ a j := fun a j h1 h2 => rfz hρ h1 h2
  obtain ⟨s1, s2, s3, s4, s5, s6, s7, s8, s9, s10, s11⟩ := hc.s
  obtain ⟨b1, b2, b3, b4, b5, b6, b7, b8⟩ := hr.s
  have hU : IV g L X (t + 1) μ := hI.up (Nat.le_succ t)
  refine PRp.mk fun K hK => ?_
  have hA := hS.N
  by_cases y1 : x1 < 0
  · refine t_X10_model hS ?_
    simp (disch := omega) only [y1, true_implies, false_implies, implies_true, not_true_eq_false, not_false_eq_true, and_true, true_and, Option.some.injEq, reduceCtorEq, forall_eq', forall_eq]
    refine hK _ _ hS hI.s0 fun Q hQ => t_X11_model hS ?_
    simp (disch := omega) only [y1, R, true_implies, false_implies, implies_true, not_true_eq_false, not_false_eq_true, and_true, true_and, Option.some.injEq, reduceCtorEq, forall_eq', forall_eq]
    exact hQ _ _ hU
  by_cases y2 : 9 < x1
  · refine t_X10_model hS ?_
    simp (disch := omega) only [y1, y2, true_implies, false_implies, implies_true, not_true_eq_false, not_false_eq_true, and_true, true_and, Option.some.injEq, reduceCtorEq, forall_eq', forall_eq]
    refine hK _ _ hS hI.s0 fun Q hQ => t_X11_model hS ?_
    simp (disch := omega) only [y1, y2, R, true_implies, false_implies, implies_true, not_true_eq_false, not_false_eq_true, and_true, true_and, Option.some.injEq, reduceCtorEq, forall_eq', forall_eq]
    exact hQ _ _ hU
  by_cases y3 : x2 < 1
  · refine t_X10_model hS ?_
    simp (disch := omega) only [y1, y2, y3, true_implies, false_implies, implies_true, not_true_eq_false, not_false_eq_true, and_true, true_and, Option.some.injEq, reduceCtorEq, forall_eq', forall_eq]
    refine hK _ _ hS hI.s0 fun Q hQ => t_X11_model hS ?_
    simp (disch := omega) only [y1, y2, y3, R, true_implies, false_implies, implies_true, not_true_eq_false, not_false_eq_true, and_true, true_and, Option.some.injEq, reduceCtorEq, forall_eq', forall_eq]
    exact hQ _ _ hU
  by_cases y4 : 99999 < x2
  · refine t_X10_model hS ?_
    simp (disch := omega) only [y1, y2, y3, y4, true_implies, false_implies, implies_true, not_true_eq_false, not_false_eq_true, and_true, true_and, Option.some.injEq, reduceCtorEq, forall_eq', forall_eq]
    refine hK _ _ hS hI.s0 fun Q hQ => t_X11_model hS ?_
    simp (disch := omega) only [y1, y2, y3, y4, R, true_implies, false_implies, implies_true, not_true_eq_false, not_false_eq_true, and_true, true_and, Option.some.injEq, reduceCtorEq, forall_eq', forall_eq]
    exact hQ _ _ hU
  by_cases y5 : x3 < 0
  · refine t_X10_model hS ?_
    simp (disch := omega) only [y1, y2, y3, y4, y5, true_implies, false_implies, implies_true, not_true_eq_false, not_false_eq_true, and_true, true_and, Option.some.injEq, reduceCtorEq, forall_eq', forall_eq]
    refine hK _ _ hS hI.s0 fun Q hQ => t_X11_model hS ?_
    simp (disch := omega) only [y1, y2, y3, y4, y5, R, true_implies, false_implies, implies_true, not_true_eq_false, not_false_eq_true, and_true, true_and, Option.some.injEq, reduceCtorEq, forall_eq', forall_eq]
    exact hQ _ _ hU
  by_cases y6 : 9999 < x3
  · refine t_X10_model hS ?_
    simp (disch := omega) only [y1, y2, y3, y4, y5, y6, true_implies, false_implies, implies_true, not_true_eq_false, not_false_eq_true, and_true, true_and, Option.some.injEq, reduceCtorEq, forall_eq', forall_eq]
    refine hK _ _ hS hI.s0 fun Q hQ => t_X11_model hS ?_
    simp (disch := omega) only [y1, y2, y3, y4, y5, y6, R, true_implies, false_implies, implies_true, not_true_eq_false, not_false_eq_true, and_true, true_and, Option.some.injEq, reduceCtorEq, forall_eq', forall_eq]
    exact hQ _ _ hU
  have b20 := b1.2
  have b1' := b1.1
  by_cases c : nM ρ = 20
  · have k1 : ¬ nI (nM ρ) < 20 := by rw [c]; decide
    have k2 : nI (nM ρ) = 20 := by rw [c]; rfl
    refine t_X10_model hS ?_
    simp (disch := omega) only [y1, y2, y3, y4, y5, y6, s1, b1', k1, true_implies, false_implies, implies_true, not_true_eq_false, not_false_eq_true, and_true, true_and, Option.some.injEq, reduceCtorEq, forall_eq', forall_eq]
    refine hK _ _ hS hI.s0 fun Q hQ => t_X11_model hS ?_
    simp (disch := omega) only [y1, y2, y3, y4, y5, y6, R, b1', k2, true_implies, false_implies, implies_true, not_true_eq_false, not_false_eq_true, and_true, true_and, Option.some.injEq, reduceCtorEq, forall_eq', forall_eq]
    exact hQ _ _ hU
  have k1 : nI (nM ρ) < 20 := by rw [show (20 : Int32) = nI 20 from rfl]; exact nI_lt (by omega) (by omega)
  have k2 : ¬ nI (nM ρ) = 20 := by rw [show (20 : Int32) = nI 20 from rfl, nI_eq (by omega) (by omega)]; exact c
  have k3 : vp_in (nI (nM ρ)) 20 := vp_in_nI (by omega) (by decide)
  have k4 : (nI (nM ρ)).toNatClampNeg = nM ρ := nI_clamp (by omega)
  have k5 : nI (nM ρ) + 1 = nI (nM ρ + 1) := nI_1 _
  have rg : rng x2 1 99999 := by
    rw [i_lt] at y3 y4
    have e1 : (1 : Int32).toInt = 1 := by decide
    have e2 : (99999 : Int32).toInt = 99999 := by decide
    exact ⟨by omega, by omega⟩
  refine t_X10_model hS ?_
  simp (disch := first | omega | (simp only [zN_sI, zN_sJ, zN_sA, zN_sNew]; done) | (simp only [zN_sI, zN_sJ, zN_sA, zN_sNew]; omega)) only [y1, y2, y3, y4, y5, y6, s1, b1', k1, k3, k4, k5, zA_sI, zK_sI, zN_sI, zL_sI, zK_sA, zN_sA, zL_sA, zI_sA, zN_sNew, zI_ne, zI_nk, zI_eq, zA_ne, zA_nk, zA_eq, zI_nn, zA_nn, zK_nn, zL_nn, zI_ne', zA_ne', zK_ne', zL_ne', true_implies, false_implies, implies_true, not_true_eq_false, not_false_eq_true, and_true, true_and, Option.some.injEq, reduceCtorEq, forall_eq', forall_eq]
  have hS1 := (((((((((hS.wNew (k := 4) (n := 0)).wNew (k := 13) (n := 20)).wAhi hA (k := 4) (x := some (zN μ + 1))).wNew (k := 13) (n := 20)).wAhi hA (k := 5) (x := some (zN μ + 1 + 1))).wI (a := zN μ) (k := 0) (x := nI (nM ρ))).wI (a := zN μ) (k := 1) (x := x1)).wI (a := zN μ) (k := 2) (x := x2)).wI (a := zN μ) (k := 3) (x := x3))
  refine hK _ _ (hS1.wAr (by decide)).wI ?_ fun Q hQ => t_X11_model (hS1.wAr (by decide)).wI ?_
  · refine (S0.wa (((((S0.wa (S0.wn (S0.wa ((hI.s0.wn (by omega)).wn (by rw [zN_sNew]; omega))) ?_)).wi ?_).wi ?_).wi ?_).wi ?_)).wi (by decide)
    all_goals first | omega | (simp only [zN_sA, zN_sNew] <;> omega)
  simp (disch := first | omega | (simp only [zN_sI, zN_sJ, zN_sA, zN_sNew]; done) | (simp only [zN_sI, zN_sJ, zN_sA, zN_sNew]; omega)) only [y1, y2, y3, y4, y5, y6, R, b1', k2, k3, k4, k5, zA_sI, zK_sI, zN_sI, zL_sI, zK_sA, zN_sA, zL_sA, zI_sA, zN_sNew, zI_ne, zI_nk, zI_eq, zA_ne, zA_nk, zA_eq, zI_nn, zA_nn, zK_nn, zL_nn, zI_ne', zA_ne', zK_ne', zL_ne', true_implies, false_implies, implies_true, not_true_eq_false, not_false_eq_true, and_true, true_and, Option.some.injEq, reduceCtorEq, forall_eq', forall_eq]
  refine hQ g _ ?_
  have k6 : tN (nI (nM ρ + 1)) = nM ρ + 1 := nI_clamp (by omega)
  obtain ⟨f1, f2, f3⟩ := hr.f
  obtain ⟨f4, f5, f6, f7⟩ := f1 (nM ρ) (Nat.le_refl _) (by omega)
  refine nmI (P := IV g L X (t + 1)) fun M2 hM => ?_
  have qM : nM (rf M2) = nM ρ + 1 := by unfold nM; simp (disch := first | omega | (simp only [zN_sI, zN_sJ, zN_sA, zN_sNew]; done) | (simp only [zN_sI, zN_sJ, zN_sA, zN_sNew]; omega)) only [rf_z, hM, zA_sI, zK_sI, zN_sI, zL_sI, zK_sA, zN_sA, zL_sA, zI_sA, zN_sNew, zI_ne, zI_nk, zI_eq, zA_ne, zA_nk, zA_eq, zI_nn, zA_nn, zK_nn, zL_nn, zI_ne', zA_ne', zK_ne', zL_ne', R]; exact k6
  have qL : nL (rf M2) = nL ρ := by unfold nL; simp (disch := first | omega | (simp only [zN_sI, zN_sJ, zN_sA, zN_sNew]; done) | (simp only [zN_sI, zN_sJ, zN_sA, zN_sNew]; omega)) only [rf_z, hM, zA_sI, zK_sI, zN_sI, zL_sI, zK_sA, zN_sA, zL_sA, zI_sA, zN_sNew, zI_ne, zI_nk, zI_eq, zA_ne, zA_nk, zA_eq, zI_nn, zA_nn, zK_nn, zL_nn, zI_ne', zA_ne', zK_ne', zL_ne', R]
  have qS : nS (rf M2) = nS ρ := by unfold nS; simp (disch := first | omega | (simp only [zN_sI, zN_sJ, zN_sA, zN_sNew]; done) | (simp only [zN_sI, zN_sJ, zN_sA, zN_sNew]; omega)) only [rf_z, hM, zA_sI, zK_sI, zN_sI, zL_sI, zK_sA, zN_sA, zL_sA, zI_sA, zN_sNew, zI_ne, zI_nk, zI_eq, zA_ne, zA_nk, zA_eq, zI_nn, zA_nn, zK_nn, zL_nn, zI_ne', zA_ne', zK_ne', zL_ne', R]
  have qA : nA (rf M2) = nA ρ := by unfold nA; simp (disch := first | omega | (simp only [zN_sI, zN_sJ, zN_sA, zN_sNew]; done) | (simp only [zN_sI, zN_sJ, zN_sA, zN_sNew]; omega)) only [rf_z, hM, zA_sI, zK_sI, zN_sI, zL_sI, zK_sA, zN_sA, zL_sA, zI_sA, zN_sNew, zI_ne, zI_nk, zI_eq, zA_ne, zA_nk, zA_eq, zI_nn, zA_nn, zK_nn, zL_nn, zI_ne', zA_ne', zK_ne', zL_ne', R]
  have qa : ∀ j, aaF M2 j = aaF μ j := fun j => by unfold aaF; simp (disch := first | omega | (simp only [zN_sI, zN_sJ, zN_sA, zN_sNew]; done) | (simp only [zN_sI, zN_sJ, zN_sA, zN_sNew]; omega)) only [rf_z, hM, zA_sI, zK_sI, zN_sI, zL_sI, zK_sA, zN_sA, zL_sA, zI_sA, zN_sNew, zI_ne, zI_nk, zI_eq, zA_ne, zA_nk, zA_eq, zI_nn, zA_nn, zK_nn, zL_nn, zI_ne', zA_ne', zK_ne', zL_ne', R]
  have qm : maF M2 (nM ρ) = zN μ := by unfold maF; simp (disch := first | omega | (simp only [zN_sI, zN_sJ, zN_sA, zN_sNew]; done) | (simp only [zN_sI, zN_sJ, zN_sA, zN_sNew]; omega)) only [rf_z, hM, zA_sI, zK_sI, zN_sI, zL_sI, zK_sA, zN_sA, zL_sA, zI_sA, zN_sNew, zI_ne, zI_nk, zI_eq, zA_ne, zA_nk, zA_eq, zI_nn, zA_nn, zK_nn, zL_nn, zI_ne', zA_ne', zK_ne', zL_ne', R, Option.getD_some]
  have rw1 : ∀ b j, 35 ≤ b → b < 88 → rf M2 b j = ρ b j := fun b j b1 b2 => by simp (disch := first | omega | (simp only [zN_sI, zN_sJ, zN_sA, zN_sNew]; done) | (simp only [zN_sI, zN_sJ, zN_sA, zN_sNew]; omega)) only [rf_z, hM, zA_sI, zK_sI, zN_sI, zL_sI, zK_sA, zN_sA, zL_sA, zI_sA, zN_sNew, zI_ne, zI_nk, zI_eq, zA_ne, zA_nk, zA_eq, zI_nn, zA_nn, zK_nn, zL_nn, zI_ne', zA_ne', zK_ne', zL_ne', R]
  refine IV.fr3 (Ps := (fun _ => False)) (Pa := (fun _ => False)) (Pl := (fun _ => False)) (Pm := (fun _ => False)) hI ?_ ?_ (fun _ => by rw [hM]; simp (disch := first | omega | (simp only [zN_sI, zN_sJ, zN_sA, zN_sNew]; done) | (simp only [zN_sI, zN_sJ, zN_sA, zN_sNew]; omega)) only [zJ_sI, zJ_sA, zJ_nn]) hρ rfl (Nat.le_succ t) (by omega) (by omega) (by omega) (by omega) ?_ (fun j hj p => ?_) (fun j hj p => (p (by omega)).elim) (fun j hj p => (p (by omega)).elim) (fun j hj p => (p (by omega)).elim) ?_ ?_ ?_ ?_ ?_ (fun _ p => p.elim) (fun j j1 j2 => ?_) (fun j j1 j2 => by omega)
  · rw [hM]
    exact (hS1.wAr (by decide)).wI.wI.wI.wI.wI
  · rw [hM]
    exact ((((((((((((((EqX.rfl.wn).wn).wa WA3.new).wn).wa WA3.new).wi W3.new).wi W3.new).wi W3.new).wi W3.new).wa (WA3.m (Nat.le_refl _))).wi (W3.n11 (by decide) (by decide))).wi (W3.nm (by decide) (by decide) (by decide) (by decide) (Nat.le_refl _))).wi (W3.nm (by decide) (by decide) (by decide) (by decide) (Nat.le_refl _))).wi (W3.nm (by decide) (by decide) (by decide) (by decide) (Nat.le_refl _))).wi (W3.n31 (by decide))
  · unfold RIs nM nL nS nA nT nN tL
    simp (disch := first | omega | (simp only [zN_sI, zN_sJ, zN_sA, zN_sNew]; done) | (simp only [zN_sI, zN_sJ, zN_sA, zN_sNew]; omega)) only [rf_z, hM, zA_sI, zK_sI, zN_sI, zL_sI, zK_sA, zN_sA, zL_sA, zI_sA, zN_sNew, zI_ne, zI_nk, zI_eq, zA_ne, zA_nk, zA_eq, zI_nn, zA_nn, zK_nn, zL_nn, zI_ne', zA_ne', zK_ne', zL_ne', R, k6]
    exact ⟨⟨rfl, by omega⟩, b2, b3, b4, b5, b6, b7, b8⟩
  · have hj' : j = nM ρ := Classical.byContradiction fun z => p (by omega)
    subst hj'
    constructor
    · unfold RIm
      simp (disch := first | omega | (simp only [zN_sI, zN_sJ, zN_sA, zN_sNew]; done) | (simp only [zN_sI, zN_sJ, zN_sA, zN_sNew]; omega)) only [rf_z, hM, zA_sI, zK_sI, zN_sI, zL_sI, zK_sA, zN_sA, zL_sA, zI_sA, zN_sNew, zI_ne, zI_nk, zI_eq, zA_ne, zA_nk, zA_eq, zI_nn, zA_nn, zK_nn, zL_nn, zI_ne', zA_ne', zK_ne', zL_ne', R, f4, f5]
      exact ⟨⟨rfl, by decide⟩, rng_x 9 rfl (by decide) y1 y2, rg, rng_x 9999 rfl (by decide) y5 y6, ⟨by decide, by show (0 : Int) ≤ _; omega⟩, fun j hj => absurd hj (by show ¬ j < 0; omega)⟩
    · unfold CRm MdlP
      rw [qm]
      simp (disch := first | omega | (simp only [zN_sI, zN_sJ, zN_sA, zN_sNew]; done) | (simp only [zN_sI, zN_sJ, zN_sA, zN_sNew]; omega)) only [rf_z, hM, zA_sI, zK_sI, zN_sI, zL_sI, zK_sA, zN_sA, zL_sA, zI_sA, zN_sNew, zI_ne, zI_nk, zI_eq, zA_ne, zA_nk, zA_eq, zI_nn, zA_nn, zK_nn, zL_nn, zI_ne', zA_ne', zK_ne', zL_ne', R, f4, f5, f6, f7, true_implies, false_implies, implies_true, not_true_eq_false, not_false_eq_true, and_true, true_and, Option.some.injEq, reduceCtorEq, forall_eq', forall_eq]
      exact ⟨by omega, by omega, ⟨rfl, by decide, zK_ne' rfl, zL_ne' rfl, zK_ne' rfl, zL_ne' rfl⟩, fun j hj => absurd hj (by show ¬ j < 0; omega)⟩
  · exact hr.f.cg (by omega) (by omega) (by omega) (fun b i hb hi => rw1 b i (by omega) (by omega)) (fun b i hb hi => rw1 b i (by omega) (by omega)) (fun b i hb hi => rw1 b i (by omega) (by omega))
  · exact hr.w.cg qA (fun j hj => ⟨rw1 _ _ (by decide) (by decide), by unfold as_; rw [rw1 _ _ (by decide) (by decide)]⟩) (fun j hj q1 q2 => by rw [rw1 _ _ (by decide) (by decide)]; exact q2)
  · unfold CRs
    simp (disch := first | omega | (simp only [zN_sI, zN_sJ, zN_sA, zN_sNew]; done) | (simp only [zN_sI, zN_sJ, zN_sA, zN_sNew]; omega)) only [rf_z, hM, zA_sI, zK_sI, zN_sI, zL_sI, zK_sA, zN_sA, zL_sA, zI_sA, zN_sNew, zI_ne, zI_nk, zI_eq, zA_ne, zA_nk, zA_eq, zI_nn, zA_nn, zK_nn, zL_nn, zI_ne', zA_ne', zK_ne', zL_ne', R, s1, s2, s3, s4, s5, s6, s7, s8, s9, s10, s11, true_implies, false_implies, implies_true, not_true_eq_false, not_false_eq_true, and_true, true_and, Option.some.injEq, reduceCtorEq, forall_eq', forall_eq]
  · refine hc.n.cg ?_ ?_ (fun j => ?_) (fun j => ?_) (fun j => rw1 _ _ (by decide) (by decide)) (fun j => rw1 _ _ (by decide) (by decide))
    · unfold nN
      simp (disch := first | omega | (simp only [zN_sI, zN_sJ, zN_sA, zN_sNew]; done) | (simp only [zN_sI, zN_sJ, zN_sA, zN_sNew]; omega)) only [rf_z, hM, zA_sI, zK_sI, zN_sI, zL_sI, zK_sA, zN_sA, zL_sA, zI_sA, zN_sNew, zI_ne, zI_nk, zI_eq, zA_ne, zA_nk, zA_eq, zI_nn, zA_nn, zK_nn, zL_nn, zI_ne', zA_ne', zK_ne', zL_ne', R]
    · unfold tL
      simp (disch := first | omega | (simp only [zN_sI, zN_sJ, zN_sA, zN_sNew]; done) | (simp only [zN_sI, zN_sJ, zN_sA, zN_sNew]; omega)) only [rf_z, hM, zA_sI, zK_sI, zN_sI, zL_sI, zK_sA, zN_sA, zL_sA, zI_sA, zN_sNew, zI_ne, zI_nk, zI_eq, zA_ne, zA_nk, zA_eq, zI_nn, zA_nn, zK_nn, zL_nn, zI_ne', zA_ne', zK_ne', zL_ne', R]
    all_goals simp (disch := first | omega | (simp only [zN_sI, zN_sJ, zN_sA, zN_sNew]; done) | (simp only [zN_sI, zN_sJ, zN_sA, zN_sNew]; omega)) only [rf_z, hM, zA_sI, zK_sI, zN_sI, zL_sI, zK_sA, zN_sA, zL_sA, zI_sA, zN_sNew, zI_ne, zI_nk, zI_eq, zA_ne, zA_nk, zA_eq, zI_nn, zA_nn, zK_nn, zL_nn, zI_ne', zA_ne', zK_ne', zL_ne', R]
  · intro j k hj hk e
    rw [qa, qa] at e
    exact hc.d j k (by omega) (by omega) e
  · have hj' : j = nM ρ := by omega
    subst hj'
    rw [qm]
    simp (disch := first | omega | (simp only [zN_sI, zN_sJ, zN_sA, zN_sNew]; done) | (simp only [zN_sI, zN_sJ, zN_sA, zN_sNew]; omega)) only [rf_z, hM, zA_sI, zK_sI, zN_sI, zL_sI, zK_sA, zN_sA, zL_sA, zI_sA, zN_sNew, zI_ne, zI_nk, zI_eq, zA_ne, zA_nk, zA_eq, zI_nn, zA_nn, zK_nn, zL_nn, zI_ne', zA_ne', zK_ne', zL_ne', R]
    exact ⟨Nat.le_refl _, trivial, trivial, trivial⟩
end PairM
