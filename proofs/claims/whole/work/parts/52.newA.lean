theorem nmI {P : ZM → Prop} {M : ZM} (h : ∀ m, m = M → P m) : P M := h M rfl
section W3s
variable {μ : ZM} {ρ : RV} {Ps Pa Pl Pm : Nat → Prop} {b j : Nat}
theorem W3.o (h : W0 μ ρ Ps Pa Pl Pm b j ∨ zN μ ≤ b) : W3 μ ρ Ps Pa Pl Pm b j ∨ zN μ ≤ b := h.elim (fun z => Or.inl (Or.inl z)) Or.inr
theorem W3.n11 (h1 : 12 ≤ j) (h2 : j ≤ 15) : W3 μ ρ Ps Pa Pl Pm 11 j ∨ zN μ ≤ 11 := Or.inl (Or.inr (Or.inl ⟨rfl, h1, h2⟩))
theorem W3.n31 (h : j = 3 ∨ j = 18 ∨ j = 22 ∨ j = 60) : W3 μ ρ Ps Pa Pl Pm 31 j ∨ zN μ ≤ 31 := Or.inl (Or.inr (Or.inr (Or.inl ⟨rfl, h⟩)))
theorem W3.nm (h1 : 32 ≤ b) (h2 : b ≤ 41) (h3 : b ≠ 36) (h4 : b ≠ 37) (h : nM ρ ≤ j) : W3 μ ρ Ps Pa Pl Pm b j ∨ zN μ ≤ b := Or.inl (Or.inr (Or.inr (Or.inr (Or.inl ⟨h1, h2, h3, h4, h⟩))))
theorem W3.nl (h1 : 45 ≤ b) (h2 : b ≤ 47) (h : nL ρ ≤ j) : W3 μ ρ Ps Pa Pl Pm b j ∨ zN μ ≤ b := Or.inl (Or.inr (Or.inr (Or.inr (Or.inr (Or.inl ⟨h1, h2, h⟩)))))
theorem W3.ns (h1 : 48 ≤ b) (h2 : b ≤ 64) (h : nS ρ ≤ j) : W3 μ ρ Ps Pa Pl Pm b j ∨ zN μ ≤ b := Or.inl (Or.inr (Or.inr (Or.inr (Or.inr (Or.inr (Or.inl ⟨h1, h2, h⟩))))))
theorem W3.na (h1 : 74 ≤ b) (h2 : b ≤ 84) (h : nA ρ ≤ j) : W3 μ ρ Ps Pa Pl Pm b j ∨ zN μ ≤ b := Or.inl (Or.inr (Or.inr (Or.inr (Or.inr (Or.inr (Or.inr ⟨h1, h2, h⟩))))))
theorem W3.new : W3 μ ρ Ps Pa Pl Pm (zN μ) j ∨ zN μ ≤ zN μ := Or.inr (Nat.le_refl _)
theorem WA3.new : WA3 μ ρ Ps (zN μ) j ∨ zN μ ≤ zN μ := Or.inr (Nat.le_refl _)
theorem WA3.m (h : nM ρ ≤ j) : WA3 μ ρ Ps 12 j ∨ zN μ ≤ 12 := Or.inl (Or.inr (Or.inl ⟨rfl, h⟩))
theorem WA3.l (h : nL ρ ≤ j) : WA3 μ ρ Ps 13 j ∨ zN μ ≤ 13 := Or.inl (Or.inr (Or.inr (Or.inl ⟨rfl, h⟩)))
theorem WA3.s (h : nS ρ ≤ j) : WA3 μ ρ Ps 14 j ∨ zN μ ≤ 14 := Or.inl (Or.inr (Or.inr (Or.inr (Or.inl ⟨rfl, h⟩))))
theorem WA3.a (h : nA ρ ≤ j) : WA3 μ ρ Ps 15 j ∨ zN μ ≤ 15 := Or.inl (Or.inr (Or.inr (Or.inr (Or.inr ⟨rfl, h⟩))))
theorem WA3.o (h : WA0 μ ρ Ps b j) : WA3 μ ρ Ps b j ∨ zN μ ≤ b := Or.inl (Or.inl h)
end W3s
section PairN
variable {E : ZE} {l : Launch} {d : Nat} {g : Gh} {L : Nat} {X : Nat → Int32} {t : Nat} {μ : ZM} {x1 x2 x3 x4 : Int32}
theorem pr_lot (hI : IV g L X t μ) : PRp E l d L X t mX10_lot mX11_lot [some (.ref 11), some (.int x1), some (.int x2), some (.int x3), none] [some (.ref 31), some (.int x1), some (.int x2), some (.int x3)] μ := by
  obtain ⟨ρ, hρ⟩ : ∃ ρ, rf μ = ρ := ⟨_, rfl⟩
  have hS := hI.st
  have hr := hI.r hρ
  have hc := hI.c hρ
  have R : ∀ a j, 31 ≤ a → a < 88 → zI μ a j = ρ a j := fun a j h1 h2 => rfz hρ h1 h2
  obtain ⟨s1, s2, s3, s4, s5, s6, s7, s8, s9, s10, s11⟩ := hc.s
  obtain ⟨b1, b2, b3, b4, b5, b6, b7, b8⟩ := hr.s
  have hU : IV g L X (t + 1) μ := hI.up (Nat.le_succ t)
  refine PRp.mk fun K hK => ?_
  have hA := hS.N
  rcases ix3 x1 (n := nM ρ) (by have := b1.2; omega) with h | ⟨h, h'⟩ | ⟨i, hi, rfl⟩
  · refine t_X10_lot hS ?_
    simp (disch := omega) only [h, true_implies, false_implies, implies_true, not_true_eq_false, not_false_eq_true, and_true, true_and, Option.some.injEq, reduceCtorEq, forall_eq', forall_eq]
    refine hK _ _ hS hI.s0 fun Q hQ => t_X11_lot hS ?_
    simp (disch := omega) only [h, R, true_implies, false_implies, implies_true, not_true_eq_false, not_false_eq_true, and_true, true_and, Option.some.injEq, reduceCtorEq, forall_eq', forall_eq]
    exact hQ _ _ hU
  · rw [← b1.1] at h'
    refine t_X10_lot hS ?_
    simp (disch := omega) only [h, h', s1, true_implies, false_implies, implies_true, not_true_eq_false, not_false_eq_true, and_true, true_and, Option.some.injEq, reduceCtorEq, forall_eq', forall_eq]
    refine hK _ _ hS hI.s0 fun Q hQ => t_X11_lot hS ?_
    simp (disch := omega) only [h, h', R, true_implies, false_implies, implies_true, not_true_eq_false, not_false_eq_true, and_true, true_and, Option.some.injEq, reduceCtorEq, forall_eq', forall_eq]
    exact hQ _ _ hU
  · have b20 := b1.2
    have h1 : ¬ nI i < 0 := nI_pos (by omega)
    have h2 := ix_lt (by omega) hi
    have h3 : vp_in (nI i) 20 := vp_in_nI (by omega) (by decide)
    have h4 : (nI i).toNatClampNeg = i := nI_clamp (by omega)
    rw [← b1.1] at h2
    obtain ⟨m1, m2, m3, m4, m5, m6, m7, m8, m9, m10, m11, m12⟩ := hc.m hi
    obtain ⟨p1, p2, p3, p4, p5, p6, p7, p8, p9⟩ := m4
    obtain ⟨r1, r2, r3, r4, r5, r6⟩ := hr.m hi
    by_cases y1 : x2 < 0
    · refine t_X10_lot hS ?_
      simp (disch := omega) only [h1, h2, h3, h4, y1, s1, m1, true_implies, false_implies, implies_true, not_true_eq_false, not_false_eq_true, and_true, true_and, Option.some.injEq, reduceCtorEq, forall_eq', forall_eq]
      refine hK _ _ hS hI.s0 fun Q hQ => t_X11_lot hS ?_
      simp (disch := omega) only [h1, h2, h3, h4, y1, R, true_implies, false_implies, implies_true, not_true_eq_false, not_false_eq_true, and_true, true_and, Option.some.injEq, reduceCtorEq, forall_eq', forall_eq]
      exact hQ _ _ hU
    by_cases y2 : 9 < x2
    · refine t_X10_lot hS ?_
      simp (disch := omega) only [h1, h2, h3, h4, y1, y2, s1, m1, true_implies, false_implies, implies_true, not_true_eq_false, not_false_eq_true, and_true, true_and, Option.some.injEq, reduceCtorEq, forall_eq', forall_eq]
      refine hK _ _ hS hI.s0 fun Q hQ => t_X11_lot hS ?_
      simp (disch := omega) only [h1, h2, h3, h4, y1, y2, R, true_implies, false_implies, implies_true, not_true_eq_false, not_false_eq_true, and_true, true_and, Option.some.injEq, reduceCtorEq, forall_eq', forall_eq]
      exact hQ _ _ hU
    by_cases y3 : x3 < 1
    · refine t_X10_lot hS ?_
      simp (disch := omega) only [h1, h2, h3, h4, y1, y2, y3, s1, m1, true_implies, false_implies, implies_true, not_true_eq_false, not_false_eq_true, and_true, true_and, Option.some.injEq, reduceCtorEq, forall_eq', forall_eq]
      refine hK _ _ hS hI.s0 fun Q hQ => t_X11_lot hS ?_
      simp (disch := omega) only [h1, h2, h3, h4, y1, y2, y3, R, true_implies, false_implies, implies_true, not_true_eq_false, not_false_eq_true, and_true, true_and, Option.some.injEq, reduceCtorEq, forall_eq', forall_eq]
      exact hQ _ _ hU
    by_cases y4 : 99 < x3
    · refine t_X10_lot hS ?_
      simp (disch := omega) only [h1, h2, h3, h4, y1, y2, y3, y4, s1, m1, true_implies, false_implies, implies_true, not_true_eq_false, not_false_eq_true, and_true, true_and, Option.some.injEq, reduceCtorEq, forall_eq', forall_eq]
      refine hK _ _ hS hI.s0 fun Q hQ => t_X11_lot hS ?_
      simp (disch := omega) only [h1, h2, h3, h4, y1, y2, y3, y4, R, true_implies, false_implies, implies_true, not_true_eq_false, not_false_eq_true, and_true, true_and, Option.some.injEq, reduceCtorEq, forall_eq', forall_eq]
      exact hQ _ _ hU
    have b60 := b2.2
    have b2' := b2.1
    by_cases c : nL ρ = 60
    · have k1 : ¬ nI (nL ρ) < 60 := by rw [c]; decide
      have k2 : nI (nL ρ) = 60 := by rw [c]; rfl
      refine t_X10_lot hS ?_
      simp (disch := omega) only [h1, h2, h3, h4, y1, y2, y3, y4, s1, s2, m1, b2', k1, true_implies, false_implies, implies_true, not_true_eq_false, not_false_eq_true, and_true, true_and, Option.some.injEq, reduceCtorEq, forall_eq', forall_eq]
      refine hK _ _ hS hI.s0 fun Q hQ => t_X11_lot hS ?_
      simp (disch := omega) only [h1, h2, h3, h4, y1, y2, y3, y4, R, b2', k2, true_implies, false_implies, implies_true, not_true_eq_false, not_false_eq_true, and_true, true_and, Option.some.injEq, reduceCtorEq, forall_eq', forall_eq]
      exact hQ _ _ hU
    · have k1 : nI (nL ρ) < 60 := by rw [show (60 : Int32) = nI 60 from rfl]; exact nI_lt (by omega) (by omega)
      have k2 : ¬ nI (nL ρ) = 60 := by rw [show (60 : Int32) = nI 60 from rfl, nI_eq (by omega) (by omega)]; exact c
      have k3 : vp_in (nI (nL ρ)) 60 := vp_in_nI (by omega) (by decide)
      have k4 : (nI (nL ρ)).toNatClampNeg = nL ρ := nI_clamp (by omega)
      have k5 : nI (nL ρ) + 1 = nI (nL ρ + 1) := nI_1 _
      have rg : rng x3 0 99 := by
        rw [i_lt] at y3 y4
        have e1 : (1 : Int32).toInt = 1 := by decide
        have e2 : (99 : Int32).toInt = 99 := by decide
        exact ⟨by omega, by omega⟩
      refine t_X10_lot hS ?_
      simp (disch := first | omega | (simp only [zN_sI, zN_sJ, zN_sA, zN_sNew]; done) | (simp only [zN_sI, zN_sJ, zN_sA, zN_sNew]; omega)) only [h1, h2, h3, h4, y1, y2, y3, y4, s1, s2, m1, b2', k1, k3, k4, k5, zA_sI, zK_sI, zN_sI, zL_sI, zK_sA, zN_sA, zL_sA, zI_sA, zN_sNew, zI_ne, zI_nk, zI_eq, zA_ne, zA_nk, zA_eq, zI_nn, zA_nn, zK_nn, zL_nn, zI_ne', zA_ne', zK_ne', zL_ne', true_implies, false_implies, implies_true, not_true_eq_false, not_false_eq_true, and_true, true_and, Option.some.injEq, reduceCtorEq, forall_eq', forall_eq]
      refine hK _ _ (((((hS.wNew).wI).wAhi hA).wI).wAr (by decide)).wI (((((hI.s0.wn (by omega)).wi (by omega)).wa.wi (by omega)).wa).wi (by omega)) fun Q hQ => t_X11_lot (((((hS.wNew).wI).wAhi hA).wI).wAr (by decide)).wI ?_
      simp (disch := first | omega | (simp only [zN_sI, zN_sJ, zN_sA, zN_sNew]; done) | (simp only [zN_sI, zN_sJ, zN_sA, zN_sNew]; omega)) only [h1, h2, h3, h4, y1, y2, y3, y4, R, b2', k2, k3, k4, k5, zA_sI, zK_sI, zN_sI, zL_sI, zK_sA, zN_sA, zL_sA, zI_sA, zN_sNew, zI_ne, zI_nk, zI_eq, zA_ne, zA_nk, zA_eq, zI_nn, zA_nn, zK_nn, zL_nn, zI_ne', zA_ne', zK_ne', zL_ne', true_implies, false_implies, implies_true, not_true_eq_false, not_false_eq_true, and_true, true_and, Option.some.injEq, reduceCtorEq, forall_eq', forall_eq]
      refine hQ g _ ?_
      have k6 : tN (nI (nL ρ + 1)) = nL ρ + 1 := nI_clamp (by omega)
      have k7 : tN (nI i) = i := nI_clamp (by omega)
      refine nmI (P := IV g L X (t + 1)) fun M2 hM => ?_
      have qM : nM (rf M2) = nM ρ := by unfold nM; simp (disch := first | omega | (simp only [zN_sI, zN_sJ, zN_sA, zN_sNew]; done) | (simp only [zN_sI, zN_sJ, zN_sA, zN_sNew]; omega)) only [rf_z, hM, zA_sI, zK_sI, zN_sI, zL_sI, zK_sA, zN_sA, zL_sA, zI_sA, zN_sNew, zI_ne, zI_nk, zI_eq, zA_ne, zA_nk, zA_eq, zI_nn, zA_nn, zK_nn, zL_nn, zI_ne', zA_ne', zK_ne', zL_ne', R]
      have qL : nL (rf M2) = nL ρ + 1 := by unfold nL; simp (disch := first | omega | (simp only [zN_sI, zN_sJ, zN_sA, zN_sNew]; done) | (simp only [zN_sI, zN_sJ, zN_sA, zN_sNew]; omega)) only [rf_z, hM, zA_sI, zK_sI, zN_sI, zL_sI, zK_sA, zN_sA, zL_sA, zI_sA, zN_sNew, zI_ne, zI_nk, zI_eq, zA_ne, zA_nk, zA_eq, zI_nn, zA_nn, zK_nn, zL_nn, zI_ne', zA_ne', zK_ne', zL_ne', R]; exact k6
      have qS : nS (rf M2) = nS ρ := by unfold nS; simp (disch := first | omega | (simp only [zN_sI, zN_sJ, zN_sA, zN_sNew]; done) | (simp only [zN_sI, zN_sJ, zN_sA, zN_sNew]; omega)) only [rf_z, hM, zA_sI, zK_sI, zN_sI, zL_sI, zK_sA, zN_sA, zL_sA, zI_sA, zN_sNew, zI_ne, zI_nk, zI_eq, zA_ne, zA_nk, zA_eq, zI_nn, zA_nn, zK_nn, zL_nn, zI_ne', zA_ne', zK_ne', zL_ne', R]
      have qA : nA (rf M2) = nA ρ := by unfold nA; simp (disch := first | omega | (simp only [zN_sI, zN_sJ, zN_sA, zN_sNew]; done) | (simp only [zN_sI, zN_sJ, zN_sA, zN_sNew]; omega)) only [rf_z, hM, zA_sI, zK_sI, zN_sI, zL_sI, zK_sA, zN_sA, zL_sA, zI_sA, zN_sNew, zI_ne, zI_nk, zI_eq, zA_ne, zA_nk, zA_eq, zI_nn, zA_nn, zK_nn, zL_nn, zI_ne', zA_ne', zK_ne', zL_ne', R]
      have qa : ∀ j, aaF M2 j = aaF μ j := fun j => by unfold aaF; simp (disch := first | omega | (simp only [zN_sI, zN_sJ, zN_sA, zN_sNew]; done) | (simp only [zN_sI, zN_sJ, zN_sA, zN_sNew]; omega)) only [rf_z, hM, zA_sI, zK_sI, zN_sI, zL_sI, zK_sA, zN_sA, zL_sA, zI_sA, zN_sNew, zI_ne, zI_nk, zI_eq, zA_ne, zA_nk, zA_eq, zI_nn, zA_nn, zK_nn, zL_nn, zI_ne', zA_ne', zK_ne', zL_ne', R]
      have rw1 : ∀ b j, 32 ≤ b → b < 88 → b < 45 ∨ 48 ≤ b → rf M2 b j = ρ b j := fun b j b1 b2 b3 => by simp (disch := first | omega | (simp only [zN_sI, zN_sJ, zN_sA, zN_sNew]; done) | (simp only [zN_sI, zN_sJ, zN_sA, zN_sNew]; omega)) only [rf_z, hM, zA_sI, zK_sI, zN_sI, zL_sI, zK_sA, zN_sA, zL_sA, zI_sA, zN_sNew, zI_ne, zI_nk, zI_eq, zA_ne, zA_nk, zA_eq, zI_nn, zA_nn, zK_nn, zL_nn, zI_ne', zA_ne', zK_ne', zL_ne', R]
      refine IV.fr3 (Ps := (fun _ => False)) (Pa := (fun _ => False)) (Pl := (fun _ => False)) (Pm := (fun _ => False)) hI ?_ ?_ (fun _ => by rw [hM]; simp (disch := first | omega | (simp only [zN_sI, zN_sJ, zN_sA, zN_sNew]; done) | (simp only [zN_sI, zN_sJ, zN_sA, zN_sNew]; omega)) only [zJ_sI, zJ_sA, zJ_sNew]; rw [if_neg (by omega)]) hρ rfl (Nat.le_succ t) (by omega) (by omega) (by omega) (by omega) ?_ (fun j hj p => (p (by omega)).elim) (fun j hj p => ?_) (fun j hj p => (p (by omega)).elim) (fun j hj p => (p (by omega)).elim) ?_ ?_ ?_ ?_ ?_ (fun _ p => p.elim) (fun j j1 j2 => by omega) (fun j j1 j2 => by omega)
      · rw [hM]
        exact (((((hS.wNew).wI).wAhi hA).wI).wAr (by decide)).wI.wI.wI.wI.wI
      · rw [hM]
        exact (((((((((EqX.rfl.wn).wi W3.new).wa WA3.new).wi W3.new).wa (WA3.l (Nat.le_refl _))).wi (W3.n11 (by decide) (by decide))).wi (W3.nl (by decide) (by decide) (Nat.le_refl _))).wi (W3.nl (by decide) (by decide) (Nat.le_refl _))).wi (W3.nl (by decide) (by decide) (Nat.le_refl _))).wi (W3.n31 (by decide))
      · unfold RIs nM nL nS nA nT nN tL
        simp (disch := first | omega | (simp only [zN_sI, zN_sJ, zN_sA, zN_sNew]; done) | (simp only [zN_sI, zN_sJ, zN_sA, zN_sNew]; omega)) only [rf_z, hM, zA_sI, zK_sI, zN_sI, zL_sI, zK_sA, zN_sA, zL_sA, zI_sA, zN_sNew, zI_ne, zI_nk, zI_eq, zA_ne, zA_nk, zA_eq, zI_nn, zA_nn, zK_nn, zL_nn, zI_ne', zA_ne', zK_ne', zL_ne', R, k6]
        exact ⟨b1, ⟨rfl, by omega⟩, b3, b4, b5, b6, b7, b8⟩
      · have hj' : j = nL ρ := Classical.byContradiction fun z => p (by omega)
        subst hj'
        constructor
        · unfold RIl lm
          rw [qM]
          simp (disch := first | omega | (simp only [zN_sI, zN_sJ, zN_sA, zN_sNew]; done) | (simp only [zN_sI, zN_sJ, zN_sA, zN_sNew]; omega)) only [rf_z, hM, zA_sI, zK_sI, zN_sI, zL_sI, zK_sA, zN_sA, zL_sA, zI_sA, zN_sNew, zI_ne, zI_nk, zI_eq, zA_ne, zA_nk, zA_eq, zI_nn, zA_nn, zK_nn, zL_nn, zI_ne', zA_ne', zK_ne', zL_ne', R, k7]
          exact ⟨trivial, hi, rg⟩
        · unfold CRl lm laF maF
          simp (disch := first | omega | (simp only [zN_sI, zN_sJ, zN_sA, zN_sNew]; done) | (simp only [zN_sI, zN_sJ, zN_sA, zN_sNew]; omega)) only [rf_z, hM, zA_sI, zK_sI, zN_sI, zL_sI, zK_sA, zN_sA, zL_sA, zI_sA, zN_sNew, zI_ne, zI_nk, zI_eq, zA_ne, zA_nk, zA_eq, zI_nn, zA_nn, zK_nn, zL_nn, zI_ne', zA_ne', zK_ne', zL_ne', R, k7, Option.getD_some, m1, true_implies, false_implies, implies_true, not_true_eq_false, not_false_eq_true, and_true, true_and, Option.some.injEq, reduceCtorEq, forall_eq', forall_eq]
          exact ⟨by omega, by omega⟩
      · exact hr.f.cg (by omega) (by omega) (by omega) (fun b i hb hi => rw1 b i (by omega) (by omega) (by omega)) (fun b i hb hi => rw1 b i (by omega) (by omega) (by omega)) (fun b i hb hi => rw1 b i (by omega) (by omega) (by omega))
      · exact hr.w.cg qA (fun j hj => ⟨rw1 _ _ (by decide) (by decide) (by decide), by unfold as_; rw [rw1 _ _ (by decide) (by decide) (by decide)]⟩) (fun j hj q1 q2 => by rw [rw1 _ _ (by decide) (by decide) (by decide)]; exact q2)
      · unfold CRs
        simp (disch := first | omega | (simp only [zN_sI, zN_sJ, zN_sA, zN_sNew]; done) | (simp only [zN_sI, zN_sJ, zN_sA, zN_sNew]; omega)) only [rf_z, hM, zA_sI, zK_sI, zN_sI, zL_sI, zK_sA, zN_sA, zL_sA, zI_sA, zN_sNew, zI_ne, zI_nk, zI_eq, zA_ne, zA_nk, zA_eq, zI_nn, zA_nn, zK_nn, zL_nn, zI_ne', zA_ne', zK_ne', zL_ne', R, s1, s2, s3, s4, s5, s6, s7, s8, s9, s10, s11, true_implies, false_implies, implies_true, not_true_eq_false, not_false_eq_true, and_true, true_and, Option.some.injEq, reduceCtorEq, forall_eq', forall_eq]
      · refine hc.n.cg ?_ ?_ (fun j => ?_) (fun j => ?_) (fun j => rw1 _ _ (by decide) (by decide) (by decide)) (fun j => rw1 _ _ (by decide) (by decide) (by decide))
        · unfold nN
          simp (disch := first | omega | (simp only [zN_sI, zN_sJ, zN_sA, zN_sNew]; done) | (simp only [zN_sI, zN_sJ, zN_sA, zN_sNew]; omega)) only [rf_z, hM, zA_sI, zK_sI, zN_sI, zL_sI, zK_sA, zN_sA, zL_sA, zI_sA, zN_sNew, zI_ne, zI_nk, zI_eq, zA_ne, zA_nk, zA_eq, zI_nn, zA_nn, zK_nn, zL_nn, zI_ne', zA_ne', zK_ne', zL_ne', R]
        · unfold tL
          simp (disch := first | omega | (simp only [zN_sI, zN_sJ, zN_sA, zN_sNew]; done) | (simp only [zN_sI, zN_sJ, zN_sA, zN_sNew]; omega)) only [rf_z, hM, zA_sI, zK_sI, zN_sI, zL_sI, zK_sA, zN_sA, zL_sA, zI_sA, zN_sNew, zI_ne, zI_nk, zI_eq, zA_ne, zA_nk, zA_eq, zI_nn, zA_nn, zK_nn, zL_nn, zI_ne', zA_ne', zK_ne', zL_ne', R]
        all_goals simp (disch := first | omega | (simp only [zN_sI, zN_sJ, zN_sA, zN_sNew]; done) | (simp only [zN_sI, zN_sJ, zN_sA, zN_sNew]; omega)) only [rf_z, hM, zA_sI, zK_sI, zN_sI, zL_sI, zK_sA, zN_sA, zL_sA, zI_sA, zN_sNew, zI_ne, zI_nk, zI_eq, zA_ne, zA_nk, zA_eq, zI_nn, zA_nn, zK_nn, zL_nn, zI_ne', zA_ne', zK_ne', zL_ne', R]
      · intro j k hj hk e
        rw [qa, qa] at e
        exact hc.d j k (by omega) (by omega) e
end PairN
