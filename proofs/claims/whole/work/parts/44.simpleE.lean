theorem dv24 {x : Int32} {hi : Int} (h : rng x 0 hi) : x / 24 = nI (tN x / 24) ∧ tN x < 2 ^ 31 := by
  obtain ⟨e1, e2, e3⟩ := nn_of (x := x) h.1
  refine ⟨?_, e3⟩
  rw [← pk_div e3 (by decide) (by decide), ← e1]
  rfl
section SimE
variable {E : ZE} {l : Launch} {d : Nat} {g : Gh} {L : Nat} {X : Nat → Int32} {t : Nat} {μ : ZM} {x1 x2 x3 : Int32}
theorem pr_damage (hI : IV g L X t μ) : PRp E l d L X t mX10_damage mX11_damage [some (.ref 11), some (.int x1), none] [some (.ref 31), some (.int x1)] μ := by
  obtain ⟨ρ, hρ⟩ : ∃ ρ, rf μ = ρ := ⟨_, rfl⟩
  have hS := hI.st
  have hr := hI.r hρ
  have hc := hI.c hρ
  have R : ∀ a j, 31 ≤ a → a < 88 → zI μ a j = ρ a j := fun a j h1 h2 => rfz hρ h1 h2
  obtain ⟨s1, s2, s3, s4, s5, s6, s7, s8, s9, s10, s11⟩ := hc.s
  obtain ⟨b1, b2, b3, b4, b5, b6, b7, b8⟩ := hr.s
  have hU : IV g L X (t + 1) μ := hI.up (Nat.le_succ t)
  refine PRp.mk fun K hK => ?_
  rcases ix3 x1 (n := nS ρ) (by have := b3.2; omega) with h | ⟨h, h'⟩ | ⟨i, hi, rfl⟩
  · refine t_X10_damage hS ?_
    simp (disch := omega) only [h, true_implies, false_implies, implies_true, not_true_eq_false, not_false_eq_true, and_true, true_and, Option.some.injEq, reduceCtorEq, forall_eq', forall_eq]
    refine hK _ _ hS hI.s0 fun Q hQ => t_X11_damage hS ?_
    simp (disch := omega) only [h, R, true_implies, false_implies, implies_true, not_true_eq_false, not_false_eq_true, and_true, true_and, Option.some.injEq, reduceCtorEq, forall_eq', forall_eq]
    exact hQ _ _ hU
  · rw [← b3.1] at h'
    refine t_X10_damage hS ?_
    simp (disch := omega) only [h, h', s3, true_implies, false_implies, implies_true, not_true_eq_false, not_false_eq_true, and_true, true_and, Option.some.injEq, reduceCtorEq, forall_eq', forall_eq]
    refine hK _ _ hS hI.s0 fun Q hQ => t_X11_damage hS ?_
    simp (disch := omega) only [h, h', R, true_implies, false_implies, implies_true, not_true_eq_false, not_false_eq_true, and_true, true_and, Option.some.injEq, reduceCtorEq, forall_eq', forall_eq]
    exact hQ _ _ hU
  · have b300 := b3.2
    have h1 : ¬ nI i < 0 := nI_pos (by omega)
    have h2 := ix_lt (by omega) hi
    have h3 : vp_in (nI i) 300 := vp_in_nI (by omega) (by decide)
    have h4 : (nI i).toNatClampNeg = i := nI_clamp (by omega)
    rw [← b3.1] at h2
    obtain ⟨c1, c2, c3, c4, c5, c6, c7, c8, c9, c10, c11, c12, c13, c14, c15, c16, c17, c18, c19, c20, c21, c22, c23⟩ := hc.sa hi
    obtain ⟨d1, d2, d3, d4, d5, d6, d7, d8, d9, d10, d11, d12, d13, d14, d15, d16, d17, d18, d19⟩ := hr.sa hi
    by_cases q : ρ 63 i < 0
    · refine t_X10_damage hS ?_
      simp (disch := omega) only [h1, h2, h3, h4, q, s3, c1, c4, c20, true_implies, false_implies, implies_true, not_true_eq_false, not_false_eq_true, and_true, true_and, Option.some.injEq, reduceCtorEq, forall_eq', forall_eq]
      refine hK _ _ hS hI.s0 fun Q hQ => t_X11_damage hS ?_
      simp (disch := omega) only [h1, h2, h3, h4, q, R, true_implies, false_implies, implies_true, not_true_eq_false, not_false_eq_true, and_true, true_and, Option.some.injEq, reduceCtorEq, forall_eq', forall_eq]
      exact hQ _ _ hU
    have nm : ∀ x : Int32, x = 1 ∨ x = 2 → ¬ daF x = -1 ∧ ¬ x ≤ 0 := by
      rintro x (rfl | rfl) <;> decide
    rcases three_of d19 with z | z
    · have k1 : daF (ρ 64 i) = -1 := by rw [z]; decide
      have k2 : ρ 64 i ≤ 0 := by rw [z]; decide
      obtain ⟨u1, u2⟩ := dv24 d7
      obtain ⟨v1, v2⟩ := dv24 b8
      have w1 : (ρ 55 i / 24 + 3 < ρ 31 1 / 24) ↔ tN (ρ 55 i) / 24 + 3 < tN (ρ 31 1) / 24 := by
        rw [u1, v1, show (3 : Int32) = nI 3 from rfl, nI_add, nI_ltI (by omega) (by omega)]
      have w2 : (3 < ρ 31 1 / 24 - ρ 55 i / 24) ↔ tN (ρ 55 i) / 24 + 3 < tN (ρ 31 1) / 24 := by
        rw [u1, v1, i_lt, pk_sub_toInt (by omega) (by omega), show ((3 : Int32)).toInt = 3 from by decide]
        omega
      have n1 : ¬ (2 : Int32) = 1 := by decide
      by_cases c : tN (ρ 55 i) / 24 + 3 < tN (ρ 31 1) / 24
      · have w1 := w1.mpr c
        have w2 := w2.mpr c
        refine t_X10_damage hS ?_
        simp (disch := omega) only [h1, h2, h3, h4, s3, s6, c1, c4, c13, c20, c21, q, k1, w1, zI_eq, true_implies, false_implies, implies_true, not_true_eq_false, not_false_eq_true, and_true, true_and, Option.some.injEq, reduceCtorEq, forall_eq', forall_eq]
        refine hK _ _ hS.wI (hI.s0.wi (by omega)) fun Q hQ => t_X11_damage hS.wI ?_
        simp (disch := omega) only [h1, h2, h3, h4, zI_ne, zI_eq, R, q, k2, w2, n1, true_implies, false_implies, implies_true, not_true_eq_false, not_false_eq_true, and_true, true_and, Option.some.injEq, reduceCtorEq, forall_eq', forall_eq]
        refine hQ g _ (hI.sal hρ hi 16 64 0 2 (by decide) (by decide) (by decide) (by decide) _ rfl ?_ ?_ ?_ ?_)
        · unfold RIsa sl
          simp only [Nat.reduceEqDiff, false_and, if_false, true_and, and_true, and_self, if_true]
          exact ⟨d1, d2, d3, d4, d5, d6, d7, d8, d9, d10, d11, d12, d13, d14, d15, d16, d17, d18, ⟨by decide, by decide⟩⟩
        · unfold CRsa smo lm sl
          simp only [Nat.reduceEqDiff, false_and, if_false, true_and, and_true, and_self, if_true]
          simp (disch := omega) only [saF_i, maF_i, laF_i, aaF_i, taF_i, zA_sI, zK_sI, zN_sI, zL_sI, zI_ne, zI_nk, zI_eq, true_implies, false_implies, implies_true, not_true_eq_false, not_false_eq_true, and_true, true_and, Option.some.injEq, reduceCtorEq, forall_eq', forall_eq]
          exact ⟨c1, c2, c3, c4, c5, c6, c7, c8, c9, c10, c11, c12, c13, c14, c15, c16, c17, c18, c19, c20, by decide, c22, c23⟩
        · simp only [Nat.reduceEqDiff, false_and, if_false, true_and, and_true, and_self, if_true]
          exact fun z => z
        · simp only [Nat.reduceEqDiff, false_and, if_false, true_and, and_true, and_self, if_true]
          exact fun z z' => ⟨z, z'⟩
      · have w1 : ¬ (ρ 55 i / 24 + 3 < ρ 31 1 / 24) := fun z => c (w1.mp z)
        have w2 : ¬ (3 < ρ 31 1 / 24 - ρ 55 i / 24) := fun z => c (w2.mp z)
        refine t_X10_damage hS ?_
        simp (disch := omega) only [h1, h2, h3, h4, s3, s6, c1, c4, c13, c20, c21, q, k1, w1, zI_eq, true_implies, false_implies, implies_true, not_true_eq_false, not_false_eq_true, and_true, true_and, Option.some.injEq, reduceCtorEq, forall_eq', forall_eq]
        refine hK _ _ hS.wI (hI.s0.wi (by omega)) fun Q hQ => t_X11_damage hS.wI ?_
        simp (disch := omega) only [h1, h2, h3, h4, zI_ne, zI_eq, R, q, k2, w2, n1, true_implies, false_implies, implies_true, not_true_eq_false, not_false_eq_true, and_true, true_and, Option.some.injEq, reduceCtorEq, forall_eq', forall_eq]
        refine hQ g _ (hI.sal hρ hi 16 64 1 1 (by decide) (by decide) (by decide) (by decide) _ rfl ?_ ?_ ?_ ?_)
        · unfold RIsa sl
          simp only [Nat.reduceEqDiff, false_and, if_false, true_and, and_true, and_self, if_true]
          exact ⟨d1, d2, d3, d4, d5, d6, d7, d8, d9, d10, d11, d12, d13, d14, d15, d16, d17, d18, ⟨by decide, by decide⟩⟩
        · unfold CRsa smo lm sl
          simp only [Nat.reduceEqDiff, false_and, if_false, true_and, and_true, and_self, if_true]
          simp (disch := omega) only [saF_i, maF_i, laF_i, aaF_i, taF_i, zA_sI, zK_sI, zN_sI, zL_sI, zI_ne, zI_nk, zI_eq, true_implies, false_implies, implies_true, not_true_eq_false, not_false_eq_true, and_true, true_and, Option.some.injEq, reduceCtorEq, forall_eq', forall_eq]
          exact ⟨c1, c2, c3, c4, c5, c6, c7, c8, c9, c10, c11, c12, c13, c14, c15, c16, c17, c18, c19, c20, by decide, c22, c23⟩
        · simp only [Nat.reduceEqDiff, false_and, if_false, true_and, and_true, and_self, if_true]
          exact fun z => z
        · simp only [Nat.reduceEqDiff, false_and, if_false, true_and, and_true, and_self, if_true]
          exact fun z z' => ⟨z, z'⟩
    · obtain ⟨k1, k2⟩ := nm _ z
      refine t_X10_damage hS ?_
      simp (disch := omega) only [h1, h2, h3, h4, q, k1, k2, s3, c1, c4, c20, c21, true_implies, false_implies, implies_true, not_true_eq_false, not_false_eq_true, and_true, true_and, Option.some.injEq, reduceCtorEq, forall_eq', forall_eq]
      refine hK _ _ hS hI.s0 fun Q hQ => t_X11_damage hS ?_
      simp (disch := omega) only [h1, h2, h3, h4, q, k1, k2, R, true_implies, false_implies, implies_true, not_true_eq_false, not_false_eq_true, and_true, true_and, Option.some.injEq, reduceCtorEq, forall_eq', forall_eq]
      exact hQ _ _ hU
theorem pr_leave (hI : IV g L X t μ) : PRp E l d L X t mX10_leave mX11_leave [some (.ref 11), some (.int x1), none] [some (.ref 31), some (.int x1)] μ := by
  obtain ⟨ρ, hρ⟩ : ∃ ρ, rf μ = ρ := ⟨_, rfl⟩
  have hS := hI.st
  have hr := hI.r hρ
  have hc := hI.c hρ
  have R : ∀ a j, 31 ≤ a → a < 88 → zI μ a j = ρ a j := fun a j h1 h2 => rfz hρ h1 h2
  obtain ⟨s1, s2, s3, s4, s5, s6, s7, s8, s9, s10, s11⟩ := hc.s
  obtain ⟨b1, b2, b3, b4, b5, b6, b7, b8⟩ := hr.s
  have hU : IV g L X (t + 1) μ := hI.up (Nat.le_succ t)
  refine PRp.mk fun K hK => ?_
  rcases ix3 x1 (n := nA ρ) (by have := b4.2; omega) with h | ⟨h, h'⟩ | ⟨i, hi, rfl⟩
  · refine t_X10_leave hS ?_
    simp (disch := omega) only [h, true_implies, false_implies, implies_true, not_true_eq_false, not_false_eq_true, and_true, true_and, Option.some.injEq, reduceCtorEq, forall_eq', forall_eq]
    refine hK _ _ hS hI.s0 fun Q hQ => t_X11_leave hS ?_
    simp (disch := omega) only [h, R, true_implies, false_implies, implies_true, not_true_eq_false, not_false_eq_true, and_true, true_and, Option.some.injEq, reduceCtorEq, forall_eq', forall_eq]
    exact hQ _ _ hU
  · rw [← b4.1] at h'
    refine t_X10_leave hS ?_
    simp (disch := omega) only [h, h', s4, true_implies, false_implies, implies_true, not_true_eq_false, not_false_eq_true, and_true, true_and, Option.some.injEq, reduceCtorEq, forall_eq', forall_eq]
    refine hK _ _ hS hI.s0 fun Q hQ => t_X11_leave hS ?_
    simp (disch := omega) only [h, h', R, true_implies, false_implies, implies_true, not_true_eq_false, not_false_eq_true, and_true, true_and, Option.some.injEq, reduceCtorEq, forall_eq', forall_eq]
    exact hQ _ _ hU
  · have b200 := b4.2
    have h1 : ¬ nI i < 0 := nI_pos (by omega)
    have h2 := ix_lt (by omega) hi
    have h3 : vp_in (nI i) 200 := vp_in_nI (by omega) (by decide)
    have h4 : (nI i).toNatClampNeg = i := nI_clamp (by omega)
    rw [← b4.1] at h2
    obtain ⟨e1, e2, e3, e4, e5, e6, e7, e8, e9, e10, e11, e12, e13, e14, e15, e16, e17, e18, e19, e20⟩ := hc.a hi
    obtain ⟨f1, f2, f3, f4, f5, f6, f7, f8, f9, f10, f11⟩ := hr.a hi
    by_cases q : ρ 82 i = 0
    · obtain ⟨s, hs⟩ : ∃ s, s = as_ ρ i := ⟨_, rfl⟩
      rw [← hs] at e5 f1 f2
      have st := hr.w.1 i hi q
      rw [← hs] at st
      have b300 := b3.2
      have h5 : vp_in (nI s) 300 := vp_in_nI (by omega) (by decide)
      have h6 : (nI s).toNatClampNeg = s := nI_clamp (by omega)
      obtain ⟨c1, c2, c3, c4, c5, c6, c7, c8, c9, c10, c11, c12, c13, c14, c15, c16, c17, c18, c19, c20, c21, c22, c23⟩ := hc.sa f2
      obtain ⟨d1, d2, d3, d4, d5, d6, d7, d8, d9, d10, d11, d12, d13, d14, d15, d16, d17, d18, d19⟩ := hr.sa f2
      have ne := kne e4 c4 (by decide)
      refine t_X10_leave hS ?_
      simp (disch := omega) only [h1, h2, h3, h4, s4, e1, e4, e18, q, zA_sI, zK_sI, e5, c4, true_implies, false_implies, implies_true, not_true_eq_false, not_false_eq_true, and_true, true_and, Option.some.injEq, reduceCtorEq, forall_eq', forall_eq]
      refine hK _ _ hS.wI.wI ((hI.s0.wi (by omega)).wi (by omega)) fun Q hQ => t_X11_leave hS.wI.wI ?_
      simp (disch := omega) only [h1, h2, h3, h4, zI_ne, R, q, f1, h5, h6, true_implies, false_implies, implies_true, not_true_eq_false, not_false_eq_true, and_true, true_and, Option.some.injEq, reduceCtorEq, forall_eq', forall_eq]
      refine hQ g _ ?_
      refine IV.fr0 (Ps := (· = s)) (Pa := (· = i)) (Pl := fun _ => False) (Pm := fun _ => False) hI hS.wI.wI.wI.wI ((((EqX.rfl.wi (W0.a (Pa := (· = i)) rfl hi)).wi (W0.s (Ps := (· = s)) rfl f2)).wi (W0.ra (Pa := (· = i)) (by decide) (by decide) (by decide) rfl)).wi (W0.rs (Ps := (· = s)) (by decide) (by decide) (by decide) rfl)) (fun _ => rfl) hρ rfl (Nat.le_succ t) ?_ (fun _ _ p => p.elim) (fun _ _ p => p.elim) (fun j _ p => ?_) (fun j _ p => ?_) ⟨fun j p => by rw [p]; exact f2, fun j p => by rw [p]; exact hi, fun _ p => p.elim⟩ ?_ ?_ ?_ ?_
      · refine hr.s.cg2 fun j hj => ?_
        simp (disch := omega) only [rf_z, zI_ne, zI_nk, R]
      · subst p
        constructor
        · unfold RIsa sl nL nA
          simp (disch := omega) only [rf_z, zI_ne, zI_nk, zI_eq, R]
          exact ⟨d1, d2, d3, d4, d5, d6, d7, d8, d9, d10, ⟨by decide, by decide⟩, d12, ⟨fun z => absurd z (by decide), fun z => absurd (d13.mpr z) (by rw [st]; decide)⟩, fun z => absurd (d14 z) (by rw [st]; decide), d15, fun z => absurd z (by decide), d17, d18, d19⟩
        · unfold CRsa smo lm sl
          simp (disch := omega) only [rf_z, saF_i, maF_i, laF_i, aaF_i, taF_i, zA_sI, zK_sI, zN_sI, zL_sI, zI_ne, zI_nk, zI_eq, R, true_implies, false_implies, implies_true, not_true_eq_false, not_false_eq_true, and_true, true_and, Option.some.injEq, reduceCtorEq, forall_eq', forall_eq]
          exact ⟨c1, c2, c3, c4, c5, c6, c7, c8, c9, c10, c11, c12, c13, c14, c15, c17, c18, c19, c20, c21, c22, fun z => absurd z (by decide)⟩
      · subst p
        rw [hs] at e5 f1 f2
        constructor
        · unfold RIa as_ nS
          simp (disch := omega) only [rf_z, zI_ne, zI_nk, zI_eq, R]
          exact ⟨f1, f2, f3, f4, f5, f6, f7, f8, f9, f10, ⟨by decide, by decide⟩⟩
        · unfold CRa as_
          simp (disch := omega) only [rf_z, saF_i, maF_i, laF_i, aaF_i, taF_i, zA_sI, zK_sI, zN_sI, zL_sI, zI_ne, zI_nk, zI_eq, R, true_implies, false_implies, implies_true, not_true_eq_false, not_false_eq_true, and_true, true_and, Option.some.injEq, reduceCtorEq, forall_eq', forall_eq]
          exact ⟨e1, e2, e3, e4, e5, e6, e7, e8, e9, e10, e11, e12, e13, e14, e15, e16, e17, e19, e20⟩
      · have nA' : ∀ {μ2 : ZM}, rf μ2 31 60 = ρ 31 60 → nA (rf μ2) = nA ρ := fun z => by unfold nA; rw [z]
        have e60 : rf (sI (sI (sI (sI μ (aaF μ i) 13 2) (saF μ s) 11 0) 82 i 2) 48 s 0) 31 60 = ρ 31 60 := by simp (disch := omega) only [rf_z, zI_ne, R]
        have eas : ∀ j, as_ (rf (sI (sI (sI (sI μ (aaF μ i) 13 2) (saF μ s) 11 0) 82 i 2) 48 s 0)) j = as_ ρ j := fun j => by
          unfold as_
          simp (disch := omega) only [rf_z, zI_ne, R]
        have n20 : ¬ (2 : Int32) = 0 := by decide
        refine ⟨fun j hj z => ?_, fun j k hj hk z1 z2 z3 => ?_⟩
        · rw [nA' e60] at hj
          rw [eas]
          by_cases c : j = i
          · subst c
            simp (disch := omega) only [rf_z, zI_ne, zI_eq, R, n20] at z
          · simp (disch := omega) only [rf_z, zI_ne, zI_nk, R] at z
            by_cases c2 : as_ ρ j = s
            · exact absurd (hr.w.2 j i hj hi z q (by rw [c2, hs])) c
            · simp (disch := omega) only [rf_z, zI_nk, zI_ne, R]
              exact hr.w.1 j hj z
        · rw [nA' e60] at hj hk
          rw [eas, eas] at z3
          by_cases c : j = i
          · subst c
            simp (disch := omega) only [rf_z, zI_ne, zI_eq, R, n20] at z1
          · by_cases c' : k = i
            · subst c'
              simp (disch := omega) only [rf_z, zI_ne, zI_eq, R, n20] at z2
            · simp (disch := omega) only [rf_z, zI_ne, zI_nk, R] at z1 z2
              exact hr.w.2 j k hj hk z1 z2 z3
      · unfold CRs
        simp (disch := omega) only [rf_z, saF_i, maF_i, laF_i, aaF_i, taF_i, zA_sI, zK_sI, zN_sI, zL_sI, zI_ne, zI_nk, zI_eq, R, s1, s2, s3, s4, s5, s6, s7, s8, s9, s10, s11, true_implies, false_implies, implies_true, not_true_eq_false, not_false_eq_true, and_true, true_and, Option.some.injEq, reduceCtorEq, forall_eq', forall_eq]
      · refine hc.n.cg ?_ ?_ (fun j => ?_) (fun j => ?_) (fun j => ?_) (fun j => ?_)
        · unfold nN
          simp (disch := omega) only [rf_z, zI_ne, zI_nk, R]
        · unfold tL
          simp (disch := omega) only [rf_z, zI_ne, zI_nk, R]
        all_goals simp (disch := omega) only [rf_z, zI_ne, zI_nk, R]
      · intro j p a1 a2
        rw [p] at a2
        rw [st] at a2
        exact absurd a2 (by decide)
    · refine t_X10_leave hS ?_
      simp (disch := omega) only [h1, h2, h3, h4, q, s4, e1, e4, e18, true_implies, false_implies, implies_true, not_true_eq_false, not_false_eq_true, and_true, true_and, Option.some.injEq, reduceCtorEq, forall_eq', forall_eq]
      refine hK _ _ hS hI.s0 fun Q hQ => t_X11_leave hS ?_
      simp (disch := omega) only [h1, h2, h3, h4, q, R, true_implies, false_implies, implies_true, not_true_eq_false, not_false_eq_true, and_true, true_and, Option.some.injEq, reduceCtorEq, forall_eq', forall_eq]
      exact hQ _ _ hU
end SimE
