section SimD
variable {E : ZE} {l : Launch} {d : Nat} {g : Gh} {L : Nat} {X : Nat → Int32} {t : Nat} {μ : ZM} {x1 x2 x3 : Int32}
theorem pr_hours (hI : IV g L X t μ) : PRp E l d L X t mX10_hours mX11_hours [some (.ref 11), some (.int x1)] [some (.ref 31), some (.int x1)] μ := by
  obtain ⟨ρ, hρ⟩ : ∃ ρ, rf μ = ρ := ⟨_, rfl⟩
  have hS := hI.st
  have hr := hI.r hρ
  have hc := hI.c hρ
  have R : ∀ a j, 31 ≤ a → a < 88 → zI μ a j = ρ a j := fun a j h1 h2 => rfz hρ h1 h2
  obtain ⟨s1, s2, s3, s4, s5, s6, s7, s8, s9, s10, s11⟩ := hc.s
  obtain ⟨b1, b2, b3, b4, b5, b6, b7, b8⟩ := hr.s
  have hU : IV g L X (t + 1) μ := hI.up (Nat.le_succ t)
  refine PRp.mk fun K hK => ?_
  by_cases y1 : x1 < 1
  · refine t_X10_hours hS ?_
    simp (disch := omega) only [y1, true_implies, false_implies, implies_true, not_true_eq_false, not_false_eq_true, and_true, true_and, Option.some.injEq, reduceCtorEq, forall_eq', forall_eq]
    refine hK _ _ hS hI.s0 fun Q hQ => t_X11_hours hS ?_
    simp (disch := omega) only [y1, R, true_implies, false_implies, implies_true, not_true_eq_false, not_false_eq_true, and_true, true_and, Option.some.injEq, reduceCtorEq, forall_eq', forall_eq]
    exact hQ _ _ hU
  by_cases y2 : 2400 < x1
  · refine t_X10_hours hS ?_
    simp (disch := omega) only [y1, y2, true_implies, false_implies, implies_true, not_true_eq_false, not_false_eq_true, and_true, true_and, Option.some.injEq, reduceCtorEq, forall_eq', forall_eq]
    refine hK _ _ hS hI.s0 fun Q hQ => t_X11_hours hS ?_
    simp (disch := omega) only [y1, y2, R, true_implies, false_implies, implies_true, not_true_eq_false, not_false_eq_true, and_true, true_and, Option.some.injEq, reduceCtorEq, forall_eq', forall_eq]
    exact hQ _ _ hU
  obtain ⟨a1, a2, a3⟩ := rng_of b8 (by decide)
  have y0 : ¬ x1 < 0 := by
    rw [i_lt] at y1 ⊢
    have e0 : (0 : Int32).toInt = 0 := by decide
    have e1 : (1 : Int32).toInt = 1 := by decide
    omega
  obtain ⟨n, hn, rfl⟩ : ∃ n, n ≤ 2400 ∧ x1 = nI n := nI_of2 (M := 2400) (by decide) y0 (Int32.not_lt.mp y2)
  obtain ⟨a, ha⟩ : ∃ a, a = tN (ρ 31 1) := ⟨_, rfl⟩
  rw [← ha] at a1 a2 a3
  have q1 : nI n ≤ 71999 - ρ 31 1 ↔ a + n ≤ 71999 := by
    rw [a1, show (71999 : Int32) = nI 71999 from rfl, pk_sub (by omega), nI_leI (by omega) (by omega)]
    omega
  have q2 : ρ 31 1 + nI n ≤ 71999 ↔ a + n ≤ 71999 := by
    rw [a1, nI_add, show (71999 : Int32) = nI 71999 from rfl, nI_leI (by omega) (by omega)]
  by_cases c : a + n ≤ 71999
  · have c1 := q1.mpr c
    have c2 := q2.mpr c
    refine t_X10_hours hS ?_
    simp (disch := omega) only [y1, y2, zI_eq, s6, c1, true_implies, false_implies, implies_true, not_true_eq_false, not_false_eq_true, and_true, true_and, Option.some.injEq, reduceCtorEq, forall_eq', forall_eq]
    refine hK _ _ hS.wI (hI.s0.wi (by decide)) fun Q hQ => t_X11_hours hS.wI ?_
    simp (disch := omega) only [y1, y2, zI_eq, zI_ne, R, c2, true_implies, false_implies, implies_true, not_true_eq_false, not_false_eq_true, and_true, true_and, Option.some.injEq, reduceCtorEq, forall_eq', forall_eq]
    have e3 : ρ 31 1 + nI n = nI (a + n) := by rw [a1, nI_add]
    refine hQ g _ (IV.fr1 hI hS.wI.wI ((EqX.rfl.wi (Or.inl (Or.inr (Or.inl ⟨rfl, rfl⟩)))).wi (Or.inl (Or.inr (Or.inr (Or.inr (Or.inr (Or.inr (Or.inl ⟨rfl, Or.inl rfl⟩)))))))) hρ rfl (Nat.le_succ t) ?_ ?_ ?_ ?_ ?_ ?_ (hI.w.cg fun _ => rfl))
    · simp (disch := omega) only [rf_z, zI_eq, e3]
      rw [a1, nI_toInt (by omega), nI_toInt (by omega)]
      omega
    · simp (disch := omega) only [rf_z, zI_eq, e3]
      rw [a1, show (24 : Int32) = nI 24 from rfl, pk_div (by omega) (by decide) (by decide), pk_div (by omega) (by decide) (by decide), nI_toInt (by omega), nI_toInt (by omega)]
      omega
    · unfold RIs nM nL nS nA nT nN tL
      simp (disch := omega) only [rf_z, zI_ne, zI_nk, zI_eq, R, e3]
      exact ⟨b1, b2, b3, b4, b5, b6, b7, by unfold rng; rw [nI_toInt (by omega)]; omega⟩
    · unfold CRs
      simp (disch := omega) only [rf_z, saF_i, maF_i, laF_i, aaF_i, taF_i, zA_sI, zK_sI, zN_sI, zL_sI, zI_ne, zI_nk, zI_eq, R, s1, s2, s3, s4, s5, s6, s7, s8, s9, s10, s11, true_implies, false_implies, implies_true, not_true_eq_false, not_false_eq_true, and_true, true_and, Option.some.injEq, reduceCtorEq, forall_eq', forall_eq]
    · refine hc.n.cg ?_ ?_ (fun j => ?_) (fun j => ?_) (fun j => ?_) (fun j => ?_)
      · unfold nN
        simp (disch := omega) only [rf_z, zI_ne, zI_nk, R]
      · unfold tL
        simp (disch := omega) only [rf_z, zI_ne, zI_nk, R]
      all_goals simp (disch := omega) only [rf_z, zI_ne, zI_nk, R]
    · intro j hj
      simp (disch := omega) only [rf_z, zI_ne, R]
      exact hc.h j hj
  · have c1 : ¬ nI n ≤ 71999 - ρ 31 1 := fun z => c (q1.mp z)
    have c2 : ¬ ρ 31 1 + nI n ≤ 71999 := fun z => c (q2.mp z)
    refine t_X10_hours hS ?_
    simp (disch := omega) only [y1, y2, c1, c2, s6, true_implies, false_implies, implies_true, not_true_eq_false, not_false_eq_true, and_true, true_and, Option.some.injEq, reduceCtorEq, forall_eq', forall_eq]
    refine hK _ _ hS hI.s0 fun Q hQ => t_X11_hours hS ?_
    simp (disch := omega) only [y1, y2, c1, c2, R, true_implies, false_implies, implies_true, not_true_eq_false, not_false_eq_true, and_true, true_and, Option.some.injEq, reduceCtorEq, forall_eq', forall_eq]
    exact hQ _ _ hU
theorem pr_end (hI : IV g L X t μ) : PRp E l d L X t mX10_end mX11_end [some (.ref 11), some (.int x1)] [some (.ref 31), some (.int x1)] μ := by
  obtain ⟨ρ, hρ⟩ : ∃ ρ, rf μ = ρ := ⟨_, rfl⟩
  have hS := hI.st
  have hr := hI.r hρ
  have hc := hI.c hρ
  have R : ∀ a j, 31 ≤ a → a < 88 → zI μ a j = ρ a j := fun a j h1 h2 => rfz hρ h1 h2
  obtain ⟨s1, s2, s3, s4, s5, s6, s7, s8, s9, s10, s11⟩ := hc.s
  obtain ⟨b1, b2, b3, b4, b5, b6, b7, b8⟩ := hr.s
  have hU : IV g L X (t + 1) μ := hI.up (Nat.le_succ t)
  refine PRp.mk fun K hK => ?_
  by_cases y1 : x1 < 0
  · refine t_X10_end hS ?_
    simp (disch := omega) only [y1, true_implies, false_implies, implies_true, not_true_eq_false, not_false_eq_true, and_true, true_and, Option.some.injEq, reduceCtorEq, forall_eq', forall_eq]
    refine hK _ _ hS hI.s0 fun Q hQ => t_X11_end hS ?_
    simp (disch := omega) only [y1, R, true_implies, false_implies, implies_true, not_true_eq_false, not_false_eq_true, and_true, true_and, Option.some.injEq, reduceCtorEq, forall_eq', forall_eq]
    exact hQ _ _ hU
  by_cases y2 : ρ 31 41 < x1
  · refine t_X10_end hS ?_
    simp (disch := omega) only [y1, y2, s11, true_implies, false_implies, implies_true, not_true_eq_false, not_false_eq_true, and_true, true_and, Option.some.injEq, reduceCtorEq, forall_eq', forall_eq]
    refine hK _ _ hS hI.s0 fun Q hQ => t_X11_end hS ?_
    simp (disch := omega) only [y1, y2, R, true_implies, false_implies, implies_true, not_true_eq_false, not_false_eq_true, and_true, true_and, Option.some.injEq, reduceCtorEq, forall_eq', forall_eq]
    exact hQ _ _ hU
  have b7' := b7.2
  obtain ⟨n, hn, rfl⟩ : ∃ n, n ≤ tL ρ ∧ x1 = nI n := nI_of2 (M := ρ 31 41) (by rw [b7.1, nI_toInt (by omega)]) y1 (Int32.not_lt.mp y2)
  refine t_X10_end hS ?_
  simp (disch := omega) only [y1, y2, s11, true_implies, false_implies, implies_true, not_true_eq_false, not_false_eq_true, and_true, true_and, Option.some.injEq, reduceCtorEq, forall_eq', forall_eq]
  refine hK _ _ hS.wI (hI.s0.wi (by decide)) fun Q hQ => t_X11_end hS.wI ?_
  simp (disch := omega) only [y1, y2, zI_ne, R, true_implies, false_implies, implies_true, not_true_eq_false, not_false_eq_true, and_true, true_and, Option.some.injEq, reduceCtorEq, forall_eq', forall_eq]
  refine hQ g _ (IV.fr1 hI hS.wI.wI ((EqX.rfl.wi (Or.inl (Or.inr (Or.inr (Or.inl ⟨rfl, rfl⟩))))).wi (Or.inl (Or.inr (Or.inr (Or.inr (Or.inr (Or.inr (Or.inl ⟨rfl, Or.inr rfl⟩)))))))) hρ rfl (Nat.le_succ t) ?_ ?_ ?_ ?_ ?_ ?_ (hI.w.cg fun _ => rfl))
  · simp (disch := omega) only [rf_z, zI_nk, zI_ne, R]
    exact Int.le_refl _
  · simp (disch := omega) only [rf_z, zI_nk, zI_ne, R]
    exact Int.le_refl _
  · unfold RIs nM nL nS nA nT nN tL
    simp (disch := omega) only [rf_z, zI_ne, zI_nk, zI_eq, R]
    exact ⟨b1, b2, b3, b4, b5, b6, ⟨by unfold tN; rw [nI_clamp (by omega)], by unfold tN; rw [nI_clamp (by omega)]; omega⟩, b8⟩
  · unfold CRs
    simp (disch := omega) only [rf_z, saF_i, maF_i, laF_i, aaF_i, taF_i, zA_sI, zK_sI, zN_sI, zL_sI, zI_ne, zI_nk, zI_eq, R, s1, s2, s3, s4, s5, s6, s7, s8, s9, s10, s11, true_implies, false_implies, implies_true, not_true_eq_false, not_false_eq_true, and_true, true_and, Option.some.injEq, reduceCtorEq, forall_eq', forall_eq]
  · obtain ⟨u1, u2⟩ := hc.n
    unfold CRn nN tL
    simp (disch := omega) only [rf_z, zI_ne, zI_nk, zI_eq, R]
    refine ⟨u1, fun j hj => u2 j ?_⟩
    unfold tN at hj
    rw [nI_clamp (by omega)] at hj
    omega
  · intro j hj
    simp (disch := omega) only [rf_z, zI_ne, R]
    exact hc.h j hj
theorem pr_note (hI : IV g L X t μ) : PRp E l d L X t mX10_note mX11_note [some (.ref 11), some (.int x1)] [some (.ref 31), some (.int x1)] μ := by
  obtain ⟨ρ, hρ⟩ : ∃ ρ, rf μ = ρ := ⟨_, rfl⟩
  have hS := hI.st
  have hr := hI.r hρ
  have hc := hI.c hρ
  have R : ∀ a j, 31 ≤ a → a < 88 → zI μ a j = ρ a j := fun a j h1 h2 => rfz hρ h1 h2
  obtain ⟨s1, s2, s3, s4, s5, s6, s7, s8, s9, s10, s11⟩ := hc.s
  obtain ⟨b1, b2, b3, b4, b5, b6, b7, b8⟩ := hr.s
  have hU : IV g L X (t + 1) μ := hI.up (Nat.le_succ t)
  refine PRp.mk fun K hK => ?_
  have b6' := b6.2
  rcases ix3 x1 (n := nN ρ) (by omega) with h | ⟨h, h'⟩ | ⟨i, hi, rfl⟩
  · refine t_X10_note hS ?_
    simp (disch := omega) only [h, true_implies, false_implies, implies_true, not_true_eq_false, not_false_eq_true, and_true, true_and, Option.some.injEq, reduceCtorEq, forall_eq', forall_eq]
    refine hK _ _ hS hI.s0 fun Q hQ => t_X11_note hS ?_
    simp (disch := omega) only [h, R, true_implies, false_implies, implies_true, not_true_eq_false, not_false_eq_true, and_true, true_and, Option.some.injEq, reduceCtorEq, forall_eq', forall_eq]
    exact hQ _ _ hU
  · rw [← b6.1] at h'
    have h2 : ρ 31 74 ≤ x1 := by
      rw [b6.1, i_lt, show (1 : Int32) = nI 1 from rfl, pk_sub_toInt (by omega) (by decide)] at h'
      rw [b6.1, i_le, nI_toInt (by omega)]
      omega
    refine t_X10_note hS ?_
    simp (disch := omega) only [h, h', h2, s7, true_implies, false_implies, implies_true, not_true_eq_false, not_false_eq_true, and_true, true_and, Option.some.injEq, reduceCtorEq, forall_eq', forall_eq]
    refine hK _ _ hS hI.s0 fun Q hQ => t_X11_note hS ?_
    simp (disch := omega) only [h, h', h2, R, true_implies, false_implies, implies_true, not_true_eq_false, not_false_eq_true, and_true, true_and, Option.some.injEq, reduceCtorEq, forall_eq', forall_eq]
    exact hQ _ _ hU
  · have h1 : ¬ nI i < 0 := nI_pos (by omega)
    have h2 := ix_lt (by omega) hi
    have h3 : vp_in (nI i) 200 := vp_in_nI (by omega) (by decide)
    have h4 : (nI i).toNatClampNeg = i := nI_clamp (by omega)
    have h5 : ¬ ρ 31 74 ≤ nI i := by rw [b6.1]; exact nI_ge hi (by omega)
    have h6 : ¬ (200 : Int32) ≤ nI i := by rw [show (200 : Int32) = nI 200 from rfl]; exact nI_ge (by omega) (by omega)
    rw [← b6.1] at h2
    have u := hc.n.1 i hi
    refine t_X10_note hS ?_
    simp (disch := omega) only [h1, h2, h3, h4, h5, h6, s7, u, true_implies, false_implies, implies_true, not_true_eq_false, not_false_eq_true, and_true, true_and, Option.some.injEq, reduceCtorEq, forall_eq', forall_eq]
    refine hK _ _ hS hI.s0 fun Q hQ => t_X11_note hS ?_
    simp (disch := omega) only [h1, h2, h3, h4, h5, h6, R, true_implies, false_implies, implies_true, not_true_eq_false, not_false_eq_true, and_true, true_and, Option.some.injEq, reduceCtorEq, forall_eq', forall_eq]
    exact hQ _ _ hU
theorem pr_honest (hI : IV g L X t μ) : PRp E l d L X t mX10_honest mX11_honest [some (.ref 11), some (.int x1), some (.int x2), none] [some (.ref 31), some (.int x1), some (.int x2), none] μ := by
  obtain ⟨ρ, hρ⟩ : ∃ ρ, rf μ = ρ := ⟨_, rfl⟩
  have hS := hI.st
  have hr := hI.r hρ
  have hc := hI.c hρ
  have R : ∀ a j, 31 ≤ a → a < 88 → zI μ a j = ρ a j := fun a j h1 h2 => rfz hρ h1 h2
  obtain ⟨s1, s2, s3, s4, s5, s6, s7, s8, s9, s10, s11⟩ := hc.s
  obtain ⟨b1, b2, b3, b4, b5, b6, b7, b8⟩ := hr.s
  have hU : IV g L X (t + 1) μ := hI.up (Nat.le_succ t)
  refine PRp.mk fun K hK => ?_
  by_cases z1 : x1 < 0
  · refine t_X10_honest hS ?_
    simp (disch := omega) only [z1, true_implies, false_implies, implies_true, not_true_eq_false, not_false_eq_true, and_true, true_and, Option.some.injEq, reduceCtorEq, forall_eq', forall_eq]
    refine hK _ _ hS hI.s0 fun Q hQ => t_X11_honest hS ?_
    simp (disch := omega) only [z1, R, true_implies, false_implies, implies_true, not_true_eq_false, not_false_eq_true, and_true, true_and, Option.some.injEq, reduceCtorEq, forall_eq', forall_eq]
    exact hQ _ _ hU
  by_cases z2 : 59 < x1
  · refine t_X10_honest hS ?_
    simp (disch := omega) only [z1, z2, true_implies, false_implies, implies_true, not_true_eq_false, not_false_eq_true, and_true, true_and, Option.some.injEq, reduceCtorEq, forall_eq', forall_eq]
    refine hK _ _ hS hI.s0 fun Q hQ => t_X11_honest hS ?_
    simp (disch := omega) only [z1, z2, R, true_implies, false_implies, implies_true, not_true_eq_false, not_false_eq_true, and_true, true_and, Option.some.injEq, reduceCtorEq, forall_eq', forall_eq]
    exact hQ _ _ hU
  by_cases y1 : x2 < 0
  · refine t_X10_honest hS ?_
    simp (disch := omega) only [z1, z2, y1, true_implies, false_implies, implies_true, not_true_eq_false, not_false_eq_true, and_true, true_and, Option.some.injEq, reduceCtorEq, forall_eq', forall_eq]
    refine hK _ _ hS hI.s0 fun Q hQ => t_X11_honest hS ?_
    simp (disch := omega) only [z1, z2, y1, R, true_implies, false_implies, implies_true, not_true_eq_false, not_false_eq_true, and_true, true_and, Option.some.injEq, reduceCtorEq, forall_eq', forall_eq]
    exact hQ _ _ hU
  by_cases y2 : 2 < x2
  · refine t_X10_honest hS ?_
    simp (disch := omega) only [z1, z2, y1, y2, true_implies, false_implies, implies_true, not_true_eq_false, not_false_eq_true, and_true, true_and, Option.some.injEq, reduceCtorEq, forall_eq', forall_eq]
    refine hK _ _ hS hI.s0 fun Q hQ => t_X11_honest hS ?_
    simp (disch := omega) only [z1, z2, y1, y2, R, true_implies, false_implies, implies_true, not_true_eq_false, not_false_eq_true, and_true, true_and, Option.some.injEq, reduceCtorEq, forall_eq', forall_eq]
    exact hQ _ _ hU
  obtain ⟨n, hn, rfl⟩ : ∃ n, n ≤ 59 ∧ x1 = nI n := nI_of2 (M := 59) (by decide) z1 (Int32.not_lt.mp z2)
  have h3 : vp_in (nI n) 60 := vp_in_nI (by omega) (by decide)
  have h4 : (nI n).toNatClampNeg = n := nI_clamp (by omega)
  obtain ⟨k1, k2⟩ := hc.h n (by omega)
  refine t_X10_honest hS ?_
  simp (disch := omega) only [z1, z2, h3, h4, y1, y2, true_implies, false_implies, implies_true, not_true_eq_false, not_false_eq_true, and_true, true_and, Option.some.injEq, reduceCtorEq, forall_eq', forall_eq]
  refine hK _ _ hS.wI (hI.s0.wi (by decide)) fun Q hQ => t_X11_honest hS.wI ?_
  simp (disch := omega) only [z1, z2, h3, h4, y1, y2, zI_ne, R, k2, true_implies, false_implies, implies_true, not_true_eq_false, not_false_eq_true, and_true, true_and, Option.some.injEq, reduceCtorEq, forall_eq', forall_eq]
  have rg := rng_x 2 rfl (by decide) y1 y2
  have fin : IV g L X (t + 1) (sI (sI μ 30 n x2) 87 n (hoF x2)) := by
    refine IV.fr1 hI hS.wI.wI ((EqX.rfl.wi (Or.inl (Or.inr (Or.inr (Or.inr (Or.inr (Or.inl rfl))))))).wi (Or.inl (Or.inr (Or.inr (Or.inr (Or.inr (Or.inr (Or.inr (Or.inr rfl))))))))) hρ rfl (Nat.le_succ t) ?_ ?_ ?_ ?_ ?_ ?_ (hI.w.cg fun _ => rfl)
    · simp (disch := omega) only [rf_z, zI_nk, zI_ne, R]
      exact Int.le_refl _
    · simp (disch := omega) only [rf_z, zI_nk, zI_ne, R]
      exact Int.le_refl _
    · refine hr.s.cg2 fun j hj => ?_
      simp (disch := omega) only [rf_z, zI_ne, zI_nk, R]
    · unfold CRs
      simp (disch := omega) only [rf_z, saF_i, maF_i, laF_i, aaF_i, taF_i, zA_sI, zK_sI, zN_sI, zL_sI, zI_ne, zI_nk, zI_eq, R, s1, s2, s3, s4, s5, s6, s7, s8, s9, s10, s11, true_implies, false_implies, implies_true, not_true_eq_false, not_false_eq_true, and_true, true_and, Option.some.injEq, reduceCtorEq, forall_eq', forall_eq]
    · refine hc.n.cg ?_ ?_ (fun j => ?_) (fun j => ?_) (fun j => ?_) (fun j => ?_)
      · unfold nN
        simp (disch := omega) only [rf_z, zI_ne, zI_nk, R]
      · unfold tL
        simp (disch := omega) only [rf_z, zI_ne, zI_nk, R]
      all_goals simp (disch := omega) only [rf_z, zI_ne, zI_nk, R]
    · intro j hj
      by_cases c : j = n
      · subst c
        simp (disch := omega) only [rf_z, zI_ne, zI_eq]
        exact ⟨rg, trivial⟩
      · simp (disch := omega) only [rf_z, zI_nk, R]
        exact hc.h j hj
  have n1 : hoF 0 = 1 := by decide
  have n2 : hoF 1 = 2 := by decide
  have n3 : hoF 2 = 0 := by decide
  have m1 : ¬ (1 : Int32) = 0 := by decide
  have m2 : ¬ (2 : Int32) = 0 := by decide
  have m3 : ¬ (0 : Int32) = 2 := by decide
  have m4 : ¬ (1 : Int32) = 2 := by decide
  have m5 : (0 : Int32) + 1 = 1 := by decide
  have m6 : (1 : Int32) + 1 = 2 := by decide
  have m7 : (1 : Int32) - 1 = 0 := by decide
  have m8 : (2 : Int32) - 1 = 1 := by decide
  rcases three_of k1 with k | k | k <;> rcases three_of rg with y | y | y
  all_goals
    rw [k] at hQ
    rw [y] at fin
    simp (disch := omega) only [k, y, n1, n2, n3, m1, m2, m3, m4, m5, m6, m7, m8, true_implies, false_implies, implies_true, not_true_eq_false, not_false_eq_true, and_true, true_and, Option.some.injEq, reduceCtorEq, forall_eq', forall_eq] at fin ⊢
    exact hQ _ _ fin
end SimD
