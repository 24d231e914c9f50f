section Ask
variable {E : ZE} {l : Launch} {d : Nat} {g : Gh} {L : Nat} {X : Nat → Int32} {t : Nat} {μ : ZM} {x1 x2 x3 x4 x5 x6 : Int32}
set_option maxHeartbeats 8000000 in
theorem pr_ask (hI : IV g L X t μ) : PRp E l d L X t mX10_ask mX11_ask [some (.ref 11), some (.int x1), some (.int x2), some (.int x3), some (.int x4), some (.int x5), some (.int x6), none] [some (.ref 31), some (.int x1), some (.int x2), some (.int x3), some (.int x4), some (.int x5), some (.int x6), none, none, none] μ := by
  obtain ⟨ρ, hρ⟩ : ∃ ρ, rf μ = ρ := ⟨_, rfl⟩
  have hS := hI.st
  have hr := hI.r hρ
  have hc := hI.c hρ
  have R : ∀ a j, 31 ≤ a → a < 88 → zI μ a j = ρ a j := fun a j h1 h2 => rfz hρ h1 h2
  obtain ⟨s1, s2, s3, s4, s5, s6, s7, s8, s9, s10, s11⟩ := hc.s
  obtain ⟨b1, b2, b3, b4, b5, b6, b7, b8⟩ := hr.s
  have hU : IV g L X (t + 1) μ := hI.up (Nat.le_succ t)
  refine PRp.mk fun K hK => ?_
  have hA := hS.N
  rcases ix3 x1 (n := nS ρ) (by have := b3.2; omega) with h | ⟨h, h'⟩ | ⟨i, hi, rfl⟩
  · refine t_X10_ask hS ?_
    simp (disch := omega) only [h, true_implies, false_implies, implies_true, not_true_eq_false, not_false_eq_true, and_true, true_and, Option.some.injEq, reduceCtorEq, forall_eq', forall_eq]
    refine hK _ _ hS hI.s0 fun Q hQ => t_X11_ask hS ?_
    simp (disch := omega) only [h, R, true_implies, false_implies, implies_true, not_true_eq_false, not_false_eq_true, and_true, true_and, Option.some.injEq, reduceCtorEq, forall_eq', forall_eq]
    exact hQ _ _ hU
  · rw [← b3.1] at h'
    refine t_X10_ask hS ?_
    simp (disch := omega) only [h, h', s3, true_implies, false_implies, implies_true, not_true_eq_false, not_false_eq_true, and_true, true_and, Option.some.injEq, reduceCtorEq, forall_eq', forall_eq]
    refine hK _ _ hS hI.s0 fun Q hQ => t_X11_ask hS ?_
    simp (disch := omega) only [h, h', R, true_implies, false_implies, implies_true, not_true_eq_false, not_false_eq_true, and_true, true_and, Option.some.injEq, reduceCtorEq, forall_eq', forall_eq]
    exact hQ _ _ hU
  · have b300 := b3.2
    have h1 : ¬ nI i < 0 := nI_pos (by omega)
    have h2 := ix_lt (by omega) hi
    have h3 : vp_in (nI i) 300 := vp_in_nI (by omega) (by decide)
    have h4 : (nI i).toNatClampNeg = i := nI_clamp (by omega)
    rw [← b3.1] at h2
    obtain ⟨c1, c2, c3, c4, c5, c6, c7, c8, c9, c10, c11, c12, c13, c14, c15, c16, c17, c18, c19, c20, c21, c22, c23⟩ := hc.sa hi
    obtain ⟨d1, d2, d3, d4, d5, d6, d7, d8, d9, d10, d11, d12, d13, d14, d15, d16, d17, d18, d19⟩ := hr.sa hi
    by_cases y1 : x2 < 0
    · refine t_X10_ask hS ?_
      simp (disch := omega) only [h1, h2, h3, h4, y1, s3, c1, true_implies, false_implies, implies_true, not_true_eq_false, not_false_eq_true, and_true, true_and, Option.some.injEq, reduceCtorEq, forall_eq', forall_eq]
      refine hK _ _ hS hI.s0 fun Q hQ => t_X11_ask hS ?_
      simp (disch := omega) only [h1, h2, h3, h4, y1, R, true_implies, false_implies, implies_true, not_true_eq_false, not_false_eq_true, and_true, true_and, Option.some.injEq, reduceCtorEq, forall_eq', forall_eq]
      exact hQ _ _ hU
    by_cases y2 : 2 < x2
    · refine t_X10_ask hS ?_
      simp (disch := omega) only [h1, h2, h3, h4, y1, y2, s3, c1, true_implies, false_implies, implies_true, not_true_eq_false, not_false_eq_true, and_true, true_and, Option.some.injEq, reduceCtorEq, forall_eq', forall_eq]
      refine hK _ _ hS hI.s0 fun Q hQ => t_X11_ask hS ?_
      simp (disch := omega) only [h1, h2, h3, h4, y1, y2, R, true_implies, false_implies, implies_true, not_true_eq_false, not_false_eq_true, and_true, true_and, Option.some.injEq, reduceCtorEq, forall_eq', forall_eq]
      exact hQ _ _ hU
    by_cases y3 : x3 < 0
    · refine t_X10_ask hS ?_
      simp (disch := omega) only [h1, h2, h3, h4, y1, y2, y3, s3, c1, true_implies, false_implies, implies_true, not_true_eq_false, not_false_eq_true, and_true, true_and, Option.some.injEq, reduceCtorEq, forall_eq', forall_eq]
      refine hK _ _ hS hI.s0 fun Q hQ => t_X11_ask hS ?_
      simp (disch := omega) only [h1, h2, h3, h4, y1, y2, y3, R, true_implies, false_implies, implies_true, not_true_eq_false, not_false_eq_true, and_true, true_and, Option.some.injEq, reduceCtorEq, forall_eq', forall_eq]
      exact hQ _ _ hU
    by_cases y4 : 999999 < x3
    · refine t_X10_ask hS ?_
      simp (disch := omega) only [h1, h2, h3, h4, y1, y2, y3, y4, s3, c1, true_implies, false_implies, implies_true, not_true_eq_false, not_false_eq_true, and_true, true_and, Option.some.injEq, reduceCtorEq, forall_eq', forall_eq]
      refine hK _ _ hS hI.s0 fun Q hQ => t_X11_ask hS ?_
      simp (disch := omega) only [h1, h2, h3, h4, y1, y2, y3, y4, R, true_implies, false_implies, implies_true, not_true_eq_false, not_false_eq_true, and_true, true_and, Option.some.injEq, reduceCtorEq, forall_eq', forall_eq]
      exact hQ _ _ hU
    by_cases y5 : (x3 - x3 / 1000 * 1000) < (x3 / 1000)
    · refine t_X10_ask hS ?_
      simp (disch := omega) only [h1, h2, h3, h4, y1, y2, y3, y4, y5, s3, c1, true_implies, false_implies, implies_true, not_true_eq_false, not_false_eq_true, and_true, true_and, Option.some.injEq, reduceCtorEq, forall_eq', forall_eq]
      refine hK _ _ hS hI.s0 fun Q hQ => t_X11_ask hS ?_
      simp (disch := omega) only [h1, h2, h3, h4, y1, y2, y3, y4, y5, R, true_implies, false_implies, implies_true, not_true_eq_false, not_false_eq_true, and_true, true_and, Option.some.injEq, reduceCtorEq, forall_eq', forall_eq]
      exact hQ _ _ hU
    by_cases y6 : 60 < ((x3 - x3 / 1000 * 1000) - (x3 / 1000))
    · refine t_X10_ask hS ?_
      simp (disch := omega) only [h1, h2, h3, h4, y1, y2, y3, y4, y5, y6, s3, c1, true_implies, false_implies, implies_true, not_true_eq_false, not_false_eq_true, and_true, true_and, Option.some.injEq, reduceCtorEq, forall_eq', forall_eq]
      refine hK _ _ hS hI.s0 fun Q hQ => t_X11_ask hS ?_
      simp (disch := omega) only [h1, h2, h3, h4, y1, y2, y3, y4, y5, y6, R, true_implies, false_implies, implies_true, not_true_eq_false, not_false_eq_true, and_true, true_and, Option.some.injEq, reduceCtorEq, forall_eq', forall_eq]
      exact hQ _ _ hU
    have badF : (∀ {K : Option Value → ZM → Prop}, K (some (.int 0)) μ → AW E l (d + 298) 0 0 mX10_areFacts 0 (zargs 1 [.int x4]) [] μ K) → (∀ {K : Option Value → ZM → Prop}, K (some (.int 0)) μ → AW E l (d + 298) 0 0 mX11_areFacts 0 (zargs 1 [.int x4]) [] μ K) → AW E l (d + 299) 4 460 mX10_ask 0 [some (.ref 11), some (.int (nI i)), some (.int x2), some (.int x3), some (.int x4), some (.int x5), some (.int x6), none] [] μ K := by
      intro q1 q2
      refine t_X10_ask hS ?_
      simp (disch := omega) only [h1, h2, h3, h4, y1, y2, y3, y4, y5, y6, s3, c1, true_implies, false_implies, implies_true, not_true_eq_false, not_false_eq_true, and_true, true_and, Option.some.injEq, reduceCtorEq, forall_eq', forall_eq]
      refine q1 ⟨_, rfl, hS, ?_⟩
      simp (disch := omega) only [true_implies, false_implies, implies_true, not_true_eq_false, not_false_eq_true, and_true, true_and, Option.some.injEq, reduceCtorEq, forall_eq', forall_eq]
      refine hK _ _ hS hI.s0 fun Q hQ => t_X11_ask hS ?_
      simp (disch := omega) only [h1, h2, y1, y2, y3, y4, y5, y6, R, true_implies, false_implies, implies_true, not_true_eq_false, not_false_eq_true, and_true, true_and, Option.some.injEq, reduceCtorEq, forall_eq', forall_eq]
      refine q2 ⟨_, rfl, hS, ?_⟩
      simp (disch := omega) only [true_implies, false_implies, implies_true, not_true_eq_false, not_false_eq_true, and_true, true_and, Option.some.injEq, reduceCtorEq, forall_eq', forall_eq]
      exact hQ _ _ hU
    by_cases z1 : x4 < 0
    · exact badF (fun k => t_X10_areFacts hS (br_t z1 k)) (fun k => t_X11_areFacts hS (br_t z1 k))
    by_cases z2 : 999999 < x4
    · refine badF (fun k => t_X10_areFacts hS (br_f z1 (br_t z2 k))) (fun k => t_X11_areFacts hS (br_f z1 (br_t ?_ k)))
      rw [i_lt] at z2 ⊢
      rw [show (999999 : Int32).toInt = 999999 from by decide] at z2
      rw [show (119911 : Int32).toInt = 119911 from by decide]
      omega
    obtain ⟨f, hf, rfl⟩ : ∃ f, f ≤ 999999 ∧ x4 = nI f := nI_of2 (M := 999999) (by decide) z1 (Int32.not_lt.mp z2)
    cases okf : okF f with
    | false =>
      refine badF (fun k => c_areFacts hS hf (fun z => absurd (okf.symm.trans z) (by simp)) (fun _ => k)) (fun k => ?_)
      by_cases z3 : f ≤ 119911
      · exact r_areFacts hS z3 (fun z => absurd (okf.symm.trans z) (by simp)) (fun _ => k)
      · refine t_X11_areFacts hS (br_f z1 (br_t ?_ k))
        rw [show (119911 : Int32) = nI 119911 from rfl, nI_ltI (by decide) (by omega)]
        omega
    | true =>
      clear badF
      have hf2 := okF_le okf hf
      have n10 : ¬ (1 : Int32) = 0 := by decide
      -- both ask what comes behind the facts
      have both : ∀ (P : Prop), (AW E l (d + 298) 0 0 mX10_areFacts 0 (zargs 1 [.int (nI f)]) [] μ (fun v m => v = some (.int 1) ∧ μ = m)) ∧ (∀ M, Stat M → AW E l (d + 298) 0 0 mX11_areFacts 0 (zargs 1 [.int (nI f)]) [] M (fun v m => v = some (.int 1) ∧ M = m)) → P → P := fun _ _ p => p
      have cF : AW E l (d + 298) 0 0 mX10_areFacts 0 (zargs 1 [.int (nI f)]) [] μ (fun v m => v = some (.int 1) ∧ μ = m) := c_areFacts hS hf (fun _ => ⟨rfl, rfl⟩) (fun z => absurd (okf.symm.trans z) (by simp))
      have rF : ∀ M, Stat M → AW E l (d + 298) 0 0 mX11_areFacts 0 (zargs 1 [.int (nI f)]) [] M (fun v m => v = some (.int 1) ∧ M = m) := fun M hM => r_areFacts hM hf2 (fun _ => ⟨rfl, rfl⟩) (fun z => absurd (okf.symm.trans z) (by simp))
      clear both
      refine t_X10_ask hS ?_
      simp (disch := omega) only [h1, h2, h3, h4, y1, y2, y3, y4, y5, y6, s3, c1, true_implies, false_implies, implies_true, not_true_eq_false, not_false_eq_true, and_true, true_and, Option.some.injEq, reduceCtorEq, forall_eq', forall_eq]
      refine cF.mono ?_
      rintro v m ⟨rfl, rfl⟩
      refine ⟨_, rfl, hS, ?_⟩
      simp (disch := omega) only [n10, true_implies, false_implies, implies_true, not_true_eq_false, not_false_eq_true, and_true, true_and, Option.some.injEq, reduceCtorEq, forall_eq', forall_eq]
      have rest : ∀ (M : ZM) (Q : Option Value → ZM → Prop), Stat M → (∀ a j, 31 ≤ a → a < 88 → zI M a j = ρ a j) → ((x5 < 1 → Q (some (.int (-1))) M) ∧ (¬ x5 < 1 → (999999 < x5 → Q (some (.int (-1))) M) ∧ (¬ 999999 < x5 → (x6 < 0 → Q (some (.int (-1))) M) ∧ (¬ x6 < 0 → (199999 < x6 → Q (some (.int (-1))) M) ∧ (¬ 199999 < x6 → (ρ 48 i = 0 → (¬ ρ 31 60 = 200 → AW E l (d + 299) 0 0 mX11_ask 179 [some (.ref 31), some (.int (nI i)), some (.int x2), some (.int x3), some (.int (nI f)), some (.int x5), some (.int x6), some (.int (nI (nA ρ))), some (.int (ρ 31 1 / 24 - ρ 55 i / 24)), none] [.int (if x2 ≤ 0 then x3 / 1000 else ρ 31 1 / 24 - ρ 55 i / 24), .int (nI (nA ρ)), .ref 77] (sI (sI (sI M 74 (nA ρ) (nI i)) 75 (nA ρ) x2) 76 (nA ρ) (ρ 31 1 / 24)) Q) ∧ (ρ 31 60 = 200 → Q (some (.int (-3))) M)) ∧ (¬ ρ 48 i = 0 → Q (some (.int (-2))) M)))))) → AW E l (d + 299) 0 0 mX11_ask 0 [some (.ref 31), some (.int (nI i)), some (.int x2), some (.int x3), some (.int (nI f)), some (.int x5), some (.int x6), none, none, none] [] M Q := by
        intro M Q hSM RM hq
        refine t_X11_ask hSM ?_
        simp (disch := omega) only [h1, h2, y1, y2, y3, y4, y5, y6, RM, true_implies, false_implies, implies_true, not_true_eq_false, not_false_eq_true, and_true, true_and, Option.some.injEq, reduceCtorEq, forall_eq', forall_eq]
        refine (rF M hSM).mono ?_
        rintro v m ⟨rfl, rfl⟩
        refine ⟨_, rfl, hSM, ?_⟩
        have b200 := b4.2
        have b4' := b4.1
        by_cases c200 : nA ρ = 200
        · have e200 : nI (nA ρ) = 200 := by rw [c200]; rfl
          simp (disch := omega) only [n10, h3, h4, RM, b4', e200, true_implies, false_implies, implies_true, not_true_eq_false, not_false_eq_true, and_true, true_and, Option.some.injEq, reduceCtorEq, forall_eq', forall_eq] at hq ⊢
          exact hq
        · have e200 : ¬ nI (nA ρ) = 200 := by rw [show (200 : Int32) = nI 200 from rfl, nI_eq (by omega) (by omega)]; exact c200
          have v1 : vp_in (nI (nA ρ)) 200 := vp_in_nI (by omega) (by decide)
          have v2 : (nI (nA ρ)).toNatClampNeg = nA ρ := nI_clamp (by omega)
          by_cases cx : x2 ≤ 0
          all_goals
            simp (disch := omega) only [n10, h3, h4, RM, b4', e200, v1, v2, zI_ne, cx, if_true, if_false, true_implies, false_implies, implies_true, not_true_eq_false, not_false_eq_true, and_true, true_and, Option.some.injEq, reduceCtorEq, forall_eq', forall_eq] at hq ⊢
            exact hq
      by_cases z5 : x5 < 1
      · simp (disch := omega) only [z5, true_implies, false_implies, implies_true, not_true_eq_false, not_false_eq_true, and_true, true_and, Option.some.injEq, reduceCtorEq, forall_eq', forall_eq]
        refine hK _ _ hS hI.s0 fun Q hQ => rest μ Q hS R ?_
        simp (disch := omega) only [z5, true_implies, false_implies, implies_true, not_true_eq_false, not_false_eq_true, and_true, true_and, Option.some.injEq, reduceCtorEq, forall_eq', forall_eq]
        exact hQ _ _ hU
      by_cases z6 : 999999 < x5
      · simp (disch := omega) only [z5, z6, true_implies, false_implies, implies_true, not_true_eq_false, not_false_eq_true, and_true, true_and, Option.some.injEq, reduceCtorEq, forall_eq', forall_eq]
        refine hK _ _ hS hI.s0 fun Q hQ => rest μ Q hS R ?_
        simp (disch := omega) only [z5, z6, true_implies, false_implies, implies_true, not_true_eq_false, not_false_eq_true, and_true, true_and, Option.some.injEq, reduceCtorEq, forall_eq', forall_eq]
        exact hQ _ _ hU
      by_cases z7 : x6 < 0
      · simp (disch := omega) only [z5, z6, z7, true_implies, false_implies, implies_true, not_true_eq_false, not_false_eq_true, and_true, true_and, Option.some.injEq, reduceCtorEq, forall_eq', forall_eq]
        refine hK _ _ hS hI.s0 fun Q hQ => rest μ Q hS R ?_
        simp (disch := omega) only [z5, z6, z7, true_implies, false_implies, implies_true, not_true_eq_false, not_false_eq_true, and_true, true_and, Option.some.injEq, reduceCtorEq, forall_eq', forall_eq]
        exact hQ _ _ hU
      by_cases z8 : 199999 < x6
      · simp (disch := omega) only [z5, z6, z7, z8, true_implies, false_implies, implies_true, not_true_eq_false, not_false_eq_true, and_true, true_and, Option.some.injEq, reduceCtorEq, forall_eq', forall_eq]
        refine hK _ _ hS hI.s0 fun Q hQ => rest μ Q hS R ?_
        simp (disch := omega) only [z5, z6, z7, z8, true_implies, false_implies, implies_true, not_true_eq_false, not_false_eq_true, and_true, true_and, Option.some.injEq, reduceCtorEq, forall_eq', forall_eq]
        exact hQ _ _ hU
      by_cases q : ¬ ρ 48 i = 0
      · simp (disch := omega) only [z5, z6, z7, z8, c4, c16, q, true_implies, false_implies, implies_true, not_true_eq_false, not_false_eq_true, and_true, true_and, Option.some.injEq, reduceCtorEq, forall_eq', forall_eq]
        refine hK _ _ hS hI.s0 fun Q hQ => rest μ Q hS R ?_
        simp (disch := omega) only [z5, z6, z7, z8, q, true_implies, false_implies, implies_true, not_true_eq_false, not_false_eq_true, and_true, true_and, Option.some.injEq, reduceCtorEq, forall_eq', forall_eq]
        exact hQ _ _ hU
      have q : ρ 48 i = 0 := Classical.byContradiction q
      have b200 := b4.2
      have b4' := b4.1
      by_cases c200 : nA ρ = 200
      · have e200 : nI (nA ρ) = 200 := by rw [c200]; rfl
        have e201 : ¬ (200 : Int32) < 200 := by decide
        simp (disch := omega) only [z5, z6, z7, z8, c4, c16, q, s4, b4', e200, e201, true_implies, false_implies, implies_true, not_true_eq_false, not_false_eq_true, and_true, true_and, Option.some.injEq, reduceCtorEq, forall_eq', forall_eq]
        refine hK _ _ hS hI.s0 fun Q hQ => rest μ Q hS R ?_
        simp (disch := omega) only [z5, z6, z7, z8, q, b4', e200, true_implies, false_implies, implies_true, not_true_eq_false, not_false_eq_true, and_true, true_and, Option.some.injEq, reduceCtorEq, forall_eq', forall_eq]
        exact hQ _ _ hU
      have e200 : ¬ nI (nA ρ) = 200 := by rw [show (200 : Int32) = nI 200 from rfl, nI_eq (by omega) (by omega)]; exact c200
      have l200 : nI (nA ρ) < 200 := by rw [show (200 : Int32) = nI 200 from rfl]; exact nI_lt (by omega) (by omega)
      have v1 : vp_in (nI (nA ρ)) 200 := vp_in_nI (by omega) (by decide)
      have v2 : (nI (nA ρ)).toNatClampNeg = nA ρ := nI_clamp (by omega)
      have v3 : nI (nA ρ) + 1 = nI (nA ρ + 1) := nI_1 _
      have v4 : tN (nI (nA ρ + 1)) = nA ρ + 1 := nI_clamp (by omega)
      have v5 : nI (nA ρ + 1) - 1 = nI (nA ρ) := nI_pred _
      have lr := hr.l d2
      have b60 := b2.2
      have b20 := b1.2
      obtain ⟨m, hm⟩ : ∃ m, m = lm ρ (sl ρ i) := ⟨_, rfl⟩
      have lr1 := lr.1
      have lr2 := lr.2.1
      rw [← hm] at lr1 lr2
      have sm : smo ρ i = m := by rw [hm]; rfl
      rw [sm] at c6
      obtain ⟨m1, m2, m3, m4, m5, m6, m7, m8, m9, m10, m11, m12⟩ := hc.m lr2
      have mk := m4.1
      obtain ⟨lo, hlo⟩ : ∃ z, z = if x2 = 0 then x3 / 1000 else ρ 31 1 / 24 - ρ 55 i / 24 := ⟨_, rfl⟩
      obtain ⟨hh, hhi⟩ : ∃ z, z = if x2 = 0 then x3 - x3 / 1000 * 1000 else ρ 31 1 / 24 - ρ 55 i / 24 := ⟨_, rfl⟩
      obtain ⟨sw, hsw⟩ : ∃ z, z = if x5 = ρ 51 i then (0 : Int32) else 1 := ⟨_, rfl⟩
      obtain ⟨li, hli⟩ : ∃ z, z = if abF (x6 - ρ 33 m) ≤ ρ 33 m / 50 then (0 : Int32) else 1 := ⟨_, rfl⟩
      simp (disch := first | omega | (simp only [zN_sI, zN_sJ, zN_sA, zN_sNew]; done) | (simp only [zN_sI, zN_sJ, zN_sA, zN_sNew]; omega)) only [z5, z6, z7, z8, c4, c16, q, s4, s6, b4', l200, v1, v2, v3, v5, zA_sI, zK_sI, zN_sI, zL_sI, zK_sA, zN_sA, zL_sA, zI_sA, zN_sNew, zI_ne, zI_nk, zI_eq, zA_ne, zA_nk, zA_eq, zI_nn, zA_nn, zK_nn, zL_nn, zI_ne', zA_ne', zK_ne', zL_ne', true_implies, false_implies, implies_true, not_true_eq_false, not_false_eq_true, and_true, true_and, Option.some.injEq, reduceCtorEq, forall_eq', forall_eq]
      refine c_ainit hS.wNew (zK_ne' rfl) (by simp (disch := first | omega | (simp only [zN_sI, zN_sJ, zN_sA, zN_sNew]; done) | (simp only [zN_sI, zN_sJ, zN_sA, zN_sNew]; omega)) only [zA_sI, zK_sI, zN_sI, zL_sI, zK_sA, zN_sA, zL_sA, zI_sA, zN_sNew, zI_ne, zI_nk, zI_eq, zA_ne, zA_nk, zA_eq, zI_nn, zA_nn, zK_nn, zL_nn, zI_ne', zA_ne', zK_ne', zL_ne', c4]) (m := maF μ m) (by simp (disch := first | omega | (simp only [zN_sI, zN_sJ, zN_sA, zN_sNew]; done) | (simp only [zN_sI, zN_sJ, zN_sA, zN_sNew]; omega)) only [zA_sI, zK_sI, zN_sI, zL_sI, zK_sA, zN_sA, zL_sA, zI_sA, zN_sNew, zI_ne, zI_nk, zI_eq, zA_ne, zA_nk, zA_eq, zI_nn, zA_nn, zK_nn, zL_nn, zI_ne', zA_ne', zK_ne', zL_ne', c6]) (by simp (disch := first | omega | (simp only [zN_sI, zN_sJ, zN_sA, zN_sNew]; done) | (simp only [zN_sI, zN_sJ, zN_sA, zN_sNew]; omega)) only [zA_sI, zK_sI, zN_sI, zL_sI, zK_sA, zN_sA, zL_sA, zI_sA, zN_sNew, zI_ne, zI_nk, zI_eq, zA_ne, zA_nk, zA_eq, zI_nn, zA_nn, zK_nn, zL_nn, zI_ne', zA_ne', zK_ne', zL_ne', mk]) (w := ρ 33 m) (by simp (disch := first | omega | (simp only [zN_sI, zN_sJ, zN_sA, zN_sNew]; done) | (simp only [zN_sI, zN_sJ, zN_sA, zN_sNew]; omega)) only [zA_sI, zK_sI, zN_sI, zL_sI, zK_sA, zN_sA, zL_sA, zI_sA, zN_sNew, zI_ne, zI_nk, zI_eq, zA_ne, zA_nk, zA_eq, zI_nn, zA_nn, zK_nn, zL_nn, zI_ne', zA_ne', zK_ne', zL_ne', m7]) (sh := ρ 55 i) (by simp (disch := first | omega | (simp only [zN_sI, zN_sJ, zN_sA, zN_sNew]; done) | (simp only [zN_sI, zN_sJ, zN_sA, zN_sNew]; omega)) only [zA_sI, zK_sI, zN_sI, zL_sI, zK_sA, zN_sA, zL_sA, zI_sA, zN_sNew, zI_ne, zI_nk, zI_eq, zA_ne, zA_nk, zA_eq, zI_nn, zA_nn, zK_nn, zL_nn, zI_ne', zA_ne', zK_ne', zL_ne', c13]) (num := ρ 51 i) (by simp (disch := first | omega | (simp only [zN_sI, zN_sJ, zN_sA, zN_sNew]; done) | (simp only [zN_sI, zN_sJ, zN_sA, zN_sNew]; omega)) only [zA_sI, zK_sI, zN_sI, zL_sI, zK_sA, zN_sA, zL_sA, zI_sA, zN_sNew, zI_ne, zI_nk, zI_eq, zA_ne, zA_nk, zA_eq, zI_nn, zA_nn, zK_nn, zL_nn, zI_ne', zA_ne', zK_ne', zL_ne', c8]) hA ?_
      rw [← hlo, ← hhi, ← hsw, ← hli]
      have hSa : Stat (aiM (sNew μ 0 0) (zN μ) (saF μ i) x2 (ρ 31 1 / 24) lo hh (nI f) sw li) := by
        unfold aiM
        repeat' (with_reducible first | exact hS | exact hA | refine Stat.wI ?_ | refine Stat.wNew ?_ | refine Stat.wAr ?_ (by decide) | refine Stat.wAhi ?_ ?_)
      refine ⟨rfl, hSa, ?_, ?_⟩
      · unfold aiM
        simp (disch := first | omega | (simp only [zN_sI, zN_sJ, zN_sA, zN_sNew]; done) | (simp only [zN_sI, zN_sJ, zN_sA, zN_sNew]; omega)) only [zA_sI, zK_sI, zN_sI, zL_sI, zK_sA, zN_sA, zL_sA, zI_sA, zN_sNew, zI_ne, zI_nk, zI_eq, zA_ne, zA_nk, zA_eq, zI_nn, zA_nn, zK_nn, zL_nn, zI_ne', zA_ne', zK_ne', zL_ne']
      have rda : zI (aiM (sNew μ 0 0) (zN μ) (saF μ i) x2 (ρ 31 1 / 24) lo hh (nI f) sw li) 11 15 = nI (nA ρ) := by
        unfold aiM
        simp (disch := first | omega | (simp only [zN_sI, zN_sJ, zN_sA, zN_sNew]; done) | (simp only [zN_sI, zN_sJ, zN_sA, zN_sNew]; omega)) only [zA_sI, zK_sI, zN_sI, zL_sI, zK_sA, zN_sA, zL_sA, zI_sA, zN_sNew, zI_ne, zI_nk, zI_eq, zA_ne, zA_nk, zA_eq, zI_nn, zA_nn, zK_nn, zL_nn, zI_ne', zA_ne', zK_ne', zL_ne', s4, b4']
      have rdk : zK (aiM (sNew μ 0 0) (zN μ) (saF μ i) x2 (ρ 31 1 / 24) lo hh (nI f) sw li) (saF μ i) = 7 := by
        unfold aiM
        simp (disch := first | omega | (simp only [zN_sI, zN_sJ, zN_sA, zN_sNew]; done) | (simp only [zN_sI, zN_sJ, zN_sA, zN_sNew]; omega)) only [zA_sI, zK_sI, zN_sI, zL_sI, zK_sA, zN_sA, zL_sA, zI_sA, zN_sNew, zI_ne, zI_nk, zI_eq, zA_ne, zA_nk, zA_eq, zI_nn, zA_nn, zK_nn, zL_nn, zI_ne', zA_ne', zK_ne', zL_ne', c4]
      simp (disch := first | omega | (simp only [zN_sI, zN_sJ, zN_sA, zN_sNew]; done) | (simp only [zN_sI, zN_sJ, zN_sA, zN_sNew]; omega)) only [zA_sI, zK_sI, zN_sI, zL_sI, zK_sA, zN_sA, zL_sA, zI_sA, zN_sNew, zI_ne, zI_nk, zI_eq, zA_ne, zA_nk, zA_eq, zI_nn, zA_nn, zK_nn, zL_nn, zI_ne', zA_ne', zK_ne', zL_ne', rda, rdk, v3, v5, true_implies, false_implies, implies_true, not_true_eq_false, not_false_eq_true, and_true, true_and, Option.some.injEq, reduceCtorEq, forall_eq', forall_eq]
      refine nmI (P := fun M => K (some (.int (nI (nA ρ)))) M) fun M1 e1 => ?_
      unfold aiM at e1
      have hS1 : Stat M1 := by
        rw [e1]
        repeat' (with_reducible first | exact hS | exact hA | refine Stat.wI ?_ | refine Stat.wNew ?_ | refine Stat.wAr ?_ (by decide) | refine Stat.wAhi ?_ ?_)
      have R1 : ∀ a j, 31 ≤ a → a < 88 → zI M1 a j = ρ a j := fun a j h1 h2 => by rw [e1]; simp (disch := first | omega | (simp only [zN_sI, zN_sJ, zN_sA, zN_sNew]; done) | (simp only [zN_sI, zN_sJ, zN_sA, zN_sNew]; omega)) only [zA_sI, zK_sI, zN_sI, zL_sI, zK_sA, zN_sA, zL_sA, zI_sA, zN_sNew, zI_ne, zI_nk, zI_eq, zA_ne, zA_nk, zA_eq, zI_nn, zA_nn, zK_nn, zL_nn, zI_ne', zA_ne', zK_ne', zL_ne', R]
      refine hK _ _ hS1 (by rw [e1]; repeat' (with_reducible first | exact hI.s0 | refine S0.wi ?_ (by omega) | refine S0.wa ?_ | refine S0.wn ?_ (by first | omega | (simp only [zN_sI, zN_sA, zN_sNew]; omega)))) fun Q hQ => rest M1 Q hS1 R1 ?_
      simp (disch := omega) only [z5, z6, z7, z8, q, b4', e200, true_implies, false_implies, implies_true, not_true_eq_false, not_false_eq_true, and_true, true_and, Option.some.injEq, reduceCtorEq, forall_eq', forall_eq]
      refine r_ask179 (by repeat' (with_reducible first | exact hS1 | exact hA | refine Stat.wI ?_ | refine Stat.wNew ?_ | refine Stat.wAr ?_ (by decide) | refine Stat.wAhi ?_ ?_)) (by omega) (by omega) (lt := sl ρ i) (by simp (disch := first | omega | (simp only [zN_sI, zN_sJ, zN_sA, zN_sNew]; done) | (simp only [zN_sI, zN_sJ, zN_sA, zN_sNew]; omega)) only [zA_sI, zK_sI, zN_sI, zL_sI, zK_sA, zN_sA, zL_sA, zI_sA, zN_sNew, zI_ne, zI_nk, zI_eq, zA_ne, zA_nk, zA_eq, zI_nn, zA_nn, zK_nn, zL_nn, zI_ne', zA_ne', zK_ne', zL_ne', R1]; exact d1) (by omega) (m := m) (by simp (disch := first | omega | (simp only [zN_sI, zN_sJ, zN_sA, zN_sNew]; done) | (simp only [zN_sI, zN_sJ, zN_sA, zN_sNew]; omega)) only [zA_sI, zK_sI, zN_sI, zL_sI, zK_sA, zN_sA, zL_sA, zI_sA, zN_sNew, zI_ne, zI_nk, zI_eq, zA_ne, zA_nk, zA_eq, zI_nn, zA_nn, zK_nn, zL_nn, zI_ne', zA_ne', zK_ne', zL_ne', R1]; exact lr1) (by omega) (w := ρ 33 m) (by simp (disch := first | omega | (simp only [zN_sI, zN_sJ, zN_sA, zN_sNew]; done) | (simp only [zN_sI, zN_sJ, zN_sA, zN_sNew]; omega)) only [zA_sI, zK_sI, zN_sI, zL_sI, zK_sA, zN_sA, zL_sA, zI_sA, zN_sNew, zI_ne, zI_nk, zI_eq, zA_ne, zA_nk, zA_eq, zI_nn, zA_nn, zK_nn, zL_nn, zI_ne', zA_ne', zK_ne', zL_ne', R1]) (num := ρ 51 i) (by simp (disch := first | omega | (simp only [zN_sI, zN_sJ, zN_sA, zN_sNew]; done) | (simp only [zN_sI, zN_sJ, zN_sA, zN_sNew]; omega)) only [zA_sI, zK_sI, zN_sI, zL_sI, zK_sA, zN_sA, zL_sA, zI_sA, zN_sNew, zI_ne, zI_nk, zI_eq, zA_ne, zA_nk, zA_eq, zI_nn, zA_nn, zK_nn, zL_nn, zI_ne', zA_ne', zK_ne', zL_ne', R1]) ?_
      have x20 : (x2 ≤ 0) = (x2 = 0) := by
        apply propext
        rw [i_lt] at y1
        rw [i_le, i_eq]
        have e0 : (0 : Int32).toInt = 0 := by decide
        omega
      simp only [x20]
      rw [← hlo, ← hhi, ← hsw, ← hli]
      simp (disch := first | omega | (simp only [zN_sI, zN_sJ, zN_sA, zN_sNew]; done) | (simp only [zN_sI, zN_sJ, zN_sA, zN_sNew]; omega)) only [zA_sI, zK_sI, zN_sI, zL_sI, zK_sA, zN_sA, zL_sA, zI_sA, zN_sNew, zI_ne, zI_nk, zI_eq, zA_ne, zA_nk, zA_eq, zI_nn, zA_nn, zK_nn, zL_nn, zI_ne', zA_ne', zK_ne', zL_ne', R1, b4', v3]
      refine hQ g _ ?_
      refine nmI (P := IV g L X (t + 1)) fun M2 hM => ?_
      unfold arM at hM
      have hS2 : Stat M2 := by
        rw [hM]
        repeat' (with_reducible first | exact hS1 | exact hA | refine Stat.wI ?_ | refine Stat.wNew ?_ | refine Stat.wAr ?_ (by decide) | refine Stat.wAhi ?_ ?_)
      rw [e1] at hM
      have swb : bit sw := by rw [hsw]; unfold bit; split; exact Or.inl rfl; exact Or.inr rfl
      have lib : bit li := by rw [hli]; unfold bit; split; exact Or.inl rfl; exact Or.inr rfl
      obtain ⟨f1, f2, f3⟩ := hr.f
      obtain ⟨f4, f5⟩ := f3 (nA ρ) (Nat.le_refl _) (by omega)
      have k7 : tN (nI i) = i := nI_clamp (by omega)
      have tf : tN (nI f) = f := nI_clamp (by omega)
      have qM : nM (rf M2) = nM ρ := by unfold nM; simp (disch := first | omega | (simp only [zN_sI, zN_sJ, zN_sA, zN_sNew]; done) | (simp only [zN_sI, zN_sJ, zN_sA, zN_sNew]; omega)) only [rf_z, hM, zA_sI, zK_sI, zN_sI, zL_sI, zK_sA, zN_sA, zL_sA, zI_sA, zN_sNew, zI_ne, zI_nk, zI_eq, zA_ne, zA_nk, zA_eq, zI_nn, zA_nn, zK_nn, zL_nn, zI_ne', zA_ne', zK_ne', zL_ne', R]
      have qL : nL (rf M2) = nL ρ := by unfold nL; simp (disch := first | omega | (simp only [zN_sI, zN_sJ, zN_sA, zN_sNew]; done) | (simp only [zN_sI, zN_sJ, zN_sA, zN_sNew]; omega)) only [rf_z, hM, zA_sI, zK_sI, zN_sI, zL_sI, zK_sA, zN_sA, zL_sA, zI_sA, zN_sNew, zI_ne, zI_nk, zI_eq, zA_ne, zA_nk, zA_eq, zI_nn, zA_nn, zK_nn, zL_nn, zI_ne', zA_ne', zK_ne', zL_ne', R]
      have qS : nS (rf M2) = nS ρ := by unfold nS; simp (disch := first | omega | (simp only [zN_sI, zN_sJ, zN_sA, zN_sNew]; done) | (simp only [zN_sI, zN_sJ, zN_sA, zN_sNew]; omega)) only [rf_z, hM, zA_sI, zK_sI, zN_sI, zL_sI, zK_sA, zN_sA, zL_sA, zI_sA, zN_sNew, zI_ne, zI_nk, zI_eq, zA_ne, zA_nk, zA_eq, zI_nn, zA_nn, zK_nn, zL_nn, zI_ne', zA_ne', zK_ne', zL_ne', R]
      have qA : nA (rf M2) = nA ρ + 1 := by unfold nA; simp (disch := first | omega | (simp only [zN_sI, zN_sJ, zN_sA, zN_sNew]; done) | (simp only [zN_sI, zN_sJ, zN_sA, zN_sNew]; omega)) only [rf_z, hM, zA_sI, zK_sI, zN_sI, zL_sI, zK_sA, zN_sA, zL_sA, zI_sA, zN_sNew, zI_ne, zI_nk, zI_eq, zA_ne, zA_nk, zA_eq, zI_nn, zA_nn, zK_nn, zL_nn, zI_ne', zA_ne', zK_ne', zL_ne', R]; exact v4
      have qa : aaF M2 (nA ρ) = zN μ := by unfold aaF; simp (disch := first | omega | (simp only [zN_sI, zN_sJ, zN_sA, zN_sNew]; done) | (simp only [zN_sI, zN_sJ, zN_sA, zN_sNew]; omega)) only [rf_z, hM, zA_sI, zK_sI, zN_sI, zL_sI, zK_sA, zN_sA, zL_sA, zI_sA, zN_sNew, zI_ne, zI_nk, zI_eq, zA_ne, zA_nk, zA_eq, zI_nn, zA_nn, zK_nn, zL_nn, zI_ne', zA_ne', zK_ne', zL_ne', R, Option.getD_some]
      have qa' : ∀ j, j < nA ρ → aaF M2 j = aaF μ j := fun j hj => by unfold aaF; simp (disch := first | omega | (simp only [zN_sI, zN_sJ, zN_sA, zN_sNew]; done) | (simp only [zN_sI, zN_sJ, zN_sA, zN_sNew]; omega)) only [rf_z, hM, zA_sI, zK_sI, zN_sI, zL_sI, zK_sA, zN_sA, zL_sA, zI_sA, zN_sNew, zI_ne, zI_nk, zI_eq, zA_ne, zA_nk, zA_eq, zI_nn, zA_nn, zK_nn, zL_nn, zI_ne', zA_ne', zK_ne', zL_ne', R]
      have qs : ∀ j, saF M2 j = saF μ j := fun j => by unfold saF; simp (disch := first | omega | (simp only [zN_sI, zN_sJ, zN_sA, zN_sNew]; done) | (simp only [zN_sI, zN_sJ, zN_sA, zN_sNew]; omega)) only [rf_z, hM, zA_sI, zK_sI, zN_sI, zL_sI, zK_sA, zN_sA, zL_sA, zI_sA, zN_sNew, zI_ne, zI_nk, zI_eq, zA_ne, zA_nk, zA_eq, zI_nn, zA_nn, zK_nn, zL_nn, zI_ne', zA_ne', zK_ne', zL_ne', R]
      have ql : ∀ j, laF M2 j = laF μ j := fun j => by unfold laF; simp (disch := first | omega | (simp only [zN_sI, zN_sJ, zN_sA, zN_sNew]; done) | (simp only [zN_sI, zN_sJ, zN_sA, zN_sNew]; omega)) only [rf_z, hM, zA_sI, zK_sI, zN_sI, zL_sI, zK_sA, zN_sA, zL_sA, zI_sA, zN_sNew, zI_ne, zI_nk, zI_eq, zA_ne, zA_nk, zA_eq, zI_nn, zA_nn, zK_nn, zL_nn, zI_ne', zA_ne', zK_ne', zL_ne', R]
      have qm : ∀ j, maF M2 j = maF μ j := fun j => by unfold maF; simp (disch := first | omega | (simp only [zN_sI, zN_sJ, zN_sA, zN_sNew]; done) | (simp only [zN_sI, zN_sJ, zN_sA, zN_sNew]; omega)) only [rf_z, hM, zA_sI, zK_sI, zN_sI, zL_sI, zK_sA, zN_sA, zL_sA, zI_sA, zN_sNew, zI_ne, zI_nk, zI_eq, zA_ne, zA_nk, zA_eq, zI_nn, zA_nn, zK_nn, zL_nn, zI_ne', zA_ne', zK_ne', zL_ne', R]
      have r32 : ∀ b j, (32 ≤ b ∧ b < 48) ∨ (49 ≤ b ∧ b < 74) ∨ (b = 82 ∨ b = 83) ∨ (85 ≤ b ∧ b < 88) → rf M2 b j = ρ b j := fun b j hb => by simp (disch := first | omega | (simp only [zN_sI, zN_sJ, zN_sA, zN_sNew]; done) | (simp only [zN_sI, zN_sJ, zN_sA, zN_sNew]; omega)) only [rf_z, hM, zA_sI, zK_sI, zN_sI, zL_sI, zK_sA, zN_sA, zL_sA, zI_sA, zN_sNew, zI_ne, zI_nk, zI_eq, zA_ne, zA_nk, zA_eq, zI_nn, zA_nn, zK_nn, zL_nn, zI_ne', zA_ne', zK_ne', zL_ne', R]
      have r48 : ∀ j, j ≠ i → rf M2 48 j = ρ 48 j := fun j hj => by simp (disch := first | omega | (simp only [zN_sI, zN_sJ, zN_sA, zN_sNew]; done) | (simp only [zN_sI, zN_sJ, zN_sA, zN_sNew]; omega)) only [rf_z, hM, zA_sI, zK_sI, zN_sI, zL_sI, zK_sA, zN_sA, zL_sA, zI_sA, zN_sNew, zI_ne, zI_nk, zI_eq, zA_ne, zA_nk, zA_eq, zI_nn, zA_nn, zK_nn, zL_nn, zI_ne', zA_ne', zK_ne', zL_ne', R]
      have r48' : rf M2 48 i = 1 := by simp (disch := first | omega | (simp only [zN_sI, zN_sJ, zN_sA, zN_sNew]; done) | (simp only [zN_sI, zN_sJ, zN_sA, zN_sNew]; omega)) only [rf_z, hM, zA_sI, zK_sI, zN_sI, zL_sI, zK_sA, zN_sA, zL_sA, zI_sA, zN_sNew, zI_ne, zI_nk, zI_eq, zA_ne, zA_nk, zA_eq, zI_nn, zA_nn, zK_nn, zL_nn, zI_ne', zA_ne', zK_ne', zL_ne', R]
      have r74 : ∀ j, j ≠ nA ρ → rf M2 74 j = ρ 74 j := fun j hj => by simp (disch := first | omega | (simp only [zN_sI, zN_sJ, zN_sA, zN_sNew]; done) | (simp only [zN_sI, zN_sJ, zN_sA, zN_sNew]; omega)) only [rf_z, hM, zA_sI, zK_sI, zN_sI, zL_sI, zK_sA, zN_sA, zL_sA, zI_sA, zN_sNew, zI_ne, zI_nk, zI_eq, zA_ne, zA_nk, zA_eq, zI_nn, zA_nn, zK_nn, zL_nn, zI_ne', zA_ne', zK_ne', zL_ne', R]
      have r74' : rf M2 74 (nA ρ) = nI i := by simp (disch := first | omega | (simp only [zN_sI, zN_sJ, zN_sA, zN_sNew]; done) | (simp only [zN_sI, zN_sJ, zN_sA, zN_sNew]; omega)) only [rf_z, hM, zA_sI, zK_sI, zN_sI, zL_sI, zK_sA, zN_sA, zL_sA, zI_sA, zN_sNew, zI_ne, zI_nk, zI_eq, zA_ne, zA_nk, zA_eq, zI_nn, zA_nn, zK_nn, zL_nn, zI_ne', zA_ne', zK_ne', zL_ne', R]
      have esl : sl (rf M2) i = sl ρ i := by unfold sl; rw [r32 _ _ (by decide)]
      have elm : ∀ j, lm (rf M2) j = lm ρ j := fun j => by unfold lm; rw [r32 _ _ (by decide)]
      have easj : ∀ j, j ≠ nA ρ → as_ (rf M2) j = as_ ρ j := fun j hj => by unfold as_; rw [r74 j hj]
      have easn : as_ (rf M2) (nA ρ) = i := by unfold as_; rw [r74']; exact k7
      have csM : CRs M2 (rf M2) := by
        unfold CRs
        simp (disch := first | omega | (simp only [zN_sI, zN_sJ, zN_sA, zN_sNew]; done) | (simp only [zN_sI, zN_sJ, zN_sA, zN_sNew]; omega)) only [rf_z, hM, zA_sI, zK_sI, zN_sI, zL_sI, zK_sA, zN_sA, zL_sA, zI_sA, zN_sNew, zI_ne, zI_nk, zI_eq, zA_ne, zA_nk, zA_eq, zI_nn, zA_nn, zK_nn, zL_nn, zI_ne', zA_ne', zK_ne', zL_ne', R, s1, s2, s3, s4, s5, s6, s7, s8, s9, s10, s11, true_implies, false_implies, implies_true, not_true_eq_false, not_false_eq_true, and_true, true_and, Option.some.injEq, reduceCtorEq, forall_eq', forall_eq]
      have cnM : CRn M2 (rf M2) := by
        refine hc.n.cg ?_ ?_ (fun j => ?_) (fun j => ?_) (fun j => r32 _ _ (by decide)) (fun j => r32 _ _ (by decide))
        · unfold nN
          simp (disch := first | omega | (simp only [zN_sI, zN_sJ, zN_sA, zN_sNew]; done) | (simp only [zN_sI, zN_sJ, zN_sA, zN_sNew]; omega)) only [rf_z, hM, zA_sI, zK_sI, zN_sI, zL_sI, zK_sA, zN_sA, zL_sA, zI_sA, zN_sNew, zI_ne, zI_nk, zI_eq, zA_ne, zA_nk, zA_eq, zI_nn, zA_nn, zK_nn, zL_nn, zI_ne', zA_ne', zK_ne', zL_ne', R]
        · unfold tL
          simp (disch := first | omega | (simp only [zN_sI, zN_sJ, zN_sA, zN_sNew]; done) | (simp only [zN_sI, zN_sJ, zN_sA, zN_sNew]; omega)) only [rf_z, hM, zA_sI, zK_sI, zN_sI, zL_sI, zK_sA, zN_sA, zL_sA, zI_sA, zN_sNew, zI_ne, zI_nk, zI_eq, zA_ne, zA_nk, zA_eq, zI_nn, zA_nn, zK_nn, zL_nn, zI_ne', zA_ne', zK_ne', zL_ne', R]
        all_goals simp (disch := first | omega | (simp only [zN_sI, zN_sJ, zN_sA, zN_sNew]; done) | (simp only [zN_sI, zN_sJ, zN_sA, zN_sNew]; omega)) only [rf_z, hM, zA_sI, zK_sI, zN_sI, zL_sI, zK_sA, zN_sA, zL_sA, zI_sA, zN_sNew, zI_ne, zI_nk, zI_eq, zA_ne, zA_nk, zA_eq, zI_nn, zA_nn, zK_nn, zL_nn, zI_ne', zA_ne', zK_ne', zL_ne', R]
      have hx : EqX μ M2 (W3 μ ρ (· = i) (fun _ => False) (fun _ => False) (fun _ => False)) (WA3 μ ρ (· = i)) := by
        rw [hM]
        repeat' (with_reducible first | exact EqX.rfl | refine EqX.wn ?_ | refine EqX.wi ?_ (by first | exact W3.new | exact W3.n11 (by decide) (by decide) | exact W3.n31 (by decide) | exact W3.na (by decide) (by decide) (Nat.le_refl _) | exact W3.o (W0.s (Ps := (· = i)) rfl hi) | exact W3.o (W0.rs (Ps := (· = i)) (by decide) (by decide) (by decide) rfl)) | refine EqX.wa ?_ (by first | exact WA3.new | exact WA3.a (Nat.le_refl _)))
      -- bounds
      obtain ⟨u1, u2⟩ := dv24 d7
      obtain ⟨w1, w2⟩ := dv24 b8
      have hle : tN (ρ 55 i) ≤ tN (ρ 31 1) := by
        have a1 := (nn_of d7.1).2.1
        have a2 := (nn_of b8.1).2.1
        have := d7.2
        omega
      have hmx : tN (ρ 31 1) ≤ 71999 := by
        have a2 := (nn_of b8.1).2.1
        have := b8.2
        omega
      have rg3 : rng x3 0 999999 := rng_x 999999 rfl (by decide) y3 y4
      obtain ⟨g1, g2, -, g4⟩ := dvn rg3 1000 (y := 1000) rfl (by decide) (by decide)
      have g3 : (tN x3 : Int) ≤ 999999 := (rng_of rg3 (by decide)).2.1
      rw [g2, g1, nI_ltI (by omega) (by omega)] at y5
      rw [g2, g1, pk_sub (by omega), show (60 : Int32) = nI 60 from rfl, nI_ltI (by decide) (by omega)] at y6
      have lohi : ∃ a b, lo = nI a ∧ hh = nI b ∧ a ≤ b ∧ b ≤ a + 60 ∧ a ≤ 2999 := by
        by_cases cx : x2 = 0
        · rw [if_pos cx] at hlo hhi
          exact ⟨_, _, hlo.trans g1, hhi.trans g2, by omega, by omega, by omega⟩
        · rw [if_neg cx, u1, w1, pk_sub (by omega)] at hlo hhi
          exact ⟨_, _, hlo, hhi, by omega, by omega, by omega⟩
      obtain ⟨la, ha, la1, ha1, lh1, lh2, lh3⟩ := lohi
      refine IV.fr3 (Ps := (· = i)) (Pa := (fun _ => False)) (Pl := (fun _ => False)) (Pm := (fun _ => False)) hI hS2 ?_ (fun _ => by rw [hM]; simp (disch := first | omega | (simp only [zN_sI, zN_sJ, zN_sA, zN_sNew]; done) | (simp only [zN_sI, zN_sJ, zN_sA, zN_sNew]; omega)) only [zJ_sI, zJ_sA, zJ_nn]) hρ rfl (Nat.le_succ t) (by omega) (by omega) (by omega) (by omega) ?_ (fun j hj p => (p (by omega)).elim) (fun j hj p => (p (by omega)).elim) (fun j hj p => ?_) (fun j hj p => ?_) ?_ ?_ ?_ ?_ ?_ ?_ (fun j j1 j2 => by omega) (fun j j1 j2 => by omega)
      · exact hx
      · unfold RIs nM nL nS nA nT nN tL
        simp (disch := first | omega | (simp only [zN_sI, zN_sJ, zN_sA, zN_sNew]; done) | (simp only [zN_sI, zN_sJ, zN_sA, zN_sNew]; omega)) only [rf_z, hM, zA_sI, zK_sI, zN_sI, zL_sI, zK_sA, zN_sA, zL_sA, zI_sA, zN_sNew, zI_ne, zI_nk, zI_eq, zA_ne, zA_nk, zA_eq, zI_nn, zA_nn, zK_nn, zL_nn, zI_ne', zA_ne', zK_ne', zL_ne', R, v4]
        exact ⟨b1, b2, b3, ⟨rfl, by omega⟩, b5, b6, b7, b8⟩
      · have hj' : j = i := p (by omega)
        subst hj'
        constructor
        · unfold RIsa
          rw [esl, qL, r48', qA]
          rw [r32 49 _ (by decide), r32 50 _ (by decide), r32 54 _ (by decide), r32 52 _ (by decide), r32 53 _ (by decide), r32 55 _ (by decide), r32 56 _ (by decide), r32 57 _ (by decide), r32 60 _ (by decide), r32 58 _ (by decide), r32 59 _ (by decide), r32 61 _ (by decide), r32 62 _ (by decide), r32 63 _ (by decide), r32 64 _ (by decide)]
          have e31 : rf M2 31 1 = ρ 31 1 := by simp (disch := first | omega | (simp only [zN_sI, zN_sJ, zN_sA, zN_sNew]; done) | (simp only [zN_sI, zN_sJ, zN_sA, zN_sNew]; omega)) only [rf_z, hM, zA_sI, zK_sI, zN_sI, zL_sI, zK_sA, zN_sA, zL_sA, zI_sA, zN_sNew, zI_ne, zI_nk, zI_eq, zA_ne, zA_nk, zA_eq, zI_nn, zA_nn, zK_nn, zL_nn, zI_ne', zA_ne', zK_ne', zL_ne', R]
          rw [e31]
          exact ⟨d1, d2, d3, d4, d5, d6, d7, d8, d9, d10, ⟨by decide, by decide⟩, d12, ⟨fun z => absurd z (by decide), fun z => absurd (d13.mpr z) (by rw [q]; decide)⟩, fun z => absurd (d14 z) (by rw [q]; decide), d15, fun z => absurd z (by decide), d17, d18, d19⟩
        · unfold CRsa smo
          rw [qs, esl, elm, ql, qm, r48']
          rw [r32 51 _ (by decide), r32 50 _ (by decide), r32 54 _ (by decide), r32 52 _ (by decide), r32 53 _ (by decide), r32 55 _ (by decide), r32 56 _ (by decide), r32 57 _ (by decide), r32 58 _ (by decide), r32 59 _ (by decide), r32 62 _ (by decide), r32 63 _ (by decide), r32 64 _ (by decide), r32 60 _ (by decide), r32 61 _ (by decide)]
          rw [← hm]
          simp (disch := first | omega | (simp only [zN_sI, zN_sJ, zN_sA, zN_sNew]; done) | (simp only [zN_sI, zN_sJ, zN_sA, zN_sNew]; omega)) only [rf_z, hM, zA_sI, zK_sI, zN_sI, zL_sI, zK_sA, zN_sA, zL_sA, zI_sA, zN_sNew, zI_ne, zI_nk, zI_eq, zA_ne, zA_nk, zA_eq, zI_nn, zA_nn, zK_nn, zL_nn, zI_ne', zA_ne', zK_ne', zL_ne', R, true_implies, false_implies, implies_true, not_true_eq_false, not_false_eq_true, and_true, true_and, Option.some.injEq, reduceCtorEq, forall_eq', forall_eq]
          exact ⟨c1, c2, by omega, c4, c5, c6, c7, c8, c9, c10, c11, c12, c13, c14, c15, c17, c18, c19, c20, c21, c22, fun z => absurd z (by decide)⟩
      · have hj' : j = nA ρ := Classical.byContradiction fun z => p (by omega)
        subst hj'
        have dgs := okF_iff.mp okf
        have rgf : rng (nI f) 0 999999 := by unfold rng; rw [nI_toInt (by omega)]; omega
        constructor
        · unfold RIa
          rw [easn, r74', qS, r32 82 _ (by decide), f4]
          simp (disch := first | omega | (simp only [zN_sI, zN_sJ, zN_sA, zN_sNew]; done) | (simp only [zN_sI, zN_sJ, zN_sA, zN_sNew]; omega)) only [rf_z, hM, zA_sI, zK_sI, zN_sI, zL_sI, zK_sA, zN_sA, zL_sA, zI_sA, zN_sNew, zI_ne, zI_nk, zI_eq, zA_ne, zA_nk, zA_eq, zI_nn, zA_nn, zK_nn, zL_nn, zI_ne', zA_ne', zK_ne', zL_ne', R]
          rw [la1, ha1]
          unfold dg
          rw [tf]
          refine ⟨trivial, hi, rng_x 2 rfl (by decide) y1 y2, ⟨?_, Int.le_refl _⟩, rng_nI (by omega) (by omega), ?_, rng_nI (by omega) (by omega), ⟨nI_le dgs.1 (by omega), nI_le (b := 1) dgs.2.1 (by decide), nI_le dgs.2.2.1 (by omega), ?_, ?_⟩, swb, lib, ⟨by decide, by decide⟩⟩
          · rw [w1, nI_toInt (by omega)]
            omega
          · unfold rng
            rw [nI_toInt (by omega), nI_toInt (by omega)]
            omega
          · refine nI_le ?_ (by omega)
            show f / 10 % 10 ≤ f / 1 % 10
            rw [Nat.div_one]
            exact dgs.2.2.2.1
          · refine nI_le (b := 1) ?_ (by omega)
            show f / 1 % 10 ≤ 1
            rw [Nat.div_one]
            exact dgs.2.2.2.2
        · unfold CRa
          rw [easn, qa, qs, r32 82 _ (by decide), r32 83 _ (by decide), f4, f5]
          simp (disch := first | omega | (simp only [zN_sI, zN_sJ, zN_sA, zN_sNew]; done) | (simp only [zN_sI, zN_sJ, zN_sA, zN_sNew]; omega)) only [rf_z, hM, zA_sI, zK_sI, zN_sI, zL_sI, zK_sA, zN_sA, zL_sA, zI_sA, zN_sNew, zI_ne, zI_nk, zI_eq, zA_ne, zA_nk, zA_eq, zI_nn, zA_nn, zK_nn, zL_nn, zI_ne', zA_ne', zK_ne', zL_ne', R, dg1 rgf 100000 (y := 100000) rfl (by decide) (by decide), dg1 rgf 10000 (y := 10000) rfl (by decide) (by decide), dg1 rgf 1000 (y := 1000) rfl (by decide) (by decide), dg1 rgf 100 (y := 100) rfl (by decide) (by decide), dg1 rgf 10 (y := 10) rfl (by decide) (by decide), dg1 rgf 1 (y := 1) rfl (by decide) (by decide), true_implies, false_implies, implies_true, not_true_eq_false, not_false_eq_true, and_true, true_and, Option.some.injEq, reduceCtorEq, forall_eq', forall_eq]
          exact ⟨by omega, by omega, rfl, rfl, rfl, rfl, rfl, rfl⟩
      · refine hr.f.cg (by omega) (by omega) (by omega) (fun b j hb hj => r32 b j (by omega)) (fun b j hb hj => ?_) (fun b j hb hj => r32 b j (by omega))
        rcases hb with hb | hb | hb | hb | hb
        · rw [hb]
          exact r48 j (by omega)
        all_goals exact r32 b j (by omega)
      · refine ⟨fun j hj z => ?_, fun j k hj hk z1 z2 z3 => ?_⟩
        · rw [qA] at hj
          by_cases cj : j = nA ρ
          · rw [cj, easn]
            exact r48'
          · rw [r32 82 _ (by decide)] at z
            rw [easj j cj]
            have w := hr.w.1 j (by omega) z
            by_cases cs : as_ ρ j = i
            · rw [cs]
              exact r48'
            · rw [r48 _ cs]
              exact w
        · rw [qA] at hj hk
          rw [r32 82 _ (by decide)] at z1 z2
          have nw : ∀ j, j < nA ρ → ρ 82 j = 0 → as_ ρ j ≠ i := fun j hj z e => by
            have := hr.w.1 j hj z
            rw [e, q] at this
            exact absurd this (by decide)
          by_cases cj : j = nA ρ <;> by_cases ck : k = nA ρ
          · omega
          · rw [cj, easn, easj k ck] at z3
            exact absurd z3.symm (nw k (by omega) z2)
          · rw [ck, easn, easj j cj] at z3
            exact absurd z3 (nw j (by omega) z1)
          · rw [easj j cj, easj k ck] at z3
            exact hr.w.2 j k (by omega) (by omega) z1 z2 z3
      · exact csM
      · exact cnM
      · intro j k hj hk e
        rw [qA] at hj hk
        by_cases cj : j = nA ρ <;> by_cases ck : k = nA ρ
        · omega
        · rw [cj, qa, qa' k (by omega)] at e
          have := (k_aa hc (i := k) (by omega)).2.2
          omega
        · rw [ck, qa, qa' j (by omega)] at e
          have := (k_aa hc (i := j) (by omega)).2.2
          omega
        · rw [qa' j (by omega), qa' k (by omega)] at e
          exact hc.d j k (by omega) (by omega) e
      · intro j p a1 a2
        rw [p] at a2
        rw [q] at a2
        exact absurd a2 (by decide)
end Ask
