section SellN
variable {E : ZE} {l : Launch} {d : Nat} {g : Gh} {L : Nat} {X : Nat → Int32} {t : Nat} {μ : ZM} {x1 x2 x3 x4 x5 : Int32}
theorem pr_sellN {q : Nat} (hq : q < nN (rf μ)) (hI : IV g L X t μ) {i : Nat} (hi : i < nL (rf μ)) (y1 : ¬ x2 < 1) (y2 : ¬ 999999 < x2) (y3 : ¬ x3 < 0) (y4 : ¬ 20999 < x3) (y5 : ¬ x4 < 0) (y6 : ¬ 999999 < x4) (y7 : x4 - x4 / 100 * 100 ≤ 60) : PRp E l d L X t mX10_sell mX11_sell [some (.ref 11), some (.int (nI i)), some (.int x2), some (.int x3), some (.int x4), some (.int (nI q)), none, none] [some (.ref 31), some (.int (nI i)), some (.int x2), some (.int x3), some (.int x4), some (.int (nI q)), none, none, none] μ := by
  obtain ⟨ρ, hρ⟩ : ∃ ρ, rf μ = ρ := ⟨_, rfl⟩
  have hS := hI.st
  have hr := hI.r hρ
  have hc := hI.c hρ
  have R : ∀ a j, 31 ≤ a → a < 88 → zI μ a j = ρ a j := fun a j h1 h2 => rfz hρ h1 h2
  obtain ⟨s1, s2, s3, s4, s5, s6, s7, s8, s9, s10, s11⟩ := hc.s
  obtain ⟨b1, b2, b3, b4, b5, b6, b7, b8⟩ := hr.s
  have hU : IV g L X (t + 1) μ := hI.up (Nat.le_succ t)
  refine PRp.mk fun K hK => ?_
  rw [hρ] at hi
  rw [hρ] at hq
  have b200 := b6.2
  have z1 : ¬ nI q = -1 := by rw [i_eq, nI_toInt (by omega), show (-1 : Int32).toInt = -1 from by decide]; omega
  have z2 : ¬ nI q < 0 := nI_pos (by omega)
  have z3 : ¬ ρ 31 74 ≤ nI q := by rw [b6.1]; exact nI_ge hq (by omega)
  have z4 : ¬ (200 : Int32) ≤ nI q := by rw [show (200 : Int32) = nI 200 from rfl]; exact nI_ge (by omega) (by omega)
  have z5 : vp_in (nI q) 200 := vp_in_nI (by omega) (by decide)
  have z6 : (nI q).toNatClampNeg = q := nI_clamp (by omega)
  have z7 := ix_lt (by omega) hq
  rw [← b6.1] at z7
  have u85 := hc.n.1 q hq
  have hA := hS.N
  have b60 := b2.2
  have b300 := b3.2
  have b3' := b3.1
  have h1 : ¬ nI i < 0 := nI_pos (by omega)
  have h2 := ix_lt (by omega) hi
  have h3 : vp_in (nI i) 60 := vp_in_nI (by omega) (by decide)
  have h4 : (nI i).toNatClampNeg = i := nI_clamp (by omega)
  rw [← b2.1] at h2
  have y8 : ¬ 60 < x4 - x4 / 100 * 100 := Int32.not_lt.mpr y7
  obtain ⟨c1, c2, c3, c4, c5, c6, c7⟩ := hc.l hi
  obtain ⟨d1, d2, d3⟩ := hr.l hi
  obtain ⟨m, hm⟩ : ∃ m, m = lm ρ i := ⟨_, rfl⟩
  rw [← hm] at c6 d1 d2
  have b20 := b1.2
  have km := k_ma hc d2
  have e0 : (0 : Int32).toInt = 0 := by decide
  by_cases p0 : ρ 47 i = 0
  · have p1 : ¬ 0 < ρ 47 i := by rw [p0]; decide
    refine t_X10_sell hS ?_
    simp (disch := omega) only [h1, h2, h3, h4, y1, y2, y3, y4, y5, y6, y7, z1, z2, z3, z4, z5, z6, s2, s7, c1, true_implies, false_implies, implies_true, not_true_eq_false, not_false_eq_true, and_true, true_and, Option.some.injEq, reduceCtorEq, forall_eq', forall_eq]
    refine t_X10_sell_78 hS ⟨c4, ?_, ?_⟩
    · rw [c7]
      exact fun z => absurd z p1
    · intro _
      refine hK _ _ hS hI.s0 fun Q hQ => t_X11_sell hS ?_
      simp (disch := omega) only [h1, h2, h3, h4, y1, y2, y3, y4, y5, y6, y8, z1, z2, z5, z6, z7, R, p0, true_implies, false_implies, implies_true, not_true_eq_false, not_false_eq_true, and_true, true_and, Option.some.injEq, reduceCtorEq, forall_eq', forall_eq]
      exact hQ _ _ hU
  have p1 : 0 < ρ 47 i := by
    rw [i_lt]
    rw [i_eq] at p0
    have := d3.1
    omega
  by_cases p2 : nS ρ = 300
  · have p3 : ¬ nI (nS ρ) < 300 := by rw [p2]; decide
    have p4 : nI (nS ρ) = 300 := by rw [p2]; rfl
    refine t_X10_sell hS ?_
    simp (disch := omega) only [h1, h2, h3, h4, y1, y2, y3, y4, y5, y6, y7, z1, z2, z3, z4, z5, z6, s2, s7, c1, true_implies, false_implies, implies_true, not_true_eq_false, not_false_eq_true, and_true, true_and, Option.some.injEq, reduceCtorEq, forall_eq', forall_eq]
    refine t_X10_sell_78 hS ⟨c4, ?_, ?_⟩
    · intro _
      refine ⟨?_, fun _ => ?_⟩
      · rw [s3, b3']
        exact fun z => absurd z p3
      · refine hK _ _ hS hI.s0 fun Q hQ => t_X11_sell hS ?_
        simp (disch := omega) only [h1, h2, h3, h4, y1, y2, y3, y4, y5, y6, y8, z1, z2, z5, z6, z7, R, p0, b3', p4, true_implies, false_implies, implies_true, not_true_eq_false, not_false_eq_true, and_true, true_and, Option.some.injEq, reduceCtorEq, forall_eq', forall_eq]
        exact hQ _ _ hU
    · rw [c7]
      exact fun z => absurd p1 z
  have p3 : nI (nS ρ) < 300 := by rw [show (300 : Int32) = nI 300 from rfl]; exact nI_lt (by omega) (by omega)
  have p4 : ¬ nI (nS ρ) = 300 := by rw [show (300 : Int32) = nI 300 from rfl, nI_eq (by omega) (by omega)]; exact p2
  have p5 : vp_in (nI (nS ρ)) 300 := vp_in_nI (by omega) (by decide)
  have p6 : (nI (nS ρ)).toNatClampNeg = nS ρ := nI_clamp (by omega)
  have p7 : nI (nS ρ) + 1 = nI (nS ρ + 1) := nI_1 _
  have p8 : tN (nI (nS ρ + 1)) = nS ρ + 1 := nI_clamp (by omega)
  have p9 : nI (nS ρ + 1) - 1 = nI (nS ρ) := nI_pred _
  have k11 : 11 ≤ maF μ m := by omega
  have nlm : laF μ i ≠ maF μ m := kne c4 km.1 (by decide)
  have nlm1 : maF μ m + 1 ≠ laF μ i := kne km.2.1 c4 (by decide)
  have nlm2 : maF μ m + 2 ≠ laF μ i := kne km.2.2.1 c4 (by decide)
  have hSc : Stat (sNew (sI μ (laF μ i) 2 (ρ 47 i - 1)) 7 0) := hS.wI.wNew
  have cmc : CRm (sNew (sI μ (laF μ i) 2 (ρ 47 i - 1)) 7 0) ρ m := by
    refine (hc.m d2).fr (by rw [zN_sNew, zN_sI]; omega) (by simp (disch := first | omega | (simp only [zN_sI, zN_sJ, zN_sA, zN_sNew]; done) | (simp only [zN_sI, zN_sJ, zN_sA, zN_sNew]; omega)) only [zA_sI, zK_sI, zN_sI, zL_sI, zK_sA, zN_sA, zL_sA, zI_sA, zN_sNew, zI_ne, zI_nk, zI_eq, zA_ne, zA_nk, zA_eq, zI_nn, zA_nn, zK_nn, zL_nn, zI_ne', zA_ne', zK_ne', zL_ne']) ?_ ?_ ?_ (fun _ _ _ _ _ => rfl) (fun _ _ _ _ _ => rfl)
    · exact ((SM.refl _).wi (by omega)).wn (by rw [zN_sI]; omega)
    · exact ((SM.refl _).wi (by omega)).wn (by rw [zN_sI]; omega)
    · exact ((SM.refl _).wi (by omega)).wn (by rw [zN_sI]; omega)
  have em : maF (sNew (sI μ (laF μ i) 2 (ρ 47 i - 1)) 7 0) m = maF μ m := by unfold maF; simp (disch := first | omega | (simp only [zN_sI, zN_sJ, zN_sA, zN_sNew]; done) | (simp only [zN_sI, zN_sJ, zN_sA, zN_sNew]; omega)) only [zA_sI, zK_sI, zN_sI, zL_sI, zK_sA, zN_sA, zL_sA, zI_sA, zN_sNew, zI_ne, zI_nk, zI_eq, zA_ne, zA_nk, zA_eq, zI_nn, zA_nn, zK_nn, zL_nn, zI_ne', zA_ne', zK_ne', zL_ne']
  refine t_X10_sell hS ?_
  simp (disch := omega) only [h1, h2, h3, h4, y1, y2, y3, y4, y5, y6, y7, z1, z2, z3, z4, z5, z6, s2, s7, c1, true_implies, false_implies, implies_true, not_true_eq_false, not_false_eq_true, and_true, true_and, Option.some.injEq, reduceCtorEq, forall_eq', forall_eq]
  refine t_X10_sell_78 hS ⟨c4, fun _ => ⟨fun _ => ?_, ?_⟩, ?_⟩
  rotate_left
  · rw [s3, b3']
    exact fun z => absurd p3 z
  · rw [c7]
    exact fun z => absurd p1 z
  rw [c7]
  have zNa : zN (sI μ (laF μ i) 2 (ρ 47 i - 1)) = zN μ := rfl
  rw [zNa]
  have a1 : zA (sNew (sI μ (laF μ i) 2 (ρ 47 i - 1)) 7 0) (laF μ i) 1 = some (maF μ m) := by simp (disch := first | omega | (simp only [zN_sI, zN_sJ, zN_sA, zN_sNew]; done) | (simp only [zN_sI, zN_sJ, zN_sA, zN_sNew]; omega)) only [zA_sI, zK_sI, zN_sI, zL_sI, zK_sA, zN_sA, zL_sA, zI_sA, zN_sNew, zI_ne, zI_nk, zI_eq, zA_ne, zA_nk, zA_eq, zI_nn, zA_nn, zK_nn, zL_nn, zI_ne', zA_ne', zK_ne', zL_ne', c6]
  have a2 : zI (sNew (sI μ (laF μ i) 2 (ρ 47 i - 1)) 7 0) 11 17 = ρ 31 1 := by simp (disch := first | omega | (simp only [zN_sI, zN_sJ, zN_sA, zN_sNew]; done) | (simp only [zN_sI, zN_sJ, zN_sA, zN_sNew]; omega)) only [zA_sI, zK_sI, zN_sI, zL_sI, zK_sA, zN_sA, zL_sA, zI_sA, zN_sNew, zI_ne, zI_nk, zI_eq, zA_ne, zA_nk, zA_eq, zI_nn, zA_nn, zK_nn, zL_nn, zI_ne', zA_ne', zK_ne', zL_ne', s6]
  have a3 : zI (sNew (sI μ (laF μ i) 2 (ρ 47 i - 1)) 7 0) 11 14 = nI (nS ρ) := by simp (disch := first | omega | (simp only [zN_sI, zN_sJ, zN_sA, zN_sNew]; done) | (simp only [zN_sI, zN_sJ, zN_sA, zN_sNew]; omega)) only [zA_sI, zK_sI, zN_sI, zL_sI, zK_sA, zN_sA, zL_sA, zI_sA, zN_sNew, zI_ne, zI_nk, zI_eq, zA_ne, zA_nk, zA_eq, zI_nn, zA_nn, zK_nn, zL_nn, zI_ne', zA_ne', zK_ne', zL_ne', s3, b3']
  have a4 : zK (sNew (sI μ (laF μ i) 2 (ρ 47 i - 1)) 7 0) (zN μ) = 7 := by simp (disch := first | omega | (simp only [zN_sI, zN_sJ, zN_sA, zN_sNew]; done) | (simp only [zN_sI, zN_sJ, zN_sA, zN_sNew]; omega)) only [zA_sI, zK_sI, zN_sI, zL_sI, zK_sA, zN_sA, zL_sA, zI_sA, zN_sNew, zI_ne, zI_nk, zI_eq, zA_ne, zA_nk, zA_eq, zI_nn, zA_nn, zK_nn, zL_nn, zI_ne', zA_ne', zK_ne', zL_ne']
  rw [a1, a2, a3]
  refine ⟨fun z => (by cases z), fun b5 hb => ?_⟩
  cases hb
  refine ⟨by simp (disch := first | omega | (simp only [zN_sI, zN_sJ, zN_sA, zN_sNew]; done) | (simp only [zN_sI, zN_sJ, zN_sA, zN_sNew]; omega)) only [zA_sI, zK_sI, zN_sI, zL_sI, zK_sA, zN_sA, zL_sA, zI_sA, zN_sNew, zI_ne, zI_nk, zI_eq, zA_ne, zA_nk, zA_eq, zI_nn, zA_nn, zK_nn, zL_nn, zI_ne', zA_ne', zK_ne', zL_ne', km.1], ?_⟩
  have := c_priceM (E := E) (l := l) (d := d + 298) (nc := 0) (ns := 0) (day := ρ 31 1 / 24) hSc hr d2 cmc (K := fun v μ7 => ∃ r9 : Int32, v = some (.int r9) ∧ Stat μ7 ∧ (r9 = prR ρ m (ρ 31 1 / 24) ∧ μ7 = sNew (sI μ (laF μ i) 2 (ρ 47 i - 1)) 7 0)) ⟨_, rfl, hSc, rfl, rfl⟩
  rw [em] at this
  refine AW.mono this ?_
  rintro v μ7 ⟨r9, rfl, h7, rfl, rfl⟩
  refine ⟨_, rfl, h7, a4, ?_⟩
  obtain ⟨pr, hpr⟩ : ∃ p, p = prR ρ m (ρ 31 1 / 24) := ⟨_, rfl⟩
  have prg := prR_rng (day := ρ 31 1 / 24) hr d2
  rw [← hpr] at prg ⊢
  clear this
  intro M11 e11
  have f1 : zK M11 (laF μ i) = 2 := by rw [e11]; simp (disch := first | omega | (simp only [zN_sI, zN_sJ, zN_sA, zN_sNew]; done) | (simp only [zN_sI, zN_sJ, zN_sA, zN_sNew]; omega)) only [zA_sI, zK_sI, zN_sI, zL_sI, zK_sA, zN_sA, zL_sA, zI_sA, zN_sNew, zI_ne, zI_nk, zI_eq, zA_ne, zA_nk, zA_eq, zI_nn, zA_nn, zK_nn, zL_nn, zI_ne', zA_ne', zK_ne', zL_ne', c4]
  have f2 : zA M11 (laF μ i) 1 = some (maF μ m) := by rw [e11]; simp (disch := first | omega | (simp only [zN_sI, zN_sJ, zN_sA, zN_sNew]; done) | (simp only [zN_sI, zN_sJ, zN_sA, zN_sNew]; omega)) only [zA_sI, zK_sI, zN_sI, zL_sI, zK_sA, zN_sA, zL_sA, zI_sA, zN_sNew, zI_ne, zI_nk, zI_eq, zA_ne, zA_nk, zA_eq, zI_nn, zA_nn, zK_nn, zL_nn, zI_ne', zA_ne', zK_ne', zL_ne', c6]
  refine ⟨f1, fun z => absurd (f2.symm.trans z) (by simp), fun b17 hb => ?_⟩
  rw [f2] at hb
  cases hb
  intro M58 e58 M63 e63
  have g1 : zI M63 17 2 = ρ 31 2 := by rw [e63, e58, e11]; simp (disch := first | omega | (simp only [zN_sI, zN_sJ, zN_sA, zN_sNew]; done) | (simp only [zN_sI, zN_sJ, zN_sA, zN_sNew]; omega)) only [zA_sI, zK_sI, zN_sI, zL_sI, zK_sA, zN_sA, zL_sA, zI_sA, zN_sNew, zI_ne, zI_nk, zI_eq, zA_ne, zA_nk, zA_eq, zI_nn, zA_nn, zK_nn, zL_nn, zI_ne', zA_ne', zK_ne', zL_ne', s8]
  have g2 : zI M63 (zN μ) 9 = pr := by rw [e63, e58, e11]; simp (disch := first | omega | (simp only [zN_sI, zN_sJ, zN_sA, zN_sNew]; done) | (simp only [zN_sI, zN_sJ, zN_sA, zN_sNew]; omega)) only [zA_sI, zK_sI, zN_sI, zL_sI, zK_sA, zN_sA, zL_sA, zI_sA, zN_sNew, zI_ne, zI_nk, zI_eq, zA_ne, zA_nk, zA_eq, zI_nn, zA_nn, zK_nn, zL_nn, zI_ne', zA_ne', zK_ne', zL_ne']
  have g3 : zI M63 11 14 = nI (nS ρ) := by rw [e63, e58, e11]; simp (disch := first | omega | (simp only [zN_sI, zN_sJ, zN_sA, zN_sNew]; done) | (simp only [zN_sI, zN_sJ, zN_sA, zN_sNew]; omega)) only [zA_sI, zK_sI, zN_sI, zL_sI, zK_sA, zN_sA, zL_sA, zI_sA, zN_sNew, zI_ne, zI_nk, zI_eq, zA_ne, zA_nk, zA_eq, zI_nn, zA_nn, zK_nn, zL_nn, zI_ne', zA_ne', zK_ne', zL_ne', s3, b3']
  have g4 : zI M63 17 1 = ρ 31 74 := by rw [e63, e58, e11]; simp (disch := first | omega | (simp only [zN_sI, zN_sJ, zN_sA, zN_sNew]; done) | (simp only [zN_sI, zN_sJ, zN_sA, zN_sNew]; omega)) only [zA_sI, zK_sI, zN_sI, zL_sI, zK_sA, zN_sA, zL_sA, zI_sA, zN_sNew, zI_ne, zI_nk, zI_eq, zA_ne, zA_nk, zA_eq, zI_nn, zA_nn, zK_nn, zL_nn, zI_ne', zA_ne', zK_ne', zL_ne', s7]
  have g5 : zI M63 18 q = ρ 85 q := by rw [e63, e58, e11]; simp (disch := first | omega | (simp only [zN_sI, zN_sJ, zN_sA, zN_sNew]; done) | (simp only [zN_sI, zN_sJ, zN_sA, zN_sNew]; omega)) only [zA_sI, zK_sI, zN_sI, zL_sI, zK_sA, zN_sA, zL_sA, zI_sA, zN_sNew, zI_ne, zI_nk, zI_eq, zA_ne, zA_nk, zA_eq, zI_nn, zA_nn, zK_nn, zL_nn, zI_ne', zA_ne', zK_ne', zL_ne', u85]
  obtain ⟨pay, hpay⟩ : ∃ p, p = if pr < ρ 85 q then pr else ρ 85 q := ⟨_, rfl⟩
  simp (disch := first | omega | (simp only [zN_sI, zN_sJ, zN_sA, zN_sNew]; done) | (simp only [zN_sI, zN_sJ, zN_sA, zN_sNew]; omega)) only [z1, z2, z3, z4, z5, z6, g1, g2, g3, g4, g5, ← hpay, p5, p6, p7, p9, Int32.sub_zero, zA_sI, zK_sI, zN_sI, zL_sI, zK_sA, zN_sA, zL_sA, zI_sA, zN_sNew, zI_ne, zI_nk, zI_eq, zA_ne, zA_nk, zA_eq, zI_nn, zA_nn, zK_nn, zL_nn, zI_ne', zA_ne', zK_ne', zL_ne', true_implies, false_implies, implies_true, not_true_eq_false, not_false_eq_true, and_true, true_and, Option.some.injEq, reduceCtorEq, forall_eq', forall_eq]
  refine nmI (P := fun M => K (some (.int (nI (nS ρ)))) M) fun M1 e1 => ?_
  rw [e63, e58, e11] at e1
  clear g1 g2 g3 g4 e63 e58 f1 f2 e11
  have hS1 : Stat M1 := by
    rw [e1]
    repeat' (with_reducible first | exact hS | exact hA | refine Stat.wI ?_ | refine Stat.wNew ?_ | refine Stat.wAr ?_ (by decide) | refine Stat.wAhi ?_ ?_)
  have R1 : ∀ a j, 31 ≤ a → a < 88 → zI M1 a j = ρ a j := fun a j h1 h2 => by rw [e1]; simp (disch := first | omega | (simp only [zN_sI, zN_sJ, zN_sA, zN_sNew]; done) | (simp only [zN_sI, zN_sJ, zN_sA, zN_sNew]; omega)) only [zA_sI, zK_sI, zN_sI, zL_sI, zK_sA, zN_sA, zL_sA, zI_sA, zN_sNew, zI_ne, zI_nk, zI_eq, zA_ne, zA_nk, zA_eq, zI_nn, zA_nn, zK_nn, zL_nn, zI_ne', zA_ne', zK_ne', zL_ne', R]
  refine hK _ _ hS1 (by rw [e1]; repeat' (with_reducible first | exact hI.s0 | refine S0.wi ?_ (by omega) | refine S0.wa ?_ | refine S0.wn ?_ (by simp only [zN_sI, zN_sA, zN_sNew]; omega))) fun Q hQ => t_X11_sell hS1 ?_
  have rg3 : rng x3 0 20999 := rng_x 20999 rfl (by decide) y3 y4
  have rg4 : rng x4 0 999999 := rng_x 999999 rfl (by decide) y5 y6
  obtain ⟨v1, v2, -, v4⟩ := dvn rg3 1000 (y := 1000) rfl (by decide) (by decide)
  obtain ⟨v5, v6, -, v8⟩ := dvn rg4 100 (y := 100) rfl (by decide) (by decide)
  have v3 : (tN x3 : Int) ≤ 20999 := (rng_of rg3 (by decide)).2.1
  have v7 : (tN x4 : Int) ≤ 999999 := (rng_of rg4 (by decide)).2.1
  rw [v6] at y7 y8 e1
  rw [v2] at e1
  rw [v1, v5] at e1
  have y9 : ¬ 60 < x4 - x4 / 100 * 100 := by rw [v6]; exact y8
  rw [v5] at y9
  rw [v1] at v2
  rw [v5] at v6
  simp (disch := first | omega | (simp only [zN_sI, zN_sJ, zN_sA, zN_sNew]; done) | (simp only [zN_sI, zN_sJ, zN_sA, zN_sNew]; omega)) only [h1, h2, h3, h4, y1, y2, y3, y4, y5, y6, v1, v2, v5, v6, y9, y8, z1, z2, z5, z6, z7, R1, p0, b3', p4, p5, p6, p7, d1, zA_sI, zK_sI, zN_sI, zL_sI, zK_sA, zN_sA, zL_sA, zI_sA, zN_sNew, zI_ne, zI_nk, zI_eq, zA_ne, zA_nk, zA_eq, zI_nn, zA_nn, zK_nn, zL_nn, zI_ne', zA_ne', zK_ne', zL_ne', true_implies, false_implies, implies_true, not_true_eq_false, not_false_eq_true, and_true, true_and, Option.some.injEq, reduceCtorEq, forall_eq', forall_eq]
  refine r_priceM (by repeat' (with_reducible first | exact hS1 | exact hA | refine Stat.wI ?_ | refine Stat.wNew ?_ | refine Stat.wAr ?_ (by decide) | refine Stat.wAhi ?_ ?_)) hr d2 (by simp (disch := first | omega | (simp only [zN_sI, zN_sJ, zN_sA, zN_sNew]; done) | (simp only [zN_sI, zN_sJ, zN_sA, zN_sNew]; omega)) only [zA_sI, zK_sI, zN_sI, zL_sI, zK_sA, zN_sA, zL_sA, zI_sA, zN_sNew, zI_ne, zI_nk, zI_eq, zA_ne, zA_nk, zA_eq, zI_nn, zA_nn, zK_nn, zL_nn, zI_ne', zA_ne', zK_ne', zL_ne', R1]) (fun j => by simp (disch := first | omega | (simp only [zN_sI, zN_sJ, zN_sA, zN_sNew]; done) | (simp only [zN_sI, zN_sJ, zN_sA, zN_sNew]; omega)) only [zA_sI, zK_sI, zN_sI, zL_sI, zK_sA, zN_sA, zL_sA, zI_sA, zN_sNew, zI_ne, zI_nk, zI_eq, zA_ne, zA_nk, zA_eq, zI_nn, zA_nn, zK_nn, zL_nn, zI_ne', zA_ne', zK_ne', zL_ne', R1]) (fun j => by simp (disch := first | omega | (simp only [zN_sI, zN_sJ, zN_sA, zN_sNew]; done) | (simp only [zN_sI, zN_sJ, zN_sA, zN_sNew]; omega)) only [zA_sI, zK_sI, zN_sI, zL_sI, zK_sA, zN_sA, zL_sA, zI_sA, zN_sNew, zI_ne, zI_nk, zI_eq, zA_ne, zA_nk, zA_eq, zI_nn, zA_nn, zK_nn, zL_nn, zI_ne', zA_ne', zK_ne', zL_ne', R1]) ⟨_, rfl, by repeat' (with_reducible first | exact hS1 | exact hA | refine Stat.wI ?_ | refine Stat.wNew ?_ | refine Stat.wAr ?_ (by decide) | refine Stat.wAhi ?_ ?_), ?_⟩
  rw [← hpr]
  simp (disch := first | omega | (simp only [zN_sI, zN_sJ, zN_sA, zN_sNew]; done) | (simp only [zN_sI, zN_sJ, zN_sA, zN_sNew]; omega)) only [zA_sI, zK_sI, zN_sI, zL_sI, zK_sA, zN_sA, zL_sA, zI_sA, zN_sNew, zI_ne, zI_nk, zI_eq, zA_ne, zA_nk, zA_eq, zI_nn, zA_nn, zK_nn, zL_nn, zI_ne', zA_ne', zK_ne', zL_ne', R1, b3', p7, true_implies, false_implies, implies_true, not_true_eq_false, not_false_eq_true, and_true, true_and, Option.some.injEq, reduceCtorEq, forall_eq', forall_eq]
  have pc : (if pr ≤ ρ 85 q then pr else ρ 85 q) = pay := by
    rw [hpay]
    by_cases z : pr < ρ 85 q
    · rw [if_pos z, if_pos (Int32.le_of_lt z)]
    · rw [if_neg z]
      by_cases z' : pr ≤ ρ 85 q
      · rw [if_pos z']
        exact Int32.le_antisymm z' (Int32.not_lt.mp z)
      · rw [if_neg z']
  suffices fin : Q (some (.int (nI (nS ρ)))) (sI (sI (sI (sI (sI (sI (sI (sI (sI (sI (sI (sI (sI (sI (sI (sI M1 49 (nS ρ) (nI i)) 50 (nS ρ) (nI (tN x3 / 1000))) 54 (nS ρ) (nI (tN x3 % 1000))) 51 (nS ρ) x2) 52 (nS ρ) (nI (tN x4 / 100))) 53 (nS ρ) (nI (tN x4 % 100))) 55 (nS ρ) (ρ 31 1)) 56 (nS ρ) pr) 58 (nS ρ) (-1)) 59 (nS ρ) (-1)) 61 (nS ρ) (-1)) 63 (nS ρ) (-1)) 47 i (ρ 47 i - 1)) 31 22 (nI (nS ρ + 1))) 85 q (ρ 85 q - pay)) 31 2 (ρ 31 2 + (pr - pay))) by
    refine ⟨fun z => ?_, fun z => ?_⟩
    · rw [if_pos z] at pc
      rw [← pc] at fin
      exact fin
    · rw [if_neg z] at pc
      rw [← pc] at fin
      exact fin
  refine hQ g _ ?_
  refine nmI (P := IV g L X (t + 1)) fun M2 hM => ?_
  have hS2 : Stat M2 := by
    rw [hM]
    repeat' (with_reducible first | exact hS1 | exact hA | refine Stat.wI ?_ | refine Stat.wNew ?_ | refine Stat.wAr ?_ (by decide) | refine Stat.wAhi ?_ ?_)
  rw [e1] at hM
  obtain ⟨w1, w2, w3⟩ := rng_of d3 (by decide)
  obtain ⟨w, hw⟩ : ∃ w, w = tN (ρ 47 i) := ⟨_, rfl⟩
  rw [← hw] at w1 w2 w3
  have w4 : 0 < w := by
    rcases Nat.eq_zero_or_pos w with z | z
    · rw [z] at w1
      exact absurd w1 p0
    · exact z
  have w5 : ρ 47 i - 1 = nI (w - 1) := by
    rw [w1, show (1 : Int32) = nI 1 from rfl, pk_sub (by omega)]
  obtain ⟨f1, f2, f3⟩ := hr.f
  obtain ⟨f4, f5, f6, f7, f8⟩ := f2 (nS ρ) (Nat.le_refl _) (by omega)
  have k7 : tN (nI i) = i := nI_clamp (by omega)
  have qM : nM (rf M2) = nM ρ := by unfold nM; simp (disch := first | omega | (simp only [zN_sI, zN_sJ, zN_sA, zN_sNew]; done) | (simp only [zN_sI, zN_sJ, zN_sA, zN_sNew]; omega)) only [rf_z, hM, zA_sI, zK_sI, zN_sI, zL_sI, zK_sA, zN_sA, zL_sA, zI_sA, zN_sNew, zI_ne, zI_nk, zI_eq, zA_ne, zA_nk, zA_eq, zI_nn, zA_nn, zK_nn, zL_nn, zI_ne', zA_ne', zK_ne', zL_ne', R]
  have qL : nL (rf M2) = nL ρ := by unfold nL; simp (disch := first | omega | (simp only [zN_sI, zN_sJ, zN_sA, zN_sNew]; done) | (simp only [zN_sI, zN_sJ, zN_sA, zN_sNew]; omega)) only [rf_z, hM, zA_sI, zK_sI, zN_sI, zL_sI, zK_sA, zN_sA, zL_sA, zI_sA, zN_sNew, zI_ne, zI_nk, zI_eq, zA_ne, zA_nk, zA_eq, zI_nn, zA_nn, zK_nn, zL_nn, zI_ne', zA_ne', zK_ne', zL_ne', R]
  have qS : nS (rf M2) = nS ρ + 1 := by unfold nS; simp (disch := first | omega | (simp only [zN_sI, zN_sJ, zN_sA, zN_sNew]; done) | (simp only [zN_sI, zN_sJ, zN_sA, zN_sNew]; omega)) only [rf_z, hM, zA_sI, zK_sI, zN_sI, zL_sI, zK_sA, zN_sA, zL_sA, zI_sA, zN_sNew, zI_ne, zI_nk, zI_eq, zA_ne, zA_nk, zA_eq, zI_nn, zA_nn, zK_nn, zL_nn, zI_ne', zA_ne', zK_ne', zL_ne', R]; exact p8
  have qA : nA (rf M2) = nA ρ := by unfold nA; simp (disch := first | omega | (simp only [zN_sI, zN_sJ, zN_sA, zN_sNew]; done) | (simp only [zN_sI, zN_sJ, zN_sA, zN_sNew]; omega)) only [rf_z, hM, zA_sI, zK_sI, zN_sI, zL_sI, zK_sA, zN_sA, zL_sA, zI_sA, zN_sNew, zI_ne, zI_nk, zI_eq, zA_ne, zA_nk, zA_eq, zI_nn, zA_nn, zK_nn, zL_nn, zI_ne', zA_ne', zK_ne', zL_ne', R]
  have qa : ∀ j, aaF M2 j = aaF μ j := fun j => by unfold aaF; simp (disch := first | omega | (simp only [zN_sI, zN_sJ, zN_sA, zN_sNew]; done) | (simp only [zN_sI, zN_sJ, zN_sA, zN_sNew]; omega)) only [rf_z, hM, zA_sI, zK_sI, zN_sI, zL_sI, zK_sA, zN_sA, zL_sA, zI_sA, zN_sNew, zI_ne, zI_nk, zI_eq, zA_ne, zA_nk, zA_eq, zI_nn, zA_nn, zK_nn, zL_nn, zI_ne', zA_ne', zK_ne', zL_ne', R]
  have ql : ∀ j, laF M2 j = laF μ j := fun j => by unfold laF; simp (disch := first | omega | (simp only [zN_sI, zN_sJ, zN_sA, zN_sNew]; done) | (simp only [zN_sI, zN_sJ, zN_sA, zN_sNew]; omega)) only [rf_z, hM, zA_sI, zK_sI, zN_sI, zL_sI, zK_sA, zN_sA, zL_sA, zI_sA, zN_sNew, zI_ne, zI_nk, zI_eq, zA_ne, zA_nk, zA_eq, zI_nn, zA_nn, zK_nn, zL_nn, zI_ne', zA_ne', zK_ne', zL_ne', R]
  have qm : ∀ j, maF M2 j = maF μ j := fun j => by unfold maF; simp (disch := first | omega | (simp only [zN_sI, zN_sJ, zN_sA, zN_sNew]; done) | (simp only [zN_sI, zN_sJ, zN_sA, zN_sNew]; omega)) only [rf_z, hM, zA_sI, zK_sI, zN_sI, zL_sI, zK_sA, zN_sA, zL_sA, zI_sA, zN_sNew, zI_ne, zI_nk, zI_eq, zA_ne, zA_nk, zA_eq, zI_nn, zA_nn, zK_nn, zL_nn, zI_ne', zA_ne', zK_ne', zL_ne', R]
  have qs : saF M2 (nS ρ) = zN μ := by unfold saF; simp (disch := first | omega | (simp only [zN_sI, zN_sJ, zN_sA, zN_sNew]; done) | (simp only [zN_sI, zN_sJ, zN_sA, zN_sNew]; omega)) only [rf_z, hM, zA_sI, zK_sI, zN_sI, zL_sI, zK_sA, zN_sA, zL_sA, zI_sA, zN_sNew, zI_ne, zI_nk, zI_eq, zA_ne, zA_nk, zA_eq, zI_nn, zA_nn, zK_nn, zL_nn, zI_ne', zA_ne', zK_ne', zL_ne', R, Option.getD_some]
  have r48 : ∀ b j, b = 48 ∨ b = 57 ∨ b = 60 ∨ b = 62 ∨ b = 64 ∨ (32 ≤ b ∧ b < 47) ∨ (74 ≤ b ∧ b < 85) → rf M2 b j = ρ b j := fun b j hb => by simp (disch := first | omega | (simp only [zN_sI, zN_sJ, zN_sA, zN_sNew]; done) | (simp only [zN_sI, zN_sJ, zN_sA, zN_sNew]; omega)) only [rf_z, hM, zA_sI, zK_sI, zN_sI, zL_sI, zK_sA, zN_sA, zL_sA, zI_sA, zN_sNew, zI_ne, zI_nk, zI_eq, zA_ne, zA_nk, zA_eq, zI_nn, zA_nn, zK_nn, zL_nn, zI_ne', zA_ne', zK_ne', zL_ne', R]
  have lmi : lm (rf M2) i = m := by unfold lm; rw [r48 _ _ (by decide), d1]; exact nI_clamp (by omega)
  have slo : sl (rf M2) (nS ρ) = i := by unfold sl; simp (disch := first | omega | (simp only [zN_sI, zN_sJ, zN_sA, zN_sNew]; done) | (simp only [zN_sI, zN_sJ, zN_sA, zN_sNew]; omega)) only [rf_z, hM, zA_sI, zK_sI, zN_sI, zL_sI, zK_sA, zN_sA, zL_sA, zI_sA, zN_sNew, zI_ne, zI_nk, zI_eq, zA_ne, zA_nk, zA_eq, zI_nn, zA_nn, zK_nn, zL_nn, zI_ne', zA_ne', zK_ne', zL_ne', R]; exact k7
  refine IV.fr3 (Ps := (fun _ => False)) (Pa := (fun _ => False)) (Pl := (· = i)) (Pm := (fun _ => False)) hI hS2 ?_ (fun _ => by rw [hM]; simp (disch := first | omega | (simp only [zN_sI, zN_sJ, zN_sA, zN_sNew]; done) | (simp only [zN_sI, zN_sJ, zN_sA, zN_sNew]; omega)) only [zJ_sI, zJ_sA, zJ_nn]) hρ rfl (Nat.le_succ t) (by omega) (by omega) (by omega) (by omega) ?_ (fun j hj p => (p (by omega)).elim) (fun j hj p => ?_) (fun j hj p => ?_) (fun j hj p => (p (by omega)).elim) ?_ ?_ ?_ ?_ ?_ (fun _ p => p.elim) (fun j j1 j2 => by omega) (fun j j1 j2 => ?_)
  · rw [hM]
    repeat' (with_reducible first | exact EqX.rfl | refine EqX.wn ?_ | refine EqX.wi ?_ (by first | exact W3.new | exact W3.n11 (by decide) (by decide) | exact W3.n31 (by decide) | exact W3.ns (by decide) (by decide) (Nat.le_refl _) | exact W3.na (by decide) (by decide) (Nat.le_refl _) | exact W3.o (W0.l (Pl := (· = i)) rfl hi) | exact W3.o (W0.rl (Pl := (· = i)) rfl) | exact W3.o (W0.p (by decide)) | exact W3.o W0.n | exact W3.o (W0.rp (by decide)) | exact W3.o W0.rn) | refine EqX.wa ?_ (by first | exact WA3.new | exact WA3.s (Nat.le_refl _) | exact WA3.a (Nat.le_refl _)))
  · unfold RIs nM nL nS nA nT nN tL
    simp (disch := first | omega | (simp only [zN_sI, zN_sJ, zN_sA, zN_sNew]; done) | (simp only [zN_sI, zN_sJ, zN_sA, zN_sNew]; omega)) only [rf_z, hM, zA_sI, zK_sI, zN_sI, zL_sI, zK_sA, zN_sA, zL_sA, zI_sA, zN_sNew, zI_ne, zI_nk, zI_eq, zA_ne, zA_nk, zA_eq, zI_nn, zA_nn, zK_nn, zL_nn, zI_ne', zA_ne', zK_ne', zL_ne', R, p8]
    exact ⟨b1, b2, ⟨rfl, by omega⟩, b4, b5, b6, b7, b8⟩
  · have hj' : j = i := p (by omega)
    subst hj'
    constructor
    · unfold RIl
      rw [lmi, qM, r48 _ _ (by decide)]
      simp (disch := first | omega | (simp only [zN_sI, zN_sJ, zN_sA, zN_sNew]; done) | (simp only [zN_sI, zN_sJ, zN_sA, zN_sNew]; omega)) only [rf_z, hM, zA_sI, zK_sI, zN_sI, zL_sI, zK_sA, zN_sA, zL_sA, zI_sA, zN_sNew, zI_ne, zI_nk, zI_eq, zA_ne, zA_nk, zA_eq, zI_nn, zA_nn, zK_nn, zL_nn, zI_ne', zA_ne', zK_ne', zL_ne', R, w5]
      exact ⟨d1, d2, rng_nI (by omega) (by omega)⟩
    · unfold CRl
      rw [lmi, ql, qm]
      simp (disch := first | omega | (simp only [zN_sI, zN_sJ, zN_sA, zN_sNew]; done) | (simp only [zN_sI, zN_sJ, zN_sA, zN_sNew]; omega)) only [rf_z, hM, zA_sI, zK_sI, zN_sI, zL_sI, zK_sA, zN_sA, zL_sA, zI_sA, zN_sNew, zI_ne, zI_nk, zI_eq, zA_ne, zA_nk, zA_eq, zI_nn, zA_nn, zK_nn, zL_nn, zI_ne', zA_ne', zK_ne', zL_ne', R, true_implies, false_implies, implies_true, not_true_eq_false, not_false_eq_true, and_true, true_and, Option.some.injEq, reduceCtorEq, forall_eq', forall_eq]
      exact ⟨c1, c2, by omega, c4, c5, c6⟩
  · have hj' : j = nS ρ := Classical.byContradiction fun z => p (by omega)
    subst hj'
    constructor
    · unfold RIsa
      rw [slo, qL, r48 48 _ (by decide), r48 57 _ (by decide), r48 60 _ (by decide), r48 62 _ (by decide), r48 64 _ (by decide), f4, f5, f6, f7, f8]
      simp (disch := first | omega | (simp only [zN_sI, zN_sJ, zN_sA, zN_sNew]; done) | (simp only [zN_sI, zN_sJ, zN_sA, zN_sNew]; omega)) only [rf_z, hM, zA_sI, zK_sI, zN_sI, zL_sI, zK_sA, zN_sA, zL_sA, zI_sA, zN_sNew, zI_ne, zI_nk, zI_eq, zA_ne, zA_nk, zA_eq, zI_nn, zA_nn, zK_nn, zL_nn, zI_ne', zA_ne', zK_ne', zL_ne', R]
      rw [show (60 : Int32) = nI 60 from rfl, nI_leI (by omega) (by omega)] at y7
      exact ⟨trivial, hi, rng_nI (by omega) (by omega), rng_nI (by omega) (by omega), rng_nI (by omega) (by omega), rng_nI (by omega) (by omega), ⟨b8.1, Int.le_refl _⟩, prg, Or.inl rfl, Or.inl rfl, ⟨by decide, by decide⟩, Or.inl trivial, by decide, fun z => absurd z (by decide), Or.inl trivial, fun z => absurd z (by decide), ⟨by decide, by decide⟩, ⟨by decide, by decide⟩, ⟨by decide, by decide⟩⟩
    · unfold CRsa smo
      rw [slo, lmi, qs, ql, qm, r48 48 _ (by decide), r48 57 _ (by decide), r48 60 _ (by decide), r48 62 _ (by decide), r48 64 _ (by decide), f4, f5, f6, f7, f8]
      simp (disch := first | omega | (simp only [zN_sI, zN_sJ, zN_sA, zN_sNew]; done) | (simp only [zN_sI, zN_sJ, zN_sA, zN_sNew]; omega)) only [rf_z, hM, zA_sI, zK_sI, zN_sI, zL_sI, zK_sA, zN_sA, zL_sA, zI_sA, zN_sNew, zI_ne, zI_nk, zI_eq, zA_ne, zA_nk, zA_eq, zI_nn, zA_nn, zK_nn, zL_nn, zI_ne', zA_ne', zK_ne', zL_ne', R, true_implies, false_implies, implies_true, not_true_eq_false, not_false_eq_true, and_true, true_and, Option.some.injEq, reduceCtorEq, forall_eq', forall_eq]
      exact ⟨by omega, by omega, by decide, by decide, by decide, fun z => absurd z (by decide)⟩
  · exact hr.f.cg (by omega) (by omega) (by omega) (fun b i hb hi => r48 b i (by omega)) (fun b i hb hi => r48 b i (by omega)) (fun b i hb hi => r48 b i (by omega))
  · exact hr.w.cg qA (fun j hj => ⟨r48 _ _ (by decide), by unfold as_; rw [r48 _ _ (by decide)]⟩) (fun j hj q1 q2 => by rw [r48 _ _ (by decide)]; exact q2)
  · unfold CRs
    simp (disch := first | omega | (simp only [zN_sI, zN_sJ, zN_sA, zN_sNew]; done) | (simp only [zN_sI, zN_sJ, zN_sA, zN_sNew]; omega)) only [rf_z, hM, zA_sI, zK_sI, zN_sI, zL_sI, zK_sA, zN_sA, zL_sA, zI_sA, zN_sNew, zI_ne, zI_nk, zI_eq, zA_ne, zA_nk, zA_eq, zI_nn, zA_nn, zK_nn, zL_nn, zI_ne', zA_ne', zK_ne', zL_ne', R, s1, s2, s3, s4, s5, s6, s7, s8, s9, s10, s11, true_implies, false_implies, implies_true, not_true_eq_false, not_false_eq_true, and_true, true_and, Option.some.injEq, reduceCtorEq, forall_eq', forall_eq]
  · obtain ⟨u1, u2⟩ := hc.n
    unfold CRn nN tL
    refine ⟨fun j hj => ?_, fun j hj => ?_⟩
    · have hj : j < nN ρ := by
        revert hj
        simp (disch := first | omega | (simp only [zN_sI, zN_sJ, zN_sA, zN_sNew]; done) | (simp only [zN_sI, zN_sJ, zN_sA, zN_sNew]; omega)) only [rf_z, hM, zA_sI, zK_sI, zN_sI, zL_sI, zK_sA, zN_sA, zL_sA, zI_sA, zN_sNew, zI_ne, zI_nk, zI_eq, zA_ne, zA_nk, zA_eq, zI_nn, zA_nn, zK_nn, zL_nn, zI_ne', zA_ne', zK_ne', zL_ne', R]
        exact fun z => z
      by_cases cq : j = q
      · subst cq
        simp (disch := first | omega | (simp only [zN_sI, zN_sJ, zN_sA, zN_sNew]; done) | (simp only [zN_sI, zN_sJ, zN_sA, zN_sNew]; omega)) only [rf_z, hM, zA_sI, zK_sI, zN_sI, zL_sI, zK_sA, zN_sA, zL_sA, zI_sA, zN_sNew, zI_ne, zI_nk, zI_eq, zA_ne, zA_nk, zA_eq, zI_nn, zA_nn, zK_nn, zL_nn, zI_ne', zA_ne', zK_ne', zL_ne', R]
      · simp (disch := first | omega | (simp only [zN_sI, zN_sJ, zN_sA, zN_sNew]; done) | (simp only [zN_sI, zN_sJ, zN_sA, zN_sNew]; omega)) only [rf_z, hM, zA_sI, zK_sI, zN_sI, zL_sI, zK_sA, zN_sA, zL_sA, zI_sA, zN_sNew, zI_ne, zI_nk, zI_eq, zA_ne, zA_nk, zA_eq, zI_nn, zA_nn, zK_nn, zL_nn, zI_ne', zA_ne', zK_ne', zL_ne', R]
        exact u1 j hj
    · have hj : j < tL ρ := by
        revert hj
        simp (disch := first | omega | (simp only [zN_sI, zN_sJ, zN_sA, zN_sNew]; done) | (simp only [zN_sI, zN_sJ, zN_sA, zN_sNew]; omega)) only [rf_z, hM, zA_sI, zK_sI, zN_sI, zL_sI, zK_sA, zN_sA, zL_sA, zI_sA, zN_sNew, zI_ne, zI_nk, zI_eq, zA_ne, zA_nk, zA_eq, zI_nn, zA_nn, zK_nn, zL_nn, zI_ne', zA_ne', zK_ne', zL_ne', R]
        exact fun z => z
      simp (disch := first | omega | (simp only [zN_sI, zN_sJ, zN_sA, zN_sNew]; done) | (simp only [zN_sI, zN_sJ, zN_sA, zN_sNew]; omega)) only [rf_z, hM, zA_sI, zK_sI, zN_sI, zL_sI, zK_sA, zN_sA, zL_sA, zI_sA, zN_sNew, zI_ne, zI_nk, zI_eq, zA_ne, zA_nk, zA_eq, zI_nn, zA_nn, zK_nn, zL_nn, zI_ne', zA_ne', zK_ne', zL_ne', R]
      exact u2 j hj
  · intro j k hj hk e
    rw [qa, qa] at e
    exact hc.d j k (by omega) (by omega) e
  · have hj' : j = nS ρ := by omega
    subst hj'
    rw [qs]
    simp (disch := first | omega | (simp only [zN_sI, zN_sJ, zN_sA, zN_sNew]; done) | (simp only [zN_sI, zN_sJ, zN_sA, zN_sNew]; omega)) only [rf_z, hM, zA_sI, zK_sI, zN_sI, zL_sI, zK_sA, zN_sA, zL_sA, zI_sA, zN_sNew, zI_ne, zI_nk, zI_eq, zA_ne, zA_nk, zA_eq, zI_nn, zA_nn, zK_nn, zL_nn, zI_ne', zA_ne', zK_ne', zL_ne', R]
end SellN
