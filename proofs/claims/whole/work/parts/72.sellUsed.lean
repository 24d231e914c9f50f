section SellU
variable {E : ZE} {l : Launch} {d : Nat} {g : Gh} {L : Nat} {X : Nat → Int32} {t : Nat} {μ : ZM} {x1 x2 x3 : Int32}
theorem r_sellU12 {d nc ns : Nat} {ρ : RV} {K : Option Value → ZM → Prop} {m k0 : Nat} (hS : Stat μ) (hρ : rf μ = ρ) (hU : ρ 31 14 = nI (nU ρ)) (hb : nU ρ ≤ 300) (hk : k0 ≤ nU ρ) (hn : ∀ k, k < k0 → ¬ (ρ 42 k = nI m ∧ ¬ ρ 44 k = 0)) (k : AW E l (d + 2) nc ns mX11_sellUsed 12 [some (.ref 31), some (.int (nI m)), some (.int (nI k0)), none] [] μ K) : AW E l (d + 2) nc ns mX11_sellUsed 12 [some (.ref 31), some (.int (nI m)), some (.int 0), none] [] μ K := by
  have R : ∀ a j, 31 ≤ a → a < 88 → zI μ a j = ρ a j := fun a j h1 h2 => rfz hρ h1 h2
  refine lpd (P := fun j => AW E l (d + 2) nc ns mX11_sellUsed 12 [some (.ref 31), some (.int (nI m)), some (.int (nI j)), none] [] μ K) (n := k0) k ?_
  intro j hj ih
  have l1 : ¬ ρ 31 14 ≤ nI j := by rw [hU]; exact nI_ge (by omega) (by omega)
  have l3 : vp_in (nI j) 300 := vp_in_nI (by omega) (by decide)
  have l4 : (nI j).toNatClampNeg = j := nI_clamp (by omega)
  refine t_X11_sellUsed_12 hS ?_
  simp only [← nI_1] at ih
  have q := hn j hj
  simp (disch := omega) only [R, l1, l3, l4, true_implies, false_implies, implies_true, not_true_eq_false, not_false_eq_true, and_true, true_and, Option.some.injEq, reduceCtorEq, forall_eq', forall_eq]
  by_cases q1 : ρ 42 j = nI m <;> by_cases q2 : ρ 44 j = 0
  · simp (disch := omega) only [q1, q2, true_implies, false_implies, implies_true, not_true_eq_false, not_false_eq_true, and_true, true_and, Option.some.injEq, reduceCtorEq, forall_eq', forall_eq]
    exact ih
  · exact absurd ⟨q1, q2⟩ q
  · simp (disch := omega) only [q1, q2, true_implies, false_implies, implies_true, not_true_eq_false, not_false_eq_true, and_true, true_and, Option.some.injEq, reduceCtorEq, forall_eq', forall_eq]
    exact ih
  · simp (disch := omega) only [q1, q2, true_implies, false_implies, implies_true, not_true_eq_false, not_false_eq_true, and_true, true_and, Option.some.injEq, reduceCtorEq, forall_eq', forall_eq]
    exact ih
set_option maxHeartbeats 4000000 in
theorem pr_sellUsed (hI : IV g L X t μ) : PRp E l d L X t mX10_sellUsed mX11_sellUsed [some (.ref 11), some (.int x1), none, none, none] [some (.ref 31), some (.int x1), none, none] μ := by
  obtain ⟨ρ, hρ⟩ : ∃ ρ, rf μ = ρ := ⟨_, rfl⟩
  have hS := hI.st
  have hr := hI.r hρ
  have hc := hI.c hρ
  have R : ∀ a j, 31 ≤ a → a < 88 → zI μ a j = ρ a j := fun a j h1 h2 => rfz hρ h1 h2
  obtain ⟨s1, s2, s3, s4, s5, s6, s7, s8, s9, s10, s11⟩ := hc.s
  obtain ⟨b1, b2, b3, b4, b5, b6, b7, b8⟩ := hr.s
  have hU : IV g L X (t + 1) μ := hI.up (Nat.le_succ t)
  refine PRp.mk fun K hK => ?_
  have hA := hS.N
  rcases ix3 x1 (n := nM ρ) (by have := b1.2; omega) with h | ⟨h, h'⟩ | ⟨i, hi, rfl⟩
  · refine t_X10_sellUsed hS ?_
    simp (disch := omega) only [h, true_implies, false_implies, implies_true, not_true_eq_false, not_false_eq_true, and_true, true_and, Option.some.injEq, reduceCtorEq, forall_eq', forall_eq]
    refine hK _ _ hS hI.s0 fun Q hQ => t_X11_sellUsed hS ?_
    simp (disch := omega) only [h, R, true_implies, false_implies, implies_true, not_true_eq_false, not_false_eq_true, and_true, true_and, Option.some.injEq, reduceCtorEq, forall_eq', forall_eq]
    exact hQ _ _ hU
  · rw [← b1.1] at h'
    refine t_X10_sellUsed hS ?_
    simp (disch := omega) only [h, h', s1, true_implies, false_implies, implies_true, not_true_eq_false, not_false_eq_true, and_true, true_and, Option.some.injEq, reduceCtorEq, forall_eq', forall_eq]
    refine hK _ _ hS hI.s0 fun Q hQ => t_X11_sellUsed hS ?_
    simp (disch := omega) only [h, h', R, true_implies, false_implies, implies_true, not_true_eq_false, not_false_eq_true, and_true, true_and, Option.some.injEq, reduceCtorEq, forall_eq', forall_eq]
    exact hQ _ _ hU
  · have b20 := b1.2
    have h1 : ¬ nI i < 0 := nI_pos (by omega)
    have h2 := ix_lt (by omega) hi
    have h3 : vp_in (nI i) 20 := vp_in_nI (by omega) (by decide)
    have h4 : (nI i).toNatClampNeg = i := nI_clamp (by omega)
    rw [← b1.1] at h2
    obtain ⟨m1, m2, m3, m4, m5, m6, m7, m8, m9, m10, m11, m12⟩ := hc.m hi
    obtain ⟨p1, p2, p3, p4, p5, p6, p7, p8, p9⟩ := m4
    obtain ⟨r1, r2, r3, r4, r5, r6⟩ := hr.m hi
    have nu := nU_le hr hc
    have b300 := b3.2
    obtain ⟨u1, us, u2, u3, u4, u5⟩ := hc.u
    obtain ⟨y1, y2, y3⟩ := u5 i hi
    cases hq : qsF ρ i with
    | nil =>
      rw [hq] at y1
      have y1 : zA μ (maF μ i) 11 = none := y1
      have nn : ∀ k, k < nU ρ → ¬ (ρ 42 k = nI i ∧ ¬ ρ 44 k = 0) := fun k hk z => by
        have : k ∈ qsF ρ i := by
          unfold qsF
          rw [List.mem_filter]
          exact ⟨List.mem_range.mpr hk, by simp [z.1, z.2]⟩
        rw [hq] at this
        cases this
      refine t_X10_sellUsed hS ?_
      simp (disch := omega) only [h1, h2, h3, h4, s1, m1, p1, true_implies, false_implies, implies_true, not_true_eq_false, not_false_eq_true, and_true, true_and, Option.some.injEq, reduceCtorEq, forall_eq', forall_eq]
      refine t_X4_takeUsed hS ⟨p1, fun _ => Or.inl ⟨rfl, hS, ?_⟩, fun b hb => absurd (y1.symm.trans hb) (by simp)⟩
      refine hK _ _ hS hI.s0 fun Q hQ => t_X11_sellUsed hS ?_
      simp (disch := omega) only [h1, h2, R, true_implies, false_implies, implies_true, not_true_eq_false, not_false_eq_true, and_true, true_and, Option.some.injEq, reduceCtorEq, forall_eq', forall_eq]
      refine r_sellU12 hS hρ u1 (by omega) (Nat.le_refl _) nn ?_
      refine t_X11_sellUsed_12 hS ?_
      have lE : ρ 31 14 ≤ nI (nU ρ) := by rw [u1]; exact Int32.le_refl _
      simp (disch := omega) only [R, lE, true_implies, false_implies, implies_true, not_true_eq_false, not_false_eq_true, and_true, true_and, Option.some.injEq, reduceCtorEq, forall_eq', forall_eq]
      exact hQ _ _ hU
    | cons k0 r =>
      obtain ⟨q1, q2, q3, q4⟩ := qsF_head hq
      rw [hq] at y1
      obtain ⟨w1, w2, w3, w4, w5⟩ := u2 k0 q1
      obtain ⟨s, hs⟩ : ∃ s, s = us k0 := ⟨_, rfl⟩
      rw [← hs] at w1 w2 w3 w4 w5
      have y1a : zA μ (maF μ i) 11 = some (saF μ s) := by rw [hs]; exact y1.1
      have esm : smo ρ s = i := by
        rw [q2] at w4
        have hsl := (hr.l (hr.sa w1).2.1).2.1
        have : smo ρ s < nM ρ := hsl
        exact ((nI_eq (by omega) (by omega)).mp w4).symm
      have ks := k_sa hc w1
      obtain ⟨c1, c2, c3, c4, c5, c6, c7, c8, c9, c10, c11, c12, c13, c14, c15, c16, c17, c18, c19, c20, c21, c22, c23⟩ := hc.sa w1
      rw [esm] at c6
      have t16 := (hr.sa w1).2.2.2.2.2.2.2.2.2.2.2.2.2.2.2.1 w3
      have c23 := c23 w3
      obtain ⟨e1, e2, e3, e4, e5, e6, e7, e8, e9, e10, e11, e12, e13, e14, e15, e16, e17, e18, e19, e20⟩ := hc.a t16.2
      have nsB : saF μ s ≠ maF μ i := kne c4 p1 (by decide)
      have naB : aaF μ (tN (ρ 61 s)) ≠ maF μ i := kne e4 p1 (by decide)
      have lE : ¬ ρ 31 14 ≤ nI k0 := by rw [u1]; exact nI_ge q1 (by omega)
      have vk : vp_in (nI k0) 300 := vp_in_nI (by omega) (by decide)
      have ck : (nI k0).toNatClampNeg = k0 := nI_clamp (by omega)
      obtain ⟨wn, hwn, ewn⟩ := dg_lt (ρ 79 (tN (ρ 61 s))) 3
      rw [ewn] at w5
      have tl := usW_l (w := wn) hr hi hwn
      -- one end for both ways of the queue
      have fin : ∀ (M0 : ZM) (nx : Option Nat), zA μ (saF μ s) 19 = nx → M0 = sI (sA (sA μ (maF μ i) 11 nx) (maF μ i) 12 (if nx = none then none else zA μ (maF μ i) 12)) (maF μ i) 8 (zI μ (maF μ i) 8 - 1) → ∀ M1, M1 = M0 → AW E l (d + 298) 0 0 mX10_usedWorth 0 (zargs 2 [.ref 11, .ref (saF μ s)]) [] M1 (fun v μ10 => ∃ r12 : Int32, v = some (.int r12) ∧ Stat μ10 ∧ K (some (.int r12)) (sI μ10 17 2 ((zI μ10 17 2) + r12))) := by
        intro M0 nx hnx eM0 M1 eM1
        rw [eM0] at eM1
        have hS1 : Stat M1 := by
          rw [eM1]
          exact (((hS.wAhi m2).wAhi m2).wI)
        have rr : rf M1 = ρ := by
          rw [eM1]
          simp (disch := first | omega | (simp only [zN_sI, zN_sJ, zN_sA, zN_sNew]; done) | (simp only [zN_sI, zN_sJ, zN_sA, zN_sNew]; omega)) only [rf_wi, rf_wa, hρ]
        have qm : ∀ j, maF M1 j = maF μ j := fun j => by
          have : zA M1 12 j = zA μ 12 j := by rw [eM1]; simp (disch := first | omega | (simp only [zN_sI, zN_sJ, zN_sA, zN_sNew]; done) | (simp only [zN_sI, zN_sJ, zN_sA, zN_sNew]; omega)) only [zA_sI, zK_sI, zN_sI, zL_sI, zK_sA, zN_sA, zL_sA, zI_sA, zN_sNew, zI_ne, zI_nk, zI_eq, zA_ne, zA_nk, zA_eq, zI_nn, zA_nn, zK_nn, zL_nn, zI_ne', zA_ne', zK_ne', zL_ne']
          unfold maF
          rw [this]
        have cm1 : CRm M1 ρ i := by
          unfold CRm MdlP
          rw [qm, eM1]
          simp (disch := first | omega | (simp only [zN_sI, zN_sJ, zN_sA, zN_sNew]; done) | (simp only [zN_sI, zN_sJ, zN_sA, zN_sNew]; omega)) only [zA_sI, zK_sI, zN_sI, zL_sI, zK_sA, zN_sA, zL_sA, zI_sA, zN_sNew, zI_ne, zI_nk, zI_eq, zA_ne, zA_nk, zA_eq, zI_nn, zA_nn, zK_nn, zL_nn, zI_ne', zA_ne', zK_ne', zL_ne']
          exact ⟨m1, m2, m3, ⟨p1, p2, p3, p4, p5, p6, p7, p8, p9⟩, m5, m6, m7, m8, m9, m10, m11, m12⟩
        have a1 : zK M1 (saF μ s) = 7 := by rw [eM1]; simp (disch := first | omega | (simp only [zN_sI, zN_sJ, zN_sA, zN_sNew]; done) | (simp only [zN_sI, zN_sJ, zN_sA, zN_sNew]; omega)) only [zA_sI, zK_sI, zN_sI, zL_sI, zK_sA, zN_sA, zL_sA, zI_sA, zN_sNew, zI_ne, zI_nk, zI_eq, zA_ne, zA_nk, zA_eq, zI_nn, zA_nn, zK_nn, zL_nn, zI_ne', zA_ne', zK_ne', zL_ne', c4]
        have a2 : zA M1 (saF μ s) 1 = some (maF μ i) := by rw [eM1]; simp (disch := first | omega | (simp only [zN_sI, zN_sJ, zN_sA, zN_sNew]; done) | (simp only [zN_sI, zN_sJ, zN_sA, zN_sNew]; omega)) only [zA_sI, zK_sI, zN_sI, zL_sI, zK_sA, zN_sA, zL_sA, zI_sA, zN_sNew, zI_ne, zI_nk, zI_eq, zA_ne, zA_nk, zA_eq, zI_nn, zA_nn, zK_nn, zL_nn, zI_ne', zA_ne', zK_ne', zL_ne', c6]
        have a3 : zK M1 (maF μ i) = 4 := by rw [eM1]; simp (disch := first | omega | (simp only [zN_sI, zN_sJ, zN_sA, zN_sNew]; done) | (simp only [zN_sI, zN_sJ, zN_sA, zN_sNew]; omega)) only [zA_sI, zK_sI, zN_sI, zL_sI, zK_sA, zN_sA, zL_sA, zI_sA, zN_sNew, zI_ne, zI_nk, zI_eq, zA_ne, zA_nk, zA_eq, zI_nn, zA_nn, zK_nn, zL_nn, zI_ne', zA_ne', zK_ne', zL_ne', p1]
        have a4 : zI M1 11 17 = ρ 31 1 := by rw [eM1]; simp (disch := first | omega | (simp only [zN_sI, zN_sJ, zN_sA, zN_sNew]; done) | (simp only [zN_sI, zN_sJ, zN_sA, zN_sNew]; omega)) only [zA_sI, zK_sI, zN_sI, zL_sI, zK_sA, zN_sA, zL_sA, zI_sA, zN_sNew, zI_ne, zI_nk, zI_eq, zA_ne, zA_nk, zA_eq, zI_nn, zA_nn, zK_nn, zL_nn, zI_ne', zA_ne', zK_ne', zL_ne', s6]
        have a5 : zA M1 (saF μ s) 18 = some (aaF μ (tN (ρ 61 s))) := by rw [eM1]; simp (disch := first | omega | (simp only [zN_sI, zN_sJ, zN_sA, zN_sNew]; done) | (simp only [zN_sI, zN_sJ, zN_sA, zN_sNew]; omega)) only [zA_sI, zK_sI, zN_sI, zL_sI, zK_sA, zN_sA, zL_sA, zI_sA, zN_sNew, zI_ne, zI_nk, zI_eq, zA_ne, zA_nk, zA_eq, zI_nn, zA_nn, zK_nn, zL_nn, zI_ne', zA_ne', zK_ne', zL_ne', c23]
        have a6 : zK M1 (aaF μ (tN (ρ 61 s))) = 0 := by rw [eM1]; simp (disch := first | omega | (simp only [zN_sI, zN_sJ, zN_sA, zN_sNew]; done) | (simp only [zN_sI, zN_sJ, zN_sA, zN_sNew]; omega)) only [zA_sI, zK_sI, zN_sI, zL_sI, zK_sA, zN_sA, zL_sA, zI_sA, zN_sNew, zI_ne, zI_nk, zI_eq, zA_ne, zA_nk, zA_eq, zI_nn, zA_nn, zK_nn, zL_nn, zI_ne', zA_ne', zK_ne', zL_ne', e4]
        have a7 : zI M1 (aaF μ (tN (ρ 61 s))) 8 = nI wn := by rw [eM1]; simp (disch := first | omega | (simp only [zN_sI, zN_sJ, zN_sA, zN_sNew]; done) | (simp only [zN_sI, zN_sJ, zN_sA, zN_sNew]; omega)) only [zA_sI, zK_sI, zN_sI, zL_sI, zK_sA, zN_sA, zL_sA, zI_sA, zN_sNew, zI_ne, zI_nk, zI_eq, zA_ne, zA_nk, zA_eq, zI_nn, zA_nn, zK_nn, zL_nn, zI_ne', zA_ne', zK_ne', zL_ne', e13, ewn]
        have a8 : zI M1 17 2 = ρ 31 2 := by rw [eM1]; simp (disch := first | omega | (simp only [zN_sI, zN_sJ, zN_sA, zN_sNew]; done) | (simp only [zN_sI, zN_sJ, zN_sA, zN_sNew]; omega)) only [zA_sI, zK_sI, zN_sI, zL_sI, zK_sA, zN_sA, zL_sA, zI_sA, zN_sNew, zI_ne, zI_nk, zI_eq, zA_ne, zA_nk, zA_eq, zI_nn, zA_nn, zK_nn, zL_nn, zI_ne', zA_ne', zK_ne', zL_ne', s8]
        refine t_X10_usedWorth hS1 ?_
        simp (disch := omega) only [a1, a2, a3, a4, true_implies, false_implies, implies_true, not_true_eq_false, not_false_eq_true, and_true, true_and, Option.some.injEq, reduceCtorEq, forall_eq', forall_eq]
        have := c_priceM (E := E) (l := l) (d := d + 297) (nc := 0) (ns := 0) (day := ρ 31 1 / 24) hS1 hr hi cm1 (K := fun v m => v = some (.int (prR ρ i (ρ 31 1 / 24))) ∧ M1 = m) ⟨rfl, rfl⟩
        rw [qm] at this
        refine this.mono ?_
        rintro v m ⟨rfl, rfl⟩
        refine ⟨_, rfl, hS1, ?_⟩
        simp (disch := omega) only [a1, a5, a6, a7, true_implies, false_implies, implies_true, not_true_eq_false, not_false_eq_true, and_true, true_and, Option.some.injEq, reduceCtorEq, forall_eq', forall_eq]
        refine ⟨_, rfl, hS1, ?_⟩
        rw [a8]
        have eu : prR ρ i (ρ 31 1 / 24) * (90 - 8 * nI wn) / 100 = usW ρ i (nI wn) := rfl
        rw [eu]
        refine hK _ _ hS1.wI (by rw [eM1]; repeat' (with_reducible first | exact hI.s0 | refine S0.wi ?_ (by omega) | refine S0.wa ?_ | refine S0.wn ?_ (by first | omega | (simp only [zN_sI, zN_sA, zN_sNew]; omega)))) fun Q hQ => t_X11_sellUsed hS1.wI ?_
        have rr2 : rf (sI M1 17 2 (ρ 31 2 + usW ρ i (nI wn))) = ρ := by
          rw [rf_wi (by decide)]
          exact rr
        have R2 : ∀ a j, 31 ≤ a → a < 88 → zI (sI M1 17 2 (ρ 31 2 + usW ρ i (nI wn))) a j = ρ a j := fun a j h1 h2 => rfz rr2 h1 h2
        simp (disch := omega) only [h1, h2, R2, true_implies, false_implies, implies_true, not_true_eq_false, not_false_eq_true, and_true, true_and, Option.some.injEq, reduceCtorEq, forall_eq', forall_eq]
        refine r_sellU12 hS1.wI rr2 u1 (by omega) (by omega) q4 ?_
        refine t_X11_sellUsed_12 hS1.wI ?_
        simp (disch := omega) only [R2, lE, vk, ck, q2, q3, h3, h4, zI_ne, w5, true_implies, false_implies, implies_true, not_true_eq_false, not_false_eq_true, and_true, true_and, Option.some.injEq, reduceCtorEq, forall_eq', forall_eq]
        refine t_X11_asUsed (by repeat' (with_reducible first | exact hS1 | exact hA | refine Stat.wI ?_ | refine Stat.wNew ?_ | refine Stat.wAr ?_ (by decide) | refine Stat.wAhi ?_ ?_)) ?_
        simp (disch := omega) only [R2, zI_ne]
        refine r_priceM (by repeat' (with_reducible first | exact hS1 | exact hA | refine Stat.wI ?_ | refine Stat.wNew ?_ | refine Stat.wAr ?_ (by decide) | refine Stat.wAhi ?_ ?_)) hr hi (by simp (disch := first | omega | (simp only [zN_sI, zN_sJ, zN_sA, zN_sNew]; done) | (simp only [zN_sI, zN_sJ, zN_sA, zN_sNew]; omega)) only [zA_sI, zK_sI, zN_sI, zL_sI, zK_sA, zN_sA, zL_sA, zI_sA, zN_sNew, zI_ne, zI_nk, zI_eq, zA_ne, zA_nk, zA_eq, zI_nn, zA_nn, zK_nn, zL_nn, zI_ne', zA_ne', zK_ne', zL_ne', R2]) (fun j => by simp (disch := first | omega | (simp only [zN_sI, zN_sJ, zN_sA, zN_sNew]; done) | (simp only [zN_sI, zN_sJ, zN_sA, zN_sNew]; omega)) only [zA_sI, zK_sI, zN_sI, zL_sI, zK_sA, zN_sA, zL_sA, zI_sA, zN_sNew, zI_ne, zI_nk, zI_eq, zA_ne, zA_nk, zA_eq, zI_nn, zA_nn, zK_nn, zL_nn, zI_ne', zA_ne', zK_ne', zL_ne', R2]) (fun j => by simp (disch := first | omega | (simp only [zN_sI, zN_sJ, zN_sA, zN_sNew]; done) | (simp only [zN_sI, zN_sJ, zN_sA, zN_sNew]; omega)) only [zA_sI, zK_sI, zN_sI, zL_sI, zK_sA, zN_sA, zL_sA, zI_sA, zN_sNew, zI_ne, zI_nk, zI_eq, zA_ne, zA_nk, zA_eq, zI_nn, zA_nn, zK_nn, zL_nn, zI_ne', zA_ne', zK_ne', zL_ne', R2]) ⟨_, rfl, by repeat' (with_reducible first | exact hS1 | exact hA | refine Stat.wI ?_ | refine Stat.wNew ?_ | refine Stat.wAr ?_ (by decide) | refine Stat.wAhi ?_ ?_), ?_⟩
        rw [tl]
        refine ⟨_, rfl, by repeat' (with_reducible first | exact hS1 | exact hA | refine Stat.wI ?_ | refine Stat.wNew ?_ | refine Stat.wAr ?_ (by decide) | refine Stat.wAhi ?_ ?_), ?_⟩
        simp (disch := omega) only [R2, zI_ne]
        refine hQ g _ ?_
        refine nmI (P := IV g L X (t + 1)) fun M2 hM => ?_
        have hS2 : Stat M2 := by
          rw [hM]
          repeat' (with_reducible first | exact hS1 | exact hA | refine Stat.wI ?_ | refine Stat.wNew ?_ | refine Stat.wAr ?_ (by decide) | refine Stat.wAhi ?_ ?_)
        rw [eM1] at hM
        have qs : ∀ j, saF M2 j = saF μ j := fun j => by unfold saF; simp (disch := first | omega | (simp only [zN_sI, zN_sJ, zN_sA, zN_sNew]; done) | (simp only [zN_sI, zN_sJ, zN_sA, zN_sNew]; omega)) only [rf_z, hM, zA_sI, zK_sI, zN_sI, zL_sI, zK_sA, zN_sA, zL_sA, zI_sA, zN_sNew, zI_ne, zI_nk, zI_eq, zA_ne, zA_nk, zA_eq, zI_nn, zA_nn, zK_nn, zL_nn, zI_ne', zA_ne', zK_ne', zL_ne', R]
        have qm : ∀ j, maF M2 j = maF μ j := fun j => by unfold maF; simp (disch := first | omega | (simp only [zN_sI, zN_sJ, zN_sA, zN_sNew]; done) | (simp only [zN_sI, zN_sJ, zN_sA, zN_sNew]; omega)) only [rf_z, hM, zA_sI, zK_sI, zN_sI, zL_sI, zK_sA, zN_sA, zL_sA, zI_sA, zN_sNew, zI_ne, zI_nk, zI_eq, zA_ne, zA_nk, zA_eq, zI_nn, zA_nn, zK_nn, zL_nn, zI_ne', zA_ne', zK_ne', zL_ne', R]
        have r42 : ∀ b j, (42 ≤ b ∧ b < 44) ∨ (45 ≤ b ∧ b < 88) → rf M2 b j = ρ b j := fun b j hb => by simp (disch := first | omega | (simp only [zN_sI, zN_sJ, zN_sA, zN_sNew]; done) | (simp only [zN_sI, zN_sJ, zN_sA, zN_sNew]; omega)) only [rf_z, hM, zA_sI, zK_sI, zN_sI, zL_sI, zK_sA, zN_sA, zL_sA, zI_sA, zN_sNew, zI_ne, zI_nk, zI_eq, zA_ne, zA_nk, zA_eq, zI_nn, zA_nn, zK_nn, zL_nn, zI_ne', zA_ne', zK_ne', zL_ne', R]
        have qsl : ∀ j, sl (rf M2) j = sl ρ j := fun j => by unfold sl; rw [r42 _ _ (by decide)]
        have qlm : ∀ j, lm (rf M2) j = lm ρ j := fun j => by unfold lm; rw [r42 _ _ (by decide)]
        have qsm : ∀ j, smo (rf M2) j = smo ρ j := fun j => by unfold smo; rw [qsl, qlm]
        have qM : nM (rf M2) = nM ρ := by unfold nM; simp (disch := first | omega | (simp only [zN_sI, zN_sJ, zN_sA, zN_sNew]; done) | (simp only [zN_sI, zN_sJ, zN_sA, zN_sNew]; omega)) only [rf_z, hM, zA_sI, zK_sI, zN_sI, zL_sI, zK_sA, zN_sA, zL_sA, zI_sA, zN_sNew, zI_ne, zI_nk, zI_eq, zA_ne, zA_nk, zA_eq, zI_nn, zA_nn, zK_nn, zL_nn, zI_ne', zA_ne', zK_ne', zL_ne', R]
        have qS : nS (rf M2) = nS ρ := by unfold nS; simp (disch := first | omega | (simp only [zN_sI, zN_sJ, zN_sA, zN_sNew]; done) | (simp only [zN_sI, zN_sJ, zN_sA, zN_sNew]; omega)) only [rf_z, hM, zA_sI, zK_sI, zN_sI, zL_sI, zK_sA, zN_sA, zL_sA, zI_sA, zN_sNew, zI_ne, zI_nk, zI_eq, zA_ne, zA_nk, zA_eq, zI_nn, zA_nn, zK_nn, zL_nn, zI_ne', zA_ne', zK_ne', zL_ne', R]
        have qA : nA (rf M2) = nA ρ := by unfold nA; simp (disch := first | omega | (simp only [zN_sI, zN_sJ, zN_sA, zN_sNew]; done) | (simp only [zN_sI, zN_sJ, zN_sA, zN_sNew]; omega)) only [rf_z, hM, zA_sI, zK_sI, zN_sI, zL_sI, zK_sA, zN_sA, zL_sA, zI_sA, zN_sNew, zI_ne, zI_nk, zI_eq, zA_ne, zA_nk, zA_eq, zI_nn, zA_nn, zK_nn, zL_nn, zI_ne', zA_ne', zK_ne', zL_ne', R]
        refine IV.fr4 (Ps := (fun _ => False)) (Pa := (fun _ => False)) (Pl := (fun _ => False)) (Pm := (· = i)) hI hS2 ?_ (fun _ => by rw [hM]; simp only [zJ_sI, zJ_sA]) hρ rfl (Nat.le_succ t) ?_ (fun j hj p => ?_) (fun _ _ p => p.elim) (fun _ _ p => p.elim) (fun _ _ p => p.elim) ⟨fun _ p => p.elim, fun _ p => p.elim, fun j p => by rw [p]; exact hi⟩ ?_ ?_ ?_ ?_
        · rw [hM]
          repeat' (with_reducible first | exact EqX.rfl | refine EqX.wi ?_ (by first | exact W4.p (by decide) | exact W4.m (Pm := _) rfl hi | exact W4.rm (Pm := _) (by decide) (by decide) (by decide) (by decide) rfl | exact W4.u (by decide) (by decide) | exact W4.rp (by decide)) | refine EqX.wa ?_ (WA4.m (Pm := _) rfl hi))
        · refine hr.s.cg2 fun j hj => ?_
          simp (disch := first | omega | (simp only [zN_sI, zN_sJ, zN_sA, zN_sNew]; done) | (simp only [zN_sI, zN_sJ, zN_sA, zN_sNew]; omega)) only [rf_z, hM, zA_sI, zK_sI, zN_sI, zL_sI, zK_sA, zN_sA, zL_sA, zI_sA, zN_sNew, zI_ne, zI_nk, zI_eq, zA_ne, zA_nk, zA_eq, zI_nn, zA_nn, zK_nn, zL_nn, zI_ne', zA_ne', zK_ne', zL_ne', R]
        · subst p
          constructor
          · unfold RIm
            simp (disch := first | omega | (simp only [zN_sI, zN_sJ, zN_sA, zN_sNew]; done) | (simp only [zN_sI, zN_sJ, zN_sA, zN_sNew]; omega)) only [rf_z, hM, zA_sI, zK_sI, zN_sI, zL_sI, zK_sA, zN_sA, zL_sA, zI_sA, zN_sNew, zI_ne, zI_nk, zI_eq, zA_ne, zA_nk, zA_eq, zI_nn, zA_nn, zK_nn, zL_nn, zI_ne', zA_ne', zK_ne', zL_ne', R]
            exact ⟨r1, r2, r3, r4, ⟨r5.1, by have := r5.2; omega⟩, r6⟩
          · unfold CRm MdlP
            rw [qm]
            simp (disch := first | omega | (simp only [zN_sI, zN_sJ, zN_sA, zN_sNew]; done) | (simp only [zN_sI, zN_sJ, zN_sA, zN_sNew]; omega)) only [rf_z, hM, zA_sI, zK_sI, zN_sI, zL_sI, zK_sA, zN_sA, zL_sA, zI_sA, zN_sNew, zI_ne, zI_nk, zI_eq, zA_ne, zA_nk, zA_eq, zI_nn, zA_nn, zK_nn, zL_nn, zI_ne', zA_ne', zK_ne', zL_ne', R, true_implies, false_implies, implies_true, not_true_eq_false, not_false_eq_true, and_true, true_and, Option.some.injEq, reduceCtorEq, forall_eq', forall_eq]
            exact ⟨m1, m2, m3, ⟨p1, p2, p3, p4, p5, p6, p7, p8, p9⟩, m5, m6, m7, m8, m9, m10, m11, m12⟩
        · exact hr.w.cg qA (fun j hj => ⟨r42 _ _ (by decide), by unfold as_; rw [r42 _ _ (by decide)]⟩) (fun j hj q1 q2 => by rw [r42 _ _ (by decide)]; exact q2)
        · unfold CRs
          simp (disch := first | omega | (simp only [zN_sI, zN_sJ, zN_sA, zN_sNew]; done) | (simp only [zN_sI, zN_sJ, zN_sA, zN_sNew]; omega)) only [rf_z, hM, zA_sI, zK_sI, zN_sI, zL_sI, zK_sA, zN_sA, zL_sA, zI_sA, zN_sNew, zI_ne, zI_nk, zI_eq, zA_ne, zA_nk, zA_eq, zI_nn, zA_nn, zK_nn, zL_nn, zI_ne', zA_ne', zK_ne', zL_ne', R, s1, s2, s3, s4, s5, s6, s7, s8, s9, s10, s11, true_implies, false_implies, implies_true, not_true_eq_false, not_false_eq_true, and_true, true_and, Option.some.injEq, reduceCtorEq, forall_eq', forall_eq]
        · refine hc.n.cg ?_ ?_ (fun j => ?_) (fun j => ?_) (fun j => r42 _ _ (by decide)) (fun j => r42 _ _ (by decide))
          · unfold nN
            simp (disch := first | omega | (simp only [zN_sI, zN_sJ, zN_sA, zN_sNew]; done) | (simp only [zN_sI, zN_sJ, zN_sA, zN_sNew]; omega)) only [rf_z, hM, zA_sI, zK_sI, zN_sI, zL_sI, zK_sA, zN_sA, zL_sA, zI_sA, zN_sNew, zI_ne, zI_nk, zI_eq, zA_ne, zA_nk, zA_eq, zI_nn, zA_nn, zK_nn, zL_nn, zI_ne', zA_ne', zK_ne', zL_ne', R]
          · unfold tL
            simp (disch := first | omega | (simp only [zN_sI, zN_sJ, zN_sA, zN_sNew]; done) | (simp only [zN_sI, zN_sJ, zN_sA, zN_sNew]; omega)) only [rf_z, hM, zA_sI, zK_sI, zN_sI, zL_sI, zK_sA, zN_sA, zL_sA, zI_sA, zN_sNew, zI_ne, zI_nk, zI_eq, zA_ne, zA_nk, zA_eq, zI_nn, zA_nn, zK_nn, zL_nn, zI_ne', zA_ne', zK_ne', zL_ne', R]
          all_goals simp (disch := first | omega | (simp only [zN_sI, zN_sJ, zN_sA, zN_sNew]; done) | (simp only [zN_sI, zN_sJ, zN_sA, zN_sNew]; omega)) only [rf_z, hM, zA_sI, zK_sI, zN_sI, zL_sI, zK_sA, zN_sA, zL_sA, zI_sA, zN_sNew, zI_ne, zI_nk, zI_eq, zA_ne, zA_nk, zA_eq, zI_nn, zA_nn, zK_nn, zL_nn, zI_ne', zA_ne', zK_ne', zL_ne', R]
        · refine CRu.take hr hc hi hq ?_ qS qM (fun j => r42 _ _ (by decide)) (fun j => r42 _ _ (by decide)) (fun j hj => ?_) ?_ (fun j => r42 _ _ (by decide)) (fun j => r42 _ _ (by decide)) (fun j => r42 _ _ (by decide)) (fun j => r42 _ _ (by decide)) qsm qs qm (fun j hj => ?_) (fun k hk hne => ?_) (saF μ s) y1a ?_ ?_ ?_
          · simp (disch := first | omega | (simp only [zN_sI, zN_sJ, zN_sA, zN_sNew]; done) | (simp only [zN_sI, zN_sJ, zN_sA, zN_sNew]; omega)) only [rf_z, hM, zA_sI, zK_sI, zN_sI, zL_sI, zK_sA, zN_sA, zL_sA, zI_sA, zN_sNew, zI_ne, zI_nk, zI_eq, zA_ne, zA_nk, zA_eq, zI_nn, zA_nn, zK_nn, zL_nn, zI_ne', zA_ne', zK_ne', zL_ne', R]
          · simp (disch := first | omega | (simp only [zN_sI, zN_sJ, zN_sA, zN_sNew]; done) | (simp only [zN_sI, zN_sJ, zN_sA, zN_sNew]; omega)) only [rf_z, hM, zA_sI, zK_sI, zN_sI, zL_sI, zK_sA, zN_sA, zL_sA, zI_sA, zN_sNew, zI_ne, zI_nk, zI_eq, zA_ne, zA_nk, zA_eq, zI_nn, zA_nn, zK_nn, zL_nn, zI_ne', zA_ne', zK_ne', zL_ne', R]
          · simp (disch := first | omega | (simp only [zN_sI, zN_sJ, zN_sA, zN_sNew]; done) | (simp only [zN_sI, zN_sJ, zN_sA, zN_sNew]; omega)) only [rf_z, hM, zA_sI, zK_sI, zN_sI, zL_sI, zK_sA, zN_sA, zL_sA, zI_sA, zN_sNew, zI_ne, zI_nk, zI_eq, zA_ne, zA_nk, zA_eq, zI_nn, zA_nn, zK_nn, zL_nn, zI_ne', zA_ne', zK_ne', zL_ne', R]
          · have kj := (k_sa hc hj).1
            have njB : saF μ j ≠ maF μ i := kne kj p1 (by decide)
            simp (disch := first | omega | (simp only [zN_sI, zN_sJ, zN_sA, zN_sNew]; done) | (simp only [zN_sI, zN_sJ, zN_sA, zN_sNew]; omega)) only [rf_z, hM, zA_sI, zK_sI, zN_sI, zL_sI, zK_sA, zN_sA, zL_sA, zI_sA, zN_sNew, zI_ne, zI_nk, zI_eq, zA_ne, zA_nk, zA_eq, zI_nn, zA_nn, zK_nn, zL_nn, zI_ne', zA_ne', zK_ne', zL_ne', R]
          · have kk := k_ma hc hk
            have n1 : maF μ k ≠ maF μ i := fun z => hne (ma_inj hr hc hk hi z)
            simp (disch := first | omega | (simp only [zN_sI, zN_sJ, zN_sA, zN_sNew]; done) | (simp only [zN_sI, zN_sJ, zN_sA, zN_sNew]; omega)) only [rf_z, hM, zA_sI, zK_sI, zN_sI, zL_sI, zK_sA, zN_sA, zL_sA, zI_sA, zN_sNew, zI_ne, zI_nk, zI_eq, zA_ne, zA_nk, zA_eq, zI_nn, zA_nn, zK_nn, zL_nn, zI_ne', zA_ne', zK_ne', zL_ne', R, and_self]
          · rw [hnx]
            simp (disch := first | omega | (simp only [zN_sI, zN_sJ, zN_sA, zN_sNew]; done) | (simp only [zN_sI, zN_sJ, zN_sA, zN_sNew]; omega)) only [rf_z, hM, zA_sI, zK_sI, zN_sI, zL_sI, zK_sA, zN_sA, zL_sA, zI_sA, zN_sNew, zI_ne, zI_nk, zI_eq, zA_ne, zA_nk, zA_eq, zI_nn, zA_nn, zK_nn, zL_nn, zI_ne', zA_ne', zK_ne', zL_ne', R]
          · rw [hnx]
            simp (disch := first | omega | (simp only [zN_sI, zN_sJ, zN_sA, zN_sNew]; done) | (simp only [zN_sI, zN_sJ, zN_sA, zN_sNew]; omega)) only [rf_z, hM, zA_sI, zK_sI, zN_sI, zL_sI, zK_sA, zN_sA, zL_sA, zI_sA, zN_sNew, zI_ne, zI_nk, zI_eq, zA_ne, zA_nk, zA_eq, zI_nn, zA_nn, zK_nn, zL_nn, zI_ne', zA_ne', zK_ne', zL_ne', R]
          · simp (disch := first | omega | (simp only [zN_sI, zN_sJ, zN_sA, zN_sNew]; done) | (simp only [zN_sI, zN_sJ, zN_sA, zN_sNew]; omega)) only [rf_z, hM, zA_sI, zK_sI, zN_sI, zL_sI, zK_sA, zN_sA, zL_sA, zI_sA, zN_sNew, zI_ne, zI_nk, zI_eq, zA_ne, zA_nk, zA_eq, zI_nn, zA_nn, zK_nn, zL_nn, zI_ne', zA_ne', zK_ne', zL_ne', R]
      refine t_X10_sellUsed hS ?_
      simp (disch := omega) only [h1, h2, h3, h4, s1, m1, p1, true_implies, false_implies, implies_true, not_true_eq_false, not_false_eq_true, and_true, true_and, Option.some.injEq, reduceCtorEq, forall_eq', forall_eq]
      refine t_X4_takeUsed hS ?_
      cases hnx : zA μ (saF μ s) 19 with
      | none =>
        simp (disch := omega) only [p1, y1a, c4, hnx, zA_eq, zI_sA, true_implies, false_implies, implies_true, not_true_eq_false, not_false_eq_true, and_true, true_and, Option.some.injEq, reduceCtorEq, forall_eq', forall_eq]
        refine Or.inr ⟨_, rfl, ((hS.wAhi m2).wAhi m2).wI, ?_⟩
        exact fin _ none hnx rfl _ (by rw [if_pos rfl])
      | some b6 =>
        simp (disch := omega) only [p1, y1a, c4, hnx, zA_eq, zI_sA, true_implies, false_implies, implies_true, not_true_eq_false, not_false_eq_true, and_true, true_and, Option.some.injEq, reduceCtorEq, forall_eq', forall_eq]
        refine Or.inr ⟨_, rfl, (hS.wAhi m2).wI, ?_⟩
        refine fin _ (some b6) hnx rfl _ ?_
        rw [if_neg (by simp)]
        have : sA (sA μ (maF μ i) 11 (some b6)) (maF μ i) 12 (zA μ (maF μ i) 12) = sA μ (maF μ i) 11 (some b6) := by
          unfold sA
          congr 1
          congr 1
          congr 1
          congr 1
          congr 1
          funext b j
          unfold up2
          by_cases c : b = maF μ i ∧ j = 12
          · rw [if_pos c]
            obtain ⟨rfl, rfl⟩ := c
            show zA μ (maF μ i) 12 = if maF μ i = maF μ i ∧ 12 = 11 then _ else _
            rw [if_neg (by omega)]
            rfl
          · rw [if_neg c]
        rw [this]
end SellU
