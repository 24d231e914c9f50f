theorem rf_wi {μ : ZM} {a k : Nat} {x : Int32} (h : a < 31 ∨ 88 ≤ a) : rf (sI μ a k x) = rf μ := by
  funext b j
  unfold rf
  split
  · rw [zI_ne (by omega)]
  · rfl
theorem rf_wa {μ : ZM} {a k : Nat} {x : Option Nat} : rf (sA μ a k x) = rf μ := rfl
section SortP
variable {E : ZE} {l : Launch} {d : Nat} {g : Gh} {L : Nat} {X : Nat → Int32} {t : Nat} {μ : ZM} {x1 x2 x3 : Int32}
theorem pr_sort0 (hI : IV g L X t μ) {i : Nat} (hi : i < nS (rf μ)) (q : ¬ rf μ 60 i = 0) (hb : bst (wrI (rf μ) i) = 0) (ht : t ≤ 100000) : PRp E l d L X t mX10_sort mX11_sort [some (.ref 11), some (.int (nI i)), none, none] [some (.ref 31), some (.int (nI i)), none, none] μ := by
  obtain ⟨ρ, hρ⟩ : ∃ ρ, rf μ = ρ := ⟨_, rfl⟩
  have hS := hI.st
  have hr := hI.r hρ
  have hc := hI.c hρ
  have R : ∀ a j, 31 ≤ a → a < 88 → zI μ a j = ρ a j := fun a j h1 h2 => rfz hρ h1 h2
  obtain ⟨s1, s2, s3, s4, s5, s6, s7, s8, s9, s10, s11⟩ := hc.s
  obtain ⟨b1, b2, b3, b4, b5, b6, b7, b8⟩ := hr.s
  have hU : IV g L X (t + 1) μ := hI.up (Nat.le_succ t)
  refine PRp.mk fun K hK => ?_
  have hA := hS.N
  rw [hρ] at hi q hb
  have b300 := b3.2
  have h1 : ¬ nI i < 0 := nI_pos (by omega)
  have h2 := ix_lt (by omega) hi
  have h3 : vp_in (nI i) 300 := vp_in_nI (by omega) (by decide)
  have h4 : (nI i).toNatClampNeg = i := nI_clamp (by omega)
  rw [← b3.1] at h2
  obtain ⟨c1, c2, c3, c4, c5, c6, c7, c8, c9, c10, c11, c12, c13, c14, c15, c16, c17, c18, c19, c20, c21, c22, c23⟩ := hc.sa hi
  obtain ⟨d1, d2, d3, d4, d5, d6, d7, d8, d9, d10, d11, d12, d13, d14, d15, d16, d17, d18, d19⟩ := hr.sa hi
  have st : ρ 48 i = 2 := d14 (d10.resolve_left q)
  have lr := hr.l d2
  obtain ⟨m, hm⟩ : ∃ m, m = smo ρ i := ⟨_, rfl⟩
  have hm' : m < nM ρ := by rw [hm]; exact lr.2.1
  have e45 : ρ 45 (ρ 49 i).toNatClampNeg = nI m := by rw [hm]; exact lr.1
  have b20 := b1.2
  have v20 : vp_in (nI m) 20 := vp_in_nI (by omega) (by decide)
  have c20 : (nI m).toNatClampNeg = m := nI_clamp (by omega)
  have w3 := v_sl hr hi
  rw [← hm] at c6
  obtain ⟨m1, m2, m3, m4, m5, m6, m7, m8, m9, m10, m11, m12⟩ := hc.m hm'
  have m4' := m4
  obtain ⟨p1, p2, p3, p4, p5, p6, p7, p8, p9⟩ := m4
  obtain ⟨r1, r2, r3, r4, r5, r6⟩ := hr.m hm'
  have nAB : saF μ i ≠ maF μ m := kne c4 p1 (by decide)
  have nAB1 : maF μ m + 1 ≠ saF μ i := kne p6 c4 (by decide)
  have nAB2 : maF μ m + 2 ≠ saF μ i := kne p8 c4 (by decide)
  have neg1 : (-1 : Int32) < 0 := by decide
  have refS : ∀ (M1 : ZM) (Q : Option Value → ZM → Prop), Stat M1 → rf M1 = ρ → AW E l (d + 299) 0 0 mX11_sort 26 [some (.ref 31), some (.int (nI i)), some (.int (nI (bst (wrI ρ i)))), some (.int (-1))] [] M1 Q → AW E l (d + 299) 0 0 mX11_sort 0 [some (.ref 31), some (.int (nI i)), none, none] [] M1 Q := by
    intro M1 Q hS1 hr1 hq
    have R1 : ∀ a j, 31 ≤ a → a < 88 → zI M1 a j = ρ a j := fun a j h1 h2 => rfz hr1 h1 h2
    refine t_X11_sort hS1 ?_
    simp (disch := omega) only [h1, h2, h3, h4, R1, q, true_implies, false_implies, implies_true, not_true_eq_false, not_false_eq_true, and_true, true_and, Option.some.injEq, reduceCtorEq, forall_eq', forall_eq]
    exact r_best26 hS1 hr hr1 hi st (fun b hb => by rw [hb]; exact hq)
  refine t_X10_sort hS ?_
  simp (disch := omega) only [h1, h2, h3, h4, s3, c1, c4, c22, q, true_implies, false_implies, implies_true, not_true_eq_false, not_false_eq_true, and_true, true_and, Option.some.injEq, reduceCtorEq, forall_eq', forall_eq]
  refine c_bestWay hS hr hc hi st ⟨_, rfl, hS, ?_⟩
  rw [hb] at refS ⊢
  have n0 : nI 0 = 0 := rfl
  simp +decide only [n0, true_implies, false_implies, implies_true, not_true_eq_false, not_false_eq_true, and_true, true_and, Option.some.injEq, reduceCtorEq, forall_eq', forall_eq]
  refine t_X10_sort_53 hS ?_
  simp +decide (disch := omega) only [n0, c4, zA_sI, zK_sI, c6, p1, zI_ne, zI_nk, zI_eq, m9, true_implies, false_implies, implies_true, not_true_eq_false, not_false_eq_true, and_true, true_and, Option.some.injEq, reduceCtorEq, forall_eq', forall_eq]
  refine nmI (P := fun M => K (some (.int 0)) M) fun M1 e1 => ?_
  have hS1 : Stat M1 := by rw [e1]; exact hS.wI.wI
  have hr1 : rf M1 = ρ := by
    rw [e1]
    simp (disch := first | omega | (simp only [zN_sI, zN_sJ, zN_sA, zN_sNew]; done) | (simp only [zN_sI, zN_sJ, zN_sA, zN_sNew]; omega)) only [rf_wi, rf_wa, hρ]
  have R1 : ∀ a j, 31 ≤ a → a < 88 → zI M1 a j = ρ a j := fun a j h1 h2 => rfz hr1 h1 h2
  refine hK _ _ hS1 (by rw [e1]; exact (hI.s0.wi (by omega)).wi (by omega)) fun Q hQ => refS M1 Q hS1 hr1 ?_
  refine t_X11_sort_26 hS1 ?_
  simp +decide (disch := omega) only [neg1, n0, h3, h4, R1, w3, e45, v20, c20, zI_ne, zI_nk, zI_eq, true_implies, false_implies, implies_true, not_true_eq_false, not_false_eq_true, and_true, true_and, Option.some.injEq, reduceCtorEq, forall_eq', forall_eq]
  refine hQ g _ ?_
  refine nmI (P := IV g L X (t + 1)) fun M2 hM => ?_
  rw [e1] at hM
  have lo1 : 0 ≤ (ρ 38 m + 1).toInt ∧ (ρ 38 m + 1).toInt ≤ (t + 1 : Nat) := by
    obtain ⟨x1, x2, x3⟩ := nn_of r5.1
    have x4 := r5.2
    obtain ⟨w, hw⟩ : ∃ w, w = tN (ρ 38 m) := ⟨_, rfl⟩
    rw [← hw] at x1 x2 x3
    rw [x1, nI_1, nI_toInt (by omega)]
    omega
  have qs : ∀ j, saF M2 j = saF μ j := fun j => by unfold saF; simp (disch := first | omega | (simp only [zN_sI, zN_sJ, zN_sA, zN_sNew]; done) | (simp only [zN_sI, zN_sJ, zN_sA, zN_sNew]; omega)) only [rf_z, hM, zA_sI, zK_sI, zN_sI, zL_sI, zK_sA, zN_sA, zL_sA, zI_sA, zN_sNew, zI_ne, zI_nk, zI_eq, zA_ne, zA_nk, zA_eq, zI_nn, zA_nn, zK_nn, zL_nn, zI_ne', zA_ne', zK_ne', zL_ne', R]
  have ql : ∀ j, laF M2 j = laF μ j := fun j => by unfold laF; simp (disch := first | omega | (simp only [zN_sI, zN_sJ, zN_sA, zN_sNew]; done) | (simp only [zN_sI, zN_sJ, zN_sA, zN_sNew]; omega)) only [rf_z, hM, zA_sI, zK_sI, zN_sI, zL_sI, zK_sA, zN_sA, zL_sA, zI_sA, zN_sNew, zI_ne, zI_nk, zI_eq, zA_ne, zA_nk, zA_eq, zI_nn, zA_nn, zK_nn, zL_nn, zI_ne', zA_ne', zK_ne', zL_ne', R]
  have qm : ∀ j, maF M2 j = maF μ j := fun j => by unfold maF; simp (disch := first | omega | (simp only [zN_sI, zN_sJ, zN_sA, zN_sNew]; done) | (simp only [zN_sI, zN_sJ, zN_sA, zN_sNew]; omega)) only [rf_z, hM, zA_sI, zK_sI, zN_sI, zL_sI, zK_sA, zN_sA, zL_sA, zI_sA, zN_sNew, zI_ne, zI_nk, zI_eq, zA_ne, zA_nk, zA_eq, zI_nn, zA_nn, zK_nn, zL_nn, zI_ne', zA_ne', zK_ne', zL_ne', R]
  have qa : ∀ j, aaF M2 j = aaF μ j := fun j => by unfold aaF; simp (disch := first | omega | (simp only [zN_sI, zN_sJ, zN_sA, zN_sNew]; done) | (simp only [zN_sI, zN_sJ, zN_sA, zN_sNew]; omega)) only [rf_z, hM, zA_sI, zK_sI, zN_sI, zL_sI, zK_sA, zN_sA, zL_sA, zI_sA, zN_sNew, zI_ne, zI_nk, zI_eq, zA_ne, zA_nk, zA_eq, zI_nn, zA_nn, zK_nn, zL_nn, zI_ne', zA_ne', zK_ne', zL_ne', R]
  have r48 : ∀ b j, (48 ≤ b ∧ b < 60) ∨ (61 ≤ b ∧ b < 88) ∨ (45 ≤ b ∧ b < 48) → rf M2 b j = ρ b j := fun b j hb => by simp (disch := first | omega | (simp only [zN_sI, zN_sJ, zN_sA, zN_sNew]; done) | (simp only [zN_sI, zN_sJ, zN_sA, zN_sNew]; omega)) only [rf_z, hM, zA_sI, zK_sI, zN_sI, zL_sI, zK_sA, zN_sA, zL_sA, zI_sA, zN_sNew, zI_ne, zI_nk, zI_eq, zA_ne, zA_nk, zA_eq, zI_nn, zA_nn, zK_nn, zL_nn, zI_ne', zA_ne', zK_ne', zL_ne', R]
  have qsl : sl (rf M2) i = sl ρ i := by unfold sl; rw [r48 _ _ (by decide)]
  have qlm : ∀ j, lm (rf M2) j = lm ρ j := fun j => by unfold lm; rw [r48 _ _ (by decide)]
  have qL : nL (rf M2) = nL ρ := by unfold nL; simp (disch := first | omega | (simp only [zN_sI, zN_sJ, zN_sA, zN_sNew]; done) | (simp only [zN_sI, zN_sJ, zN_sA, zN_sNew]; omega)) only [rf_z, hM, zA_sI, zK_sI, zN_sI, zL_sI, zK_sA, zN_sA, zL_sA, zI_sA, zN_sNew, zI_ne, zI_nk, zI_eq, zA_ne, zA_nk, zA_eq, zI_nn, zA_nn, zK_nn, zL_nn, zI_ne', zA_ne', zK_ne', zL_ne', R]
  have qA : nA (rf M2) = nA ρ := by unfold nA; simp (disch := first | omega | (simp only [zN_sI, zN_sJ, zN_sA, zN_sNew]; done) | (simp only [zN_sI, zN_sJ, zN_sA, zN_sNew]; omega)) only [rf_z, hM, zA_sI, zK_sI, zN_sI, zL_sI, zK_sA, zN_sA, zL_sA, zI_sA, zN_sNew, zI_ne, zI_nk, zI_eq, zA_ne, zA_nk, zA_eq, zI_nn, zA_nn, zK_nn, zL_nn, zI_ne', zA_ne', zK_ne', zL_ne', R]
  have e31 : rf M2 31 1 = ρ 31 1 := by simp (disch := first | omega | (simp only [zN_sI, zN_sJ, zN_sA, zN_sNew]; done) | (simp only [zN_sI, zN_sJ, zN_sA, zN_sNew]; omega)) only [rf_z, hM, zA_sI, zK_sI, zN_sI, zL_sI, zK_sA, zN_sA, zL_sA, zI_sA, zN_sNew, zI_ne, zI_nk, zI_eq, zA_ne, zA_nk, zA_eq, zI_nn, zA_nn, zK_nn, zL_nn, zI_ne', zA_ne', zK_ne', zL_ne', R]
  refine IV.fr0 (Ps := (· = i)) (Pa := (fun _ => False)) (Pl := (fun _ => False)) (Pm := (· = m)) hI (by rw [hM]; exact hS.wI.wI.wI.wI) (by rw [hM]; exact ((((EqX.rfl.wi (W0.s (Ps := (· = i)) rfl hi)).wi (W0.m (Pm := (· = m)) rfl hm' (by decide))).wi (W0.rs (Ps := (· = i)) (by decide) (by decide) (by decide) rfl)).wi (W0.rm (Pm := (· = m)) (by decide) (by decide) (by decide) (by decide) rfl))) (fun _ => by rw [hM]; rfl) hρ rfl (Nat.le_succ t) ?_ (fun j hj p => ?_) (fun _ _ p => p.elim) (fun j hj p => ?_) (fun _ _ p => p.elim) ⟨fun j p => by rw [p]; exact hi, fun _ p => p.elim, fun j p => by rw [p]; exact hm'⟩ ?_ ?_ ?_ ?_
  · refine hr.s.cg2 fun j hj => ?_
    simp (disch := first | omega | (simp only [zN_sI, zN_sJ, zN_sA, zN_sNew]; done) | (simp only [zN_sI, zN_sJ, zN_sA, zN_sNew]; omega)) only [rf_z, hM, zA_sI, zK_sI, zN_sI, zL_sI, zK_sA, zN_sA, zL_sA, zI_sA, zN_sNew, zI_ne, zI_nk, zI_eq, zA_ne, zA_nk, zA_eq, zI_nn, zA_nn, zK_nn, zL_nn, zI_ne', zA_ne', zK_ne', zL_ne', R]
  · subst p
    constructor
    · unfold RIm
      simp (disch := first | omega | (simp only [zN_sI, zN_sJ, zN_sA, zN_sNew]; done) | (simp only [zN_sI, zN_sJ, zN_sA, zN_sNew]; omega)) only [rf_z, hM, zA_sI, zK_sI, zN_sI, zL_sI, zK_sA, zN_sA, zL_sA, zI_sA, zN_sNew, zI_ne, zI_nk, zI_eq, zA_ne, zA_nk, zA_eq, zI_nn, zA_nn, zK_nn, zL_nn, zI_ne', zA_ne', zK_ne', zL_ne', R]
      exact ⟨r1, r2, r3, r4, lo1, r6⟩
    · unfold CRm MdlP
      rw [qm]
      simp (disch := first | omega | (simp only [zN_sI, zN_sJ, zN_sA, zN_sNew]; done) | (simp only [zN_sI, zN_sJ, zN_sA, zN_sNew]; omega)) only [rf_z, hM, zA_sI, zK_sI, zN_sI, zL_sI, zK_sA, zN_sA, zL_sA, zI_sA, zN_sNew, zI_ne, zI_nk, zI_eq, zA_ne, zA_nk, zA_eq, zI_nn, zA_nn, zK_nn, zL_nn, zI_ne', zA_ne', zK_ne', zL_ne', R, true_implies, false_implies, implies_true, not_true_eq_false, not_false_eq_true, and_true, true_and, Option.some.injEq, reduceCtorEq, forall_eq', forall_eq]
      exact ⟨m1, m2, m3, m4', m5, m6, m7, m8, m10, m11, m12⟩
  · subst p
    constructor
    · unfold RIsa
      rw [qsl, qL, qA, e31, r48 49 _ (by decide), r48 50 _ (by decide), r48 54 _ (by decide), r48 52 _ (by decide), r48 53 _ (by decide), r48 55 _ (by decide), r48 56 _ (by decide), r48 57 _ (by decide), r48 48 _ (by decide), r48 58 _ (by decide), r48 59 _ (by decide), r48 61 _ (by decide), r48 62 _ (by decide), r48 63 _ (by decide), r48 64 _ (by decide)]
      simp (disch := first | omega | (simp only [zN_sI, zN_sJ, zN_sA, zN_sNew]; done) | (simp only [zN_sI, zN_sJ, zN_sA, zN_sNew]; omega)) only [rf_z, hM, zA_sI, zK_sI, zN_sI, zL_sI, zK_sA, zN_sA, zL_sA, zI_sA, zN_sNew, zI_ne, zI_nk, zI_eq, zA_ne, zA_nk, zA_eq, zI_nn, zA_nn, zK_nn, zL_nn, zI_ne', zA_ne', zK_ne', zL_ne', R]
      exact ⟨d1, d2, d3, d4, d5, d6, d7, d8, d9, Or.inl rfl, d11, d12, d13, fun z => absurd z (by decide), d15, d16, d17, d18, d19⟩
    · unfold CRsa smo
      rw [qs, qsl, qlm, ql, qm, r48 51 _ (by decide), r48 50 _ (by decide), r48 54 _ (by decide), r48 52 _ (by decide), r48 53 _ (by decide), r48 55 _ (by decide), r48 56 _ (by decide), r48 57 _ (by decide), r48 48 _ (by decide), r48 58 _ (by decide), r48 59 _ (by decide), r48 62 _ (by decide), r48 63 _ (by decide), r48 64 _ (by decide), r48 61 _ (by decide), qa]
      rw [show lm ρ (sl ρ j) = m from hm.symm]
      simp (disch := first | omega | (simp only [zN_sI, zN_sJ, zN_sA, zN_sNew]; done) | (simp only [zN_sI, zN_sJ, zN_sA, zN_sNew]; omega)) only [rf_z, hM, zA_sI, zK_sI, zN_sI, zL_sI, zK_sA, zN_sA, zL_sA, zI_sA, zN_sNew, zI_ne, zI_nk, zI_eq, zA_ne, zA_nk, zA_eq, zI_nn, zA_nn, zK_nn, zL_nn, zI_ne', zA_ne', zK_ne', zL_ne', R, true_implies, false_implies, implies_true, not_true_eq_false, not_false_eq_true, and_true, true_and, Option.some.injEq, reduceCtorEq, forall_eq', forall_eq]
      exact ⟨c1, c2, c3, c4, c5, c6, c7, c8, c9, c10, c11, c12, c13, c14, c15, c16, c17, c18, c19, c20, c21, c23⟩
  · exact hr.w.cg qA (fun j hj => ⟨r48 _ _ (by decide), by unfold as_; rw [r48 _ _ (by decide)]⟩) (fun j hj q1 q2 => by rw [r48 _ _ (by decide)]; exact q2)
  · unfold CRs
    simp (disch := first | omega | (simp only [zN_sI, zN_sJ, zN_sA, zN_sNew]; done) | (simp only [zN_sI, zN_sJ, zN_sA, zN_sNew]; omega)) only [rf_z, hM, zA_sI, zK_sI, zN_sI, zL_sI, zK_sA, zN_sA, zL_sA, zI_sA, zN_sNew, zI_ne, zI_nk, zI_eq, zA_ne, zA_nk, zA_eq, zI_nn, zA_nn, zK_nn, zL_nn, zI_ne', zA_ne', zK_ne', zL_ne', R, s1, s2, s3, s4, s5, s6, s7, s8, s9, s10, s11, true_implies, false_implies, implies_true, not_true_eq_false, not_false_eq_true, and_true, true_and, Option.some.injEq, reduceCtorEq, forall_eq', forall_eq]
  · refine hc.n.cg ?_ ?_ (fun j => ?_) (fun j => ?_) (fun j => r48 _ _ (by decide)) (fun j => r48 _ _ (by decide))
    · unfold nN
      simp (disch := first | omega | (simp only [zN_sI, zN_sJ, zN_sA, zN_sNew]; done) | (simp only [zN_sI, zN_sJ, zN_sA, zN_sNew]; omega)) only [rf_z, hM, zA_sI, zK_sI, zN_sI, zL_sI, zK_sA, zN_sA, zL_sA, zI_sA, zN_sNew, zI_ne, zI_nk, zI_eq, zA_ne, zA_nk, zA_eq, zI_nn, zA_nn, zK_nn, zL_nn, zI_ne', zA_ne', zK_ne', zL_ne', R]
    · unfold tL
      simp (disch := first | omega | (simp only [zN_sI, zN_sJ, zN_sA, zN_sNew]; done) | (simp only [zN_sI, zN_sJ, zN_sA, zN_sNew]; omega)) only [rf_z, hM, zA_sI, zK_sI, zN_sI, zL_sI, zK_sA, zN_sA, zL_sA, zI_sA, zN_sNew, zI_ne, zI_nk, zI_eq, zA_ne, zA_nk, zA_eq, zI_nn, zA_nn, zK_nn, zL_nn, zI_ne', zA_ne', zK_ne', zL_ne', R]
    all_goals simp (disch := first | omega | (simp only [zN_sI, zN_sJ, zN_sA, zN_sNew]; done) | (simp only [zN_sI, zN_sJ, zN_sA, zN_sNew]; omega)) only [rf_z, hM, zA_sI, zK_sI, zN_sI, zL_sI, zK_sA, zN_sA, zL_sA, zI_sA, zN_sNew, zI_ne, zI_nk, zI_eq, zA_ne, zA_nk, zA_eq, zI_nn, zA_nn, zK_nn, zL_nn, zI_ne', zA_ne', zK_ne', zL_ne', R]
  · intro j p a1 a2
    rw [p] at a1
    exact absurd a1 q
theorem pr_sort3 (hI : IV g L X t μ) {i : Nat} (hi : i < nS (rf μ)) (q : ¬ rf μ 60 i = 0) (hb : bst (wrI (rf μ) i) = 3) : PRp E l d L X t mX10_sort mX11_sort [some (.ref 11), some (.int (nI i)), none, none] [some (.ref 31), some (.int (nI i)), none, none] μ := by
  obtain ⟨ρ, hρ⟩ : ∃ ρ, rf μ = ρ := ⟨_, rfl⟩
  have hS := hI.st
  have hr := hI.r hρ
  have hc := hI.c hρ
  have R : ∀ a j, 31 ≤ a → a < 88 → zI μ a j = ρ a j := fun a j h1 h2 => rfz hρ h1 h2
  obtain ⟨s1, s2, s3, s4, s5, s6, s7, s8, s9, s10, s11⟩ := hc.s
  obtain ⟨b1, b2, b3, b4, b5, b6, b7, b8⟩ := hr.s
  have hU : IV g L X (t + 1) μ := hI.up (Nat.le_succ t)
  refine PRp.mk fun K hK => ?_
  have hA := hS.N
  rw [hρ] at hi q hb
  have b300 := b3.2
  have h1 : ¬ nI i < 0 := nI_pos (by omega)
  have h2 := ix_lt (by omega) hi
  have h3 : vp_in (nI i) 300 := vp_in_nI (by omega) (by decide)
  have h4 : (nI i).toNatClampNeg = i := nI_clamp (by omega)
  rw [← b3.1] at h2
  obtain ⟨c1, c2, c3, c4, c5, c6, c7, c8, c9, c10, c11, c12, c13, c14, c15, c16, c17, c18, c19, c20, c21, c22, c23⟩ := hc.sa hi
  obtain ⟨d1, d2, d3, d4, d5, d6, d7, d8, d9, d10, d11, d12, d13, d14, d15, d16, d17, d18, d19⟩ := hr.sa hi
  have st : ρ 48 i = 2 := d14 (d10.resolve_left q)
  have lr := hr.l d2
  obtain ⟨m, hm⟩ : ∃ m, m = smo ρ i := ⟨_, rfl⟩
  have hm' : m < nM ρ := by rw [hm]; exact lr.2.1
  have e45 : ρ 45 (ρ 49 i).toNatClampNeg = nI m := by rw [hm]; exact lr.1
  have b20 := b1.2
  have v20 : vp_in (nI m) 20 := vp_in_nI (by omega) (by decide)
  have c20 : (nI m).toNatClampNeg = m := nI_clamp (by omega)
  have w3 := v_sl hr hi
  rw [← hm] at c6
  obtain ⟨m1, m2, m3, m4, m5, m6, m7, m8, m9, m10, m11, m12⟩ := hc.m hm'
  have m4' := m4
  obtain ⟨p1, p2, p3, p4, p5, p6, p7, p8, p9⟩ := m4
  obtain ⟨r1, r2, r3, r4, r5, r6⟩ := hr.m hm'
  have nAB : saF μ i ≠ maF μ m := kne c4 p1 (by decide)
  have nAB1 : maF μ m + 1 ≠ saF μ i := kne p6 c4 (by decide)
  have nAB2 : maF μ m + 2 ≠ saF μ i := kne p8 c4 (by decide)
  have neg1 : (-1 : Int32) < 0 := by decide
  have refS : ∀ (M1 : ZM) (Q : Option Value → ZM → Prop), Stat M1 → rf M1 = ρ → AW E l (d + 299) 0 0 mX11_sort 26 [some (.ref 31), some (.int (nI i)), some (.int (nI (bst (wrI ρ i)))), some (.int (-1))] [] M1 Q → AW E l (d + 299) 0 0 mX11_sort 0 [some (.ref 31), some (.int (nI i)), none, none] [] M1 Q := by
    intro M1 Q hS1 hr1 hq
    have R1 : ∀ a j, 31 ≤ a → a < 88 → zI M1 a j = ρ a j := fun a j h1 h2 => rfz hr1 h1 h2
    refine t_X11_sort hS1 ?_
    simp (disch := omega) only [h1, h2, h3, h4, R1, q, true_implies, false_implies, implies_true, not_true_eq_false, not_false_eq_true, and_true, true_and, Option.some.injEq, reduceCtorEq, forall_eq', forall_eq]
    exact r_best26 hS1 hr hr1 hi st (fun b hb => by rw [hb]; exact hq)
  refine t_X10_sort hS ?_
  simp (disch := omega) only [h1, h2, h3, h4, s3, c1, c4, c22, q, true_implies, false_implies, implies_true, not_true_eq_false, not_false_eq_true, and_true, true_and, Option.some.injEq, reduceCtorEq, forall_eq', forall_eq]
  refine c_bestWay hS hr hc hi st ⟨_, rfl, hS, ?_⟩
  rw [hb] at refS ⊢
  have n0 : nI 3 = 3 := rfl
  simp +decide only [n0, true_implies, false_implies, implies_true, not_true_eq_false, not_false_eq_true, and_true, true_and, Option.some.injEq, reduceCtorEq, forall_eq', forall_eq]
  refine t_X10_sort_53 hS ?_
  simp +decide (disch := omega) only [n0, c4, zA_sI, zK_sI, c6, p1, zI_ne, zI_nk, zI_eq, m10, m7, s8, true_implies, false_implies, implies_true, not_true_eq_false, not_false_eq_true, and_true, true_and, Option.some.injEq, reduceCtorEq, forall_eq', forall_eq]
  refine nmI (P := fun M => K (some (.int 3)) M) fun M1 e1 => ?_
  have hS1 : Stat M1 := by rw [e1]; exact hS.wI.wI.wI
  have hr1 : rf M1 = ρ := by
    rw [e1]
    simp (disch := first | omega | (simp only [zN_sI, zN_sJ, zN_sA, zN_sNew]; done) | (simp only [zN_sI, zN_sJ, zN_sA, zN_sNew]; omega)) only [rf_wi, rf_wa, hρ]
  have R1 : ∀ a j, 31 ≤ a → a < 88 → zI M1 a j = ρ a j := fun a j h1 h2 => rfz hr1 h1 h2
  refine hK _ _ hS1 (by rw [e1]; exact ((hI.s0.wi (by omega)).wi (by omega)).wi (by omega)) fun Q hQ => refS M1 Q hS1 hr1 ?_
  refine t_X11_sort_26 hS1 ?_
  simp +decide (disch := omega) only [neg1, n0, h3, h4, R1, w3, e45, v20, c20, zI_ne, zI_nk, zI_eq, true_implies, false_implies, implies_true, not_true_eq_false, not_false_eq_true, and_true, true_and, Option.some.injEq, reduceCtorEq, forall_eq', forall_eq]
  refine hQ g _ ?_
  refine nmI (P := IV g L X (t + 1)) fun M2 hM => ?_
  rw [e1] at hM
  have qs : ∀ j, saF M2 j = saF μ j := fun j => by unfold saF; simp (disch := first | omega | (simp only [zN_sI, zN_sJ, zN_sA, zN_sNew]; done) | (simp only [zN_sI, zN_sJ, zN_sA, zN_sNew]; omega)) only [rf_z, hM, zA_sI, zK_sI, zN_sI, zL_sI, zK_sA, zN_sA, zL_sA, zI_sA, zN_sNew, zI_ne, zI_nk, zI_eq, zA_ne, zA_nk, zA_eq, zI_nn, zA_nn, zK_nn, zL_nn, zI_ne', zA_ne', zK_ne', zL_ne', R]
  have ql : ∀ j, laF M2 j = laF μ j := fun j => by unfold laF; simp (disch := first | omega | (simp only [zN_sI, zN_sJ, zN_sA, zN_sNew]; done) | (simp only [zN_sI, zN_sJ, zN_sA, zN_sNew]; omega)) only [rf_z, hM, zA_sI, zK_sI, zN_sI, zL_sI, zK_sA, zN_sA, zL_sA, zI_sA, zN_sNew, zI_ne, zI_nk, zI_eq, zA_ne, zA_nk, zA_eq, zI_nn, zA_nn, zK_nn, zL_nn, zI_ne', zA_ne', zK_ne', zL_ne', R]
  have qm : ∀ j, maF M2 j = maF μ j := fun j => by unfold maF; simp (disch := first | omega | (simp only [zN_sI, zN_sJ, zN_sA, zN_sNew]; done) | (simp only [zN_sI, zN_sJ, zN_sA, zN_sNew]; omega)) only [rf_z, hM, zA_sI, zK_sI, zN_sI, zL_sI, zK_sA, zN_sA, zL_sA, zI_sA, zN_sNew, zI_ne, zI_nk, zI_eq, zA_ne, zA_nk, zA_eq, zI_nn, zA_nn, zK_nn, zL_nn, zI_ne', zA_ne', zK_ne', zL_ne', R]
  have qa : ∀ j, aaF M2 j = aaF μ j := fun j => by unfold aaF; simp (disch := first | omega | (simp only [zN_sI, zN_sJ, zN_sA, zN_sNew]; done) | (simp only [zN_sI, zN_sJ, zN_sA, zN_sNew]; omega)) only [rf_z, hM, zA_sI, zK_sI, zN_sI, zL_sI, zK_sA, zN_sA, zL_sA, zI_sA, zN_sNew, zI_ne, zI_nk, zI_eq, zA_ne, zA_nk, zA_eq, zI_nn, zA_nn, zK_nn, zL_nn, zI_ne', zA_ne', zK_ne', zL_ne', R]
  have r48 : ∀ b j, (48 ≤ b ∧ b < 60) ∨ (61 ≤ b ∧ b < 88) ∨ (45 ≤ b ∧ b < 48) → rf M2 b j = ρ b j := fun b j hb => by simp (disch := first | omega | (simp only [zN_sI, zN_sJ, zN_sA, zN_sNew]; done) | (simp only [zN_sI, zN_sJ, zN_sA, zN_sNew]; omega)) only [rf_z, hM, zA_sI, zK_sI, zN_sI, zL_sI, zK_sA, zN_sA, zL_sA, zI_sA, zN_sNew, zI_ne, zI_nk, zI_eq, zA_ne, zA_nk, zA_eq, zI_nn, zA_nn, zK_nn, zL_nn, zI_ne', zA_ne', zK_ne', zL_ne', R]
  have qsl : sl (rf M2) i = sl ρ i := by unfold sl; rw [r48 _ _ (by decide)]
  have qlm : ∀ j, lm (rf M2) j = lm ρ j := fun j => by unfold lm; rw [r48 _ _ (by decide)]
  have qL : nL (rf M2) = nL ρ := by unfold nL; simp (disch := first | omega | (simp only [zN_sI, zN_sJ, zN_sA, zN_sNew]; done) | (simp only [zN_sI, zN_sJ, zN_sA, zN_sNew]; omega)) only [rf_z, hM, zA_sI, zK_sI, zN_sI, zL_sI, zK_sA, zN_sA, zL_sA, zI_sA, zN_sNew, zI_ne, zI_nk, zI_eq, zA_ne, zA_nk, zA_eq, zI_nn, zA_nn, zK_nn, zL_nn, zI_ne', zA_ne', zK_ne', zL_ne', R]
  have qA : nA (rf M2) = nA ρ := by unfold nA; simp (disch := first | omega | (simp only [zN_sI, zN_sJ, zN_sA, zN_sNew]; done) | (simp only [zN_sI, zN_sJ, zN_sA, zN_sNew]; omega)) only [rf_z, hM, zA_sI, zK_sI, zN_sI, zL_sI, zK_sA, zN_sA, zL_sA, zI_sA, zN_sNew, zI_ne, zI_nk, zI_eq, zA_ne, zA_nk, zA_eq, zI_nn, zA_nn, zK_nn, zL_nn, zI_ne', zA_ne', zK_ne', zL_ne', R]
  have e31 : rf M2 31 1 = ρ 31 1 := by simp (disch := first | omega | (simp only [zN_sI, zN_sJ, zN_sA, zN_sNew]; done) | (simp only [zN_sI, zN_sJ, zN_sA, zN_sNew]; omega)) only [rf_z, hM, zA_sI, zK_sI, zN_sI, zL_sI, zK_sA, zN_sA, zL_sA, zI_sA, zN_sNew, zI_ne, zI_nk, zI_eq, zA_ne, zA_nk, zA_eq, zI_nn, zA_nn, zK_nn, zL_nn, zI_ne', zA_ne', zK_ne', zL_ne', R]
  refine IV.fr0 (Ps := (· = i)) (Pa := (fun _ => False)) (Pl := (fun _ => False)) (Pm := (· = m)) hI (by rw [hM]; exact hS.wI.wI.wI.wI.wI.wI) (by rw [hM]; exact ((((((EqX.rfl.wi (W0.s (Ps := (· = i)) rfl hi)).wi (W0.m (Pm := (· = m)) rfl hm' (by decide))).wi (W0.p (by decide))).wi (W0.rs (Ps := (· = i)) (by decide) (by decide) (by decide) rfl)).wi (W0.rm (Pm := (· = m)) (by decide) (by decide) (by decide) (by decide) rfl)).wi (W0.rp (by decide)))) (fun _ => by rw [hM]; rfl) hρ rfl (Nat.le_succ t) ?_ (fun j hj p => ?_) (fun _ _ p => p.elim) (fun j hj p => ?_) (fun _ _ p => p.elim) ⟨fun j p => by rw [p]; exact hi, fun _ p => p.elim, fun j p => by rw [p]; exact hm'⟩ ?_ ?_ ?_ ?_
  · refine hr.s.cg2 fun j hj => ?_
    simp (disch := first | omega | (simp only [zN_sI, zN_sJ, zN_sA, zN_sNew]; done) | (simp only [zN_sI, zN_sJ, zN_sA, zN_sNew]; omega)) only [rf_z, hM, zA_sI, zK_sI, zN_sI, zL_sI, zK_sA, zN_sA, zL_sA, zI_sA, zN_sNew, zI_ne, zI_nk, zI_eq, zA_ne, zA_nk, zA_eq, zI_nn, zA_nn, zK_nn, zL_nn, zI_ne', zA_ne', zK_ne', zL_ne', R]
  · subst p
    constructor
    · unfold RIm
      simp (disch := first | omega | (simp only [zN_sI, zN_sJ, zN_sA, zN_sNew]; done) | (simp only [zN_sI, zN_sJ, zN_sA, zN_sNew]; omega)) only [rf_z, hM, zA_sI, zK_sI, zN_sI, zL_sI, zK_sA, zN_sA, zL_sA, zI_sA, zN_sNew, zI_ne, zI_nk, zI_eq, zA_ne, zA_nk, zA_eq, zI_nn, zA_nn, zK_nn, zL_nn, zI_ne', zA_ne', zK_ne', zL_ne', R]
      exact ⟨r1, r2, r3, r4, ⟨r5.1, by have := r5.2; omega⟩, r6⟩
    · unfold CRm MdlP
      rw [qm]
      simp (disch := first | omega | (simp only [zN_sI, zN_sJ, zN_sA, zN_sNew]; done) | (simp only [zN_sI, zN_sJ, zN_sA, zN_sNew]; omega)) only [rf_z, hM, zA_sI, zK_sI, zN_sI, zL_sI, zK_sA, zN_sA, zL_sA, zI_sA, zN_sNew, zI_ne, zI_nk, zI_eq, zA_ne, zA_nk, zA_eq, zI_nn, zA_nn, zK_nn, zL_nn, zI_ne', zA_ne', zK_ne', zL_ne', R, true_implies, false_implies, implies_true, not_true_eq_false, not_false_eq_true, and_true, true_and, Option.some.injEq, reduceCtorEq, forall_eq', forall_eq]
      exact ⟨m1, m2, m3, m4', m5, m6, m7, m8, m9, m11, m12⟩
  · subst p
    constructor
    · unfold RIsa
      rw [qsl, qL, qA, e31, r48 49 _ (by decide), r48 50 _ (by decide), r48 54 _ (by decide), r48 52 _ (by decide), r48 53 _ (by decide), r48 55 _ (by decide), r48 56 _ (by decide), r48 57 _ (by decide), r48 48 _ (by decide), r48 58 _ (by decide), r48 59 _ (by decide), r48 61 _ (by decide), r48 62 _ (by decide), r48 63 _ (by decide), r48 64 _ (by decide)]
      simp (disch := first | omega | (simp only [zN_sI, zN_sJ, zN_sA, zN_sNew]; done) | (simp only [zN_sI, zN_sJ, zN_sA, zN_sNew]; omega)) only [rf_z, hM, zA_sI, zK_sI, zN_sI, zL_sI, zK_sA, zN_sA, zL_sA, zI_sA, zN_sNew, zI_ne, zI_nk, zI_eq, zA_ne, zA_nk, zA_eq, zI_nn, zA_nn, zK_nn, zL_nn, zI_ne', zA_ne', zK_ne', zL_ne', R]
      exact ⟨d1, d2, d3, d4, d5, d6, d7, d8, d9, Or.inl rfl, d11, d12, d13, fun z => absurd z (by decide), d15, d16, d17, d18, d19⟩
    · unfold CRsa smo
      rw [qs, qsl, qlm, ql, qm, r48 51 _ (by decide), r48 50 _ (by decide), r48 54 _ (by decide), r48 52 _ (by decide), r48 53 _ (by decide), r48 55 _ (by decide), r48 56 _ (by decide), r48 57 _ (by decide), r48 48 _ (by decide), r48 58 _ (by decide), r48 59 _ (by decide), r48 62 _ (by decide), r48 63 _ (by decide), r48 64 _ (by decide), r48 61 _ (by decide), qa]
      rw [show lm ρ (sl ρ j) = m from hm.symm]
      simp (disch := first | omega | (simp only [zN_sI, zN_sJ, zN_sA, zN_sNew]; done) | (simp only [zN_sI, zN_sJ, zN_sA, zN_sNew]; omega)) only [rf_z, hM, zA_sI, zK_sI, zN_sI, zL_sI, zK_sA, zN_sA, zL_sA, zI_sA, zN_sNew, zI_ne, zI_nk, zI_eq, zA_ne, zA_nk, zA_eq, zI_nn, zA_nn, zK_nn, zL_nn, zI_ne', zA_ne', zK_ne', zL_ne', R, true_implies, false_implies, implies_true, not_true_eq_false, not_false_eq_true, and_true, true_and, Option.some.injEq, reduceCtorEq, forall_eq', forall_eq]
      exact ⟨c1, c2, c3, c4, c5, c6, c7, c8, c9, c10, c11, c12, c13, c14, c15, c16, c17, c18, c19, c20, c21, c23⟩
  · exact hr.w.cg qA (fun j hj => ⟨r48 _ _ (by decide), by unfold as_; rw [r48 _ _ (by decide)]⟩) (fun j hj q1 q2 => by rw [r48 _ _ (by decide)]; exact q2)
  · unfold CRs
    simp (disch := first | omega | (simp only [zN_sI, zN_sJ, zN_sA, zN_sNew]; done) | (simp only [zN_sI, zN_sJ, zN_sA, zN_sNew]; omega)) only [rf_z, hM, zA_sI, zK_sI, zN_sI, zL_sI, zK_sA, zN_sA, zL_sA, zI_sA, zN_sNew, zI_ne, zI_nk, zI_eq, zA_ne, zA_nk, zA_eq, zI_nn, zA_nn, zK_nn, zL_nn, zI_ne', zA_ne', zK_ne', zL_ne', R, s1, s2, s3, s4, s5, s6, s7, s8, s9, s10, s11, true_implies, false_implies, implies_true, not_true_eq_false, not_false_eq_true, and_true, true_and, Option.some.injEq, reduceCtorEq, forall_eq', forall_eq]
  · refine hc.n.cg ?_ ?_ (fun j => ?_) (fun j => ?_) (fun j => r48 _ _ (by decide)) (fun j => r48 _ _ (by decide))
    · unfold nN
      simp (disch := first | omega | (simp only [zN_sI, zN_sJ, zN_sA, zN_sNew]; done) | (simp only [zN_sI, zN_sJ, zN_sA, zN_sNew]; omega)) only [rf_z, hM, zA_sI, zK_sI, zN_sI, zL_sI, zK_sA, zN_sA, zL_sA, zI_sA, zN_sNew, zI_ne, zI_nk, zI_eq, zA_ne, zA_nk, zA_eq, zI_nn, zA_nn, zK_nn, zL_nn, zI_ne', zA_ne', zK_ne', zL_ne', R]
    · unfold tL
      simp (disch := first | omega | (simp only [zN_sI, zN_sJ, zN_sA, zN_sNew]; done) | (simp only [zN_sI, zN_sJ, zN_sA, zN_sNew]; omega)) only [rf_z, hM, zA_sI, zK_sI, zN_sI, zL_sI, zK_sA, zN_sA, zL_sA, zI_sA, zN_sNew, zI_ne, zI_nk, zI_eq, zA_ne, zA_nk, zA_eq, zI_nn, zA_nn, zK_nn, zL_nn, zI_ne', zA_ne', zK_ne', zL_ne', R]
    all_goals simp (disch := first | omega | (simp only [zN_sI, zN_sJ, zN_sA, zN_sNew]; done) | (simp only [zN_sI, zN_sJ, zN_sA, zN_sNew]; omega)) only [rf_z, hM, zA_sI, zK_sI, zN_sI, zL_sI, zK_sA, zN_sA, zL_sA, zI_sA, zN_sNew, zI_ne, zI_nk, zI_eq, zA_ne, zA_nk, zA_eq, zI_nn, zA_nn, zK_nn, zL_nn, zI_ne', zA_ne', zK_ne', zL_ne', R]
  · intro j p a1 a2
    rw [p] at a1
    exact absurd a1 q
end SortP
