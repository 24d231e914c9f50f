theorem bP_cg {day : Int32} {f f' : Nat → Int32} : ∀ {n : Nat}, (∀ j, j < n → f j = f' j) → bP day f n = bP day f' n
  | 0, _ => rfl
  | n + 1, h => by
    unfold bP
    rw [← bP_cg (fun j hj => h j (by omega)), ← h n (by omega)]
    cases hb : bP day f n with
    | none => rfl
    | some b =>
      have := bP_lt hb
      simp only [← h b (by omega)]
theorem prF_cg {day : Int32} {f f' k k' : Nat → Int32} {n : Nat} (h : ∀ j, j < n → f j = f' j) (h2 : ∀ j, j < n → k j = k' j) : prF day f k n = prF day f' k' n := by
  unfold prF
  rw [← bP_cg h]
  cases hb : bP day f n with
  | none => rfl
  | some b => exact h2 b (bP_lt hb)
section SimF
variable {E : ZE} {l : Launch} {d : Nat} {g : Gh} {L : Nat} {X : Nat → Int32} {t : Nat} {μ : ZM} {x1 x2 x3 : Int32}
theorem pr_price (hI : IV g L X t μ) : PRp E l d L X t mX10_price mX11_price [some (.ref 11), some (.int x1), some (.int x2), some (.int x3), none] [some (.ref 31), some (.int x1), some (.int x2), some (.int x3)] μ := by
  obtain ⟨ρ, hρ⟩ : ∃ ρ, rf μ = ρ := ⟨_, rfl⟩
  have hS := hI.st
  have hr := hI.r hρ
  have hc := hI.c hρ
  have R : ∀ a j, 31 ≤ a → a < 88 → zI μ a j = ρ a j := fun a j h1 h2 => rfz hρ h1 h2
  obtain ⟨s1, s2, s3, s4, s5, s6, s7, s8, s9, s10, s11⟩ := hc.s
  obtain ⟨b1, b2, b3, b4, b5, b6, b7, b8⟩ := hr.s
  have hU : IV g L X (t + 1) μ := hI.up (Nat.le_succ t)
  refine PRp.mk fun K hK => ?_
  rcases ix3 x1 (n := nM ρ) (by have := b1.2; omega) with h | ⟨h, h'⟩ | ⟨i, hi, rfl⟩
  · refine t_X10_price hS ?_
    simp (disch := omega) only [h, true_implies, false_implies, implies_true, not_true_eq_false, not_false_eq_true, and_true, true_and, Option.some.injEq, reduceCtorEq, forall_eq', forall_eq]
    refine hK _ _ hS hI.s0 fun Q hQ => t_X11_price hS ?_
    simp (disch := omega) only [h, R, true_implies, false_implies, implies_true, not_true_eq_false, not_false_eq_true, and_true, true_and, Option.some.injEq, reduceCtorEq, forall_eq', forall_eq]
    exact hQ _ _ hU
  · rw [← b1.1] at h'
    refine t_X10_price hS ?_
    simp (disch := omega) only [h, h', s1, true_implies, false_implies, implies_true, not_true_eq_false, not_false_eq_true, and_true, true_and, Option.some.injEq, reduceCtorEq, forall_eq', forall_eq]
    refine hK _ _ hS hI.s0 fun Q hQ => t_X11_price hS ?_
    simp (disch := omega) only [h, h', R, true_implies, false_implies, implies_true, not_true_eq_false, not_false_eq_true, and_true, true_and, Option.some.injEq, reduceCtorEq, forall_eq', forall_eq]
    exact hQ _ _ hU
  · have b20 := b1.2
    have h1 : ¬ nI i < 0 := nI_pos (by omega)
    have h2 := ix_lt (by omega) hi
    have h3 : vp_in (nI i) 20 := vp_in_nI (by omega) (by decide)
    have h4 : (nI i).toNatClampNeg = i := nI_clamp (by omega)
    rw [← b1.1] at h2
    obtain ⟨m1, m2, m3, m4, m5, m6, m7, m8, m9, m10, m11, m12⟩ := hc.m hi
    obtain ⟨p1, p2, p3, p4, p5, p6, p7, p8, p9⟩ := m4
    obtain ⟨r1, r2, r3, r4, r5, r6⟩ := hr.m hi
    by_cases y1 : x2 < 0
    · refine t_X10_price hS ?_
      simp (disch := omega) only [h1, h2, h3, h4, y1, s1, m1, true_implies, false_implies, implies_true, not_true_eq_false, not_false_eq_true, and_true, true_and, Option.some.injEq, reduceCtorEq, forall_eq', forall_eq]
      refine hK _ _ hS hI.s0 fun Q hQ => t_X11_price hS ?_
      simp (disch := omega) only [h1, h2, h3, h4, y1, R, true_implies, false_implies, implies_true, not_true_eq_false, not_false_eq_true, and_true, true_and, Option.some.injEq, reduceCtorEq, forall_eq', forall_eq]
      exact hQ _ _ hU
    by_cases y2 : 2999 < x2
    · refine t_X10_price hS ?_
      simp (disch := omega) only [h1, h2, h3, h4, y1, y2, s1, m1, true_implies, false_implies, implies_true, not_true_eq_false, not_false_eq_true, and_true, true_and, Option.some.injEq, reduceCtorEq, forall_eq', forall_eq]
      refine hK _ _ hS hI.s0 fun Q hQ => t_X11_price hS ?_
      simp (disch := omega) only [h1, h2, h3, h4, y1, y2, R, true_implies, false_implies, implies_true, not_true_eq_false, not_false_eq_true, and_true, true_and, Option.some.injEq, reduceCtorEq, forall_eq', forall_eq]
      exact hQ _ _ hU
    by_cases y3 : x3 < 0
    · refine t_X10_price hS ?_
      simp (disch := omega) only [h1, h2, h3, h4, y1, y2, y3, s1, m1, true_implies, false_implies, implies_true, not_true_eq_false, not_false_eq_true, and_true, true_and, Option.some.injEq, reduceCtorEq, forall_eq', forall_eq]
      refine hK _ _ hS hI.s0 fun Q hQ => t_X11_price hS ?_
      simp (disch := omega) only [h1, h2, h3, h4, y1, y2, y3, R, true_implies, false_implies, implies_true, not_true_eq_false, not_false_eq_true, and_true, true_and, Option.some.injEq, reduceCtorEq, forall_eq', forall_eq]
      exact hQ _ _ hU
    by_cases y4 : 99999 < x3
    · refine t_X10_price hS ?_
      simp (disch := omega) only [h1, h2, h3, h4, y1, y2, y3, y4, s1, m1, true_implies, false_implies, implies_true, not_true_eq_false, not_false_eq_true, and_true, true_and, Option.some.injEq, reduceCtorEq, forall_eq', forall_eq]
      refine hK _ _ hS hI.s0 fun Q hQ => t_X11_price hS ?_
      simp (disch := omega) only [h1, h2, h3, h4, y1, y2, y3, y4, R, true_implies, false_implies, implies_true, not_true_eq_false, not_false_eq_true, and_true, true_and, Option.some.injEq, reduceCtorEq, forall_eq', forall_eq]
      exact hQ _ _ hU
    obtain ⟨n, hn⟩ : ∃ n, n = tN (ρ 35 i) := ⟨_, rfl⟩
    rw [← hn] at p2 p3 m12 r1 r6
    obtain ⟨r1, r1'⟩ := r1
    by_cases c : n = 20
    · have k1 : ¬ nI n < nI 20 := nI_nlt (by omega) (by omega)
      have k2 : nI n = 20 := by rw [c]; rfl
      refine t_X10_price hS ?_
      simp (disch := omega) only [h1, h2, h3, h4, y1, y2, y3, y4, s1, m1, p1, p2, p5, p8, p9, k1, true_implies, false_implies, implies_true, not_true_eq_false, not_false_eq_true, and_true, true_and, Option.some.injEq, reduceCtorEq, forall_eq', forall_eq]
      refine hK _ _ hS hI.s0 fun Q hQ => t_X11_price hS ?_
      simp (disch := omega) only [h1, h2, h3, h4, y1, y2, y3, y4, R, r1, k2, true_implies, false_implies, implies_true, not_true_eq_false, not_false_eq_true, and_true, true_and, Option.some.injEq, reduceCtorEq, forall_eq', forall_eq]
      exact hQ _ _ hU
    · have k1 : nI n < nI 20 := nI_lt (by omega) (by omega)
      have k2 : ¬ nI n = 20 := by rw [show (20 : Int32) = nI 20 from rfl, nI_eq (by omega) (by omega)]; exact c
      have k3 : (nI n).toNatClampNeg = n := nI_clamp (by omega)
      have k4 : vp_in (nI n) 20 := vp_in_nI (by omega) (by decide)
      have k5 : 11 ≤ maF μ i + 1 := by omega
      have k6 : 11 ≤ maF μ i + 2 := by omega
      have k7 : 20 * nI i + nI n = nI (20 * i + n) := by rw [show (20 : Int32) = nI 20 from rfl, pk_mul, nI_add]
      have k8 : (nI (20 * i + n)).toNatClampNeg = 20 * i + n := nI_clamp (by omega)
      have k9 : vp_in (nI (20 * i + n)) 400 := vp_in_nI (by omega) (by decide)
      have k10 : nI n + 1 = nI (n + 1) := nI_1 n
      refine t_X10_price hS ?_
      simp (disch := omega) only [h1, h2, h3, h4, y1, y2, y3, y4, s1, m1, p1, p2, p4, p5, p6, p7, p8, p9, k1, k3, k4, k5, k6, zI_ne, zI_eq, zL_sI, k10, true_implies, false_implies, implies_true, not_true_eq_false, not_false_eq_true, and_true, true_and, Option.some.injEq, reduceCtorEq, forall_eq', forall_eq]
      refine hK _ _ hS.wI.wI.wI (((hI.s0.wi (by omega)).wi (by omega)).wi (by omega)) fun Q hQ => t_X11_price hS.wI.wI.wI ?_
      simp (disch := omega) only [h1, h2, h3, h4, y1, y2, y3, y4, zI_ne, zI_eq, R, r1, k2, k7, k8, k9, k10, true_implies, false_implies, implies_true, not_true_eq_false, not_false_eq_true, and_true, true_and, Option.some.injEq, reduceCtorEq, forall_eq', forall_eq]
      refine hQ g _ ?_
      have dv : (20 * i + n) / 20 = i := by omega
      refine IV.fr0 (Ps := fun _ => False) (Pa := fun _ => False) (Pl := fun _ => False) (Pm := (· = i)) hI hS.wI.wI.wI.wI.wI.wI ((((((EqX.rfl.wi (W0.m1 (Pm := (· = i)) rfl hi)).wi (W0.m2 (Pm := (· = i)) rfl hi)).wi (W0.m (Pm := (· = i)) rfl hi (by decide))).wi (W0.rq (Pm := (· = i)) (by decide) (by decide) dv)).wi (W0.rq (Pm := (· = i)) (by decide) (by decide) dv)).wi (W0.rm (Pm := (· = i)) (by decide) (by decide) (by decide) (by decide) rfl)) (fun _ => rfl) hρ rfl (Nat.le_succ t) ?_ (fun j _ p => ?_) (fun _ _ p => p.elim) (fun _ _ p => p.elim) (fun _ _ p => p.elim) ⟨fun _ p => p.elim, fun _ p => p.elim, fun j p => by rw [p]; exact hi⟩ ?_ ?_ ?_ (fun _ p => p.elim)
      · refine hr.s.cg2 fun j hj => ?_
        simp (disch := omega) only [rf_z, zI_ne, zI_nk, R]
      · subst p
        have k11 : tN (nI (n + 1)) = n + 1 := nI_clamp (by omega)
        constructor
        · unfold RIm
          simp (disch := omega) only [rf_z, zI_ne, zI_nk, zI_eq, R, k11]
          refine ⟨⟨rfl, by omega⟩, r2, r3, r4, ⟨r5.1, by have := r5.2; omega⟩, fun k hk => ?_⟩
          by_cases c2 : k = n
          · subst c2
            simp (disch := omega) only [zI_ne, zI_nk, zI_eq, R]
            exact ⟨rng_x 2999 rfl (by decide) y1 y2, rng_x 99999 rfl (by decide) y3 y4⟩
          · simp (disch := omega) only [zI_ne, zI_nk, R]
            exact r6 k (by omega)
        · unfold CRm MdlP
          simp (disch := omega) only [rf_z, saF_i, maF_i, laF_i, aaF_i, taF_i, zA_sI, zK_sI, zN_sI, zL_sI, zI_ne, zI_nk, zI_eq, R, k11]
          refine ⟨m1, m2, m3, ⟨p1, trivial, by omega, p4, p5, p6, p7, p8, p9⟩, m5, m6, m7, m8, m9, m10, m11, fun k hk => ?_⟩
          by_cases c2 : k = n
          · subst c2
            simp (disch := omega) only [zI_ne, zI_nk, zI_eq, R, and_self]
          · simp (disch := omega) only [zI_ne, zI_nk, R]
            exact m12 k (by omega)
      · refine hr.w.cg ?_ (fun j _ => ?_) (fun j _ _ q => ?_)
        · unfold nA
          simp (disch := omega) only [rf_z, zI_ne, zI_nk, R]
        · unfold as_
          simp (disch := omega) only [rf_z, zI_ne, zI_nk, R, true_implies, false_implies, implies_true, not_true_eq_false, not_false_eq_true, and_true, true_and, Option.some.injEq, reduceCtorEq, forall_eq', forall_eq, and_self]
        · simp (disch := omega) only [rf_z, zI_ne, zI_nk, R]
          exact q
      · unfold CRs
        simp (disch := omega) only [rf_z, saF_i, maF_i, laF_i, aaF_i, taF_i, zA_sI, zK_sI, zN_sI, zL_sI, zI_ne, zI_nk, zI_eq, R, s1, s2, s3, s4, s5, s6, s7, s8, s9, s10, s11, true_implies, false_implies, implies_true, not_true_eq_false, not_false_eq_true, and_true, true_and, Option.some.injEq, reduceCtorEq, forall_eq', forall_eq]
      · refine hc.n.cg ?_ ?_ (fun j => ?_) (fun j => ?_) (fun j => ?_) (fun j => ?_)
        · unfold nN
          simp (disch := omega) only [rf_z, zI_ne, zI_nk, R]
        · unfold tL
          simp (disch := omega) only [rf_z, zI_ne, zI_nk, R]
        all_goals simp (disch := omega) only [rf_z, zI_ne, zI_nk, R]
theorem pr_priceOn (hI : IV g L X t μ) : PRp E l d L X t mX10_priceOn mX11_priceOn [some (.ref 11), some (.int x1), some (.int x2), none] [some (.ref 31), some (.int x1), some (.int x2)] μ := by
  obtain ⟨ρ, hρ⟩ : ∃ ρ, rf μ = ρ := ⟨_, rfl⟩
  have hS := hI.st
  have hr := hI.r hρ
  have hc := hI.c hρ
  have R : ∀ a j, 31 ≤ a → a < 88 → zI μ a j = ρ a j := fun a j h1 h2 => rfz hρ h1 h2
  obtain ⟨s1, s2, s3, s4, s5, s6, s7, s8, s9, s10, s11⟩ := hc.s
  obtain ⟨b1, b2, b3, b4, b5, b6, b7, b8⟩ := hr.s
  have hU : IV g L X (t + 1) μ := hI.up (Nat.le_succ t)
  refine PRp.mk fun K hK => ?_
  rcases ix3 x1 (n := nM ρ) (by have := b1.2; omega) with h | ⟨h, h'⟩ | ⟨i, hi, rfl⟩
  · refine t_X10_priceOn hS ?_
    simp (disch := omega) only [h, true_implies, false_implies, implies_true, not_true_eq_false, not_false_eq_true, and_true, true_and, Option.some.injEq, reduceCtorEq, forall_eq', forall_eq]
    refine hK _ _ hS hI.s0 fun Q hQ => t_X11_priceOn hS ?_
    simp (disch := omega) only [h, R, true_implies, false_implies, implies_true, not_true_eq_false, not_false_eq_true, and_true, true_and, Option.some.injEq, reduceCtorEq, forall_eq', forall_eq]
    exact hQ _ _ hU
  · rw [← b1.1] at h'
    refine t_X10_priceOn hS ?_
    simp (disch := omega) only [h, h', s1, true_implies, false_implies, implies_true, not_true_eq_false, not_false_eq_true, and_true, true_and, Option.some.injEq, reduceCtorEq, forall_eq', forall_eq]
    refine hK _ _ hS hI.s0 fun Q hQ => t_X11_priceOn hS ?_
    simp (disch := omega) only [h, h', R, true_implies, false_implies, implies_true, not_true_eq_false, not_false_eq_true, and_true, true_and, Option.some.injEq, reduceCtorEq, forall_eq', forall_eq]
    exact hQ _ _ hU
  · have mp := (hc.m hi).2.2.2.1
    have b20 := b1.2
    have h1 : ¬ nI i < 0 := nI_pos (by omega)
    have h2 := ix_lt (by omega) hi
    have h3 : vp_in (nI i) 20 := vp_in_nI (by omega) (by decide)
    have h4 : (nI i).toNatClampNeg = i := nI_clamp (by omega)
    rw [← b1.1] at h2
    obtain ⟨m1, m2, m3, m4, m5, m6, m7, m8, m9, m10, m11, m12⟩ := hc.m hi
    obtain ⟨p1, p2, p3, p4, p5, p6, p7, p8, p9⟩ := m4
    obtain ⟨r1, r2, r3, r4, r5, r6⟩ := hr.m hi
    by_cases y1 : x2 < 0
    · refine t_X10_priceOn hS ?_
      simp (disch := omega) only [h1, h2, h3, h4, y1, s1, m1, true_implies, false_implies, implies_true, not_true_eq_false, not_false_eq_true, and_true, true_and, Option.some.injEq, reduceCtorEq, forall_eq', forall_eq]
      refine hK _ _ hS hI.s0 fun Q hQ => t_X11_priceOn hS ?_
      simp (disch := omega) only [h1, h2, h3, h4, y1, R, true_implies, false_implies, implies_true, not_true_eq_false, not_false_eq_true, and_true, true_and, Option.some.injEq, reduceCtorEq, forall_eq', forall_eq]
      exact hQ _ _ hU
    by_cases y2 : 2999 < x2
    · refine t_X10_priceOn hS ?_
      simp (disch := omega) only [h1, h2, h3, h4, y1, y2, s1, m1, true_implies, false_implies, implies_true, not_true_eq_false, not_false_eq_true, and_true, true_and, Option.some.injEq, reduceCtorEq, forall_eq', forall_eq]
      refine hK _ _ hS hI.s0 fun Q hQ => t_X11_priceOn hS ?_
      simp (disch := omega) only [h1, h2, h3, h4, y1, y2, R, true_implies, false_implies, implies_true, not_true_eq_false, not_false_eq_true, and_true, true_and, Option.some.injEq, reduceCtorEq, forall_eq', forall_eq]
      exact hQ _ _ hU
    refine t_X10_priceOn hS ?_
    simp (disch := omega) only [h1, h2, h3, h4, y1, y2, s1, m1, p1, true_implies, false_implies, implies_true, not_true_eq_false, not_false_eq_true, and_true, true_and, Option.some.injEq, reduceCtorEq, forall_eq', forall_eq]
    refine c_priceFor hS mp (fun j hj => by rw [(m12 j hj).1, i_le]; exact (r6 j hj).1.1) ⟨_, rfl, hS, ?_⟩
    refine hK _ _ hS hI.s0 fun Q hQ => t_X11_priceOn hS ?_
    simp (disch := omega) only [h1, h2, y1, y2, R, true_implies, false_implies, implies_true, not_true_eq_false, not_false_eq_true, and_true, true_and, Option.some.injEq, reduceCtorEq, forall_eq', forall_eq]
    refine c_priceAt hS (by omega) r1.2 ((R _ _ (by decide) (by decide)).trans r1.1) ⟨_, rfl, hS, ?_⟩
    have := hQ g μ hU
    rw [prF_cg (fun j hj => (m12 j hj).1.trans (R _ _ (by decide) (by decide)).symm) (fun j hj => (m12 j hj).2.trans (R _ _ (by decide) (by decide)).symm)] at this
    exact this
end SimF
