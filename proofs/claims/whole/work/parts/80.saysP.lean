section SaysP
variable {E : ZE} {l : Launch} {d : Nat} {g : Gh} {L : Nat} {X : Nat → Int32} {t : Nat} {μ : ZM} {x1 x2 x3 x4 : Int32}
theorem pr_says (hI : IV g L X t μ) : PRp E l d L X t mX10_says mX11_says [some (.ref 11), some (.int x1), some (.int x2), some (.int x3), some (.int x4), none, none, none] [some (.ref 31), some (.int x1), some (.int x2), some (.int x3), some (.int x4)] μ := by
  obtain ⟨ρ, hρ⟩ : ∃ ρ, rf μ = ρ := ⟨_, rfl⟩
  have hS := hI.st
  have hr := hI.r hρ
  have hc := hI.c hρ
  have R : ∀ a j, 31 ≤ a → a < 88 → zI μ a j = ρ a j := fun a j h1 h2 => rfz hρ h1 h2
  obtain ⟨s1, s2, s3, s4, s5, s6, s7, s8, s9, s10, s11⟩ := hc.s
  obtain ⟨b1, b2, b3, b4, b5, b6, b7, b8⟩ := hr.s
  have hU : IV g L X (t + 1) μ := hI.up (Nat.le_succ t)
  refine PRp.mk fun K hK => ?_
  have hA := hS.N
  rcases ix3 x2 (n := nS ρ) (by have := b3.2; omega) with h | ⟨h, h'⟩ | ⟨i, hi, rfl⟩
  · by_cases y1 : x1 < 0 <;> by_cases y2 : 1 < x1
    all_goals
      refine t_X10_says hS ?_
      simp (disch := omega) only [h, y1, y2, true_implies, false_implies, implies_true, not_true_eq_false, not_false_eq_true, and_true, true_and, Option.some.injEq, reduceCtorEq, forall_eq', forall_eq]
      refine hK _ _ hS hI.s0 fun Q hQ => t_X11_says hS ?_
      simp (disch := omega) only [h, y1, y2, R, true_implies, false_implies, implies_true, not_true_eq_false, not_false_eq_true, and_true, true_and, Option.some.injEq, reduceCtorEq, forall_eq', forall_eq]
      exact hQ _ _ hU
  · rw [← b3.1] at h'
    by_cases y1 : x1 < 0 <;> by_cases y2 : 1 < x1
    all_goals
      refine t_X10_says hS ?_
      simp (disch := omega) only [h, h', y1, y2, s3, true_implies, false_implies, implies_true, not_true_eq_false, not_false_eq_true, and_true, true_and, Option.some.injEq, reduceCtorEq, forall_eq', forall_eq]
      refine hK _ _ hS hI.s0 fun Q hQ => t_X11_says hS ?_
      simp (disch := omega) only [h, h', y1, y2, R, true_implies, false_implies, implies_true, not_true_eq_false, not_false_eq_true, and_true, true_and, Option.some.injEq, reduceCtorEq, forall_eq', forall_eq]
      exact hQ _ _ hU
  · have b300 := b3.2
    have h1 : ¬ nI i < 0 := nI_pos (by omega)
    have h2 := ix_lt (by omega) hi
    have h3 : vp_in (nI i) 300 := vp_in_nI (by omega) (by decide)
    have h4 : (nI i).toNatClampNeg = i := nI_clamp (by omega)
    rw [← b3.1] at h2
    obtain ⟨c1, c2, c3, c4, c5, c6, c7, c8, c9, c10, c11, c12, c13, c14, c15, c16, c17, c18, c19, c20, c21, c22, c23⟩ := hc.sa hi
    obtain ⟨d1, d2, d3, d4, d5, d6, d7, d8, d9, d10, d11, d12, d13, d14, d15, d16, d17, d18, d19⟩ := hr.sa hi
    by_cases y1 : x1 < 0
    · refine t_X10_says hS ?_
      simp (disch := omega) only [h1, h2, h3, h4, y1, s3, c1, true_implies, false_implies, implies_true, not_true_eq_false, not_false_eq_true, and_true, true_and, Option.some.injEq, reduceCtorEq, forall_eq', forall_eq]
      refine hK _ _ hS hI.s0 fun Q hQ => t_X11_says hS ?_
      simp (disch := omega) only [h1, h2, h3, h4, y1, R, true_implies, false_implies, implies_true, not_true_eq_false, not_false_eq_true, and_true, true_and, Option.some.injEq, reduceCtorEq, forall_eq', forall_eq]
      exact hQ _ _ hU
    by_cases y2 : 1 < x1
    · refine t_X10_says hS ?_
      simp (disch := omega) only [h1, h2, h3, h4, y1, y2, s3, c1, true_implies, false_implies, implies_true, not_true_eq_false, not_false_eq_true, and_true, true_and, Option.some.injEq, reduceCtorEq, forall_eq', forall_eq]
      refine hK _ _ hS hI.s0 fun Q hQ => t_X11_says hS ?_
      simp (disch := omega) only [h1, h2, h3, h4, y1, y2, R, true_implies, false_implies, implies_true, not_true_eq_false, not_false_eq_true, and_true, true_and, Option.some.injEq, reduceCtorEq, forall_eq', forall_eq]
      exact hQ _ _ hU
    by_cases z1 : x3 < 0
    · by_cases y3 : x4 < 0 <;> by_cases y4 : 2 < x4
      all_goals
        refine t_X10_says hS ?_
        simp (disch := omega) only [h1, h2, h3, h4, y1, y2, y3, y4, z1, s3, c1, true_implies, false_implies, implies_true, not_true_eq_false, not_false_eq_true, and_true, true_and, Option.some.injEq, reduceCtorEq, forall_eq', forall_eq]
        refine hK _ _ hS hI.s0 fun Q hQ => t_X11_says hS ?_
        simp (disch := omega) only [h1, h2, h3, h4, y1, y2, y3, y4, z1, R, true_implies, false_implies, implies_true, not_true_eq_false, not_false_eq_true, and_true, true_and, Option.some.injEq, reduceCtorEq, forall_eq', forall_eq]
        exact hQ _ _ hU
    by_cases z2 : 999999 < x3
    · have z2' : 999191 < x3 := by
        rw [i_lt] at z2 ⊢
        rw [show (999999 : Int32).toInt = 999999 from by decide] at z2
        rw [show (999191 : Int32).toInt = 999191 from by decide]
        omega
      by_cases y3 : x4 < 0 <;> by_cases y4 : 2 < x4
      all_goals
        refine t_X10_says hS ?_
        simp (disch := omega) only [h1, h2, h3, h4, y1, y2, y3, y4, z1, z2, z2', s3, c1, true_implies, false_implies, implies_true, not_true_eq_false, not_false_eq_true, and_true, true_and, Option.some.injEq, reduceCtorEq, forall_eq', forall_eq]
        refine hK _ _ hS hI.s0 fun Q hQ => t_X11_says hS ?_
        simp (disch := omega) only [h1, h2, h3, h4, y1, y2, y3, y4, z1, z2, z2', R, true_implies, false_implies, implies_true, not_true_eq_false, not_false_eq_true, and_true, true_and, Option.some.injEq, reduceCtorEq, forall_eq', forall_eq]
        exact hQ _ _ hU
    obtain ⟨f, hf, rfl⟩ : ∃ f, f ≤ 999999 ∧ x3 = nI f := nI_of2 (M := 999999) (by decide) z1 (Int32.not_lt.mp z2)
    have rg : rng (nI f) 0 999999 := by unfold rng; rw [nI_toInt (by omega)]; omega
    have tn : tN (nI f) = f := nI_clamp (by omega)
    have a2 := dg1 rg 100 (y := 100) rfl (by decide) (by decide)
    have a1 := dg1 rg 10 (y := 10) rfl (by decide) (by decide)
    have a0 := dg1 rg 1 (y := 1) rfl (by decide) (by decide)
    have a0' : nI f - nI f / 10 * 10 = nI (f % 10) := pk_rem (by omega) (by decide) (by decide)
    rw [tn] at a0 a1 a2
    rw [Nat.div_one] at a0
    have k1 : ((1 : Int32) < nI (f / 100 % 10)) = (1 < f / 100 % 10) := nl1 (by omega)
    have k2 : ((1 : Int32) < nI (f % 10)) = (1 < f % 10) := nl1 (by omega)
    have k3 : (nI (f % 10) ≤ (1 : Int32)) = (f % 10 ≤ 1) := by rw [show (1 : Int32) = nI 1 from rfl, nI_leI (by omega) (by decide)]
    have k4 : ((999191 : Int32) < nI f) = (999191 < f) := by rw [show (999191 : Int32) = nI 999191 from rfl, nI_ltI (by decide) (by omega)]
    by_cases w1 : 1 < f / 100 % 10
    · by_cases y3 : x4 < 0 <;> by_cases y4 : 2 < x4 <;> by_cases w3 : 999191 < f
      all_goals
        refine t_X10_says hS ?_
        simp (disch := omega) only [h1, h2, h3, h4, y1, y2, y3, y4, z1, z2, w1, w3, a0, a1, a2, a0', k1, k2, k3, k4, s3, c1, true_implies, false_implies, implies_true, not_true_eq_false, not_false_eq_true, and_true, true_and, Option.some.injEq, reduceCtorEq, forall_eq', forall_eq]
        refine hK _ _ hS hI.s0 fun Q hQ => t_X11_says hS ?_
        simp (disch := omega) only [h1, h2, h3, h4, y1, y2, y3, y4, z1, z2, w1, w3, a0, a1, a2, a0', k1, k2, k3, k4, R, true_implies, false_implies, implies_true, not_true_eq_false, not_false_eq_true, and_true, true_and, Option.some.injEq, reduceCtorEq, forall_eq', forall_eq]
        exact hQ _ _ hU
    by_cases w2 : f % 10 ≤ 1
    · have w2' : ¬ 1 < f % 10 := by omega
      have w3 : ¬ 999191 < f := by omega
      by_cases y3 : x4 < 0
      · refine t_X10_says hS ?_
        simp (disch := omega) only [h1, h2, h3, h4, y1, y2, y3, z1, z2, w1, w2, w2', w3, a0, a1, a2, a0', k1, k2, k3, k4, s3, c1, true_implies, false_implies, implies_true, not_true_eq_false, not_false_eq_true, and_true, true_and, Option.some.injEq, reduceCtorEq, forall_eq', forall_eq]
        refine hK _ _ hS hI.s0 fun Q hQ => t_X11_says hS ?_
        simp (disch := omega) only [h1, h2, h3, h4, y1, y2, y3, z1, z2, w1, w2, w2', w3, a0, a1, a2, a0', k1, k2, k3, k4, R, true_implies, false_implies, implies_true, not_true_eq_false, not_false_eq_true, and_true, true_and, Option.some.injEq, reduceCtorEq, forall_eq', forall_eq]
        exact hQ _ _ hU
      by_cases y4 : 2 < x4
      · refine t_X10_says hS ?_
        simp (disch := omega) only [h1, h2, h3, h4, y1, y2, y3, y4, z1, z2, w1, w2, w2', w3, a0, a1, a2, a0', k1, k2, k3, k4, s3, c1, true_implies, false_implies, implies_true, not_true_eq_false, not_false_eq_true, and_true, true_and, Option.some.injEq, reduceCtorEq, forall_eq', forall_eq]
        refine hK _ _ hS hI.s0 fun Q hQ => t_X11_says hS ?_
        simp (disch := omega) only [h1, h2, h3, h4, y1, y2, y3, y4, z1, z2, w1, w2, w2', w3, a0, a1, a2, a0', k1, k2, k3, k4, R, true_implies, false_implies, implies_true, not_true_eq_false, not_false_eq_true, and_true, true_and, Option.some.injEq, reduceCtorEq, forall_eq', forall_eq]
        exact hQ _ _ hU
      obtain ⟨u1, u2⟩ := dv24 b8
      have hmx : tN (ρ 31 1) ≤ 71999 := by
        have a2 := (nn_of b8.1).2.1
        have := b8.2
        omega
      obtain ⟨dy, hdy⟩ : ∃ n, n = tN (ρ 31 1) / 24 := ⟨_, rfl⟩
      rw [← hdy] at u1
      have hd3 : dy ≤ 2999 := by omega
      -- the names as told
      have nmx : ∀ (M : ZM) (a : Nat) (nm : Nat → Int32), (∀ (d f w o : Int32) k, 4 ≤ k → k < 12 → zI M a k = nmF ρ i x4 (nI dy) d f w o k) → ∀ k, k < 12 → zI (sI (sI (sI (sI M a 0 (nI f / 1000)) a 1 (nI (f / 100 % 10))) a 2 (nI (f / 10 % 10))) a 3 (nI (f % 10))) a k = nmF ρ i x4 (nI dy) (nI f / 1000) (nI (f / 100 % 10)) (nI (f / 10 % 10)) (nI (f % 10)) k := by
        intro M a _ hk k hk12
        by_cases c : 4 ≤ k
        · rw [zI_nk (by omega), zI_nk (by omega), zI_nk (by omega), zI_nk (by omega)]
          exact hk _ _ _ _ k c hk12
        · have hk4 : k = 0 ∨ k = 1 ∨ k = 2 ∨ k = 3 := by omega
          rcases hk4 with rfl | rfl | rfl | rfl
          all_goals
            simp (disch := omega) only [zI_nk, zI_eq]
            rfl
      -- the reference's side
      have refS : ∀ (M : ZM) (Q : Option Value → ZM → Prop), Stat M → rf M = ρ → (∀ M2, Stat M2 → EqX M M2 (fun b _ => b = 72 ∨ b = 73) (fun _ _ => False) → (∀ j, zJ M2 86 j = zJ M 86 j) → Q (some (.int (syV g ρ (nmF ρ i x4 (nI dy) (nI f / 1000) (nI (f / 100 % 10)) (nI (f / 10 % 10)) (nI (f % 10))) x1 i (nI dy)))) M2) → AW E l (d + 299) 0 0 mX11_says 0 [some (.ref 31), some (.int x1), some (.int (nI i)), some (.int (nI f)), some (.int x4)] [] M Q := by
        intro M Q hSM hrM hq
        have RM : ∀ a j, 31 ≤ a → a < 88 → zI M a j = ρ a j := fun a j h1 h2 => rfz hrM h1 h2
        refine t_X11_says hSM ?_
        simp (disch := omega) only [h1, h2, y1, y2, y3, y4, z1, w1, w2', w3, a0, a1, a2, a0', k1, k2, k4, RM, u1, true_implies, false_implies, implies_true, not_true_eq_false, not_false_eq_true, and_true, true_and, Option.some.injEq, reduceCtorEq, forall_eq', forall_eq]
        refine r_factsOf hSM hr (fun b j _ _ _ => by rw [hrM]) hi (fun M1 hS1 x1' j1 nm1 => ⟨rfl, hS1, ?_⟩)
        have hx2 : EqX M (sI (sI (sI (sI M1 72 0 (nI f / 1000)) 72 1 (nI (f / 100 % 10))) 72 2 (nI (f / 10 % 10))) 72 3 (nI (f % 10))) (fun b _ => b = 72 ∨ b = 73) (fun _ _ => False) := ((((x1'.mono (fun b j h => Or.inl h.1) (fun _ _ h => h)).wi (Or.inl (Or.inl rfl))).wi (Or.inl (Or.inl rfl))).wi (Or.inl (Or.inl rfl))).wi (Or.inl (Or.inl rfl))
        have hR2 := RE_x hSM (fun b j _ _ _ => by rw [hrM]) hx2
        have e31 : zI M1 31 1 = ρ 31 1 := by rw [x1'.2.2.1 _ _ (by have := hSM.N; omega) (by omega)]; exact RM _ _ (by decide) (by decide)
        simp (disch := omega) only [zI_ne, e31, u1]
        refine r_sideSays hS1.wI.wI.wI.wI hr hR2 hi (fun M3 st hS3 hM3 => ⟨_, rfl, hS3, ?_⟩)
        have ev : syV g ρ (zI (sI (sI (sI (sI M1 72 0 (nI f / 1000)) 72 1 (nI (f / 100 % 10))) 72 2 (nI (f / 10 % 10))) 72 3 (nI (f % 10))) 72) x1 i (nI dy) = syV g ρ (nmF ρ i x4 (nI dy) (nI f / 1000) (nI (f / 100 % 10)) (nI (f / 10 % 10)) (nI (f % 10))) x1 i (nI dy) := by
          unfold syV
          cases hf : foT ρ x1 i (nI dy) (nT ρ) with
          | none => rfl
          | some k => exact evT_cg (nmx M1 72 (fun _ => 0) nm1) (hr.tx (foF_lt hf)).1.1
        rw [ev]
        exact hq M3 hS3 (hx2.trans (hM3.1.mono (fun b j h => Or.inr h) (fun _ _ h => h))) (fun j => (hM3.2.2.1 j).trans (j1 j))
      -- the end
      have fin : ∀ (M : ZM), Stat M → EqX μ M (fun b _ => 22 ≤ b ∧ b ≤ 29) (fun _ _ => False) → (∀ j, zJ M 86 j = zJ μ 86 j) → K (some (.int (syV g ρ (nmF ρ i x4 (nI dy) (nI f / 1000) (nI (f / 100 % 10)) (nI (f / 10 % 10)) (nI (f % 10))) x1 i (nI dy)))) M := by
        intro M hSM hx hj
        obtain ⟨IM, rM⟩ := hI.csc hρ hx hj hSM
        refine hK _ _ hSM IM.s0 fun Q hQ => refS M Q hSM rM (fun M2 hS2 x2 j2 => hQ g _ ?_)
        refine IM.scr rM (x2.mono (fun b j h => ?_) (fun _ _ h => h)) hS2 (IM.w.cg j2) (Nat.le_succ t)
        exact Or.inr (Or.inr (Or.inr (Or.inr (Or.inl (by omega)))))
      refine t_X10_says hS ?_
      simp (disch := omega) only [h1, h2, h3, h4, s3, s6, c1, y1, y2, y3, y4, z1, z2, w1, w2, a0, a1, a2, k1, k3, u1, true_implies, false_implies, implies_true, not_true_eq_false, not_false_eq_true, and_true, true_and, Option.some.injEq, reduceCtorEq, forall_eq', forall_eq]
      refine c_tellSale hI hρ hi hd3 (fun M1 hS1 x1' j1 nm1 => ⟨rfl, hS1, ?_⟩)
      have hx2 : EqX μ (sI (sI (sI (sI M1 27 0 (nI f / 1000)) 27 1 (nI (f / 100 % 10))) 27 2 (nI (f / 10 % 10))) 27 3 (nI (f % 10))) (fun b _ => 22 ≤ b ∧ b ≤ 29) (fun _ _ => False) := ((((x1'.mono (fun b j h => by omega) (fun _ _ h => h)).wi (Or.inl (by decide))).wi (Or.inl (by decide))).wi (Or.inl (by decide))).wi (Or.inl (by decide))
      obtain ⟨I2, r2⟩ := hI.csc (M := sI (sI (sI (sI M1 27 0 (nI f / 1000)) 27 1 (nI (f / 100 % 10))) 27 2 (nI (f / 10 % 10))) 27 3 (nI (f % 10))) hρ hx2 j1 hS1.wI.wI.wI.wI
      have e11 : zI M1 11 17 = ρ 31 1 := by rw [x1'.2.2.1 _ _ (by omega) (by omega)]; exact s6
      simp (disch := omega) only [zI_ne, e11, u1]
      have q1 : saF μ i = saF (sI (sI (sI (sI M1 27 0 (nI f / 1000)) 27 1 (nI (f / 100 % 10))) 27 2 (nI (f / 10 % 10))) 27 3 (nI (f % 10))) i := by
        show _ = saF M1 i
        unfold saF
        rw [x1'.2.2.2.1 14 i (by omega) (fun z => z)]
      rw [q1]
      refine c_textFor I2.st (I2.r r2) (I2.c r2) hi (fun z => Or.inl ⟨rfl, I2.st, ?_⟩) (fun k z => Or.inr ⟨_, rfl, I2.st, ?_⟩)
      · have := fin _ I2.st hx2 j1
        unfold syV at this
        rw [z] at this
        exact this
      · have hk := foF_lt z
        obtain ⟨e1, e2, e3, e4, e5, e6, e7, e8, e9, e10, e11, e12, e13⟩ := (I2.c r2).tx hk
        refine ⟨e4, fun q => absurd (e9.symm.trans q) (by simp), fun b hb => ?_⟩
        rw [e9] at hb
        cases hb
        refine c_runText I2 r2 hk (fun M3 st hS3 hM3 => ⟨_, rfl, hS3, ?_⟩)
        have := fin M3 hS3 (hx2.trans (hM3.1.mono (fun b j h => by omega) (fun _ _ h => h))) (fun j => (hM3.2.2.1 j).trans (j1 j))
        unfold syV at this
        rw [z] at this
        rw [evT_cg (nmx M1 27 (fun _ => 0) nm1) (hr.tx hk).1.1]
        exact this
    · have w2' : 1 < f % 10 := by omega
      by_cases y3 : x4 < 0 <;> by_cases y4 : 2 < x4 <;> by_cases w3 : 999191 < f
      all_goals
        refine t_X10_says hS ?_
        simp (disch := omega) only [h1, h2, h3, h4, y1, y2, y3, y4, z1, z2, w1, w2, w2', w3, a0, a1, a2, a0', k1, k2, k3, k4, s3, c1, true_implies, false_implies, implies_true, not_true_eq_false, not_false_eq_true, and_true, true_and, Option.some.injEq, reduceCtorEq, forall_eq', forall_eq]
        refine hK _ _ hS hI.s0 fun Q hQ => t_X11_says hS ?_
        simp (disch := omega) only [h1, h2, h3, h4, y1, y2, y3, y4, z1, z2, w1, w2, w2', w3, a0, a1, a2, a0', k1, k2, k3, k4, R, true_implies, false_implies, implies_true, not_true_eq_false, not_false_eq_true, and_true, true_and, Option.some.injEq, reduceCtorEq, forall_eq', forall_eq]
        exact hQ _ _ hU
end SaysP
