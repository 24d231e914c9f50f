section BeyC
variable {E : ZE} {l : Launch} {d nc ns : Nat} {g : Gh} {L : Nat} {X : Nat → Int32} {t : Nat} {μ : ZM} {ρ : RV} {K : Option Value → ZM → Prop} {x1 x2 x3 x4 : Int32} {i j k p : Nat}
theorem c_beyC (hS : Stat μ) (hr : RIg g t ρ) (hc : CRg g μ ρ) (hi : i < nL ρ) (hp : 1 ≤ p ∧ p ≤ 9999) (hk : k ≤ 2999) (h : K (some (.int (beV ρ i p k))) μ) : AW E l (d + 2) nc ns mX10_beyondChance 0 (zargs 12 [.ref 11, .ref (laF μ i), .int (nI p), .int (nI k)]) [] μ K := by
  obtain ⟨s1, s2, s3, s4, s5, s6, s7, s8, s9, s10, s11⟩ := hc.s
  obtain ⟨b1, b2, b3, b4, b5, b6, b7, b8⟩ := hr.s
  have b300 := b3.2
  have lE : ρ 31 22 ≤ nI (nS ρ) := by rw [← b3.1]; exact Int32.le_refl _
  have hrl := hr.l hi
  have hcl := hc.l hi
  obtain ⟨v1, v2, v3, v4, v5, v6, v7⟩ := hcl
  have b60 := b2.2
  have kl : 11 ≤ laF μ i := by omega
  have km : 11 ≤ maF μ (lm ρ i) := by have := k_ma hc hrl.2.1; omega
  obtain ⟨q1, q2, q3, q4⟩ := cnt_all (i := i) (k := k) hr
  refine t_X10_beyondChance hS ?_
  refine lpd (P := fun j => AW E l (d + 2) nc ns mX10_beyondChance 15 [some (.ref 11), some (.ref (laF μ i)), some (.int (nI p)), some (.int (nI k)), some (.int (nI (cnt (pA ρ i k) j))), some (.int (nI (cnt (pB ρ i k) j))), some (.int (nI (cnt (pO ρ i k) j))), some (.int (nI (cnt (pQ ρ i k) j))), some (.int (nI j)), none, none, none] [] μ K) (n := nS ρ) ?_ ?_
  · refine t_X10_beyondChance_15 hS (c_t (by rw [s3]; exact lE) ?_)
    unfold beV bqV at h
    obtain ⟨N, eN⟩ : ∃ N, N = cnt (pA ρ i k) (nS ρ) := ⟨_, rfl⟩
    obtain ⟨B, eB⟩ : ∃ N, N = cnt (pB ρ i k) (nS ρ) := ⟨_, rfl⟩
    obtain ⟨n, en⟩ : ∃ N, N = cnt (pO ρ i k) (nS ρ) := ⟨_, rfl⟩
    obtain ⟨b, eb⟩ : ∃ N, N = cnt (pQ ρ i k) (nS ρ) := ⟨_, rfl⟩
    rw [← eN, ← eB, ← en, ← eb] at h ⊢
    rw [← eN, ← eB] at q1
    rw [← en, ← eN] at q2
    rw [← eb, ← en] at q3
    rw [← eN] at q4
    rw [show (60 : Int32) = nI 60 from rfl, nI_leI (by omega) (by decide)]
    refine ⟨fun z => ?_, fun z => ?_⟩
    · rw [if_neg (by omega)] at h
      refine c_choose hS z (by omega) ⟨_, rfl, hS, ?_⟩
      have bb := mS_b (A := N - B) (B := B) (n := n) (i := b) (c := n + 1 - b) (by omega)
      have bW := ncr_le (n := N) (k := n) z
      have eNB : N = (N - B) + B := by omega
      refine t_X10_dealsWith hS ?_
      rw [show nI N = nI ((N - B) + B) from by rw [← eNB]]
      refine c_deals (A := N - B) (B := B) (c := b) hS (by omega) (by omega) (n + 1 - b) b 0 (by omega) (Nat.le_refl _) ⟨_, rfl, hS, ?_⟩
      refine c_least hS hp.2 bW ⟨_, rfl, hS, ?_⟩
      have r1 : ncr N n / 10000 * p ≤ ncr N n / 10000 * 9999 := Nat.mul_le_mul_left _ hp.2
      have r2 : ncr N n % 10000 * p ≤ 9999 * 9999 := Nat.mul_le_mul (by omega) hp.2
      rw [lg_cmp_ge, Nat.zero_add, pk_lLE (by omega) (by omega)]
      refine ⟨fun y => ?_, fun y => ?_⟩
      · rw [if_neg (by omega)] at h
        exact h
      · rw [if_pos (by omega)] at h
        exact h
    · rw [if_pos (by omega)] at h
      exact h
  · intro j hj ih
    have l1 : ¬ ρ 31 22 ≤ nI j := by rw [b3.1]; exact nI_ge hj (by omega)
    have l3 : vp_in (nI j) 300 := vp_in_nI (by omega) (by decide)
    have l4 : (nI j).toNatClampNeg = j := nI_clamp (by omega)
    obtain ⟨d1, d2, d3, d4, d5, d6, d7, d8, d9, d10, d11, d12, d13, d14, d15, d16, d17, d18, d19⟩ := hr.sa hj
    obtain ⟨c1, c2, c3, c4, c5, c6, c7, c8, c9, c10, c11, c12, c13, c14, c15, c16, c17, c18, c19, c20, c21, c22, c23⟩ := hc.sa hj
    have kl2 := k_la11 hr hc hj
    have ka := k_ma11 hr hc hj
    obtain ⟨u1, u2⟩ := dy_eq hr hj
    obtain ⟨w1, w2, -⟩ := bd_eq (k := k) hr hj
    have eM : (maF μ (smo ρ j) = maF μ (lm ρ i)) = (smo ρ j = lm ρ i) := propext (ma_eq hr hc (hr.l (hr.sa hj).2.1).2.1 hrl.2.1)
    have eL : (laF μ (sl ρ j) = laF μ i) = (sl ρ j = i) := propext (la_eq hr hc (hr.sa hj).2.1 hi)
    have e2 : (nI k < nI (dyN ρ j)) = (k < dyN ρ j) := by rw [nI_ltI (by omega) (by omega)]
    have e3 : (nI k < nI (bdN ρ j)) = (k < bdN ρ j) := by rw [nI_ltI (by omega) (by omega)]
    have m00 : (0 : Int32) * 0 = 0 := by decide
    have m01 : (0 : Int32) * 1 = 0 := by decide
    have m10 : (1 : Int32) * 0 = 0 := by decide
    have m11 : (1 : Int32) * 1 = 1 := by decide
    have sm : sl ρ j = i → smo ρ j = lm ρ i := fun z => by unfold smo; rw [z]
    have cA : cnt (pA ρ i k) (j + 1) = cnt (pA ρ i k) j + if smo ρ j = lm ρ i ∧ dyN ρ j ≤ k then 1 else 0 := by
      show _ + (if pA ρ i k j then 1 else 0) = _
      unfold pA
      simp only [decide_eq_true_eq]
    have cB : cnt (pB ρ i k) (j + 1) = cnt (pB ρ i k) j + if smo ρ j = lm ρ i ∧ dyN ρ j ≤ k ∧ bdN ρ j ≤ k then 1 else 0 := by
      show _ + (if pB ρ i k j then 1 else 0) = _
      unfold pB
      simp only [decide_eq_true_eq]
    have cO : cnt (pO ρ i k) (j + 1) = cnt (pO ρ i k) j + if sl ρ j = i ∧ dyN ρ j ≤ k then 1 else 0 := by
      show _ + (if pO ρ i k j then 1 else 0) = _
      unfold pO
      simp only [decide_eq_true_eq]
    have cQ : cnt (pQ ρ i k) (j + 1) = cnt (pQ ρ i k) j + if sl ρ j = i ∧ dyN ρ j ≤ k ∧ bdN ρ j ≤ k then 1 else 0 := by
      show _ + (if pQ ρ i k j then 1 else 0) = _
      unfold pQ
      simp only [decide_eq_true_eq]
    rw [cA, cB, cO, cQ] at ih
    refine t_X10_beyondChance_15 hS ?_
    simp (disch := omega) only [s3, l1, l3, l4, c1, c4, c6, c7, c13, c18, v4, v6, kl, kl2, ka, km, eM, eL, u1, w1, e2, e3, m00, m01, m10, m11, nI_1, if_true, if_false, true_or, or_true, false_or, or_false, and_false, false_and, and_self, or_self, Int32.add_zero, true_implies, false_implies, implies_true, not_true_eq_false, not_false_eq_true, and_true, true_and, Option.some.injEq, reduceCtorEq, forall_eq', forall_eq]
    by_cases p1 : smo ρ j = lm ρ i
    · by_cases p2 : k < dyN ρ j
      · have p2' : ¬ dyN ρ j ≤ k := by omega
        simp only [p1, p2, p2', Nat.add_zero, if_true, if_false, true_or, or_true, false_or, or_false, and_false, false_and, and_self, or_self, Int32.add_zero, true_implies, false_implies, implies_true, not_true_eq_false, not_false_eq_true, and_true, true_and, Option.some.injEq, reduceCtorEq, forall_eq', forall_eq] at ih ⊢
        exact ih
      · have p2' : dyN ρ j ≤ k := by omega
        by_cases p3 : k < bdN ρ j
        · have p3' : ¬ bdN ρ j ≤ k := by omega
          by_cases p4 : sl ρ j = i
          all_goals
            simp only [p1, p2, p2', p3, p3', p4, Nat.add_zero, if_true, if_false, true_or, or_true, false_or, or_false, and_false, false_and, and_self, or_self, Int32.add_zero, true_implies, false_implies, implies_true, not_true_eq_false, not_false_eq_true, and_true, true_and, Option.some.injEq, reduceCtorEq, forall_eq', forall_eq] at ih ⊢
            exact ih
        · have p3' : bdN ρ j ≤ k := by omega
          by_cases p4 : sl ρ j = i
          all_goals
            simp only [p1, p2, p2', p3, p3', p4, Nat.add_zero, if_true, if_false, true_or, or_true, false_or, or_false, and_false, false_and, and_self, or_self, Int32.add_zero, true_implies, false_implies, implies_true, not_true_eq_false, not_false_eq_true, and_true, true_and, Option.some.injEq, reduceCtorEq, forall_eq', forall_eq] at ih ⊢
            exact ih
    · have p4 : ¬ sl ρ j = i := fun z => p1 (sm z)
      simp only [p1, p4, Nat.add_zero, if_true, if_false, true_or, or_true, false_or, or_false, and_false, false_and, and_self, or_self, Int32.add_zero, true_implies, false_implies, implies_true, not_true_eq_false, not_false_eq_true, and_true, true_and, Option.some.injEq, reduceCtorEq, forall_eq', forall_eq] at ih ⊢
      exact ih
theorem IV.endJ {M M2 : ZM} (IM : IV g L X t M) (rM : rf M = ρ) (x2 : EqJ M M2) (hS2 : Stat M2) (w2 : CRw M2) : IV g L X (t + 1) M2 :=
  IM.scr rM (x2.mono (fun b j h => h.elim) (fun _ _ h => h)) hS2 w2 (Nat.le_succ t)
end BeyC
section BeyP
variable {E : ZE} {l : Launch} {d : Nat} {g : Gh} {L : Nat} {X : Nat → Int32} {t : Nat} {μ : ZM} {x1 x2 x3 : Int32}
theorem pr_beyond (hI : IV g L X t μ) : PRp E l d L X t mX10_beyond mX11_beyond [some (.ref 11), some (.int x1), some (.int x2), some (.int x3), none] [some (.ref 31), some (.int x1), some (.int x2), some (.int x3)] μ := by
  obtain ⟨ρ, hρ⟩ : ∃ ρ, rf μ = ρ := ⟨_, rfl⟩
  have hS := hI.st
  have hr := hI.r hρ
  have hc := hI.c hρ
  have R : ∀ a j, 31 ≤ a → a < 88 → zI μ a j = ρ a j := fun a j h1 h2 => rfz hρ h1 h2
  obtain ⟨s1, s2, s3, s4, s5, s6, s7, s8, s9, s10, s11⟩ := hc.s
  obtain ⟨b1, b2, b3, b4, b5, b6, b7, b8⟩ := hr.s
  have hU : IV g L X (t + 1) μ := hI.up (Nat.le_succ t)
  refine PRp.mk fun K hK => ?_
  rcases ix3 x1 (n := nL ρ) (by have := b2.2; omega) with h | ⟨h, h'⟩ | ⟨i, hi, rfl⟩
  · refine t_X10_beyond hS ?_
    simp (disch := omega) only [h, true_implies, false_implies, implies_true, not_true_eq_false, not_false_eq_true, and_true, true_and, Option.some.injEq, reduceCtorEq, forall_eq', forall_eq]
    refine hK _ _ hS hI.s0 fun Q hQ => t_X11_beyond hS ?_
    simp (disch := omega) only [h, R, true_implies, false_implies, implies_true, not_true_eq_false, not_false_eq_true, and_true, true_and, Option.some.injEq, reduceCtorEq, forall_eq', forall_eq]
    exact hQ _ _ hU
  · rw [← b2.1] at h'
    refine t_X10_beyond hS ?_
    simp (disch := omega) only [h, h', s2, true_implies, false_implies, implies_true, not_true_eq_false, not_false_eq_true, and_true, true_and, Option.some.injEq, reduceCtorEq, forall_eq', forall_eq]
    refine hK _ _ hS hI.s0 fun Q hQ => t_X11_beyond hS ?_
    simp (disch := omega) only [h, h', R, true_implies, false_implies, implies_true, not_true_eq_false, not_false_eq_true, and_true, true_and, Option.some.injEq, reduceCtorEq, forall_eq', forall_eq]
    exact hQ _ _ hU
  · have b60 := b2.2
    have h1 : ¬ nI i < 0 := nI_pos (by omega)
    have h2 := ix_lt (by omega) hi
    have h3 : vp_in (nI i) 60 := vp_in_nI (by omega) (by decide)
    have h4 : (nI i).toNatClampNeg = i := nI_clamp (by omega)
    rw [← b2.1] at h2
    obtain ⟨c1, c2, c3, c4, c5, c6, c7⟩ := hc.l hi
    by_cases y1 : x2 < 1
    · refine t_X10_beyond hS ?_
      simp (disch := omega) only [h1, h2, h3, h4, y1, s2, c1, true_implies, false_implies, implies_true, not_true_eq_false, not_false_eq_true, and_true, true_and, Option.some.injEq, reduceCtorEq, forall_eq', forall_eq]
      refine hK _ _ hS hI.s0 fun Q hQ => t_X11_beyond hS ?_
      simp (disch := omega) only [h1, h2, h3, h4, y1, R, true_implies, false_implies, implies_true, not_true_eq_false, not_false_eq_true, and_true, true_and, Option.some.injEq, reduceCtorEq, forall_eq', forall_eq]
      exact hQ _ _ hU
    by_cases y2 : 9999 < x2
    · refine t_X10_beyond hS ?_
      simp (disch := omega) only [h1, h2, h3, h4, y1, y2, s2, c1, true_implies, false_implies, implies_true, not_true_eq_false, not_false_eq_true, and_true, true_and, Option.some.injEq, reduceCtorEq, forall_eq', forall_eq]
      refine hK _ _ hS hI.s0 fun Q hQ => t_X11_beyond hS ?_
      simp (disch := omega) only [h1, h2, h3, h4, y1, y2, R, true_implies, false_implies, implies_true, not_true_eq_false, not_false_eq_true, and_true, true_and, Option.some.injEq, reduceCtorEq, forall_eq', forall_eq]
      exact hQ _ _ hU
    by_cases y3 : x3 < 0
    · refine t_X10_beyond hS ?_
      simp (disch := omega) only [h1, h2, h3, h4, y1, y2, y3, s2, c1, true_implies, false_implies, implies_true, not_true_eq_false, not_false_eq_true, and_true, true_and, Option.some.injEq, reduceCtorEq, forall_eq', forall_eq]
      refine hK _ _ hS hI.s0 fun Q hQ => t_X11_beyond hS ?_
      simp (disch := omega) only [h1, h2, h3, h4, y1, y2, y3, R, true_implies, false_implies, implies_true, not_true_eq_false, not_false_eq_true, and_true, true_and, Option.some.injEq, reduceCtorEq, forall_eq', forall_eq]
      exact hQ _ _ hU
    by_cases y4 : 2999 < x3
    · refine t_X10_beyond hS ?_
      simp (disch := omega) only [h1, h2, h3, h4, y1, y2, y3, y4, s2, c1, true_implies, false_implies, implies_true, not_true_eq_false, not_false_eq_true, and_true, true_and, Option.some.injEq, reduceCtorEq, forall_eq', forall_eq]
      refine hK _ _ hS hI.s0 fun Q hQ => t_X11_beyond hS ?_
      simp (disch := omega) only [h1, h2, h3, h4, y1, y2, y3, y4, R, true_implies, false_implies, implies_true, not_true_eq_false, not_false_eq_true, and_true, true_and, Option.some.injEq, reduceCtorEq, forall_eq', forall_eq]
      exact hQ _ _ hU
    have z1 : ¬ x2 < 0 := by
      rw [i_lt] at y1 ⊢
      rw [show (1 : Int32).toInt = 1 from by decide] at y1
      rw [show (0 : Int32).toInt = 0 from by decide]
      omega
    obtain ⟨p, hp, rfl⟩ : ∃ f, f ≤ 9999 ∧ x2 = nI f := nI_of2 (M := 9999) (by decide) z1 (Int32.not_lt.mp y2)
    obtain ⟨k, hk, rfl⟩ : ∃ f, f ≤ 2999 ∧ x3 = nI f := nI_of2 (M := 2999) (by decide) y3 (Int32.not_lt.mp y4)
    have hp1 : 1 ≤ p := by
      rw [show (1 : Int32) = nI 1 from rfl, nI_ltI (by omega) (by decide)] at y1
      omega
    refine t_X10_beyond hS ?_
    simp (disch := omega) only [h1, h2, h3, h4, s2, c1, y1, y2, y3, y4, true_implies, false_implies, implies_true, not_true_eq_false, not_false_eq_true, and_true, true_and, Option.some.injEq, reduceCtorEq, forall_eq', forall_eq]
    refine c_beyC hS hr hc hi ⟨hp1, hp⟩ hk ⟨_, rfl, hS, ?_⟩
    refine hK _ _ hS hI.s0 fun Q hQ => t_X11_beyond hS ?_
    simp (disch := omega) only [h1, h2, h3, h4, R, y1, y2, y3, y4, true_implies, false_implies, implies_true, not_true_eq_false, not_false_eq_true, and_true, true_and, Option.some.injEq, reduceCtorEq, forall_eq', forall_eq]
    exact r_isB hS hr hρ hI.w hi ⟨hp1, hp⟩ hk (fun M' hS' hx' hw' => ⟨_, rfl, hS', hQ g _ (hI.endJ hρ hx' hS' hw')⟩)
end BeyP
