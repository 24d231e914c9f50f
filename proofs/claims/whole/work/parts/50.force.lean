def foF (p : Nat → Prop) [DecidablePred p] : Nat → Option Nat
  | 0 => none
  | n + 1 => if p n then some n else foF p n
theorem foF_lt {p : Nat → Prop} [DecidablePred p] : ∀ {n i : Nat}, foF p n = some i → i < n
  | 0, i, h => by cases h
  | n + 1, i, h => by
    unfold foF at h
    split at h
    · cases h
      omega
    · have := foF_lt h
      omega
/-- the text in force: its number -/
def foT (ρ : RV) (x1 : Int32) (s : Nat) (x3 : Int32) (n : Nat) : Option Nat := foF (fun i => ρ 66 i = x1 ∧ ¬ x3 < ρ 67 i ∧ ¬ ρ 55 s / 24 < ρ 68 i) n
def foI (o : Option Nat) : Int32 := match o with
  | none => -2
  | some i => nI i
section Force
variable {E : ZE} {l : Launch} {d nc ns : Nat} {g : Gh} {L : Nat} {X : Nat → Int32} {t : Nat} {μ : ZM} {ρ : RV} {K : Option Value → ZM → Prop} {x1 x2 x3 x4 : Int32} {s : Nat}
theorem c_textFor8 (hS : Stat μ) (hr : RIg g t ρ) (hc : CRg g μ ρ) (hs : s < nS ρ) : ∀ n, n ≤ nT ρ → (foT ρ x1 s x3 n = none → K (some .null) μ) → (∀ i, foT ρ x1 s x3 n = some i → K (some (.ref (taF μ i))) μ) → AW E l (d + 1) nc ns mX10_textFor 8 [some (.ref 11), some (.int x1), some (.ref (saF μ s)), some (.int x3), some (.int (nI n - 1)), none] [] μ K := by
  have b20 := hr.s.2.2.2.2.1.2
  obtain ⟨w1, w2, w3, w4, w5, w6, w7, w8, w9, w10, w11, w12, w13, -⟩ := hc.sa hs
  intro n
  induction n with
  | zero =>
    intro _ k1 _
    refine t_X10_textFor_8 hS ?_
    have : nI 0 - 1 < 0 := by decide
    simp (disch := omega) only [this, true_implies, false_implies, implies_true, not_true_eq_false, not_false_eq_true, and_true, true_and, Option.some.injEq, reduceCtorEq, forall_eq', forall_eq]
    exact k1 rfl
  | succ n ih =>
    intro hn k1 k2
    obtain ⟨c1, c2, c3, c4, c5, c6, c7, c8, c9, c10, c11, c12, c13⟩ := hc.tx (i := n) (by omega)
    have l1 : ¬ nI n < 0 := nI_pos (by omega)
    have l3 : vp_in (nI n) 20 := vp_in_nI (by omega) (by decide)
    have l4 : (nI n).toNatClampNeg = n := nI_clamp (by omega)
    rw [nI_pred]
    refine t_X10_textFor_8 hS ?_
    have e1 : nI n + (-1) = nI n - 1 := (Int32.sub_eq_add_neg _ _).symm
    simp (disch := omega) only [l1, l3, l4, c1, c4, c6, c7, c8, w4, w13, e1, true_implies, false_implies, implies_true, not_true_eq_false, not_false_eq_true, and_true, true_and, Option.some.injEq, reduceCtorEq, forall_eq', forall_eq]
    simp only [foT, foF] at k1 k2 ih
    by_cases q1 : ρ 66 n = x1 <;> by_cases q2 : x3 < ρ 67 n <;> by_cases q3 : ρ 55 s / 24 < ρ 68 n
    all_goals
      simp only [q1, q2, q3, if_true, if_false, true_or, or_true, false_or, or_false, and_false, false_and, and_self, or_self, Int32.add_zero, true_implies, false_implies, implies_true, not_true_eq_false, not_false_eq_true, and_true, true_and, Option.some.injEq, reduceCtorEq, forall_eq', forall_eq] at k1 k2 ⊢
      first | exact ih (by omega) k1 k2 | exact k2
theorem c_textFor (hS : Stat μ) (hr : RIg g t ρ) (hc : CRg g μ ρ) (hs : s < nS ρ) (k1 : foT ρ x1 s x3 (nT ρ) = none → K (some .null) μ) (k2 : ∀ i, foT ρ x1 s x3 (nT ρ) = some i → K (some (.ref (taF μ i))) μ) : AW E l (d + 1) nc ns mX10_textFor 0 (zargs 6 [.ref 11, .int x1, .ref (saF μ s), .int x3]) [] μ K := by
  refine t_X10_textFor hS ?_
  rw [hc.s.2.2.2.2.1, hr.s.2.2.2.2.1.1]
  exact c_textFor8 hS hr hc hs _ (Nat.le_refl _) k1 k2
theorem r_forceOn8 (hS : Stat μ) (hr : RIg g t ρ) (hρ : rf μ = ρ) (hs : s < nS ρ) : ∀ n, n ≤ nT ρ → K (some (.int (foI (foT ρ x1 s x3 n)))) μ → AW E l (d + 1) nc ns mX11_forceOn 8 [some (.ref 31), some (.int x1), some (.int (nI s)), some (.int x3), some (.int (nI n - 1))] [] μ K := by
  have R : ∀ a j, 31 ≤ a → a < 88 → zI μ a j = ρ a j := fun a j h1 h2 => rfz hρ h1 h2
  have b20 := hr.s.2.2.2.2.1.2
  have b300 := hr.s.2.2.1.2
  have w1 : vp_in (nI s) 300 := vp_in_nI (by omega) (by decide)
  have w2 : (nI s).toNatClampNeg = s := nI_clamp (by omega)
  intro n
  induction n with
  | zero =>
    intro _ k1
    refine t_X11_forceOn_8 hS ?_
    have : nI 0 - 1 < 0 := by decide
    simp (disch := omega) only [this, true_implies, false_implies, implies_true, not_true_eq_false, not_false_eq_true, and_true, true_and, Option.some.injEq, reduceCtorEq, forall_eq', forall_eq]
    exact k1
  | succ n ih =>
    intro hn k1
    have l1 : ¬ nI n < 0 := nI_pos (by omega)
    have l3 : vp_in (nI n) 20 := vp_in_nI (by omega) (by decide)
    have l4 : (nI n).toNatClampNeg = n := nI_clamp (by omega)
    rw [nI_pred]
    refine t_X11_forceOn_8 hS ?_
    have e1 : nI n + (-1) = nI n - 1 := (Int32.sub_eq_add_neg _ _).symm
    simp (disch := omega) only [R, l1, l3, l4, w1, w2, e1, true_implies, false_implies, implies_true, not_true_eq_false, not_false_eq_true, and_true, true_and, Option.some.injEq, reduceCtorEq, forall_eq', forall_eq]
    simp only [foT, foF] at k1 ih
    by_cases q1 : ρ 66 n = x1 <;> by_cases q2 : x3 < ρ 67 n <;> by_cases q3 : ρ 55 s / 24 < ρ 68 n
    all_goals
      simp only [q1, q2, q3, if_true, if_false, true_or, or_true, false_or, or_false, and_false, false_and, and_self, or_self, Int32.add_zero, true_implies, false_implies, implies_true, not_true_eq_false, not_false_eq_true, and_true, true_and, Option.some.injEq, reduceCtorEq, forall_eq', forall_eq] at k1 ⊢
      first | exact ih (by omega) k1 | exact k1
theorem r_forceOn (hS : Stat μ) (hr : RIg g t ρ) (hρ : rf μ = ρ) (hs : s < nS ρ) (k : K (some (.int (foI (foT ρ x1 s x3 (nT ρ))))) μ) : AW E l (d + 1) nc ns mX11_forceOn 0 (zargs 5 [.ref 31, .int x1, .int (nI s), .int x3]) [] μ K := by
  have R : ∀ a j, 31 ≤ a → a < 88 → zI μ a j = ρ a j := fun a j h1 h2 => rfz hρ h1 h2
  refine t_X11_forceOn hS ?_
  rw [R _ _ (by decide) (by decide), hr.s.2.2.2.2.1.1]
  exact r_forceOn8 hS hr hρ hs _ (Nat.le_refl _) k
end Force
section PairF
variable {E : ZE} {l : Launch} {d : Nat} {g : Gh} {L : Nat} {X : Nat → Int32} {t : Nat} {μ : ZM} {x1 x2 x3 x4 : Int32}
theorem pr_inForce (hI : IV g L X t μ) : PRp E l d L X t mX10_inForce mX11_inForce [some (.ref 11), some (.int x1), some (.int x2), some (.int x3), none, none] [some (.ref 31), some (.int x1), some (.int x2), some (.int x3)] μ := by
  obtain ⟨ρ, hρ⟩ : ∃ ρ, rf μ = ρ := ⟨_, rfl⟩
  have hS := hI.st
  have hr := hI.r hρ
  have hc := hI.c hρ
  have R : ∀ a j, 31 ≤ a → a < 88 → zI μ a j = ρ a j := fun a j h1 h2 => rfz hρ h1 h2
  obtain ⟨s1, s2, s3, s4, s5, s6, s7, s8, s9, s10, s11⟩ := hc.s
  obtain ⟨b1, b2, b3, b4, b5, b6, b7, b8⟩ := hr.s
  have hU : IV g L X (t + 1) μ := hI.up (Nat.le_succ t)
  refine PRp.mk fun K hK => ?_
  rcases ix3 x2 (n := nS ρ) (by have := b3.2; omega) with h | ⟨h, h'⟩ | ⟨i, hi, rfl⟩
  · by_cases y1 : x1 < 0 <;> by_cases y2 : 1 < x1
    · refine t_X10_inForce hS ?_
      simp (disch := omega) only [h, y1, y2, true_implies, false_implies, implies_true, not_true_eq_false, not_false_eq_true, and_true, true_and, Option.some.injEq, reduceCtorEq, forall_eq', forall_eq]
      refine hK _ _ hS hI.s0 fun Q hQ => t_X11_inForce hS ?_
      simp (disch := omega) only [h, y1, y2, R, true_implies, false_implies, implies_true, not_true_eq_false, not_false_eq_true, and_true, true_and, Option.some.injEq, reduceCtorEq, forall_eq', forall_eq]
      exact hQ _ _ hU
    · refine t_X10_inForce hS ?_
      simp (disch := omega) only [h, y1, y2, true_implies, false_implies, implies_true, not_true_eq_false, not_false_eq_true, and_true, true_and, Option.some.injEq, reduceCtorEq, forall_eq', forall_eq]
      refine hK _ _ hS hI.s0 fun Q hQ => t_X11_inForce hS ?_
      simp (disch := omega) only [h, y1, y2, R, true_implies, false_implies, implies_true, not_true_eq_false, not_false_eq_true, and_true, true_and, Option.some.injEq, reduceCtorEq, forall_eq', forall_eq]
      exact hQ _ _ hU
    · refine t_X10_inForce hS ?_
      simp (disch := omega) only [h, y1, y2, true_implies, false_implies, implies_true, not_true_eq_false, not_false_eq_true, and_true, true_and, Option.some.injEq, reduceCtorEq, forall_eq', forall_eq]
      refine hK _ _ hS hI.s0 fun Q hQ => t_X11_inForce hS ?_
      simp (disch := omega) only [h, y1, y2, R, true_implies, false_implies, implies_true, not_true_eq_false, not_false_eq_true, and_true, true_and, Option.some.injEq, reduceCtorEq, forall_eq', forall_eq]
      exact hQ _ _ hU
    · refine t_X10_inForce hS ?_
      simp (disch := omega) only [h, y1, y2, true_implies, false_implies, implies_true, not_true_eq_false, not_false_eq_true, and_true, true_and, Option.some.injEq, reduceCtorEq, forall_eq', forall_eq]
      refine hK _ _ hS hI.s0 fun Q hQ => t_X11_inForce hS ?_
      simp (disch := omega) only [h, y1, y2, R, true_implies, false_implies, implies_true, not_true_eq_false, not_false_eq_true, and_true, true_and, Option.some.injEq, reduceCtorEq, forall_eq', forall_eq]
      exact hQ _ _ hU
  · rw [← b3.1] at h'
    by_cases y1 : x1 < 0 <;> by_cases y2 : 1 < x1
    · refine t_X10_inForce hS ?_
      simp (disch := omega) only [h, h', y1, y2, s3, true_implies, false_implies, implies_true, not_true_eq_false, not_false_eq_true, and_true, true_and, Option.some.injEq, reduceCtorEq, forall_eq', forall_eq]
      refine hK _ _ hS hI.s0 fun Q hQ => t_X11_inForce hS ?_
      simp (disch := omega) only [h, h', y1, y2, R, true_implies, false_implies, implies_true, not_true_eq_false, not_false_eq_true, and_true, true_and, Option.some.injEq, reduceCtorEq, forall_eq', forall_eq]
      exact hQ _ _ hU
    · refine t_X10_inForce hS ?_
      simp (disch := omega) only [h, h', y1, y2, s3, true_implies, false_implies, implies_true, not_true_eq_false, not_false_eq_true, and_true, true_and, Option.some.injEq, reduceCtorEq, forall_eq', forall_eq]
      refine hK _ _ hS hI.s0 fun Q hQ => t_X11_inForce hS ?_
      simp (disch := omega) only [h, h', y1, y2, R, true_implies, false_implies, implies_true, not_true_eq_false, not_false_eq_true, and_true, true_and, Option.some.injEq, reduceCtorEq, forall_eq', forall_eq]
      exact hQ _ _ hU
    · refine t_X10_inForce hS ?_
      simp (disch := omega) only [h, h', y1, y2, s3, true_implies, false_implies, implies_true, not_true_eq_false, not_false_eq_true, and_true, true_and, Option.some.injEq, reduceCtorEq, forall_eq', forall_eq]
      refine hK _ _ hS hI.s0 fun Q hQ => t_X11_inForce hS ?_
      simp (disch := omega) only [h, h', y1, y2, R, true_implies, false_implies, implies_true, not_true_eq_false, not_false_eq_true, and_true, true_and, Option.some.injEq, reduceCtorEq, forall_eq', forall_eq]
      exact hQ _ _ hU
    · refine t_X10_inForce hS ?_
      simp (disch := omega) only [h, h', y1, y2, s3, true_implies, false_implies, implies_true, not_true_eq_false, not_false_eq_true, and_true, true_and, Option.some.injEq, reduceCtorEq, forall_eq', forall_eq]
      refine hK _ _ hS hI.s0 fun Q hQ => t_X11_inForce hS ?_
      simp (disch := omega) only [h, h', y1, y2, R, true_implies, false_implies, implies_true, not_true_eq_false, not_false_eq_true, and_true, true_and, Option.some.injEq, reduceCtorEq, forall_eq', forall_eq]
      exact hQ _ _ hU
  · have b300 := b3.2
    have h1 : ¬ nI i < 0 := nI_pos (by omega)
    have h2 := ix_lt (by omega) hi
    have h3 : vp_in (nI i) 300 := vp_in_nI (by omega) (by decide)
    have h4 : (nI i).toNatClampNeg = i := nI_clamp (by omega)
    rw [← b3.1] at h2
    obtain ⟨c1, c2, c3, c4, c5, c6, c7, c8, c9, c10, c11, c12, c13, c14, c15, c16, c17, c18, c19, c20, c21, c22, c23⟩ := hc.sa hi
    obtain ⟨d1, d2, d3, d4, d5, d6, d7, d8, d9, d10, d11, d12, d13, d14, d15, d16, d17, d18, d19⟩ := hr.sa hi
    by_cases y1 : x1 < 0
    · refine t_X10_inForce hS ?_
      simp (disch := omega) only [h1, h2, h3, h4, y1, s3, c1, true_implies, false_implies, implies_true, not_true_eq_false, not_false_eq_true, and_true, true_and, Option.some.injEq, reduceCtorEq, forall_eq', forall_eq]
      refine hK _ _ hS hI.s0 fun Q hQ => t_X11_inForce hS ?_
      simp (disch := omega) only [h1, h2, h3, h4, y1, R, true_implies, false_implies, implies_true, not_true_eq_false, not_false_eq_true, and_true, true_and, Option.some.injEq, reduceCtorEq, forall_eq', forall_eq]
      exact hQ _ _ hU
    by_cases y2 : 1 < x1
    · refine t_X10_inForce hS ?_
      simp (disch := omega) only [h1, h2, h3, h4, y1, y2, s3, c1, true_implies, false_implies, implies_true, not_true_eq_false, not_false_eq_true, and_true, true_and, Option.some.injEq, reduceCtorEq, forall_eq', forall_eq]
      refine hK _ _ hS hI.s0 fun Q hQ => t_X11_inForce hS ?_
      simp (disch := omega) only [h1, h2, h3, h4, y1, y2, R, true_implies, false_implies, implies_true, not_true_eq_false, not_false_eq_true, and_true, true_and, Option.some.injEq, reduceCtorEq, forall_eq', forall_eq]
      exact hQ _ _ hU
    by_cases y3 : x3 < 0
    · refine t_X10_inForce hS ?_
      simp (disch := omega) only [h1, h2, h3, h4, y1, y2, y3, s3, c1, true_implies, false_implies, implies_true, not_true_eq_false, not_false_eq_true, and_true, true_and, Option.some.injEq, reduceCtorEq, forall_eq', forall_eq]
      refine hK _ _ hS hI.s0 fun Q hQ => t_X11_inForce hS ?_
      simp (disch := omega) only [h1, h2, h3, h4, y1, y2, y3, R, true_implies, false_implies, implies_true, not_true_eq_false, not_false_eq_true, and_true, true_and, Option.some.injEq, reduceCtorEq, forall_eq', forall_eq]
      exact hQ _ _ hU
    by_cases y4 : 2999 < x3
    · refine t_X10_inForce hS ?_
      simp (disch := omega) only [h1, h2, h3, h4, y1, y2, y3, y4, s3, c1, true_implies, false_implies, implies_true, not_true_eq_false, not_false_eq_true, and_true, true_and, Option.some.injEq, reduceCtorEq, forall_eq', forall_eq]
      refine hK _ _ hS hI.s0 fun Q hQ => t_X11_inForce hS ?_
      simp (disch := omega) only [h1, h2, h3, h4, y1, y2, y3, y4, R, true_implies, false_implies, implies_true, not_true_eq_false, not_false_eq_true, and_true, true_and, Option.some.injEq, reduceCtorEq, forall_eq', forall_eq]
      exact hQ _ _ hU
    have fin : ∀ Q : Option Value → ZM → Prop, Q (some (.int (foI (foT ρ x1 i x3 (nT ρ))))) μ → AW E l (d + 299) 0 0 mX11_inForce 0 [some (.ref 31), some (.int x1), some (.int (nI i)), some (.int x3)] [] μ Q := fun Q hQ => by
      refine t_X11_inForce hS ?_
      simp (disch := omega) only [h1, h2, y1, y2, y3, y4, R, true_implies, false_implies, implies_true, not_true_eq_false, not_false_eq_true, and_true, true_and, Option.some.injEq, reduceCtorEq, forall_eq', forall_eq]
      exact r_forceOn hS hr hρ hi ⟨_, rfl, hS, hQ⟩
    refine t_X10_inForce hS ?_
    simp (disch := omega) only [h1, h2, h3, h4, y1, y2, y3, y4, s3, c1, true_implies, false_implies, implies_true, not_true_eq_false, not_false_eq_true, and_true, true_and, Option.some.injEq, reduceCtorEq, forall_eq', forall_eq]
    refine c_textFor hS hr hc hi (fun z => Or.inl ⟨rfl, hS, ?_⟩) (fun k z => Or.inr ⟨_, rfl, hS, ?_⟩)
    · refine hK _ _ hS hI.s0 fun Q hQ => fin Q ?_
      rw [z]
      exact hQ _ _ hU
    · obtain ⟨t1, t2, t3, t4, t5, -⟩ := hc.tx (foF_lt z)
      refine ⟨t4, ?_⟩
      rw [t5]
      refine hK _ _ hS hI.s0 fun Q hQ => fin Q ?_
      rw [z]
      exact hQ _ _ hU
end PairF
