def laJ (f : Nat → Int32) (a : Int32) : Nat → Int32
  | 0 => a
  | n + 1 => if f n = 0 then laJ f a n else nI n
theorem laJ_eq {f : Nat → Int32} {a b : Int32} : ∀ n, laJ f a n = laJ f b n ∨ sS f n = 0
  | 0 => Or.inr rfl
  | n + 1 => by
    unfold laJ sS
    by_cases c : f n = 0
    · rw [if_pos c, if_pos c, c, Int32.add_zero]
      exact laJ_eq n
    · rw [if_neg c, if_neg c]
      exact Or.inl rfl
def exS (p : Nat → Prop) [DecidablePred p] : Nat → Nat → Int32
  | 0, _ => 0
  | r + 1, j => if p j then 1 else exS p r (j + 1)
theorem exS_cg {p q : Nat → Prop} [DecidablePred p] [DecidablePred q] : ∀ {r j : Nat}, (∀ i, j ≤ i → i < j + r → (p i ↔ q i)) → exS p r j = exS q r j
  | 0, _, _ => rfl
  | r + 1, j, h => by
    unfold exS
    simp only [h j (Nat.le_refl _) (by omega)]
    rw [exS_cg (fun i h1 h2 => h i (by omega) (by omega))]
theorem exS_no {p : Nat → Prop} [DecidablePred p] : ∀ {r j : Nat}, (∀ i, ¬ p i) → exS p r j = 0
  | 0, _, _ => rfl
  | r + 1, j, h => by
    unfold exS
    rw [if_neg (h j), exS_no h]
def pOs (ρ : RV) (s j : Nat) : Prop := ρ 54 j = ρ 54 s ∧ ρ 45 (ρ 49 j).toNatClampNeg = ρ 45 (ρ 49 s).toNatClampNeg ∧ ¬ ρ 50 j = ρ 50 s
def hOs (ρ : RV) (s : Nat) : Int32 := if ρ 54 s = 0 then 0 else exS (fun j => ρ 54 j = ρ 54 s ∧ ρ 45 (ρ 49 j).toNatClampNeg = ρ 45 (ρ 49 s).toNatClampNeg ∧ ¬ ρ 50 j = ρ 50 s) (nS ρ) 0
theorem exS_s {p : Nat → Prop} [DecidablePred p] {n j : Nat} (hj : j < n) : exS p (n - j) j = if p j then 1 else exS p (n - (j + 1)) (j + 1) := by
  obtain ⟨r, hr⟩ : ∃ r, n - j = r + 1 := ⟨n - j - 1, by omega⟩
  rw [hr, show n - (j + 1) = r by omega]
  rfl
def fSh (ρ : RV) (x1 : Int32) (i : Nat) : Int32 := if ρ 45 (ρ 49 i).toNatClampNeg = x1 ∧ ρ 48 i = 2 ∧ ¬ hOs ρ i = 0 then (if ρ 62 i = 1 then 1 else if ρ 62 i = 2 then -1 else 0) else 0
def fLe (ρ : RV) (x1 : Int32) (i : Nat) : Int32 := if ρ 45 i = x1 then ρ 47 i else 0
def fSo (ρ : RV) (x1 x2 x3 : Int32) (i : Nat) : Int32 := if ρ 45 (ρ 49 i).toNatClampNeg = x1 ∧ (x2 = 0 ∨ ρ 48 i = 2) ∧ (x3 = 0 ∨ ¬ ρ 60 i = 0) then 1 else 0
theorem bk_eq {g : Gh} {t : Nat} {ρ : RV} {j : Nat} (hr : RIg g t ρ) (hj : j < nS ρ) : (ρ 58 j < 0) = ¬ ρ 48 j = 2 := by
  obtain ⟨d1, d2, d3, d4, d5, d6, d7, d8, d9, d10, d11, d12, d13, d14, d15, d16, d17, d18, d19⟩ := hr.sa hj
  rw [d13, Int32.not_le]
theorem hp_eq {g : Gh} {t : Nat} {ρ : RV} {j : Nat} (hr : RIg g t ρ) (hj : j < nS ρ) (h : ¬ ρ 48 j = 2) : ρ 60 j = 0 := by
  obtain ⟨d1, d2, d3, d4, d5, d6, d7, d8, d9, d10, d11, d12, d13, d14, d15, d16, d17, d18, d19⟩ := hr.sa hj
  rcases d10 with z | z
  · exact z
  · exact absurd (d14 z) h
section LoopC
variable {E : ZE} {l : Launch} {d nc ns : Nat} {g : Gh} {L : Nat} {X : Nat → Int32} {t : Nat} {μ : ZM} {ρ : RV} {K : Option Value → ZM → Prop} {x1 x2 x3 x4 : Int32}
theorem c_join {i : Nat} (hS : Stat μ) (hr : RIg g t ρ) (hc : CRg g μ ρ) (hi : i < nM ρ) (k : (¬ sS (fJo ρ (nI i) x2 x3 x4) (nS ρ) = 1 → K (some (.int (-10 - sS (fJo ρ (nI i) x2 x3 x4) (nS ρ)))) μ) ∧ (sS (fJo ρ (nI i) x2 x3 x4) (nS ρ) = 1 → K (some (.int (laJ (fJo ρ (nI i) x2 x3 x4) 0 (nS ρ)))) μ)) : AW E l (d + 2) nc ns mX10_join 45 [some (.ref 11), none, some (.int x2), some (.int x3), some (.int x4), some (.ref (maF μ i)), some (.int 0), some (.int 0), some (.int 0), none] [] μ K := by
  obtain ⟨s1, s2, s3, s4, s5, s6, s7, s8, s9, s10, s11⟩ := hc.s
  obtain ⟨b1, b2, b3, b4, b5, b6, b7, b8⟩ := hr.s
  have b300 := b3.2
  have lE : ρ 31 22 ≤ nI (nS ρ) := by rw [← b3.1]; exact Int32.le_refl _
  have n10 : ¬ (1 : Int32) = 0 := by decide
  have ka : 11 ≤ maF μ i := by have := (k_ma hc hi).2.2.2.1; omega
  refine lpd (P := fun j => AW E l (d + 2) nc ns mX10_join 45 [some (.ref 11), none, some (.int x2), some (.int x3), some (.int x4), some (.ref (maF μ i)), some (.int (sS (fJo ρ (nI i) x2 x3 x4) j)), some (.int (laJ (fJo ρ (nI i) x2 x3 x4) 0 j)), some (.int (nI j)), none] [] μ K) (n := nS ρ) ?_ ?_
  · refine t_X10_join_45 hS ?_
    simp (disch := omega) only [s3, lE, true_implies, false_implies, implies_true, not_true_eq_false, not_false_eq_true, and_true, true_and, Option.some.injEq, reduceCtorEq, forall_eq', forall_eq]
    exact k
  · intro j hj ih
    have l1 : ¬ ρ 31 22 ≤ nI j := by rw [b3.1]; exact nI_ge hj (by omega)
    have l3 : vp_in (nI j) 300 := vp_in_nI (by omega) (by decide)
    have l4 : (nI j).toNatClampNeg = j := nI_clamp (by omega)
    obtain ⟨d1, d2, d3, d4, d5, d6, d7, d8, d9, d10, d11, d12, d13, d14, d15, d16, d17, d18, d19⟩ := hr.sa hj
    obtain ⟨c1, c2, c3, c4, c5, c6, c7, c8, c9, c10, c11, c12, c13, c14, c15, c16, c17, c18, c19, c20, c21, c22, c23⟩ := hc.sa hj
    have ka2 := k_ma11 hr hc hj
    refine t_X10_join_45 hS ?_
    simp only [sS, fJo, laJ, ← nI_1] at ih
    simp (disch := omega) only [s3, l1, l3, l4, c1, c4, c6, c11, c13, c16, ka, ka2, pm_eq hr hc hj hi, true_implies, false_implies, implies_true, not_true_eq_false, not_false_eq_true, and_true, true_and, Option.some.injEq, reduceCtorEq, forall_eq', forall_eq]
    by_cases q1 : ρ 48 j = 0 <;> by_cases q2 : ρ 45 (ρ 49 j).toNatClampNeg = nI i <;> by_cases q3 : ρ 52 j = x2 <;> by_cases q4 : ρ 55 j < x3 <;> by_cases q5 : x4 < ρ 55 j
    all_goals
      simp (disch := omega) only [q1, q2, q3, q4, q5, n10, if_true, if_false, true_or, or_true, false_or, or_false, and_false, false_and, and_self, or_self, Int32.add_zero, true_implies, false_implies, implies_true, not_true_eq_false, not_false_eq_true, and_true, true_and, Option.some.injEq, reduceCtorEq, forall_eq', forall_eq] at ih ⊢
      exact ih
theorem r_join  (hS : Stat μ) (hr : RIg g t ρ) (hρ : rf μ = ρ)  (k : (¬ sS (fJo ρ x1 x2 x3 x4) (nS ρ) = 1 → K (some (.int (-10 - sS (fJo ρ x1 x2 x3 x4) (nS ρ)))) μ) ∧ (sS (fJo ρ x1 x2 x3 x4) (nS ρ) = 1 → K (some (.int (laJ (fJo ρ x1 x2 x3 x4) (-1) (nS ρ)))) μ)) : AW E l (d + 2) nc ns mX11_join 51 [some (.ref 31), some (.int x1), some (.int x2), some (.int x3), some (.int x4), some (.int 0), some (.int (-1)), some (.int 0)] [] μ K := by
  have R : ∀ a j, 31 ≤ a → a < 88 → zI μ a j = ρ a j := fun a j h1 h2 => rfz hρ h1 h2
  obtain ⟨b1, b2, b3, b4, b5, b6, b7, b8⟩ := hr.s
  have b300 := b3.2
  have lE : ρ 31 22 ≤ nI (nS ρ) := by rw [← b3.1]; exact Int32.le_refl _
  have n10 : ¬ (1 : Int32) = 0 := by decide
  refine lpd (P := fun j => AW E l (d + 2) nc ns mX11_join 51 [some (.ref 31), some (.int x1), some (.int x2), some (.int x3), some (.int x4), some (.int (sS (fJo ρ x1 x2 x3 x4) j)), some (.int (laJ (fJo ρ x1 x2 x3 x4) (-1) j)), some (.int (nI j))] [] μ K) (n := nS ρ) ?_ ?_
  · refine t_X11_join_51 hS ?_
    simp (disch := omega) only [R, lE, true_implies, false_implies, implies_true, not_true_eq_false, not_false_eq_true, and_true, true_and, Option.some.injEq, reduceCtorEq, forall_eq', forall_eq]
    exact k
  · intro j hj ih
    have l1 : ¬ ρ 31 22 ≤ nI j := by rw [b3.1]; exact nI_ge hj (by omega)
    have l3 : vp_in (nI j) 300 := vp_in_nI (by omega) (by decide)
    have l4 : (nI j).toNatClampNeg = j := nI_clamp (by omega)
    obtain ⟨d1, d2, d3, d4, d5, d6, d7, d8, d9, d10, d11, d12, d13, d14, d15, d16, d17, d18, d19⟩ := hr.sa hj
    refine t_X11_join_51 hS ?_
    simp only [sS, fJo, laJ, ← nI_1] at ih
    simp (disch := omega) only [R, l1, l3, l4, v_sl hr hj, true_implies, false_implies, implies_true, not_true_eq_false, not_false_eq_true, and_true, true_and, Option.some.injEq, reduceCtorEq, forall_eq', forall_eq]
    by_cases q1 : ρ 48 j = 0 <;> by_cases q2 : ρ 45 (ρ 49 j).toNatClampNeg = x1 <;> by_cases q3 : ρ 52 j = x2 <;> by_cases q4 : ρ 55 j < x3 <;> by_cases q5 : x4 < ρ 55 j
    all_goals
      simp (disch := omega) only [q1, q2, q3, q4, q5, n10, if_true, if_false, true_or, or_true, false_or, or_false, and_false, false_and, and_self, or_self, Int32.add_zero, true_implies, false_implies, implies_true, not_true_eq_false, not_false_eq_true, and_true, true_and, Option.some.injEq, reduceCtorEq, forall_eq', forall_eq] at ih ⊢
      exact ih
theorem c_hasOther {i : Nat} (hS : Stat μ) (hr : RIg g t ρ) (hc : CRg g μ ρ) (hi : i < nS ρ) (k : K (some (.int (hOs ρ i))) μ) : AW E l (d + 1) nc ns mX10_hasOtherSize 0 (zargs 3 [.ref 11, .ref (saF μ i)]) [] μ K := by
  obtain ⟨s1, s2, s3, s4, s5, s6, s7, s8, s9, s10, s11⟩ := hc.s
  obtain ⟨b1, b2, b3, b4, b5, b6, b7, b8⟩ := hr.s
  have b300 := b3.2
  have lE : ρ 31 22 ≤ nI (nS ρ) := by rw [← b3.1]; exact Int32.le_refl _
  have ka := k_ma11 hr hc hi
  obtain ⟨w1, w2, w3, w4, w5, w6, w7, w8, w9, w10, -⟩ := hc.sa hi
  refine t_X10_hasOtherSize hS ?_
  have main : K (some (.int (exS (fun j => ¬ ρ 54 j = 0 ∧ ρ 54 j = ρ 54 i ∧ ρ 45 (ρ 49 j).toNatClampNeg = ρ 45 (ρ 49 i).toNatClampNeg ∧ ¬ ρ 50 j = ρ 50 i) (nS ρ - 0) 0))) μ := by
    unfold hOs at k
    by_cases c : ρ 54 i = 0
    · rw [if_pos c] at k
      rw [exS_no (fun j z => z.1 (z.2.1.trans c))]
      exact k
    · rw [if_neg c] at k
      rw [exS_cg (q := fun j => ρ 54 j = ρ 54 i ∧ ρ 45 (ρ 49 j).toNatClampNeg = ρ 45 (ρ 49 i).toNatClampNeg ∧ ¬ ρ 50 j = ρ 50 i) (fun j _ _ => ⟨fun z => z.2, fun z => ⟨fun y => c (z.1.symm.trans y), z⟩⟩)]
      exact k
  refine lpd (P := fun j => K (some (.int (exS (fun j => ¬ ρ 54 j = 0 ∧ ρ 54 j = ρ 54 i ∧ ρ 45 (ρ 49 j).toNatClampNeg = ρ 45 (ρ 49 i).toNatClampNeg ∧ ¬ ρ 50 j = ρ 50 i) (nS ρ - j) j))) μ → AW E l (d + 1) nc ns mX10_hasOtherSize 2 [some (.ref 11), some (.ref (saF μ i)), some (.int (nI j))] [] μ K) (n := nS ρ) ?_ ?_ main
  · intro k
    rw [Nat.sub_self] at k
    refine t_X10_hasOtherSize_2 hS ?_
    simp (disch := omega) only [s3, lE, true_implies, false_implies, implies_true, not_true_eq_false, not_false_eq_true, and_true, true_and, Option.some.injEq, reduceCtorEq, forall_eq', forall_eq]
    exact k
  · intro j hj ih k
    have l1 : ¬ ρ 31 22 ≤ nI j := by rw [b3.1]; exact nI_ge hj (by omega)
    have l3 : vp_in (nI j) 300 := vp_in_nI (by omega) (by decide)
    have l4 : (nI j).toNatClampNeg = j := nI_clamp (by omega)
    obtain ⟨d1, d2, d3, d4, d5, d6, d7, d8, d9, d10, d11, d12, d13, d14, d15, d16, d17, d18, d19⟩ := hr.sa hj
    obtain ⟨c1, c2, c3, c4, c5, c6, c7, c8, c9, c10, c11, c12, c13, c14, c15, c16, c17, c18, c19, c20, c21, c22, c23⟩ := hc.sa hj
    have ka2 := k_ma11 hr hc hj
    rw [exS_s hj] at k
    refine t_X10_hasOtherSize_2 hS ?_
    rw [← nI_1] at ih
    simp (disch := omega) only [s3, l1, l3, l4, c1, c4, c6, c9, c10, w4, w6, w9, w10, ka, ka2, pmm_eq hr hc hj hi, true_implies, false_implies, implies_true, not_true_eq_false, not_false_eq_true, and_true, true_and, Option.some.injEq, reduceCtorEq, forall_eq', forall_eq]
    by_cases q0 : ρ 54 j = 0
    · simp (disch := omega) only [q0, if_true, if_false, true_or, or_true, false_or, or_false, and_false, false_and, and_self, or_self, Int32.add_zero, true_implies, false_implies, implies_true, not_true_eq_false, not_false_eq_true, and_true, true_and, Option.some.injEq, reduceCtorEq, forall_eq', forall_eq] at k ⊢
      exact ih k
    by_cases q1 : ρ 54 j = ρ 54 i <;> by_cases q2 : ρ 45 (ρ 49 j).toNatClampNeg = ρ 45 (ρ 49 i).toNatClampNeg <;> by_cases q3 : ρ 50 j = ρ 50 i
    all_goals
      simp only [q0, q1, q2, q3, if_true, if_false, true_or, or_true, false_or, or_false, and_false, false_and, and_self, or_self, Int32.add_zero, true_implies, false_implies, implies_true, not_true_eq_false, not_false_eq_true, and_true, true_and, Option.some.injEq, reduceCtorEq, forall_eq', forall_eq] at k ⊢
      try rw [q1] at q0
      try simp only [q0, if_true, if_false, true_or, or_true, false_or, or_false, and_false, false_and, and_self, or_self, Int32.add_zero, true_implies, false_implies, implies_true, not_true_eq_false, not_false_eq_true, and_true, true_and, Option.some.injEq, reduceCtorEq, forall_eq', forall_eq] at k ⊢
      first | exact ih k | exact k
theorem r_hasOther {i : Nat} (hS : Stat μ) (hr : RIg g t ρ) (hρ : rf μ = ρ) (hi : i < nS ρ) (k : K (some (.int (hOs ρ i))) μ) : AW E l (d + 1) nc ns mX11_hasOtherSize 0 (zargs 3 [.ref 31, .int (nI i)]) [] μ K := by
  have R : ∀ a j, 31 ≤ a → a < 88 → zI μ a j = ρ a j := fun a j h1 h2 => rfz hρ h1 h2
  obtain ⟨b1, b2, b3, b4, b5, b6, b7, b8⟩ := hr.s
  have b300 := b3.2
  have lE : ρ 31 22 ≤ nI (nS ρ) := by rw [← b3.1]; exact Int32.le_refl _
  have w1 : vp_in (nI i) 300 := vp_in_nI (by omega) (by decide)
  have w2 : (nI i).toNatClampNeg = i := nI_clamp (by omega)
  have w3 := v_sl hr hi
  unfold hOs at k
  refine t_X11_hasOtherSize hS ?_
  simp (disch := omega) only [R, w1, w2, true_implies, false_implies, implies_true, not_true_eq_false, not_false_eq_true, and_true, true_and, Option.some.injEq, reduceCtorEq, forall_eq', forall_eq]
  by_cases c : ρ 54 i = 0
  · simp (disch := omega) only [c, if_true, if_false, true_or, or_true, false_or, or_false, and_false, false_and, and_self, or_self, Int32.add_zero, true_implies, false_implies, implies_true, not_true_eq_false, not_false_eq_true, and_true, true_and, Option.some.injEq, reduceCtorEq, forall_eq', forall_eq] at k ⊢
    exact k
  simp (disch := omega) only [c, if_true, if_false, true_or, or_true, false_or, or_false, and_false, false_and, and_self, or_self, Int32.add_zero, true_implies, false_implies, implies_true, not_true_eq_false, not_false_eq_true, and_true, true_and, Option.some.injEq, reduceCtorEq, forall_eq', forall_eq] at k ⊢
  refine lpd (P := fun j => K (some (.int (exS (fun j => ρ 54 j = ρ 54 i ∧ ρ 45 (ρ 49 j).toNatClampNeg = ρ 45 (ρ 49 i).toNatClampNeg ∧ ¬ ρ 50 j = ρ 50 i) (nS ρ - j) j))) μ → AW E l (d + 1) nc ns mX11_hasOtherSize 13 [some (.ref 31), some (.int (nI i)), some (.int (nI j))] [] μ K) (n := nS ρ) ?_ ?_ k
  · intro k
    rw [Nat.sub_self] at k
    refine t_X11_hasOtherSize_13 hS ?_
    simp (disch := omega) only [R, lE, true_implies, false_implies, implies_true, not_true_eq_false, not_false_eq_true, and_true, true_and, Option.some.injEq, reduceCtorEq, forall_eq', forall_eq]
    exact k
  · intro j hj ih k
    have l1 : ¬ ρ 31 22 ≤ nI j := by rw [b3.1]; exact nI_ge hj (by omega)
    have l3 : vp_in (nI j) 300 := vp_in_nI (by omega) (by decide)
    have l4 : (nI j).toNatClampNeg = j := nI_clamp (by omega)
    obtain ⟨d1, d2, d3, d4, d5, d6, d7, d8, d9, d10, d11, d12, d13, d14, d15, d16, d17, d18, d19⟩ := hr.sa hj
    rw [exS_s hj] at k
    refine t_X11_hasOtherSize_13 hS ?_
    rw [← nI_1] at ih
    simp (disch := omega) only [R, l1, l3, l4, w1, w2, w3, v_sl hr hj, true_implies, false_implies, implies_true, not_true_eq_false, not_false_eq_true, and_true, true_and, Option.some.injEq, reduceCtorEq, forall_eq', forall_eq]
    by_cases q1 : ρ 54 j = ρ 54 i <;> by_cases q2 : ρ 45 (ρ 49 j).toNatClampNeg = ρ 45 (ρ 49 i).toNatClampNeg <;> by_cases q3 : ρ 50 j = ρ 50 i
    all_goals
      simp only [q1, q2, q3, if_true, if_false, true_or, or_true, false_or, or_false, and_false, false_and, and_self, or_self, Int32.add_zero, true_implies, false_implies, implies_true, not_true_eq_false, not_false_eq_true, and_true, true_and, Option.some.injEq, reduceCtorEq, forall_eq', forall_eq] at k ⊢
      first | exact ih k | exact k
def shV (x : Int32) : Int32 := if x < 3 then (if -3 < x then 0 else -1) else 1
theorem c_shift {i : Nat} (hS : Stat μ) (hr : RIg g t ρ) (hc : CRg g μ ρ) (hi : i < nM ρ) (k : K (some (.int (shV (sS (fSh ρ (nI i)) (nS ρ))))) μ) : AW E l (d + 2) nc ns mX10_shift 18 [some (.ref 11), none, some (.ref (maF μ i)), some (.int 0), some (.int 0), none] [] μ K := by
  obtain ⟨s1, s2, s3, s4, s5, s6, s7, s8, s9, s10, s11⟩ := hc.s
  obtain ⟨b1, b2, b3, b4, b5, b6, b7, b8⟩ := hr.s
  have b300 := b3.2
  have lE : ρ 31 22 ≤ nI (nS ρ) := by rw [← b3.1]; exact Int32.le_refl _
  have ka : 11 ≤ maF μ i := by have := (k_ma hc hi).2.2.2.1; omega
  refine lpd (P := fun j => AW E l (d + 2) nc ns mX10_shift 18 [some (.ref 11), none, some (.ref (maF μ i)), some (.int (sS (fSh ρ (nI i)) j)), some (.int (nI j)), none] [] μ K) (n := nS ρ) ?_ ?_
  · refine t_X10_shift_18 hS ?_
    unfold shV at k
    simp (disch := omega) only [s3, lE, true_implies, false_implies, implies_true, not_true_eq_false, not_false_eq_true, and_true, true_and, Option.some.injEq, reduceCtorEq, forall_eq', forall_eq]
    refine ⟨fun q => ⟨fun q2 => ?_, fun q2 => ?_⟩, fun q => ?_⟩
    all_goals
      simp only [q, if_true, if_false, true_or, or_true, false_or, or_false, and_false, false_and, and_self, or_self, Int32.add_zero, true_implies, false_implies, implies_true, not_true_eq_false, not_false_eq_true, and_true, true_and, Option.some.injEq, reduceCtorEq, forall_eq', forall_eq] at k
      try simp only [q2, if_true, if_false, true_or, or_true, false_or, or_false, and_false, false_and, and_self, or_self, Int32.add_zero, true_implies, false_implies, implies_true, not_true_eq_false, not_false_eq_true, and_true, true_and, Option.some.injEq, reduceCtorEq, forall_eq', forall_eq] at k
      exact k
  · intro j hj ih
    have l1 : ¬ ρ 31 22 ≤ nI j := by rw [b3.1]; exact nI_ge hj (by omega)
    have l3 : vp_in (nI j) 300 := vp_in_nI (by omega) (by decide)
    have l4 : (nI j).toNatClampNeg = j := nI_clamp (by omega)
    obtain ⟨d1, d2, d3, d4, d5, d6, d7, d8, d9, d10, d11, d12, d13, d14, d15, d16, d17, d18, d19⟩ := hr.sa hj
    obtain ⟨c1, c2, c3, c4, c5, c6, c7, c8, c9, c10, c11, c12, c13, c14, c15, c16, c17, c18, c19, c20, c21, c22, c23⟩ := hc.sa hj
    have ka2 := k_ma11 hr hc hj
    refine t_X10_shift_18 hS ?_
    simp only [sS, fSh, ← nI_1] at ih
    simp (disch := omega) only [s3, l1, l3, l4, c1, c4, c6, c16, c19, ka, ka2, pm_eq hr hc hj hi, true_implies, false_implies, implies_true, not_true_eq_false, not_false_eq_true, and_true, true_and, Option.some.injEq, reduceCtorEq, forall_eq', forall_eq]
    by_cases q1 : ρ 45 (ρ 49 j).toNatClampNeg = nI i <;> by_cases q2 : ρ 48 j = 2
    · have n1 : ¬ (0 : Int32) = 1 := by decide
      have n2 : ¬ (0 : Int32) = 2 := by decide
      have n3 : ¬ (1 : Int32) = 0 := by decide
      have n4 : ¬ (2 : Int32) = 0 := by decide
      have n5 : ¬ (2 : Int32) = 1 := by decide
      rcases three_of d17 with z | z | z
      · simp (disch := omega) only [q1, q2, z, n1, n2, ite_self, if_true, if_false, true_or, or_true, false_or, or_false, and_false, false_and, and_self, or_self, Int32.add_zero, true_implies, false_implies, implies_true, not_true_eq_false, not_false_eq_true, and_true, true_and, Option.some.injEq, reduceCtorEq, forall_eq', forall_eq] at ih ⊢
        exact ih
      · simp (disch := omega) only [q1, q2, z, n3, if_true, if_false, true_or, or_true, false_or, or_false, and_false, false_and, and_self, or_self, Int32.add_zero, true_implies, false_implies, implies_true, not_true_eq_false, not_false_eq_true, and_true, true_and, Option.some.injEq, reduceCtorEq, forall_eq', forall_eq] at ih ⊢
        refine c_hasOther hS hr hc hj ⟨_, rfl, hS, ?_⟩
        simp (disch := omega) only [c4, c19, z, true_implies, false_implies, implies_true, not_true_eq_false, not_false_eq_true, and_true, true_and, Option.some.injEq, reduceCtorEq, forall_eq', forall_eq]
        by_cases c : hOs ρ j = 0
        all_goals
          simp (disch := omega) only [c, if_true, if_false, true_or, or_true, false_or, or_false, and_false, false_and, and_self, or_self, Int32.add_zero, true_implies, false_implies, implies_true, not_true_eq_false, not_false_eq_true, and_true, true_and, Option.some.injEq, reduceCtorEq, forall_eq', forall_eq] at ih ⊢
          exact ih
      · simp (disch := omega) only [q1, q2, z, n4, n5, if_true, if_false, true_or, or_true, false_or, or_false, and_false, false_and, and_self, or_self, Int32.add_zero, true_implies, false_implies, implies_true, not_true_eq_false, not_false_eq_true, and_true, true_and, Option.some.injEq, reduceCtorEq, forall_eq', forall_eq] at ih ⊢
        refine c_hasOther hS hr hc hj ⟨_, rfl, hS, ?_⟩
        simp (disch := omega) only [c4, c19, z, n5, true_implies, false_implies, implies_true, not_true_eq_false, not_false_eq_true, and_true, true_and, Option.some.injEq, reduceCtorEq, forall_eq', forall_eq]
        by_cases c : hOs ρ j = 0
        all_goals
          simp (disch := omega) only [c, if_true, if_false, true_or, or_true, false_or, or_false, and_false, false_and, and_self, or_self, Int32.add_zero, true_implies, false_implies, implies_true, not_true_eq_false, not_false_eq_true, and_true, true_and, Option.some.injEq, reduceCtorEq, forall_eq', forall_eq] at ih ⊢
          exact ih
    all_goals
      simp (disch := omega) only [q1, q2, if_true, if_false, true_or, or_true, false_or, or_false, and_false, false_and, and_self, or_self, Int32.add_zero, true_implies, false_implies, implies_true, not_true_eq_false, not_false_eq_true, and_true, true_and, Option.some.injEq, reduceCtorEq, forall_eq', forall_eq] at ih ⊢
      exact ih
theorem r_shift (hS : Stat μ) (hr : RIg g t ρ) (hρ : rf μ = ρ) (k : K (some (.int (shV (sS (fSh ρ x1) (nS ρ))))) μ) : AW E l (d + 2) nc ns mX11_shift 15 [some (.ref 31), some (.int x1), some (.int 0), some (.int 0)] [] μ K := by
  have R : ∀ a j, 31 ≤ a → a < 88 → zI μ a j = ρ a j := fun a j h1 h2 => rfz hρ h1 h2
  obtain ⟨b1, b2, b3, b4, b5, b6, b7, b8⟩ := hr.s
  have b300 := b3.2
  have lE : ρ 31 22 ≤ nI (nS ρ) := by rw [← b3.1]; exact Int32.le_refl _
  refine lpd (P := fun j => AW E l (d + 2) nc ns mX11_shift 15 [some (.ref 31), some (.int x1), some (.int (sS (fSh ρ x1) j)), some (.int (nI j))] [] μ K) (n := nS ρ) ?_ ?_
  · refine t_X11_shift_15 hS ?_
    unfold shV at k
    simp (disch := omega) only [R, lE, true_implies, false_implies, implies_true, not_true_eq_false, not_false_eq_true, and_true, true_and, Option.some.injEq, reduceCtorEq, forall_eq', forall_eq]
    refine ⟨fun q => ⟨fun q2 => ?_, fun q2 => ?_⟩, fun q => ?_⟩
    all_goals
      simp only [q, if_true, if_false, true_or, or_true, false_or, or_false, and_false, false_and, and_self, or_self, Int32.add_zero, true_implies, false_implies, implies_true, not_true_eq_false, not_false_eq_true, and_true, true_and, Option.some.injEq, reduceCtorEq, forall_eq', forall_eq] at k
      try simp only [q2, if_true, if_false, true_or, or_true, false_or, or_false, and_false, false_and, and_self, or_self, Int32.add_zero, true_implies, false_implies, implies_true, not_true_eq_false, not_false_eq_true, and_true, true_and, Option.some.injEq, reduceCtorEq, forall_eq', forall_eq] at k
      exact k
  · intro j hj ih
    have l1 : ¬ ρ 31 22 ≤ nI j := by rw [b3.1]; exact nI_ge hj (by omega)
    have l3 : vp_in (nI j) 300 := vp_in_nI (by omega) (by decide)
    have l4 : (nI j).toNatClampNeg = j := nI_clamp (by omega)
    obtain ⟨d1, d2, d3, d4, d5, d6, d7, d8, d9, d10, d11, d12, d13, d14, d15, d16, d17, d18, d19⟩ := hr.sa hj
    refine t_X11_shift_15 hS ?_
    simp only [sS, fSh, ← nI_1] at ih
    simp (disch := omega) only [R, l1, l3, l4, v_sl hr hj, true_implies, false_implies, implies_true, not_true_eq_false, not_false_eq_true, and_true, true_and, Option.some.injEq, reduceCtorEq, forall_eq', forall_eq]
    by_cases q1 : ρ 45 (ρ 49 j).toNatClampNeg = x1 <;> by_cases q2 : ρ 48 j = 2
    · simp (disch := omega) only [q1, q2, if_true, if_false, true_or, or_true, false_or, or_false, and_false, false_and, and_self, or_self, Int32.add_zero, true_implies, false_implies, implies_true, not_true_eq_false, not_false_eq_true, and_true, true_and, Option.some.injEq, reduceCtorEq, forall_eq', forall_eq] at ih ⊢
      refine r_hasOther hS hr hρ hj ⟨_, rfl, hS, ?_⟩
      simp (disch := omega) only [R, l3, l4, true_implies, false_implies, implies_true, not_true_eq_false, not_false_eq_true, and_true, true_and, Option.some.injEq, reduceCtorEq, forall_eq', forall_eq]
      have n5 : ¬ (2 : Int32) = 1 := by decide
      have n6 : ¬ (1 : Int32) = 2 := by decide
      by_cases c : hOs ρ j = 0 <;> by_cases c1 : ρ 62 j = 1 <;> by_cases c2 : ρ 62 j = 2
      all_goals
        simp (disch := omega) only [c, c1, c2, n5, n6, if_true, if_false, true_or, or_true, false_or, or_false, and_false, false_and, and_self, or_self, Int32.add_zero, true_implies, false_implies, implies_true, not_true_eq_false, not_false_eq_true, and_true, true_and, Option.some.injEq, reduceCtorEq, forall_eq', forall_eq] at ih ⊢
        exact ih
    all_goals
      simp (disch := omega) only [q1, q2, if_true, if_false, true_or, or_true, false_or, or_false, and_false, false_and, and_self, or_self, Int32.add_zero, true_implies, false_implies, implies_true, not_true_eq_false, not_false_eq_true, and_true, true_and, Option.some.injEq, reduceCtorEq, forall_eq', forall_eq] at ih ⊢
      exact ih
theorem c_leftIn {i : Nat} (hS : Stat μ) (hr : RIg g t ρ) (hc : CRg g μ ρ) (hi : i < nM ρ) (k : K (some (.int (sS (fLe ρ (nI i)) (nL ρ)))) μ) : AW E l d nc ns mX10_leftInLots 0 (zargs 4 [.ref 11, .ref (maF μ i)]) [] μ K := by
  obtain ⟨s1, s2, s3, s4, s5, s6, s7, s8, s9, s10, s11⟩ := hc.s
  obtain ⟨b1, b2, b3, b4, b5, b6, b7, b8⟩ := hr.s
  have b60 := b2.2
  have lE : ρ 31 18 ≤ nI (nL ρ) := by rw [← b2.1]; exact Int32.le_refl _
  have ka : 11 ≤ maF μ i := by have := (k_ma hc hi).2.2.2.1; omega
  refine t_X10_leftInLots hS ?_
  refine lpd (P := fun j => AW E l d nc ns mX10_leftInLots 4 [some (.ref 11), some (.ref (maF μ i)), some (.int (sS (fLe ρ (nI i)) j)), some (.int (nI j))] [] μ K) (n := nL ρ) ?_ ?_
  · refine t_X10_leftInLots_4 hS ?_
    simp (disch := omega) only [s2, lE, true_implies, false_implies, implies_true, not_true_eq_false, not_false_eq_true, and_true, true_and, Option.some.injEq, reduceCtorEq, forall_eq', forall_eq]
    exact k
  · intro j hj ih
    have l1 : ¬ ρ 31 18 ≤ nI j := by rw [b2.1]; exact nI_ge hj (by omega)
    have l3 : vp_in (nI j) 60 := vp_in_nI (by omega) (by decide)
    have l4 : (nI j).toNatClampNeg = j := nI_clamp (by omega)
    obtain ⟨d1, d2, d3⟩ := hr.l hj
    obtain ⟨c1, c2, c3, c4, c5, c6, c7⟩ := hc.l hj
    have ka2 : 11 ≤ maF μ (lm ρ j) := by have := (k_ma hc d2).2.2.2.1; omega
    refine t_X10_leftInLots_4 hS ?_
    simp only [sS, fLe, ← nI_1] at ih
    simp (disch := omega) only [s2, l1, l3, l4, c1, c4, c6, c7, ka, ka2, pml_eq hr hc hj hi, true_implies, false_implies, implies_true, not_true_eq_false, not_false_eq_true, and_true, true_and, Option.some.injEq, reduceCtorEq, forall_eq', forall_eq]
    by_cases q1 : ρ 45 j = nI i
    all_goals
      simp (disch := omega) only [q1, if_true, if_false, true_or, or_true, false_or, or_false, and_false, false_and, and_self, or_self, Int32.add_zero, true_implies, false_implies, implies_true, not_true_eq_false, not_false_eq_true, and_true, true_and, Option.some.injEq, reduceCtorEq, forall_eq', forall_eq] at ih ⊢
      exact ih
theorem r_newOf {i : Nat} (hS : Stat μ) (hr : RIg g t ρ) (hρ : rf μ = ρ) (hi : i < nM ρ) (k : K (some (.int (ρ 38 i + sS (fLe ρ (nI i)) (nL ρ)))) μ) : AW E l d nc ns mX11_newOf 0 (zargs 4 [.ref 31, .int (nI i)]) [] μ K := by
  have R : ∀ a j, 31 ≤ a → a < 88 → zI μ a j = ρ a j := fun a j h1 h2 => rfz hρ h1 h2
  obtain ⟨b1, b2, b3, b4, b5, b6, b7, b8⟩ := hr.s
  have b60 := b2.2
  have lE : ρ 31 18 ≤ nI (nL ρ) := by rw [← b2.1]; exact Int32.le_refl _
  have b20 := b1.2
  refine t_X11_newOf hS ?_
  have w1 : vp_in (nI i) 20 := vp_in_nI (by omega) (by decide)
  have w2 : (nI i).toNatClampNeg = i := nI_clamp (by omega)
  simp (disch := omega) only [R, w1, w2, true_implies, false_implies, implies_true, not_true_eq_false, not_false_eq_true, and_true, true_and, Option.some.injEq, reduceCtorEq, forall_eq', forall_eq]
  have := lpd (P := fun j => AW E l d nc ns mX11_newOf 9 [some (.ref 31), some (.int (nI i)), some (.int (ρ 38 i + sS (fLe ρ (nI i)) j)), some (.int (nI j))] [] μ K) (n := nL ρ) ?_ ?_
  · simp only [sS, Int32.add_zero] at this
    exact this
  · refine t_X11_newOf_9 hS ?_
    simp (disch := omega) only [R, lE, true_implies, false_implies, implies_true, not_true_eq_false, not_false_eq_true, and_true, true_and, Option.some.injEq, reduceCtorEq, forall_eq', forall_eq]
    exact k
  · intro j hj ih
    have l1 : ¬ ρ 31 18 ≤ nI j := by rw [b2.1]; exact nI_ge hj (by omega)
    have l3 : vp_in (nI j) 60 := vp_in_nI (by omega) (by decide)
    have l4 : (nI j).toNatClampNeg = j := nI_clamp (by omega)
    obtain ⟨d1, d2, d3⟩ := hr.l hj
    refine t_X11_newOf_9 hS ?_
    simp only [sS, fLe, ← nI_1, ← Int32.add_assoc] at ih
    simp (disch := omega) only [R, l1, l3, l4, true_implies, false_implies, implies_true, not_true_eq_false, not_false_eq_true, and_true, true_and, Option.some.injEq, reduceCtorEq, forall_eq', forall_eq]
    by_cases q1 : ρ 45 j = nI i
    all_goals
      simp (disch := omega) only [q1, if_true, if_false, true_or, or_true, false_or, or_false, and_false, false_and, and_self, or_self, Int32.add_zero, true_implies, false_implies, implies_true, not_true_eq_false, not_false_eq_true, and_true, true_and, Option.some.injEq, reduceCtorEq, forall_eq', forall_eq] at ih ⊢
      exact ih
theorem c_salesOf6 {i : Nat} (hS : Stat μ) (hr : RIg g t ρ) (hc : CRg g μ ρ) (hi : i < nM ρ) (k : K (some (.int (sS (fSo ρ (nI i) x2 x3) (nS ρ)))) μ) : AW E l d nc ns mX10_salesOf 6 [some (.ref 11), some (.ref (maF μ i)), some (.int x2), some (.int x3), some (.int 0), some (.int 0), none] [] μ K := by
  obtain ⟨s1, s2, s3, s4, s5, s6, s7, s8, s9, s10, s11⟩ := hc.s
  obtain ⟨b1, b2, b3, b4, b5, b6, b7, b8⟩ := hr.s
  have b300 := b3.2
  have lE : ρ 31 22 ≤ nI (nS ρ) := by rw [← b3.1]; exact Int32.le_refl _
  have ka : 11 ≤ maF μ i := by have := (k_ma hc hi).2.2.2.1; omega
  refine lpd (P := fun j => AW E l d nc ns mX10_salesOf 6 [some (.ref 11), some (.ref (maF μ i)), some (.int x2), some (.int x3), some (.int (sS (fSo ρ (nI i) x2 x3) j)), some (.int (nI j)), none] [] μ K) (n := nS ρ) ?_ ?_
  · refine t_X10_salesOf_6 hS ?_
    simp (disch := omega) only [s3, lE, true_implies, false_implies, implies_true, not_true_eq_false, not_false_eq_true, and_true, true_and, Option.some.injEq, reduceCtorEq, forall_eq', forall_eq]
    exact k
  · intro j hj ih
    have l1 : ¬ ρ 31 22 ≤ nI j := by rw [b3.1]; exact nI_ge hj (by omega)
    have l3 : vp_in (nI j) 300 := vp_in_nI (by omega) (by decide)
    have l4 : (nI j).toNatClampNeg = j := nI_clamp (by omega)
    obtain ⟨d1, d2, d3, d4, d5, d6, d7, d8, d9, d10, d11, d12, d13, d14, d15, d16, d17, d18, d19⟩ := hr.sa hj
    obtain ⟨c1, c2, c3, c4, c5, c6, c7, c8, c9, c10, c11, c12, c13, c14, c15, c16, c17, c18, c19, c20, c21, c22, c23⟩ := hc.sa hj
    have ka2 := k_ma11 hr hc hj
    refine t_X10_salesOf_6 hS ?_
    simp only [sS, fSo, ← nI_1] at ih
    simp (disch := omega) only [s3, l1, l3, l4, c1, c4, c6, c16, c22, ka, ka2, pm_eq hr hc hj hi, true_implies, false_implies, implies_true, not_true_eq_false, not_false_eq_true, and_true, true_and, Option.some.injEq, reduceCtorEq, forall_eq', forall_eq]
    by_cases q1 : ρ 45 (ρ 49 j).toNatClampNeg = nI i <;> by_cases q2 : x2 = 0 <;> by_cases q3 : x3 = 0 <;> by_cases q4 : ρ 48 j = 2 <;> by_cases q5 : ρ 60 j = 0
    all_goals
      simp (disch := omega) only [q1, q2, q3, q4, q5, if_true, if_false, true_or, or_true, false_or, or_false, and_false, false_and, and_self, or_self, Int32.add_zero, true_implies, false_implies, implies_true, not_true_eq_false, not_false_eq_true, and_true, true_and, Option.some.injEq, reduceCtorEq, forall_eq', forall_eq] at ih ⊢
      exact ih
theorem r_stock71  (hS : Stat μ) (hr : RIg g t ρ) (hρ : rf μ = ρ)  (k : K (some (.int (sS (fSo ρ x1 1 1) (nS ρ)))) μ) : AW E l (d + 2) nc ns mX11_stock 71 [some (.ref 31), some (.int x1), none, some (.int 0), some (.int 0)] [] μ K := by
  have R : ∀ a j, 31 ≤ a → a < 88 → zI μ a j = ρ a j := fun a j h1 h2 => rfz hρ h1 h2
  obtain ⟨b1, b2, b3, b4, b5, b6, b7, b8⟩ := hr.s
  have b300 := b3.2
  have lE : ρ 31 22 ≤ nI (nS ρ) := by rw [← b3.1]; exact Int32.le_refl _
  have n10 : ¬ (1 : Int32) = 0 := by decide
  refine lpd (P := fun j => AW E l (d + 2) nc ns mX11_stock 71 [some (.ref 31), some (.int x1), none, some (.int (sS (fSo ρ x1 1 1) j)), some (.int (nI j))] [] μ K) (n := nS ρ) ?_ ?_
  · refine t_X11_stock_71 hS ?_
    simp (disch := omega) only [R, lE, true_implies, false_implies, implies_true, not_true_eq_false, not_false_eq_true, and_true, true_and, Option.some.injEq, reduceCtorEq, forall_eq', forall_eq]
    exact k
  · intro j hj ih
    have l1 : ¬ ρ 31 22 ≤ nI j := by rw [b3.1]; exact nI_ge hj (by omega)
    have l3 : vp_in (nI j) 300 := vp_in_nI (by omega) (by decide)
    have l4 : (nI j).toNatClampNeg = j := nI_clamp (by omega)
    obtain ⟨d1, d2, d3, d4, d5, d6, d7, d8, d9, d10, d11, d12, d13, d14, d15, d16, d17, d18, d19⟩ := hr.sa hj
    refine t_X11_stock_71 hS ?_
    simp only [sS, fSo, ← nI_1] at ih
    simp (disch := omega) only [R, l1, l3, l4, v_sl hr hj, true_implies, false_implies, implies_true, not_true_eq_false, not_false_eq_true, and_true, true_and, Option.some.injEq, reduceCtorEq, forall_eq', forall_eq]
    by_cases q2' : ¬ ρ 48 j = 2
    · have q3 := hp_eq hr hj q2'
      simp (disch := omega) only [q3, n10, if_true, if_false, true_or, or_true, false_or, or_false, and_false, false_and, and_self, or_self, Int32.add_zero, true_implies, false_implies, implies_true, not_true_eq_false, not_false_eq_true, and_true, true_and, Option.some.injEq, reduceCtorEq, forall_eq', forall_eq] at ih ⊢
      exact ih
    by_cases q1 : ρ 45 (ρ 49 j).toNatClampNeg = x1 <;> by_cases q2 : ρ 48 j = 2 <;> by_cases q3 : ρ 60 j = 0
    all_goals
      first
        | exact absurd q2 q2'
        | (simp (disch := omega) only [q1, q2, q3, n10, if_true, if_false, true_or, or_true, false_or, or_false, and_false, false_and, and_self, or_self, Int32.add_zero, true_implies, false_implies, implies_true, not_true_eq_false, not_false_eq_true, and_true, true_and, Option.some.injEq, reduceCtorEq, forall_eq', forall_eq] at ih ⊢
           exact ih)
theorem r_stock126  (hS : Stat μ) (hr : RIg g t ρ) (hρ : rf μ = ρ)  (k : K (some (.int (sS (fSo ρ x1 0 0) (nS ρ)))) μ) : AW E l (d + 2) nc ns mX11_stock 126 [some (.ref 31), some (.int x1), none, some (.int 0), some (.int 0)] [] μ K := by
  have R : ∀ a j, 31 ≤ a → a < 88 → zI μ a j = ρ a j := fun a j h1 h2 => rfz hρ h1 h2
  obtain ⟨b1, b2, b3, b4, b5, b6, b7, b8⟩ := hr.s
  have b300 := b3.2
  have lE : ρ 31 22 ≤ nI (nS ρ) := by rw [← b3.1]; exact Int32.le_refl _
  refine lpd (P := fun j => AW E l (d + 2) nc ns mX11_stock 126 [some (.ref 31), some (.int x1), none, some (.int (sS (fSo ρ x1 0 0) j)), some (.int (nI j))] [] μ K) (n := nS ρ) ?_ ?_
  · refine t_X11_stock_126 hS ?_
    simp (disch := omega) only [R, lE, true_implies, false_implies, implies_true, not_true_eq_false, not_false_eq_true, and_true, true_and, Option.some.injEq, reduceCtorEq, forall_eq', forall_eq]
    exact k
  · intro j hj ih
    have l1 : ¬ ρ 31 22 ≤ nI j := by rw [b3.1]; exact nI_ge hj (by omega)
    have l3 : vp_in (nI j) 300 := vp_in_nI (by omega) (by decide)
    have l4 : (nI j).toNatClampNeg = j := nI_clamp (by omega)
    obtain ⟨d1, d2, d3, d4, d5, d6, d7, d8, d9, d10, d11, d12, d13, d14, d15, d16, d17, d18, d19⟩ := hr.sa hj
    refine t_X11_stock_126 hS ?_
    simp only [sS, fSo, ← nI_1] at ih
    simp (disch := omega) only [R, l1, l3, l4, v_sl hr hj, true_implies, false_implies, implies_true, not_true_eq_false, not_false_eq_true, and_true, true_and, Option.some.injEq, reduceCtorEq, forall_eq', forall_eq]
    by_cases q1 : ρ 45 (ρ 49 j).toNatClampNeg = x1
    all_goals
      simp (disch := omega) only [q1, if_true, if_false, true_or, or_true, false_or, or_false, and_false, false_and, and_self, or_self, Int32.add_zero, true_implies, false_implies, implies_true, not_true_eq_false, not_false_eq_true, and_true, true_and, Option.some.injEq, reduceCtorEq, forall_eq', forall_eq] at ih ⊢
      exact ih
theorem r_stock164  (hS : Stat μ) (hr : RIg g t ρ) (hρ : rf μ = ρ)  (k : K (some (.int (sS (fSo ρ x1 1 0) (nS ρ)))) μ) : AW E l (d + 2) nc ns mX11_stock 164 [some (.ref 31), some (.int x1), none, some (.int 0), some (.int 0)] [] μ K := by
  have R : ∀ a j, 31 ≤ a → a < 88 → zI μ a j = ρ a j := fun a j h1 h2 => rfz hρ h1 h2
  obtain ⟨b1, b2, b3, b4, b5, b6, b7, b8⟩ := hr.s
  have b300 := b3.2
  have lE : ρ 31 22 ≤ nI (nS ρ) := by rw [← b3.1]; exact Int32.le_refl _
  have n10 : ¬ (1 : Int32) = 0 := by decide
  refine lpd (P := fun j => AW E l (d + 2) nc ns mX11_stock 164 [some (.ref 31), some (.int x1), none, some (.int (sS (fSo ρ x1 1 0) j)), some (.int (nI j))] [] μ K) (n := nS ρ) ?_ ?_
  · refine t_X11_stock_164 hS ?_
    simp (disch := omega) only [R, lE, true_implies, false_implies, implies_true, not_true_eq_false, not_false_eq_true, and_true, true_and, Option.some.injEq, reduceCtorEq, forall_eq', forall_eq]
    exact k
  · intro j hj ih
    have l1 : ¬ ρ 31 22 ≤ nI j := by rw [b3.1]; exact nI_ge hj (by omega)
    have l3 : vp_in (nI j) 300 := vp_in_nI (by omega) (by decide)
    have l4 : (nI j).toNatClampNeg = j := nI_clamp (by omega)
    obtain ⟨d1, d2, d3, d4, d5, d6, d7, d8, d9, d10, d11, d12, d13, d14, d15, d16, d17, d18, d19⟩ := hr.sa hj
    refine t_X11_stock_164 hS ?_
    simp only [sS, fSo, ← nI_1] at ih
    simp (disch := omega) only [R, l1, l3, l4, v_sl hr hj, bk_eq hr hj, true_implies, false_implies, implies_true, not_true_eq_false, not_false_eq_true, and_true, true_and, Option.some.injEq, reduceCtorEq, forall_eq', forall_eq]
    by_cases q1 : ρ 45 (ρ 49 j).toNatClampNeg = x1 <;> by_cases q2 : ρ 48 j = 2
    all_goals
      simp (disch := omega) only [q1, q2, n10, if_true, if_false, true_or, or_true, false_or, or_false, and_false, false_and, and_self, or_self, Int32.add_zero, true_implies, false_implies, implies_true, not_true_eq_false, not_false_eq_true, and_true, true_and, Option.some.injEq, reduceCtorEq, forall_eq', forall_eq] at ih ⊢
      exact ih
end LoopC
