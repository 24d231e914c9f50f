def wrn (ρ : RV) (s : Nat) : Int32 := dg (ρ 79 (tN (ρ 61 s))) 3
def usW (ρ : RV) (m : Nat) (w : Int32) : Int32 := prR ρ m (ρ 31 1 / 24) * (90 - 8 * w) / 100
def flt (ρ : RV) (s : Nat) : Bool := decide (dg (ρ 79 (tN (ρ 61 s))) 0 = 1) || !decide (ρ 81 (tN (ρ 61 s)) = 0)
theorem dg_lt (x : Int32) (k : Nat) : ∃ n, n < 10 ∧ dg x k = nI n := ⟨_, Nat.mod_lt _ (by decide), rfl⟩
theorem usW_l {g : Gh} {t m : Nat} {ρ : RV} {w : Nat} (hr : RIg g t ρ) (hm : m < nM ρ) (hw : w < 10) : ((prR ρ m (ρ 31 1 / 24)).toInt64 * (90 - 8 * nI w).toInt64 / 100).toInt32 = usW ρ m (nI w) := by
  unfold usW
  obtain ⟨e1, e2, e3⟩ := rng_of (prR_rng (day := ρ 31 1 / 24) hr hm) (by decide)
  obtain ⟨p, hp⟩ : ∃ p, p = tN (prR ρ m (ρ 31 1 / 24)) := ⟨_, rfl⟩
  rw [← hp] at e1 e2
  have e90 : (90 : Int32) - 8 * nI w = nI (90 - 8 * w) := by
    rw [show (8 : Int32) = nI 8 from rfl, pk_mul, show (90 : Int32) = nI 90 from rfl, pk_sub (by omega)]
  have hpq : p * (90 - 8 * w) ≤ 99999 * 90 := Nat.mul_le_mul (by omega) (by omega)
  rw [e1, e90, nI_l (by omega), nI_l (by omega), lN_mul, show (100 : Int64) = lN 100 from rfl, pk_lDiv (by omega) (by decide) (by decide), lN_i, pk_mul, show (100 : Int32) = nI 100 from rfl, pk_div (by omega) (by decide) (by decide)]
section Worth
variable {E : ZE} {l : Launch} {d nc ns : Nat} {g : Gh} {t : Nat} {μ : ZM} {ρ : RV} {K : Option Value → ZM → Prop} {i : Nat} {x1 x2 : Int32}
theorem c_usedWorth (hS : Stat μ) (hr : RIg g t ρ) (hc : CRg g μ ρ) (hi : i < nS ρ) (st : ρ 48 i = 2) (k : K (some (.int (usW ρ (smo ρ i) (wrn ρ i)))) μ) : AW E l (d + 1) nc ns mX10_usedWorth 0 (zargs 2 [.ref 11, .ref (saF μ i)]) [] μ K := by
  obtain ⟨s1, s2, s3, s4, s5, s6, s7, s8, s9, s10, s11⟩ := hc.s
  obtain ⟨c1, c2, c3, c4, c5, c6, c7, c8, c9, c10, c11, c12, c13, c14, c15, c16, c17, c18, c19, c20, c21, c22, c23⟩ := hc.sa hi
  have d16 := (hr.sa hi).2.2.2.2.2.2.2.2.2.2.2.2.2.2.2.1 st
  have hm : smo ρ i < nM ρ := (hr.l (hr.sa hi).2.1).2.1
  have c23 := c23 st
  obtain ⟨e1, e2, e3, e4, e5, e6, e7, e8, e9, e10, e11, e12, e13, e14, e15, e16, e17, e18, e19, e20⟩ := hc.a d16.2
  have mk := (k_ma hc hm).1
  refine t_X10_usedWorth hS ?_
  simp (disch := omega) only [c4, c6, mk, s6, true_implies, false_implies, implies_true, not_true_eq_false, not_false_eq_true, and_true, true_and, Option.some.injEq, reduceCtorEq, forall_eq', forall_eq]
  refine c_priceM hS hr hm (hc.m hm) ⟨_, rfl, hS, ?_⟩
  simp (disch := omega) only [c4, c23, e4, e13, true_implies, false_implies, implies_true, not_true_eq_false, not_false_eq_true, and_true, true_and, Option.some.injEq, reduceCtorEq, forall_eq', forall_eq]
  exact k
theorem r_asUsed {m w : Nat} (hS : Stat μ) (hr : RIg g t ρ) (hρ : rf μ = ρ) (hm : m < nM ρ) (hw : w < 10) (k : K (some (.int (usW ρ m (nI w)))) μ) : AW E l (d + 1) nc ns mX11_asUsed 0 (zargs 3 [.ref 31, .int (nI m), .int (nI w)]) [] μ K := by
  have R : ∀ a j, 31 ≤ a → a < 88 → zI μ a j = ρ a j := fun a j h1 h2 => rfz hρ h1 h2
  refine t_X11_asUsed hS ?_
  simp (disch := omega) only [R]
  refine r_priceM hS hr hm (R _ _ (by decide) (by decide)) (fun j => R _ _ (by decide) (by decide)) (fun j => R _ _ (by decide) (by decide)) ⟨_, rfl, hS, ?_⟩
  rw [usW_l hr hm hw]
  exact k

def wrB (ρ : RV) (s : Nat) (way : Int32) : Int32 := if way = 0 then (if wrn ρ s = 0 ∧ dg (ρ 79 (tN (ρ 61 s))) 5 = 0 ∧ flt ρ s = false then prR ρ (smo ρ s) (ρ 31 1 / 24) else -2000000000) else if way = 1 then (if flt ρ s = true then -2000000000 else usW ρ (smo ρ s) (wrn ρ s)) else if way = 2 then usW ρ (smo ρ s) (wrn ρ s) - ρ 34 (smo ρ s) else ρ 33 (smo ρ s) / 100
theorem c_worthNow {w : Nat} (hS : Stat μ) (hr : RIg g t ρ) (hc : CRg g μ ρ) (hi : i < nS ρ) (st : ρ 48 i = 2) (hw : w < 4) (k : K (some (.int (wrB ρ i (nI w)))) μ) : AW E l (d + 2) nc ns mX10_worthNow 0 (zargs 3 [.ref 11, .ref (saF μ i), .int (nI w)]) [] μ K := by
  obtain ⟨s1, s2, s3, s4, s5, s6, s7, s8, s9, s10, s11⟩ := hc.s
  obtain ⟨c1, c2, c3, c4, c5, c6, c7, c8, c9, c10, c11, c12, c13, c14, c15, c16, c17, c18, c19, c20, c21, c22, c23⟩ := hc.sa hi
  have d16 := (hr.sa hi).2.2.2.2.2.2.2.2.2.2.2.2.2.2.2.1 st
  have hm : smo ρ i < nM ρ := (hr.l (hr.sa hi).2.1).2.1
  have c23 := c23 st
  obtain ⟨e1, e2, e3, e4, e5, e6, e7, e8, e9, e10, e11, e12, e13, e14, e15, e16, e17, e18, e19, e20⟩ := hc.a d16.2
  obtain ⟨m1, m2, m3, m4, m5, m6, m7, m8, m9, m10, m11, m12⟩ := hc.m hm
  have mk := m4.1
  refine t_X10_worthNow hS ?_
  have hw : w = 0 ∨ w = 1 ∨ w = 2 ∨ w = 3 := by omega
  have n0 : nI 0 = 0 := rfl
  have n1 : nI 1 = 1 := rfl
  have n2 : nI 2 = 2 := rfl
  have n3 : nI 3 = 3 := rfl
  rcases hw with rfl | rfl | rfl | rfl
  · unfold wrB flt wrn at k
    by_cases q1 : dg (ρ 79 (tN (ρ 61 i))) 3 = 0 <;> by_cases q2 : dg (ρ 79 (tN (ρ 61 i))) 5 = 0 <;> by_cases q3 : dg (ρ 79 (tN (ρ 61 i))) 0 = 1 <;> by_cases q4 : ρ 81 (tN (ρ 61 i)) = 0
    all_goals
      simp +decide only [n0, q1, q2, q3, q4, decide_true, decide_false, Bool.not_true, Bool.not_false, Bool.or_true, Bool.or_false, Bool.true_or, Bool.false_or, Bool.true_eq_false, Bool.false_eq_true, if_true, if_false, true_or, or_true, false_or, or_false, and_false, false_and, and_self, or_self, Int32.add_zero, true_implies, false_implies, implies_true, not_true_eq_false, not_false_eq_true, and_true, true_and, Option.some.injEq, reduceCtorEq, forall_eq', forall_eq] at k
      simp +decide only [n0, c4, c23, e4, e13, e15, e10, e17, c6, mk, s6, q1, q2, q3, q4, true_implies, false_implies, implies_true, not_true_eq_false, not_false_eq_true, and_true, true_and, Option.some.injEq, reduceCtorEq, forall_eq', forall_eq]
      first | exact k | exact c_priceM hS hr hm (hc.m hm) ⟨_, rfl, hS, k⟩
  · unfold wrB flt at k
    by_cases q3 : dg (ρ 79 (tN (ρ 61 i))) 0 = 1 <;> by_cases q4 : ρ 81 (tN (ρ 61 i)) = 0
    all_goals
      simp +decide only [n1, q3, q4, decide_true, decide_false, Bool.not_true, Bool.not_false, Bool.or_true, Bool.or_false, Bool.true_or, Bool.false_or, Bool.true_eq_false, Bool.false_eq_true, if_true, if_false, true_or, or_true, false_or, or_false, and_false, false_and, and_self, or_self, Int32.add_zero, true_implies, false_implies, implies_true, not_true_eq_false, not_false_eq_true, and_true, true_and, Option.some.injEq, reduceCtorEq, forall_eq', forall_eq] at k
      simp +decide only [n1, c4, c23, e4, e10, e17, q3, q4, true_implies, false_implies, implies_true, not_true_eq_false, not_false_eq_true, and_true, true_and, Option.some.injEq, reduceCtorEq, forall_eq', forall_eq]
      first | exact k | exact c_usedWorth hS hr hc hi st ⟨_, rfl, hS, k⟩
  · unfold wrB at k
    simp +decide only [n2, if_true, if_false, true_or, or_true, false_or, or_false, and_false, false_and, and_self, or_self, Int32.add_zero, true_implies, false_implies, implies_true, not_true_eq_false, not_false_eq_true, and_true, true_and, Option.some.injEq, reduceCtorEq, forall_eq', forall_eq] at k
    simp +decide only [n2, true_implies, false_implies, implies_true, not_true_eq_false, not_false_eq_true, and_true, true_and, Option.some.injEq, reduceCtorEq, forall_eq', forall_eq]
    refine c_usedWorth hS hr hc hi st ⟨_, rfl, hS, ?_⟩
    simp only [c4, c6, mk, m8, true_implies, false_implies, implies_true, not_true_eq_false, not_false_eq_true, and_true, true_and, Option.some.injEq, reduceCtorEq, forall_eq', forall_eq]
    exact k
  · unfold wrB at k
    simp +decide only [n3, if_true, if_false, true_or, or_true, false_or, or_false, and_false, false_and, and_self, or_self, Int32.add_zero, true_implies, false_implies, implies_true, not_true_eq_false, not_false_eq_true, and_true, true_and, Option.some.injEq, reduceCtorEq, forall_eq', forall_eq] at k
    simp +decide only [n3, c4, c6, mk, m7, true_implies, false_implies, implies_true, not_true_eq_false, not_false_eq_true, and_true, true_and, Option.some.injEq, reduceCtorEq, forall_eq', forall_eq]
    exact k
theorem r_worthBy {w : Nat} (hS : Stat μ) (hr : RIg g t ρ) (hρ : rf μ = ρ) (hi : i < nS ρ) (st : ρ 48 i = 2) (hw : w < 4) (k : K (some (.int (wrB ρ i (nI w)))) μ) : AW E l (d + 2) nc ns mX11_worthBy 0 (zargs 7 [.ref 31, .int (nI i), .int (nI w)]) [] μ K := by
  have R : ∀ a j, 31 ≤ a → a < 88 → zI μ a j = ρ a j := fun a j h1 h2 => rfz hρ h1 h2
  obtain ⟨b1, b2, b3, b4, b5, b6, b7, b8⟩ := hr.s
  have b300 := b3.2
  have b200 := b4.2
  have b20 := b1.2
  have w1 : vp_in (nI i) 300 := vp_in_nI (by omega) (by decide)
  have w2 : (nI i).toNatClampNeg = i := nI_clamp (by omega)
  have w3 := v_sl hr hi
  obtain ⟨t1, t2⟩ := (hr.sa hi).2.2.2.2.2.2.2.2.2.2.2.2.2.2.2.1 st
  have lr := hr.l (hr.sa hi).2.1
  have hm : smo ρ i < nM ρ := lr.2.1
  have e45 : ρ 45 (ρ 49 i).toNatClampNeg = nI (smo ρ i) := lr.1
  have v20 : vp_in (nI (smo ρ i)) 20 := vp_in_nI (by omega) (by decide)
  have c20 : (nI (smo ρ i)).toNatClampNeg = smo ρ i := nI_clamp (by omega)
  obtain ⟨a, ha⟩ : ∃ a, a = tN (ρ 61 i) := ⟨_, rfl⟩
  rw [← ha] at t1 t2
  have w4 : vp_in (nI a) 200 := vp_in_nI (by omega) (by decide)
  have w5 : (nI a).toNatClampNeg = a := nI_clamp (by omega)
  obtain ⟨f1, f2, f3, f4, f5, f6, f7, f8, f9, f10, f11⟩ := hr.a t2
  obtain ⟨e1, e2, e3⟩ := rng_of f7 (by decide)
  obtain ⟨n, hn⟩ : ∃ n, n = tN (ρ 79 a) := ⟨_, rfl⟩
  rw [← hn] at e1 e2
  have tn : tN (nI n) = n := nI_clamp (by omega)
  refine t_X11_worthBy hS ?_
  simp (disch := omega) only [R, w1, w2, w3, t1, w4, w5, e45, v20, c20, true_implies, false_implies, implies_true, not_true_eq_false, not_false_eq_true, and_true, true_and, Option.some.injEq, reduceCtorEq, forall_eq', forall_eq]
  refine t_X11_wornOf hS ?_
  simp (disch := omega) only [R, w1, w2, t1, w4, w5, e1, true_implies, false_implies, implies_true, not_true_eq_false, not_false_eq_true, and_true, true_and, Option.some.injEq, reduceCtorEq, forall_eq', forall_eq]
  refine r_digit3 hS (by omega) ⟨_, rfl, hS, _, rfl, hS, ?_⟩
  simp (disch := omega) only [R, e1]
  refine r_digit0 hS (by omega) ⟨_, rfl, hS, ?_⟩
  unfold wrB flt wrn at k
  have g3 : dg (ρ 79 (tN (ρ 61 i))) 3 = nI (n / 100 % 10) := by rw [← ha, e1]; unfold dg; rw [tn]
  have g0 : dg (ρ 79 (tN (ρ 61 i))) 0 = nI (n / 100000 % 10) := by rw [← ha, e1]; unfold dg; rw [tn]
  have g5 : dg (ρ 79 (tN (ρ 61 i))) 5 = nI (n / 1 % 10) := by rw [← ha, e1]; unfold dg; rw [tn]
  rw [g3, g0, g5, ← ha] at k
  have hw : w = 0 ∨ w = 1 ∨ w = 2 ∨ w = 3 := by omega
  have n0 : nI 0 = 0 := rfl
  have n1 : nI 1 = 1 := rfl
  have n2 : nI 2 = 2 := rfl
  have n3 : nI 3 = 3 := rfl
  have md : n / 100 % 10 < 10 := by omega
  generalize n / 100 % 10 = k3 at k md ⊢
  generalize nI (n / 100000 % 10) = k0 at k ⊢
  rcases hw with rfl | rfl | rfl | rfl
  · by_cases q1 : nI k3 = 0 <;> by_cases q2 : nI (n / 1 % 10) = 0 <;> by_cases q3 : k0 = 1 <;> by_cases q4 : ρ 81 a = 0
    all_goals
      simp +decide only [n0, q1, q2, q3, q4, decide_true, decide_false, Bool.not_true, Bool.not_false, Bool.or_true, Bool.or_false, Bool.true_or, Bool.false_or, Bool.true_eq_false, Bool.false_eq_true, if_true, if_false, true_or, or_true, false_or, or_false, and_false, false_and, and_self, or_self, Int32.add_zero, true_implies, false_implies, implies_true, not_true_eq_false, not_false_eq_true, and_true, true_and, Option.some.injEq, reduceCtorEq, forall_eq', forall_eq] at k
      simp +decide (disch := omega) only [n0, q1, q3, q4, R, e1, true_implies, false_implies, implies_true, not_true_eq_false, not_false_eq_true, and_true, true_and, Option.some.injEq, reduceCtorEq, forall_eq', forall_eq]
      first
        | exact k
        | (refine r_digit5 hS (by omega) ⟨_, rfl, hS, ?_⟩
           simp +decide (disch := omega) only [q2, R, true_implies, false_implies, implies_true, not_true_eq_false, not_false_eq_true, and_true, true_and, Option.some.injEq, reduceCtorEq, forall_eq', forall_eq]
           first | exact k | exact r_priceM hS hr hm (R _ _ (by decide) (by decide)) (fun j => R _ _ (by decide) (by decide)) (fun j => R _ _ (by decide) (by decide)) ⟨_, rfl, hS, k⟩)
  · by_cases q3 : k0 = 1 <;> by_cases q4 : ρ 81 a = 0
    all_goals
      simp +decide only [n1, q3, q4, decide_true, decide_false, Bool.not_true, Bool.not_false, Bool.or_true, Bool.or_false, Bool.true_or, Bool.false_or, Bool.true_eq_false, Bool.false_eq_true, if_true, if_false, true_or, or_true, false_or, or_false, and_false, false_and, and_self, or_self, Int32.add_zero, true_implies, false_implies, implies_true, not_true_eq_false, not_false_eq_true, and_true, true_and, Option.some.injEq, reduceCtorEq, forall_eq', forall_eq] at k
      simp +decide (disch := omega) only [n1, q3, q4, R, true_implies, false_implies, implies_true, not_true_eq_false, not_false_eq_true, and_true, true_and, Option.some.injEq, reduceCtorEq, forall_eq', forall_eq]
      first | exact k | exact r_asUsed hS hr hρ hm md ⟨_, rfl, hS, k⟩
  · simp +decide only [n2, if_true, if_false, true_or, or_true, false_or, or_false, and_false, false_and, and_self, or_self, Int32.add_zero, true_implies, false_implies, implies_true, not_true_eq_false, not_false_eq_true, and_true, true_and, Option.some.injEq, reduceCtorEq, forall_eq', forall_eq] at k
    by_cases q3 : k0 = 1 <;> by_cases q4 : ρ 81 a = 0
    all_goals
      simp +decide (disch := omega) only [n2, q3, q4, R, true_implies, false_implies, implies_true, not_true_eq_false, not_false_eq_true, and_true, true_and, Option.some.injEq, reduceCtorEq, forall_eq', forall_eq]
      refine r_asUsed hS hr hρ hm md ⟨_, rfl, hS, ?_⟩
      rw [R _ _ (by decide) (by decide)]
      exact k
  · simp +decide only [n3, if_true, if_false, true_or, or_true, false_or, or_false, and_false, false_and, and_self, or_self, Int32.add_zero, true_implies, false_implies, implies_true, not_true_eq_false, not_false_eq_true, and_true, true_and, Option.some.injEq, reduceCtorEq, forall_eq', forall_eq] at k
    by_cases q3 : k0 = 1 <;> by_cases q4 : ρ 81 a = 0
    all_goals
      simp +decide (disch := omega) only [n3, q3, q4, R, true_implies, false_implies, implies_true, not_true_eq_false, not_false_eq_true, and_true, true_and, Option.some.injEq, reduceCtorEq, forall_eq', forall_eq]
      exact k
end Worth
section WorthP
variable {E : ZE} {l : Launch} {d : Nat} {g : Gh} {L : Nat} {X : Nat → Int32} {t : Nat} {μ : ZM} {x1 x2 x3 : Int32}
theorem pr_worth (hI : IV g L X t μ) : PRp E l d L X t mX10_worth mX11_worth [some (.ref 11), some (.int x1), some (.int x2), none] [some (.ref 31), some (.int x1), some (.int x2)] μ := by
  obtain ⟨ρ, hρ⟩ : ∃ ρ, rf μ = ρ := ⟨_, rfl⟩
  have hS := hI.st
  have hr := hI.r hρ
  have hc := hI.c hρ
  have R : ∀ a j, 31 ≤ a → a < 88 → zI μ a j = ρ a j := fun a j h1 h2 => rfz hρ h1 h2
  obtain ⟨s1, s2, s3, s4, s5, s6, s7, s8, s9, s10, s11⟩ := hc.s
  obtain ⟨b1, b2, b3, b4, b5, b6, b7, b8⟩ := hr.s
  have hU : IV g L X (t + 1) μ := hI.up (Nat.le_succ t)
  refine PRp.mk fun K hK => ?_
  rcases ix3 x1 (n := nS ρ) (by have := b3.2; omega) with h | ⟨h, h'⟩ | ⟨i, hi, rfl⟩
  · refine t_X10_worth hS ?_
    simp (disch := omega) only [h, true_implies, false_implies, implies_true, not_true_eq_false, not_false_eq_true, and_true, true_and, Option.some.injEq, reduceCtorEq, forall_eq', forall_eq]
    refine hK _ _ hS hI.s0 fun Q hQ => t_X11_worth hS ?_
    simp (disch := omega) only [h, R, true_implies, false_implies, implies_true, not_true_eq_false, not_false_eq_true, and_true, true_and, Option.some.injEq, reduceCtorEq, forall_eq', forall_eq]
    exact hQ _ _ hU
  · rw [← b3.1] at h'
    refine t_X10_worth hS ?_
    simp (disch := omega) only [h, h', s3, true_implies, false_implies, implies_true, not_true_eq_false, not_false_eq_true, and_true, true_and, Option.some.injEq, reduceCtorEq, forall_eq', forall_eq]
    refine hK _ _ hS hI.s0 fun Q hQ => t_X11_worth hS ?_
    simp (disch := omega) only [h, h', R, true_implies, false_implies, implies_true, not_true_eq_false, not_false_eq_true, and_true, true_and, Option.some.injEq, reduceCtorEq, forall_eq', forall_eq]
    exact hQ _ _ hU
  · have b300 := b3.2
    have h1 : ¬ nI i < 0 := nI_pos (by omega)
    have h2 := ix_lt (by omega) hi
    have h3 : vp_in (nI i) 300 := vp_in_nI (by omega) (by decide)
    have h4 : (nI i).toNatClampNeg = i := nI_clamp (by omega)
    rw [← b3.1] at h2
    obtain ⟨c1, c2, c3, c4, c5, c6, c7, c8, c9, c10, c11, c12, c13, c14, c15, c16, c17, c18, c19, c20, c21, c22, c23⟩ := hc.sa hi
    obtain ⟨d1, d2, d3, d4, d5, d6, d7, d8, d9, d10, d11, d12, d13, d14, d15, d16, d17, d18, d19⟩ := hr.sa hi
    by_cases q : ρ 60 i = 0
    · by_cases y1 : x2 < 0 <;> by_cases y2 : 3 < x2
      · refine t_X10_worth hS ?_
        simp (disch := omega) only [h1, h2, h3, h4, q, y1, y2, s3, c1, c4, c22, true_implies, false_implies, implies_true, not_true_eq_false, not_false_eq_true, and_true, true_and, Option.some.injEq, reduceCtorEq, forall_eq', forall_eq]
        refine hK _ _ hS hI.s0 fun Q hQ => t_X11_worth hS ?_
        simp (disch := omega) only [h1, h2, h3, h4, q, y1, y2, R, true_implies, false_implies, implies_true, not_true_eq_false, not_false_eq_true, and_true, true_and, Option.some.injEq, reduceCtorEq, forall_eq', forall_eq]
        exact hQ _ _ hU
      · refine t_X10_worth hS ?_
        simp (disch := omega) only [h1, h2, h3, h4, q, y1, y2, s3, c1, c4, c22, true_implies, false_implies, implies_true, not_true_eq_false, not_false_eq_true, and_true, true_and, Option.some.injEq, reduceCtorEq, forall_eq', forall_eq]
        refine hK _ _ hS hI.s0 fun Q hQ => t_X11_worth hS ?_
        simp (disch := omega) only [h1, h2, h3, h4, q, y1, y2, R, true_implies, false_implies, implies_true, not_true_eq_false, not_false_eq_true, and_true, true_and, Option.some.injEq, reduceCtorEq, forall_eq', forall_eq]
        exact hQ _ _ hU
      · refine t_X10_worth hS ?_
        simp (disch := omega) only [h1, h2, h3, h4, q, y1, y2, s3, c1, c4, c22, true_implies, false_implies, implies_true, not_true_eq_false, not_false_eq_true, and_true, true_and, Option.some.injEq, reduceCtorEq, forall_eq', forall_eq]
        refine hK _ _ hS hI.s0 fun Q hQ => t_X11_worth hS ?_
        simp (disch := omega) only [h1, h2, h3, h4, q, y1, y2, R, true_implies, false_implies, implies_true, not_true_eq_false, not_false_eq_true, and_true, true_and, Option.some.injEq, reduceCtorEq, forall_eq', forall_eq]
        exact hQ _ _ hU
      · refine t_X10_worth hS ?_
        simp (disch := omega) only [h1, h2, h3, h4, q, y1, y2, s3, c1, c4, c22, true_implies, false_implies, implies_true, not_true_eq_false, not_false_eq_true, and_true, true_and, Option.some.injEq, reduceCtorEq, forall_eq', forall_eq]
        refine hK _ _ hS hI.s0 fun Q hQ => t_X11_worth hS ?_
        simp (disch := omega) only [h1, h2, h3, h4, q, y1, y2, R, true_implies, false_implies, implies_true, not_true_eq_false, not_false_eq_true, and_true, true_and, Option.some.injEq, reduceCtorEq, forall_eq', forall_eq]
        exact hQ _ _ hU
    have st : ρ 48 i = 2 := d14 (d10.resolve_left q)
    by_cases y : x2 < 0 ∨ 3 < x2
    · have ny : ¬ x2 = 0 ∧ ¬ x2 = 1 ∧ ¬ x2 = 2 ∧ ¬ x2 = 3 := by
        refine ⟨?_, ?_, ?_, ?_⟩ <;> (rintro rfl; revert y; decide)
      refine t_X10_worth hS ?_
      simp (disch := omega) only [h1, h2, h3, h4, q, s3, c1, c4, c22, true_implies, false_implies, implies_true, not_true_eq_false, not_false_eq_true, and_true, true_and, Option.some.injEq, reduceCtorEq, forall_eq', forall_eq]
      refine t_X10_worthNow hS ⟨fun z => absurd z ny.1, fun z => absurd z ny.2.1, fun z => absurd z ny.2.2.1, fun z => absurd z ny.2.2.2, fun _ => ⟨_, rfl, hS, ?_⟩⟩
      refine hK _ _ hS hI.s0 fun Q hQ => t_X11_worth hS ?_
      by_cases y1 : x2 < 0
      · simp (disch := omega) only [h1, h2, h3, h4, q, y1, R, true_implies, false_implies, implies_true, not_true_eq_false, not_false_eq_true, and_true, true_and, Option.some.injEq, reduceCtorEq, forall_eq', forall_eq]
        exact hQ _ _ hU
      · have y2 := y.resolve_left y1
        simp (disch := omega) only [h1, h2, h3, h4, q, y1, y2, R, true_implies, false_implies, implies_true, not_true_eq_false, not_false_eq_true, and_true, true_and, Option.some.injEq, reduceCtorEq, forall_eq', forall_eq]
        exact hQ _ _ hU
    · have y1 : ¬ x2 < 0 := fun z => y (Or.inl z)
      have y2 : ¬ 3 < x2 := fun z => y (Or.inr z)
      obtain ⟨w, hw, rfl⟩ : ∃ w, w ≤ 3 ∧ x2 = nI w := nI_of2 (M := 3) (by decide) y1 (Int32.not_lt.mp y2)
      refine t_X10_worth hS ?_
      simp (disch := omega) only [h1, h2, h3, h4, q, s3, c1, c4, c22, true_implies, false_implies, implies_true, not_true_eq_false, not_false_eq_true, and_true, true_and, Option.some.injEq, reduceCtorEq, forall_eq', forall_eq]
      refine c_worthNow hS hr hc hi st (by omega) ⟨_, rfl, hS, ?_⟩
      refine hK _ _ hS hI.s0 fun Q hQ => t_X11_worth hS ?_
      simp (disch := omega) only [h1, h2, h3, h4, q, y1, y2, R, true_implies, false_implies, implies_true, not_true_eq_false, not_false_eq_true, and_true, true_and, Option.some.injEq, reduceCtorEq, forall_eq', forall_eq]
      exact r_worthBy hS hr hρ hi st (by omega) ⟨_, rfl, hS, hQ _ _ hU⟩
end WorthP
