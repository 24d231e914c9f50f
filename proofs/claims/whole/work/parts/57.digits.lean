/-! digits -/
theorem dg1 {x : Int32} {hi : Int} (h : rng x 0 hi) (n : Nat) {y : Int32} (hy : y = nI n) (h0 : 0 < n) (hn : n < 2 ^ 31) : x / y - x / y / 10 * 10 = nI (tN x / n % 10) := by
  subst hy
  obtain ⟨e1, e2, e3⟩ := nn_of (x := x) h.1
  have a1 := pk_div e3 h0 hn
  rw [← e1] at a1
  rw [a1]
  have := Nat.div_le_self (tN x) n
  exact pk_rem (by omega) (by decide) (by decide)
def okF (n : Nat) : Bool := decide (n / 100000 % 10 ≤ n / 10000 % 10) && decide (n / 10000 % 10 ≤ 1) && decide (n / 1000 % 10 ≤ n / 100 % 10) && decide (n / 10 % 10 ≤ n % 10) && decide (n % 10 ≤ 1)
theorem okF_iff {n : Nat} : okF n = true ↔ n / 100000 % 10 ≤ n / 10000 % 10 ∧ n / 10000 % 10 ≤ 1 ∧ n / 1000 % 10 ≤ n / 100 % 10 ∧ n / 10 % 10 ≤ n % 10 ∧ n % 10 ≤ 1 := by
  unfold okF
  simp only [Bool.and_eq_true, decide_eq_true_eq, and_assoc]
theorem okF_le {n : Nat} (h : okF n = true) (hn : n ≤ 999999) : n ≤ 119911 := by
  rw [okF_iff] at h
  have e1 : n / 10000 / 10 = n / 100000 := by omega
  have e2 : n / 1000 / 10 = n / 10000 := by omega
  have e3 : n / 100 / 10 = n / 1000 := by omega
  have e4 : n / 10 / 10 = n / 100 := by omega
  obtain ⟨h1, h2, h3, h4, h5⟩ := h
  have s0 : n / 100000 ≤ 9 := by omega
  have s0' : n / 100000 % 10 = n / 100000 := Nat.mod_eq_of_lt (by omega)
  have s1 : n / 10000 ≤ 11 := by omega
  have s2 : n / 100 ≤ 1199 := by omega
  have s3 : n / 10 ≤ 11991 := by omega
  clear e1 e2 e3 h1 h2 h3 s0 s0' s1
  omega
theorem nl1 {b : Nat} (hb : b < 2 ^ 31) : ((1 : Int32) < nI b) = (1 < b) := by rw [show (1 : Int32) = nI 1 from rfl, nI_ltI (by decide) hb]
theorem nl9 {b : Nat} (hb : b < 2 ^ 31) : ((9 : Int32) < nI b) = (9 < b) := by rw [show (9 : Int32) = nI 9 from rfl, nI_ltI (by decide) hb]
theorem nl0 {b : Nat} (hb : b < 2 ^ 31) : (nI b < (0 : Int32)) = False := by
  rw [show (0 : Int32) = nI 0 from rfl, nI_ltI hb (by decide)]
  simp
section Digits
variable {E : ZE} {l : Launch} {d nc ns : Nat} {μ : ZM} {K : Option Value → ZM → Prop} {n : Nat}
theorem c_areFacts (hS : Stat μ) (hn : n ≤ 999999) (k1 : okF n = true → K (some (.int 1)) μ) (k0 : okF n = false → K (some (.int 0)) μ) : AW E l (d + 1) nc ns mX10_areFacts 0 (zargs 1 [.int (nI n)]) [] μ K := by
  have rg : rng (nI n) 0 999999 := by unfold rng; rw [nI_toInt (by omega)]; omega
  have tn : tN (nI n) = n := nI_clamp (by omega)
  have y1 : ¬ nI n < 0 := nI_pos (by omega)
  have y2 : ¬ 999999 < nI n := by rw [show (999999 : Int32) = nI 999999 from rfl, nI_ltI (by decide) (by omega)]; omega
  have a0 := dg1 rg 100000 (y := 100000) rfl (by decide) (by decide)
  have a1 := dg1 rg 10000 (y := 10000) rfl (by decide) (by decide)
  have a2 := dg1 rg 1000 (y := 1000) rfl (by decide) (by decide)
  have a3 := dg1 rg 100 (y := 100) rfl (by decide) (by decide)
  have a4 := dg1 rg 10 (y := 10) rfl (by decide) (by decide)
  have a5 := dg1 rg 1 (y := 1) rfl (by decide) (by decide)
  rw [tn] at a0 a1 a2 a3 a4 a5
  rw [Nat.div_one] at a5
  have b : ∀ k, k % 10 < 2 ^ 31 := fun k => by omega
  refine t_X10_areFacts hS ?_
  simp only [y1, y2, a0, a1, a2, a3, a4, a5, nI_ltI (b _) (b _), nl1 (b _), nl9 (b _), nl0 (b _), true_implies, false_implies, implies_true, not_true_eq_false, not_false_eq_true, and_true, true_and, Option.some.injEq, reduceCtorEq, forall_eq', forall_eq]
  cases hk : okF n with
  | true =>
    have ok := okF_iff.mp hk
    have k1 := k1 hk
    refine ⟨fun z => absurd z (by omega), fun _ => ⟨fun z => absurd z (by omega), fun _ => ⟨fun z => absurd z (by omega), fun _ => ⟨fun z => absurd z (by omega), fun _ => ⟨fun z => absurd z (by omega), fun _ => ⟨fun z => absurd z (by omega), fun _ => k1⟩⟩⟩⟩⟩⟩
  | false =>
    have nok : ¬ (n / 100000 % 10 ≤ n / 10000 % 10 ∧ n / 10000 % 10 ≤ 1 ∧ n / 1000 % 10 ≤ n / 100 % 10 ∧ n / 10 % 10 ≤ n % 10 ∧ n % 10 ≤ 1) := by
      rw [← okF_iff, hk]
      simp
    have k0 := k0 hk
    refine ⟨fun _ => k0, fun z1 => ⟨fun _ => k0, fun z2 => ⟨fun _ => k0, fun z3 => ⟨fun _ => k0, fun _ => ⟨fun _ => k0, fun z4 => ⟨fun _ => k0, fun z5 => absurd (by omega) nok⟩⟩⟩⟩⟩⟩
theorem r_digit0 (hS : Stat μ) (hn : n < 2 ^ 31) (k : K (some (.int (nI (n / 100000 % 10)))) μ) : AW E l d nc ns mX11_digit 0 (zargs 4 [.int (nI n), .int 0]) [] μ K := by
  refine t_X11_digit hS (t_X11_digit_4 hS (br_f (by decide) (t_X11_digit_4 hS (br_f (by decide) (t_X11_digit_4 hS (br_f (by decide) (t_X11_digit_4 hS (br_f (by decide) (t_X11_digit_4 hS (br_f (by decide) (t_X11_digit_4 hS (br_t (by decide) ?_))))))))))))
  rw [show (10 : Int32) = nI 10 from rfl]
  rw [pk_div (a := n) (by omega) (by decide) (by decide)]
  rw [pk_div (a := (n / 10)) (by omega) (by decide) (by decide)]
  rw [pk_div (a := ((n / 10) / 10)) (by omega) (by decide) (by decide)]
  rw [pk_div (a := (((n / 10) / 10) / 10)) (by omega) (by decide) (by decide)]
  rw [pk_div (a := ((((n / 10) / 10) / 10) / 10)) (by omega) (by decide) (by decide)]
  rw [pk_rem (a := (((((n / 10) / 10) / 10) / 10) / 10)) (by omega) (by decide) (by decide)]
  rw [show (((((n / 10) / 10) / 10) / 10) / 10) = n / 100000 by omega]
  exact k
theorem r_digit1 (hS : Stat μ) (hn : n < 2 ^ 31) (k : K (some (.int (nI (n / 10000 % 10)))) μ) : AW E l d nc ns mX11_digit 0 (zargs 4 [.int (nI n), .int 1]) [] μ K := by
  refine t_X11_digit hS (t_X11_digit_4 hS (br_f (by decide) (t_X11_digit_4 hS (br_f (by decide) (t_X11_digit_4 hS (br_f (by decide) (t_X11_digit_4 hS (br_f (by decide) (t_X11_digit_4 hS (br_t (by decide) ?_))))))))))
  rw [show (10 : Int32) = nI 10 from rfl]
  rw [pk_div (a := n) (by omega) (by decide) (by decide)]
  rw [pk_div (a := (n / 10)) (by omega) (by decide) (by decide)]
  rw [pk_div (a := ((n / 10) / 10)) (by omega) (by decide) (by decide)]
  rw [pk_div (a := (((n / 10) / 10) / 10)) (by omega) (by decide) (by decide)]
  rw [pk_rem (a := ((((n / 10) / 10) / 10) / 10)) (by omega) (by decide) (by decide)]
  rw [show ((((n / 10) / 10) / 10) / 10) = n / 10000 by omega]
  exact k
theorem r_digit2 (hS : Stat μ) (hn : n < 2 ^ 31) (k : K (some (.int (nI (n / 1000 % 10)))) μ) : AW E l d nc ns mX11_digit 0 (zargs 4 [.int (nI n), .int 2]) [] μ K := by
  refine t_X11_digit hS (t_X11_digit_4 hS (br_f (by decide) (t_X11_digit_4 hS (br_f (by decide) (t_X11_digit_4 hS (br_f (by decide) (t_X11_digit_4 hS (br_t (by decide) ?_))))))))
  rw [show (10 : Int32) = nI 10 from rfl]
  rw [pk_div (a := n) (by omega) (by decide) (by decide)]
  rw [pk_div (a := (n / 10)) (by omega) (by decide) (by decide)]
  rw [pk_div (a := ((n / 10) / 10)) (by omega) (by decide) (by decide)]
  rw [pk_rem (a := (((n / 10) / 10) / 10)) (by omega) (by decide) (by decide)]
  rw [show (((n / 10) / 10) / 10) = n / 1000 by omega]
  exact k
theorem r_digit3 (hS : Stat μ) (hn : n < 2 ^ 31) (k : K (some (.int (nI (n / 100 % 10)))) μ) : AW E l d nc ns mX11_digit 0 (zargs 4 [.int (nI n), .int 3]) [] μ K := by
  refine t_X11_digit hS (t_X11_digit_4 hS (br_f (by decide) (t_X11_digit_4 hS (br_f (by decide) (t_X11_digit_4 hS (br_t (by decide) ?_))))))
  rw [show (10 : Int32) = nI 10 from rfl]
  rw [pk_div (a := n) (by omega) (by decide) (by decide)]
  rw [pk_div (a := (n / 10)) (by omega) (by decide) (by decide)]
  rw [pk_rem (a := ((n / 10) / 10)) (by omega) (by decide) (by decide)]
  rw [show ((n / 10) / 10) = n / 100 by omega]
  exact k
theorem r_digit4 (hS : Stat μ) (hn : n < 2 ^ 31) (k : K (some (.int (nI (n / 10 % 10)))) μ) : AW E l d nc ns mX11_digit 0 (zargs 4 [.int (nI n), .int 4]) [] μ K := by
  refine t_X11_digit hS (t_X11_digit_4 hS (br_f (by decide) (t_X11_digit_4 hS (br_t (by decide) ?_))))
  rw [show (10 : Int32) = nI 10 from rfl]
  rw [pk_div (a := n) (by omega) (by decide) (by decide)]
  rw [pk_rem (a := (n / 10)) (by omega) (by decide) (by decide)]
  exact k
theorem r_digit5 (hS : Stat μ) (hn : n < 2 ^ 31) (k : K (some (.int (nI (n / 1 % 10)))) μ) : AW E l d nc ns mX11_digit 0 (zargs 4 [.int (nI n), .int 5]) [] μ K := by
  refine t_X11_digit hS (t_X11_digit_4 hS (br_t (by decide) ?_))
  rw [show (10 : Int32) = nI 10 from rfl]
  rw [pk_rem (a := n) (by omega) (by decide) (by decide)]
  rw [Nat.div_one] at k
  exact k
theorem r_areFacts (hS : Stat μ) (hn : n ≤ 119911) (k1 : okF n = true → K (some (.int 1)) μ) (k0 : okF n = false → K (some (.int 0)) μ) : AW E l (d + 1) nc ns mX11_areFacts 0 (zargs 1 [.int (nI n)]) [] μ K := by
  have y1 : ¬ nI n < 0 := nI_pos (by omega)
  have y2 : ¬ 119911 < nI n := by rw [show (119911 : Int32) = nI 119911 from rfl, nI_ltI (by decide) (by omega)]; omega
  have b : ∀ k, k % 10 < 2 ^ 31 := fun k => by omega
  refine t_X11_areFacts hS ?_
  simp only [y1, y2, true_implies, false_implies, implies_true, not_true_eq_false, not_false_eq_true, and_true, true_and, Option.some.injEq, reduceCtorEq, forall_eq', forall_eq]
  have hn' : n < 2 ^ 31 := by omega
  refine r_digit0 hS hn' ⟨_, rfl, hS, ?_⟩
  refine r_digit1 hS hn' ⟨_, rfl, hS, ?_⟩
  simp only [nI_ltI (b _) (b _)]
  cases hk : okF n with
  | true =>
    have ok := okF_iff.mp hk
    have k1 := k1 hk
    refine ⟨fun z => absurd z (by omega), fun _ => ?_⟩
    refine r_digit1 hS hn' ⟨_, rfl, hS, ?_⟩
    rw [nl1 (b _)]
    refine ⟨fun z => absurd z (by omega), fun _ => ?_⟩
    refine r_digit2 hS hn' ⟨_, rfl, hS, ?_⟩
    refine r_digit3 hS hn' ⟨_, rfl, hS, ?_⟩
    rw [nI_leI (b _) (b _)]
    refine ⟨fun _ => ?_, fun z => absurd (by omega) z⟩
    refine r_digit4 hS hn' ⟨_, rfl, hS, ?_⟩
    refine r_digit5 hS hn' ⟨_, rfl, hS, ?_⟩
    rw [nI_ltI (b _) (b _), Nat.div_one]
    refine ⟨fun z => absurd z (by omega), fun _ => ?_⟩
    refine r_digit5 hS hn' ⟨_, rfl, hS, ?_⟩
    rw [nl1 (b _), Nat.div_one]
    exact ⟨fun z => absurd z (by omega), fun _ => k1⟩
  | false =>
    have nok : ¬ (n / 100000 % 10 ≤ n / 10000 % 10 ∧ n / 10000 % 10 ≤ 1 ∧ n / 1000 % 10 ≤ n / 100 % 10 ∧ n / 10 % 10 ≤ n % 10 ∧ n % 10 ≤ 1) := by
      rw [← okF_iff, hk]
      simp
    have k0 := k0 hk
    refine ⟨fun _ => k0, fun z1 => ?_⟩
    refine r_digit1 hS hn' ⟨_, rfl, hS, ?_⟩
    rw [nl1 (b _)]
    refine ⟨fun _ => k0, fun z2 => ?_⟩
    refine r_digit2 hS hn' ⟨_, rfl, hS, ?_⟩
    refine r_digit3 hS hn' ⟨_, rfl, hS, ?_⟩
    rw [nI_leI (b _) (b _)]
    refine ⟨fun z3 => ?_, fun _ => k0⟩
    refine r_digit4 hS hn' ⟨_, rfl, hS, ?_⟩
    refine r_digit5 hS hn' ⟨_, rfl, hS, ?_⟩
    rw [nI_ltI (b _) (b _), Nat.div_one]
    refine ⟨fun _ => k0, fun z4 => ?_⟩
    refine r_digit5 hS hn' ⟨_, rfl, hS, ?_⟩
    rw [nl1 (b _), Nat.div_one]
    exact ⟨fun _ => k0, fun z5 => absurd (by omega) nok⟩
end Digits
