/-! lots beyond chance -/
def dyN (ρ : RV) (j : Nat) : Nat := tN (ρ 55 j) / 24
def bdN (ρ : RV) (j : Nat) : Nat := if ρ 59 j < 0 then 3000 else tN (ρ 59 j)
def cnt (p : Nat → Bool) : Nat → Nat
  | 0 => 0
  | n + 1 => cnt p n + if p n then 1 else 0
theorem cnt_sS {p : Nat → Bool} {f : Nat → Int32} : ∀ {n : Nat}, (∀ j, j < n → f j = if p j then 1 else 0) → sS f n = nI (cnt p n)
  | 0, _ => rfl
  | n + 1, h => by
    show sS f n + f n = nI (cnt p n + if p n then 1 else 0)
    rw [cnt_sS (fun j hj => h j (by omega)), h n (by omega)]
    by_cases c : p n
    · rw [if_pos c, if_pos c, nI_1]
    · rw [if_neg c, if_neg c, Int32.add_zero]
      rfl
theorem cnt_mono {p q : Nat → Bool} : ∀ {n : Nat}, (∀ j, j < n → p j = true → q j = true) → cnt p n ≤ cnt q n
  | 0, _ => Nat.le_refl _
  | n + 1, h => by
    have ih := cnt_mono (p := p) (q := q) (n := n) (fun j hj => h j (by omega))
    show cnt p n + (if p n then 1 else 0) ≤ cnt q n + if q n then 1 else 0
    by_cases c : p n = true
    · rw [if_pos c, if_pos (h n (by omega) c)]
      omega
    · rw [if_neg c]
      omega
theorem cnt_cg {p q : Nat → Bool} : ∀ {n : Nat}, (∀ j, j < n → p j = q j) → cnt p n = cnt q n
  | 0, _ => rfl
  | n + 1, h => by
    show cnt p n + (if p n then 1 else 0) = cnt q n + if q n then 1 else 0
    rw [cnt_cg (fun j hj => h j (by omega)), h n (by omega)]
theorem cnt_le {p : Nat → Bool} : ∀ n, cnt p n ≤ n
  | 0 => Nat.le_refl _
  | n + 1 => by
    have := cnt_le (p := p) n
    show cnt p n + (if p n then 1 else 0) ≤ n + 1
    split <;> omega
theorem cnt_0 {p : Nat → Bool} : ∀ {n : Nat}, (∀ j, j < n → p j = false) → cnt p n = 0
  | 0, _ => rfl
  | n + 1, h => by
    show cnt p n + (if p n then 1 else 0) = 0
    rw [cnt_0 (fun j hj => h j (by omega)), h n (by omega)]
    rfl
def pA (ρ : RV) (i k j : Nat) : Bool := decide (smo ρ j = lm ρ i ∧ dyN ρ j ≤ k)
def pB (ρ : RV) (i k j : Nat) : Bool := decide (smo ρ j = lm ρ i ∧ dyN ρ j ≤ k ∧ bdN ρ j ≤ k)
def pO (ρ : RV) (i k j : Nat) : Bool := decide (sl ρ j = i ∧ dyN ρ j ≤ k)
def pQ (ρ : RV) (i k j : Nat) : Bool := decide (sl ρ j = i ∧ dyN ρ j ≤ k ∧ bdN ρ j ≤ k)
def bqV (N B n b p : Nat) : Int32 := if 60 < N then -4 else if mS (N - B) B n b (n + 1 - b) < ncr N n / 10000 * p + (ncr N n % 10000 * p + 9999) / 10000 then 1 else 0
def beV (ρ : RV) (i p k : Nat) : Int32 := bqV (cnt (pA ρ i k) (nS ρ)) (cnt (pB ρ i k) (nS ρ)) (cnt (pO ρ i k) (nS ρ)) (cnt (pQ ρ i k) (nS ρ)) p
theorem beV_3 (ρ : RV) (i p k : Nat) : beV ρ i p k = -4 ∨ beV ρ i p k = 0 ∨ beV ρ i p k = 1 := by
  unfold beV bqV
  split
  · exact Or.inl rfl
  · split
    · exact Or.inr (Or.inr rfl)
    · exact Or.inr (Or.inl rfl)
/-- no event between two days -/
theorem beV_cg {ρ : RV} {i p k k' : Nat} (h : ∀ j, j < nS ρ → smo ρ j = lm ρ i → ((dyN ρ j ≤ k ↔ dyN ρ j ≤ k') ∧ (bdN ρ j ≤ k ↔ bdN ρ j ≤ k'))) : beV ρ i p k = beV ρ i p k' := by
  have e1 : cnt (pA ρ i k) (nS ρ) = cnt (pA ρ i k') (nS ρ) := cnt_cg fun j hj => by
    unfold pA
    by_cases c : smo ρ j = lm ρ i
    · simp only [c, true_and, (h j hj c).1]
    · simp only [c, false_and]
  have e2 : cnt (pB ρ i k) (nS ρ) = cnt (pB ρ i k') (nS ρ) := cnt_cg fun j hj => by
    unfold pB
    by_cases c : smo ρ j = lm ρ i
    · simp only [c, true_and, (h j hj c).1, (h j hj c).2]
    · simp only [c, false_and]
  have sm : ∀ j, sl ρ j = i → smo ρ j = lm ρ i := fun j z => by unfold smo; rw [z]
  have e3 : cnt (pO ρ i k) (nS ρ) = cnt (pO ρ i k') (nS ρ) := cnt_cg fun j hj => by
    unfold pO
    by_cases c : sl ρ j = i
    · simp only [c, true_and, (h j hj (sm j c)).1]
    · simp only [c, false_and]
  have e4 : cnt (pQ ρ i k) (nS ρ) = cnt (pQ ρ i k') (nS ρ) := cnt_cg fun j hj => by
    unfold pQ
    by_cases c : sl ρ j = i
    · simp only [c, true_and, (h j hj (sm j c)).1, (h j hj (sm j c)).2]
    · simp only [c, false_and]
  unfold beV
  rw [e1, e2, e3, e4]
theorem beV_0 {ρ : RV} {i p k : Nat} (hp : 1 ≤ p ∧ p ≤ 9999) (h : ∀ j, j < nS ρ → smo ρ j = lm ρ i → k < dyN ρ j) : beV ρ i p k = 0 := by
  have sm : ∀ j, sl ρ j = i → smo ρ j = lm ρ i := fun j z => by unfold smo; rw [z]
  have e1 : cnt (pA ρ i k) (nS ρ) = 0 := cnt_0 fun j hj => by
    unfold pA
    exact decide_eq_false (fun z => by have := h j hj z.1; omega)
  have e2 : cnt (pB ρ i k) (nS ρ) = 0 := cnt_0 fun j hj => by
    unfold pB
    exact decide_eq_false (fun z => by have := h j hj z.1; omega)
  have e3 : cnt (pO ρ i k) (nS ρ) = 0 := cnt_0 fun j hj => by
    unfold pO
    exact decide_eq_false (fun z => by have := h j hj (sm j z.1); omega)
  have e4 : cnt (pQ ρ i k) (nS ρ) = 0 := cnt_0 fun j hj => by
    unfold pQ
    exact decide_eq_false (fun z => by have := h j hj (sm j z.1); omega)
  unfold beV bqV
  rw [e1, e2, e3, e4, if_neg (by decide), if_neg]
  have a : mS (0 - 0) 0 0 0 (0 + 1 - 0) = 1 := rfl
  have b : ncr 0 0 = 1 := rfl
  rw [a, b]
  omega
theorem cnt_all {g : Gh} {t : Nat} {ρ : RV} (hr : RIg g t ρ) {i k : Nat} : cnt (pB ρ i k) (nS ρ) ≤ cnt (pA ρ i k) (nS ρ) ∧ cnt (pO ρ i k) (nS ρ) ≤ cnt (pA ρ i k) (nS ρ) ∧ cnt (pQ ρ i k) (nS ρ) ≤ cnt (pO ρ i k) (nS ρ) ∧ cnt (pA ρ i k) (nS ρ) ≤ 300 := by
  have sm : ∀ j, sl ρ j = i → smo ρ j = lm ρ i := fun j z => by unfold smo; rw [z]
  have b300 := hr.s.2.2.1.2
  refine ⟨cnt_mono fun j _ z => ?_, cnt_mono fun j _ z => ?_, cnt_mono fun j _ z => ?_, Nat.le_trans (cnt_le _) b300⟩
  · unfold pB at z
    unfold pA
    have z := of_decide_eq_true z
    exact decide_eq_true ⟨z.1, z.2.1⟩
  · unfold pO at z
    unfold pA
    have z := of_decide_eq_true z
    exact decide_eq_true ⟨sm j z.1, z.2⟩
  · unfold pQ at z
    unfold pO
    have z := of_decide_eq_true z
    exact decide_eq_true ⟨z.1, z.2.1⟩
section DayF
variable {g : Gh} {t : Nat} {ρ : RV} {j k i : Nat}
theorem dy_eq (hr : RIg g t ρ) (hj : j < nS ρ) : ρ 55 j / 24 = nI (dyN ρ j) ∧ dyN ρ j ≤ 2999 := by
  obtain ⟨d1, d2, d3, d4, d5, d6, d7, d8, d9, d10, d11, d12, d13, d14, d15, d16, d17, d18, d19⟩ := hr.sa hj
  have b8 := hr.s.2.2.2.2.2.2.2
  obtain ⟨v1, v2⟩ := dv24 d7
  have w1 := (nn_of d7.1).2.1
  have := d7.2
  have := b8.2
  refine ⟨v1, ?_⟩
  unfold dyN
  omega
theorem bd_eq (hr : RIg g t ρ) (hj : j < nS ρ) : dyF (ρ 59 j) = nI (bdN ρ j) ∧ bdN ρ j ≤ 3000 ∧ (k ≤ 2999 → ((¬ ρ 59 j < 0 ∧ ¬ nI k < ρ 59 j) ↔ bdN ρ j ≤ k)) := by
  obtain ⟨d1, d2, d3, d4, d5, d6, d7, d8, d9, d10, d11, d12, d13, d14, d15, d16, d17, d18, d19⟩ := hr.sa hj
  unfold bdN
  rcases d15 with z | ⟨z1, -, -⟩
  · rw [z, if_pos (show (-1 : Int32) < 0 by decide)]
    refine ⟨by decide, Nat.le_refl _, fun hk => ⟨fun y => absurd (by decide) y.1, fun y => by omega⟩⟩
  · obtain ⟨x1, x2, x3⟩ := rng_of z1 (by decide)
    obtain ⟨q, hq⟩ : ∃ q, q = tN (ρ 59 j) := ⟨_, rfl⟩
    rw [← hq] at x1 x2 ⊢
    have n0 : ¬ nI q < 0 := nI_pos (by omega)
    rw [x1, if_neg n0]
    refine ⟨?_, by omega, fun hk => ?_⟩
    · unfold dyF
      rw [if_neg]
      rw [i_eq, nI_toInt (by omega), show (-1 : Int32).toInt = -1 from by decide]
      omega
    · rw [nI_ltI (by omega) (by omega)]
      exact ⟨fun y => by omega, fun y => ⟨n0, by omega⟩⟩
theorem fLo_0 (hr : RIg g t ρ) (hj : j < nS ρ) (hi : i < 60) (hk : k ≤ 2999) : fLo ρ (nI i) 0 (nI k) j = if pO ρ i k j then 1 else 0 := by
  obtain ⟨d1, d2, -⟩ := hr.sa hj
  obtain ⟨u1, u2⟩ := dy_eq hr hj
  have b60 := hr.s.2.1.2
  unfold fLo pO
  have e : (ρ 49 j = nI i) = (sl ρ j = i) := by rw [d1, nI_eq (by omega) (by omega)]
  have e2 : (¬ nI k < ρ 55 j / 24) = (dyN ρ j ≤ k) := by rw [u1, nI_ltI (by omega) (by omega)]; simp
  simp only [e, e2, true_or, and_true, decide_eq_true_eq]
theorem fLo_1 (hr : RIg g t ρ) (hj : j < nS ρ) (hi : i < 60) (hk : k ≤ 2999) : fLo ρ (nI i) 1 (nI k) j = if pQ ρ i k j then 1 else 0 := by
  obtain ⟨d1, d2, -⟩ := hr.sa hj
  obtain ⟨u1, u2⟩ := dy_eq hr hj
  have b60 := hr.s.2.1.2
  unfold fLo pQ
  have e : (ρ 49 j = nI i) = (sl ρ j = i) := by rw [d1, nI_eq (by omega) (by omega)]
  have e2 : (¬ nI k < ρ 55 j / 24) = (dyN ρ j ≤ k) := by rw [u1, nI_ltI (by omega) (by omega)]; simp
  have e3 : (¬ ρ 59 j < 0 ∧ ¬ nI k < ρ 59 j) = (bdN ρ j ≤ k) := propext ((bd_eq hr hj).2.2 hk)
  have n10 : ¬ (1 : Int32) = 0 := by decide
  simp only [e, e2, e3, n10, false_or, decide_eq_true_eq]
end DayF
def fSb (ρ : RV) (x1 x2 x3 : Int32) (i : Nat) : Int32 := if ρ 45 (ρ 49 i).toNatClampNeg = x1 ∧ ¬ x2 < ρ 55 i / 24 ∧ (x3 = 0 ∨ (¬ ρ 59 i < 0 ∧ ¬ x2 < ρ 59 i)) then 1 else 0
section BeyR
variable {E : ZE} {l : Launch} {d nc ns : Nat} {g : Gh} {L : Nat} {X : Nat → Int32} {t : Nat} {μ : ZM} {ρ : RV} {K : Option Value → ZM → Prop} {x1 x2 x3 x4 : Int32} {i j k p : Nat}
theorem fSb_0 (hr : RIg g t ρ) (hj : j < nS ρ) (hi : i < nL ρ) (hk : k ≤ 2999) : fSb ρ (ρ 45 i) (nI k) 0 j = if pA ρ i k j then 1 else 0 := by
  obtain ⟨d1, d2, -⟩ := hr.sa hj
  obtain ⟨u1, u2⟩ := dy_eq hr hj
  have b20 := hr.s.1.2
  have l1 := hr.l hi
  have l2 := hr.l d2
  have e : (ρ 45 (ρ 49 j).toNatClampNeg = ρ 45 i) = (smo ρ j = lm ρ i) := by
    have a : ρ 45 (ρ 49 j).toNatClampNeg = nI (smo ρ j) := l2.1
    have b1 : smo ρ j < nM ρ := l2.2.1
    have b2 := l1.2.1
    rw [a, l1.1, nI_eq (by omega) (by omega)]
  unfold fSb pA
  have e2 : (¬ nI k < ρ 55 j / 24) = (dyN ρ j ≤ k) := by rw [u1, nI_ltI (by omega) (by omega)]; simp
  simp only [e, e2, true_or, and_true, decide_eq_true_eq]
theorem fSb_1 (hr : RIg g t ρ) (hj : j < nS ρ) (hi : i < nL ρ) (hk : k ≤ 2999) : fSb ρ (ρ 45 i) (nI k) 1 j = if pB ρ i k j then 1 else 0 := by
  obtain ⟨d1, d2, -⟩ := hr.sa hj
  obtain ⟨u1, u2⟩ := dy_eq hr hj
  have b20 := hr.s.1.2
  have l1 := hr.l hi
  have l2 := hr.l d2
  have e : (ρ 45 (ρ 49 j).toNatClampNeg = ρ 45 i) = (smo ρ j = lm ρ i) := by
    have a : ρ 45 (ρ 49 j).toNatClampNeg = nI (smo ρ j) := l2.1
    have b1 : smo ρ j < nM ρ := l2.2.1
    have b2 := l1.2.1
    rw [a, l1.1, nI_eq (by omega) (by omega)]
  unfold fSb pB
  have e2 : (¬ nI k < ρ 55 j / 24) = (dyN ρ j ≤ k) := by rw [u1, nI_ltI (by omega) (by omega)]; simp
  have e3 : (¬ ρ 59 j < 0 ∧ ¬ nI k < ρ 59 j) = (bdN ρ j ≤ k) := propext ((bd_eq hr hj).2.2 hk)
  have n10 : ¬ (1 : Int32) = 0 := by decide
  simp only [e, e2, e3, n10, false_or, decide_eq_true_eq]
theorem r_soldBy (hS : Stat μ) (hr : RIg g t ρ) (hρ : rf μ = ρ) (k : K (some (.int (sS (fSb ρ x1 x2 x3) (nS ρ)))) μ) : AW E l (d + 1) nc ns mX11_soldBy 0 (zargs 6 [.ref 31, .int x1, .int x2, .int x3]) [] μ K := by
  have R : ∀ a j, 31 ≤ a → a < 88 → zI μ a j = ρ a j := fun a j h1 h2 => rfz hρ h1 h2
  obtain ⟨b1, b2, b3, b4, b5, b6, b7, b8⟩ := hr.s
  have b300 := b3.2
  have lE : ρ 31 22 ≤ nI (nS ρ) := by rw [← b3.1]; exact Int32.le_refl _
  refine t_X11_soldBy hS ?_
  refine lpd (P := fun j => AW E l (d + 1) nc ns mX11_soldBy 6 [some (.ref 31), some (.int x1), some (.int x2), some (.int x3), some (.int (sS (fSb ρ x1 x2 x3) j)), some (.int (nI j))] [] μ K) (n := nS ρ) ?_ ?_
  · refine t_X11_soldBy_6 hS ?_
    simp (disch := omega) only [R, lE, true_implies, false_implies, implies_true, not_true_eq_false, not_false_eq_true, and_true, true_and, Option.some.injEq, reduceCtorEq, forall_eq', forall_eq]
    exact k
  · intro j hj ih
    have l1 : ¬ ρ 31 22 ≤ nI j := by rw [b3.1]; exact nI_ge hj (by omega)
    have l3 : vp_in (nI j) 300 := vp_in_nI (by omega) (by decide)
    have l4 : (nI j).toNatClampNeg = j := nI_clamp (by omega)
    obtain ⟨d1, d2, d3, d4, d5, d6, d7, d8, d9, d10, d11, d12, d13, d14, d15, d16, d17, d18, d19⟩ := hr.sa hj
    refine t_X11_soldBy_6 hS ?_
    simp only [sS, fSb, ← nI_1] at ih
    simp (disch := omega) only [R, l1, l3, l4, v_sl hr hj, true_implies, false_implies, implies_true, not_true_eq_false, not_false_eq_true, and_true, true_and, Option.some.injEq, reduceCtorEq, forall_eq', forall_eq]
    by_cases q1 : ρ 45 (ρ 49 j).toNatClampNeg = x1 <;> by_cases q2 : x3 = 0 <;> by_cases q3 : x2 < ρ 55 j / 24 <;> by_cases q4 : ρ 59 j < 0 <;> by_cases q5 : x2 < ρ 59 j
    all_goals
      simp (disch := omega) only [q1, q2, q3, q4, q5, if_true, if_false, true_or, or_true, false_or, or_false, and_false, false_and, and_self, or_self, Int32.add_zero, true_implies, false_implies, implies_true, not_true_eq_false, not_false_eq_true, and_true, true_and, Option.some.injEq, reduceCtorEq, forall_eq', forall_eq] at ih ⊢
      exact ih
theorem r_isB (hS : Stat μ) (hr : RIg g t ρ) (hρ : rf μ = ρ) (hw : CRw μ) (hi : i < nL ρ) (hp : 1 ≤ p ∧ p ≤ 9999) (hk : k ≤ 2999) (h : ∀ M', Stat M' → EqJ μ M' → CRw M' → K (some (.int (beV ρ i p k))) M') : AW E l (d + 3) nc ns mX11_isBeyond 0 (zargs 14 [.ref 31, .int (nI i), .int (nI p), .int (nI k)]) [] μ K := by
  have R : ∀ a j, 31 ≤ a → a < 88 → zI μ a j = ρ a j := fun a j h1 h2 => rfz hρ h1 h2
  obtain ⟨b1, b2, b3, b4, b5, b6, b7, b8⟩ := hr.s
  have b60 := b2.2
  have v60 : vp_in (nI i) 60 := vp_in_nI (by omega) (by decide)
  have c60 : (nI i).toNatClampNeg = i := nI_clamp (by omega)
  have h1 : ¬ nI i < 0 := nI_pos (by omega)
  have h2 := ix_lt (by omega) hi
  rw [← b2.1] at h2
  have y1 : ¬ nI k < 0 := nI_pos (by omega)
  have y2 : ¬ (2999 : Int32) < nI k := by rw [show (2999 : Int32) = nI 2999 from rfl, nI_ltI (by decide) (by omega)]; omega
  obtain ⟨q1, q2, q3, q4⟩ := cnt_all (i := i) (k := k) hr
  refine t_X11_isBeyond hS ⟨v60, ?_⟩
  rw [c60, R 45 i (by decide) (by decide)]
  refine r_soldBy hS hr hρ ⟨_, rfl, hS, ?_⟩
  rw [cnt_sS (fun j hj => fSb_0 hr hj hi hk)]
  unfold beV bqV at h
  obtain ⟨N, eN⟩ : ∃ N, N = cnt (pA ρ i k) (nS ρ) := ⟨_, rfl⟩
  obtain ⟨B, eB⟩ : ∃ N, N = cnt (pB ρ i k) (nS ρ) := ⟨_, rfl⟩
  obtain ⟨n, en⟩ : ∃ N, N = cnt (pO ρ i k) (nS ρ) := ⟨_, rfl⟩
  obtain ⟨b, eb⟩ : ∃ N, N = cnt (pQ ρ i k) (nS ρ) := ⟨_, rfl⟩
  rw [← eN, ← eB, ← en, ← eb] at h
  rw [← eN, ← eB] at q1
  rw [← en, ← eN] at q2
  rw [← eb, ← en] at q3
  rw [← eN] at q4 ⊢
  rw [show (60 : Int32) = nI 60 from rfl, nI_leI (by omega) (by decide)]
  refine ⟨fun z => ⟨v60, ?_⟩, fun z => ?_⟩
  · rw [R 45 i (by decide) (by decide)]
    refine r_soldBy hS hr hρ ⟨_, rfl, hS, ?_⟩
    rw [cnt_sS (fun j hj => fSb_1 hr hj hi hk), ← eB]
    have n1 : ¬ (1 : Int32) < 0 := by decide
    have n2 : ¬ (1 : Int32) < 1 := by decide
    have n3 : ¬ (0 : Int32) < 0 := by decide
    have n4 : ¬ (1 : Int32) < 0 := by decide
    refine t_X11_ofLot hS ?_
    simp (disch := omega) only [R, h1, h2, n1, n2, n3, n4, y1, y2, true_implies, false_implies, implies_true, not_true_eq_false, not_false_eq_true, and_true, true_and, Option.some.injEq, reduceCtorEq, forall_eq', forall_eq]
    refine r_ofLot hS hr hρ ⟨_, rfl, hS, ?_⟩
    rw [cnt_sS (fun j hj => fLo_0 hr hj (by omega) hk), ← en]
    refine t_X11_ofLot hS ?_
    simp (disch := omega) only [R, h1, h2, n1, n2, n3, n4, y1, y2, true_implies, false_implies, implies_true, not_true_eq_false, not_false_eq_true, and_true, true_and, Option.some.injEq, reduceCtorEq, forall_eq', forall_eq]
    refine r_ofLot hS hr hρ ⟨_, rfl, hS, ?_⟩
    rw [cnt_sS (fun j hj => fLo_1 hr hj (by omega) hk), ← eb]
    have eNB : N = (N - B) + B := by omega
    rw [eNB]
    refine r_isB63 (A := N - B) (B := B) (by omega) (by omega) hp (n + 1 - b) b 0 μ hS hw (by omega) ?_ (fun M' hS' hx' hw' => ?_)
    · have := mS_b (A := N - B) (B := B) (n := n) (i := b) (c := n + 1 - b) (by omega)
      omega
    · have h := h M' hS' hx' hw'
      rw [if_neg (by omega)] at h
      rw [Nat.zero_add, ← eNB]
      exact h
  · have h := h μ hS EqX.rfl hw
    rw [if_pos (by omega)] at h
    exact h
end BeyR
