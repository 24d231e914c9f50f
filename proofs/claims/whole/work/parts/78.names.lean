/-! what the names say -/
def tiF (ρ : RV) (s : Nat) (day : Int32) : Int32 := if ρ 53 s = 60 then 0 else sS (fTi ρ s day) (nS ρ)
def moF (ρ : RV) (s : Nat) : Int32 := ρ 55 s / 24 / 30 - ρ 55 s / 24 / 30 / 12 * 12
def nmF (ρ : RV) (s : Nat) (pf day d f w o : Int32) (k : Nat) : Int32 := [d, f, w, o, pf, ρ 57 s, ρ 32 (smo ρ s), ρ 56 s, ρ 50 s, moF ρ s, thF ρ s, tiF ρ s day].getD k 0
theorem stp_cg {N N' : Nat → Int32} {many : Nat} (h : ∀ k, k < many → N k = N' k) {i : Itm} (ok : okI many i) (st : List Int32) : stp N i st = stp N' i st := by
  unfold stp
  by_cases c1 : i.1 = 1
  · have c0 : ¬ i.1 = 0 := by omega
    rw [if_neg c0, if_neg c0, if_pos c1, if_pos c1, h _ (by unfold okI at ok; omega)]
  · simp only [c1, if_false]
theorem exI_cg {N N' : Nat → Int32} {many : Nat} (h : ∀ k, k < many → N k = N' k) : ∀ {es : List Itm} {n : Nat} {st : List Int32}, wfE many n es → exI N es st = exI N' es st
  | [], _, _, _ => rfl
  | i :: r, n, st, hw => by
    unfold exI
    rw [stp_cg h hw.1]
    rcases hw.2 with ⟨e, h2⟩ | ⟨e, h2⟩ | ⟨e, h3, h2⟩ | ⟨e, h3, h2⟩ <;> exact exI_cg h h2
theorem evT_cg {N N' : Nat → Int32} (h : ∀ k, k < 12 → N k = N' k) : ∀ {R : List Rul}, (∀ r ∈ R, okR r) → evT N R = evT N' R
  | [], _ => rfl
  | r :: R, hok => by
    unfold evT
    have ok := hok r (by simp)
    have e1 : exI N r.1 [] = exI N' r.1 [] := by
      rcases ok.1 with z | z
      · rw [z]; rfl
      · exact exI_cg h z
    have e2 : exI N r.2.2 [] = exI N' r.2.2 [] := by
      rcases ok.2.2 with z | z
      · rw [z.2]; rfl
      · exact exI_cg h z.2
    rw [e1, e2, evT_cg h (fun r hr => hok r (by simp [hr]))]
/-- the reference's cells but for the facts and the pile -/
def RE (ρ ρ1 : RV) : Prop := ∀ b j, b ≠ 72 → b ≠ 73 → (b = 31 → j < 76) → ρ1 b j = ρ b j
theorem RE.n {ρ ρ1 : RV} (h : RE ρ ρ1) (b : Nat) (h1 : b ≠ 72) (h2 : b ≠ 73) (h3 : b ≠ 31) (j : Nat) : ρ1 b j = ρ b j := h b j h1 h2 (fun z => absurd z h3)
section CgN
variable {ρ ρ1 : RV} (h : RE ρ ρ1)
theorem thF_cg {ρ ρ1 : RV} (h : RE ρ ρ1) (s : Nat) : thF ρ1 s = thF ρ s := by
  have e : fTh ρ1 s = fTh ρ s := by
    funext i
    unfold fTh
    simp only [h.n 54 (by decide) (by decide) (by decide), h.n 45 (by decide) (by decide) (by decide), h.n 49 (by decide) (by decide) (by decide)]
  unfold thF nS
  rw [e, h.n 54 (by decide) (by decide) (by decide), h 31 _ (by decide) (by decide) (by omega)]
theorem tiF_cg {ρ ρ1 : RV} (h : RE ρ ρ1) (s : Nat) (day : Int32) : tiF ρ1 s day = tiF ρ s day := by
  have e : fTi ρ1 s day = fTi ρ s day := by
    funext i
    unfold fTi
    simp only [h.n 53 (by decide) (by decide) (by decide), h.n 58 (by decide) (by decide) (by decide)]
  unfold tiF nS
  rw [e, h.n 53 (by decide) (by decide) (by decide), h 31 _ (by decide) (by decide) (by omega)]
theorem foT_cg {ρ ρ1 : RV} (h : RE ρ ρ1) (x1 : Int32) (s : Nat) (x3 : Int32) (n : Nat) : foT ρ1 x1 s x3 n = foT ρ x1 s x3 n := by
  unfold foT
  simp only [h.n 66 (by decide) (by decide) (by decide), h.n 67 (by decide) (by decide) (by decide), h.n 55 (by decide) (by decide) (by decide), h.n 68 (by decide) (by decide) (by decide)]
theorem nT_cg {ρ ρ1 : RV} (h : RE ρ ρ1) : nT ρ1 = nT ρ := by unfold nT; rw [h 31 _ (by decide) (by decide) (by omega)]
theorem nS_cg {ρ ρ1 : RV} (h : RE ρ ρ1) : nS ρ1 = nS ρ := by unfold nS; rw [h 31 _ (by decide) (by decide) (by omega)]
end CgN
theorem fTi_eq {g : Gh} {t : Nat} {ρ : RV} (hr : RIg g t ρ) {s n : Nat} (hn : n ≤ 2999) {i : Nat} (hi : i < nS ρ) : fBb ρ (ρ 53 s) (nI n - 359) (nI n) i = fTi ρ s (nI n) i := by
  obtain ⟨d1, d2, d3, d4, d5, d6, d7, d8, d9, d10, d11, d12, d13, d14, d15, d16, d17, d18, d19⟩ := hr.sa hi
  unfold fBb fTi
  have e0 : (0 : Int32).toInt = 0 := by decide
  have c : (¬ dyF (ρ 58 i) < nI n - 359 ∧ ¬ nI n < dyF (ρ 58 i)) ↔ (¬ ρ 58 i < 0 ∧ ¬ nI n - ρ 58 i < 0 ∧ ¬ 359 < nI n - ρ 58 i) := by
    rcases d12 with z | ⟨z, -⟩
    · rw [z]
      have n1 : nI n < dyF (-1) := by
        rw [show dyF (-1) = nI 3000 from by decide, nI_ltI (by omega) (by decide)]
        omega
      have n2 : (-1 : Int32) < 0 := by decide
      constructor
      · exact fun y => absurd n1 y.2
      · exact fun y => absurd n2 y.1
    · obtain ⟨x1, x2, x3⟩ := rng_of z (by decide)
      obtain ⟨b, hb⟩ : ∃ b, b = tN (ρ 58 i) := ⟨_, rfl⟩
      rw [← hb] at x1 x2 x3
      have ed : dyF (nI b) = nI b := by
        unfold dyF
        rw [if_neg]
        rw [i_eq, nI_toInt (by omega), show (-1 : Int32).toInt = -1 from by decide]
        omega
      rw [x1, ed, i_lt, i_lt, i_lt, i_lt, i_lt, show (359 : Int32) = nI 359 from rfl, pk_sub_toInt (by omega) (by omega), pk_sub_toInt (by omega) (by omega), nI_toInt (by omega), nI_toInt (by omega), nI_toInt (by omega), e0]
      omega
  by_cases cb : ρ 53 i = ρ 53 s
  · simp only [cb, true_and, c]
  · simp only [cb, false_and, if_false]
section NamesC
variable {E : ZE} {l : Launch} {d nc ns : Nat} {g : Gh} {L : Nat} {X : Nat → Int32} {t : Nat} {μ : ZM} {ρ : RV} {K : Option Value → ZM → Prop} {s n : Nat}
theorem c_times (hS : Stat μ) (hr : RIg g t ρ) (hc : CRg g μ ρ) (hs : s < nS ρ) (hn : n ≤ 2999) (k : K (some (.int (tiF ρ s (nI n)))) μ) : AW E l (d + 2) nc ns mX10_timesOf 0 (zargs 3 [.ref 11, .ref (saF μ s), .int (nI n)]) [] μ K := by
  obtain ⟨c1, c2, c3, c4, c5, c6, c7, c8, c9, c10, c11, c12, c13, c14, c15, c16, c17, c18, c19, c20, c21, c22, c23⟩ := hc.sa hs
  obtain ⟨d1, d2, d3, d4, d5, d6, d7, d8, d9, d10, d11, d12, d13, d14, d15, d16, d17, d18, d19⟩ := hr.sa hs
  obtain ⟨x1, x2, x3⟩ := rng_of d6 (by decide)
  have y1 : ¬ ρ 53 s < 0 := by rw [x1]; exact nI_pos (by omega)
  unfold tiF at k
  refine t_X10_timesOf hS ?_
  by_cases c60 : ρ 53 s = 60
  · have y2 : (59 : Int32) < 60 := by decide
    have y3 : ¬ (60 : Int32) < 0 := by decide
    rw [if_pos c60] at k
    simp (disch := omega) only [c4, c12, c60, y2, y3, true_implies, false_implies, implies_true, not_true_eq_false, not_false_eq_true, and_true, true_and, Option.some.injEq, reduceCtorEq, forall_eq', forall_eq]
    exact k
  · have y2 : ¬ (59 : Int32) < ρ 53 s := by
      rw [x1, show (59 : Int32) = nI 59 from rfl, nI_ltI (by decide) (by omega)]
      rw [x1, show (60 : Int32) = nI 60 from rfl, nI_eq (by omega) (by decide)] at c60
      omega
    rw [if_neg c60] at k
    simp (disch := omega) only [c4, c12, y1, y2, true_implies, false_implies, implies_true, not_true_eq_false, not_false_eq_true, and_true, true_and, Option.some.injEq, reduceCtorEq, forall_eq', forall_eq]
    refine t_X10_backOfBuyer hS (c_backOf6 hS hr hc ⟨_, rfl, hS, ?_⟩)
    rw [sS_cg (fun j hj => fTi_eq hr hn hj)]
    exact k
theorem r_times (hS : Stat μ) (hr : RIg g t ρ) (hρ : rf μ = ρ) (hs : s < nS ρ) {day : Int32} (k : K (some (.int (tiF ρ s day))) μ) : AW E l (d + 1) nc ns mX11_times 0 (zargs 5 [.ref 31, .int (nI s), .int day]) [] μ K := by
  have R : ∀ a j, 31 ≤ a → a < 88 → zI μ a j = ρ a j := fun a j h1 h2 => rfz hρ h1 h2
  have b300 := hr.s.2.2.1.2
  have w1 : vp_in (nI s) 300 := vp_in_nI (by omega) (by decide)
  have w2 : (nI s).toNatClampNeg = s := nI_clamp (by omega)
  unfold tiF at k
  refine t_X11_times hS ?_
  simp (disch := omega) only [R, w1, w2, true_implies, false_implies, implies_true, not_true_eq_false, not_false_eq_true, and_true, true_and, Option.some.injEq, reduceCtorEq, forall_eq', forall_eq]
  by_cases c : ρ 53 s = 60
  · simp (disch := omega) only [c, if_true, if_false, true_or, or_true, false_or, or_false, and_false, false_and, and_self, or_self, Int32.add_zero, true_implies, false_implies, implies_true, not_true_eq_false, not_false_eq_true, and_true, true_and, Option.some.injEq, reduceCtorEq, forall_eq', forall_eq] at k ⊢
    exact k
  · simp (disch := omega) only [c, if_true, if_false, true_or, or_true, false_or, or_false, and_false, false_and, and_self, or_self, Int32.add_zero, true_implies, false_implies, implies_true, not_true_eq_false, not_false_eq_true, and_true, true_and, Option.some.injEq, reduceCtorEq, forall_eq', forall_eq] at k ⊢
    exact r_times18 hS hr hρ hs k
/-- scratch of the desk -/
theorem IV.csc {M : ZM} (hI : IV g L X t μ) (hρ : rf μ = ρ) (hx : EqX μ M (fun b _ => 22 ≤ b ∧ b ≤ 29) (fun _ _ => False)) (hj : ∀ j, zJ M 86 j = zJ μ 86 j) (hS' : Stat M) : IV g L X t M ∧ rf M = ρ := by
  refine ⟨hI.scr hρ (EqX.mono hx (fun b j h => Or.inr (Or.inr (Or.inl h))) (fun _ _ h => h)) hS' (hI.w.cg hj) (Nat.le_refl _), ?_⟩
  rw [← hρ]
  exact rf_x hI.st hx (fun b j h => by omega)
theorem c_tellSale {pf : Int32} (hI : IV g L X t μ) (hρ : rf μ = ρ) (hs : s < nS ρ) (hn : n ≤ 2999) (k : ∀ M, Stat M → EqX μ M (fun b j => b = 27 ∧ 4 ≤ j ∧ j < 12) (fun _ _ => False) → (∀ j, zJ M 86 j = zJ μ 86 j) → (∀ (d f w o : Int32) k, 4 ≤ k → k < 12 → zI M 27 k = nmF ρ s pf (nI n) d f w o k) → K none M) : AW E l (d + 3) nc ns mX10_tellSale 0 (zargs 4 [.ref 11, .ref (saF μ s), .int pf, .int (nI n)]) [] μ K := by
  have hS := hI.st
  have hr := hI.r hρ
  have hc := hI.c hρ
  obtain ⟨c1, c2, c3, c4, c5, c6, c7, c8, c9, c10, c11, c12, c13, c14, c15, c16, c17, c18, c19, c20, c21, c22, c23⟩ := hc.sa hs
  have lr := hr.l (hr.sa hs).2.1
  obtain ⟨m1, m2, m3, m4, m5, m6, m7, m8, m9, m10, m11, m12⟩ := hc.m lr.2.1
  have m6 : zI μ (maF μ (smo ρ s)) 1 = ρ 32 (smo ρ s) := m6
  have mk : zK μ (maF μ (smo ρ s)) = 4 := m4.1
  have m2 : 88 ≤ maF μ (smo ρ s) := m2
  refine t_X10_tellSale hS ?_
  simp (disch := omega) only [zK_sI, zA_sI, zI_ne, zI_nk, c4, c6, mk, m6, c15, c14, c9, c13, true_implies, false_implies, implies_true, not_true_eq_false, not_false_eq_true, and_true, true_and, Option.some.injEq, reduceCtorEq, forall_eq', forall_eq]
  refine nmI (P := fun M => AW E l (d + 2) 0 0 mX10_threesOf 0 (zargs 4 [.ref 11, .ref (saF μ s)]) [] M _) fun M1 e1 => ?_
  have hS1 : Stat M1 := by
    rw [e1]
    repeat' (with_reducible first | exact hS | exact hA | refine Stat.wI ?_ | refine Stat.wNew ?_ | refine Stat.wAr ?_ (by decide) | refine Stat.wAhi ?_ ?_)
  have x1 : EqX μ M1 (fun b j => b = 27 ∧ 4 ≤ j ∧ j < 12) (fun _ _ => False) := by
    rw [e1]
    repeat' (with_reducible first | exact EqX.rfl | refine EqX.wi ?_ (Or.inl ⟨rfl, by decide, by decide⟩))
  have j1 : ∀ j, zJ M1 86 j = zJ μ 86 j := fun j => by rw [e1]; simp only [zJ_sI]
  obtain ⟨I1, r1⟩ := hI.csc hρ (x1.mono (fun b j h => by omega) (fun _ _ h => h)) j1 hS1
  have q1 : saF μ s = saF M1 s := by rw [e1]; rfl
  rw [q1]
  refine c_threes hS1 (I1.r r1) (I1.c r1) hs ⟨_, rfl, hS1, ?_⟩
  have x2 := x1.wi (a := 27) (k := 10) (x := thF ρ s) (Or.inl ⟨rfl, by decide, by decide⟩)
  obtain ⟨I2, r2⟩ := hI.csc (M := sI M1 27 10 (thF ρ s)) hρ (x2.mono (fun b j h => by omega) (fun _ _ h => h)) j1 hS1.wI
  have q2 : saF M1 s = saF (sI M1 27 10 (thF ρ s)) s := rfl
  rw [q2]
  refine c_times hS1.wI (I2.r r2) (I2.c r2) hs hn ⟨_, rfl, hS1.wI, ?_⟩
  refine k _ hS1.wI.wI (x2.wi (Or.inl ⟨rfl, by decide, by decide⟩)) j1 (fun d f w o k k1 k2 => ?_)
  rw [e1]
  have hk : k = 4 ∨ k = 5 ∨ k = 6 ∨ k = 7 ∨ k = 8 ∨ k = 9 ∨ k = 10 ∨ k = 11 := by omega
  rcases hk with rfl | rfl | rfl | rfl | rfl | rfl | rfl | rfl
  all_goals
    simp (disch := omega) only [zI_nk, zI_eq]
    rfl
end NamesC
