section W4s
variable {μ : ZM} {ρ : RV} {Ps Pa Pl Pm : Nat → Prop} {b j i : Nat}
theorem W4.s (p : Ps i) (hi : i < nS ρ) : W4 μ ρ Ps Pa Pl Pm (saF μ i) j ∨ zN μ ≤ saF μ i := Or.inl (Or.inr (Or.inr (Or.inr (Or.inl ⟨i, p, hi, rfl⟩))))
theorem W4.m (p : Pm i) (hi : i < nM ρ) : W4 μ ρ Ps Pa Pl Pm (maF μ i) j ∨ zN μ ≤ maF μ i := Or.inl (Or.inr (Or.inr (Or.inr (Or.inr (Or.inr (Or.inr (Or.inl ⟨i, p, hi, Or.inl rfl⟩)))))))
theorem W4.p (h : 1 ≤ j) : W4 μ ρ Ps Pa Pl Pm 17 j ∨ zN μ ≤ 17 := Or.inl (Or.inr (Or.inl ⟨rfl, h⟩))
theorem W4.rp (h : j = 2 ∨ (72 ≤ j ∧ j ≤ 74)) : W4 μ ρ Ps Pa Pl Pm 31 j ∨ zN μ ≤ 31 := Or.inl (Or.inr (Or.inr (Or.inr (Or.inr (Or.inr (Or.inr (Or.inr (Or.inl ⟨rfl, h⟩))))))))
theorem W4.rm (h1 : 32 ≤ b) (h2 : b ≤ 41) (h3 : b ≠ 36) (h4 : b ≠ 37) (p : Pm j) : W4 μ ρ Ps Pa Pl Pm b j ∨ zN μ ≤ b := Or.inl (Or.inr (Or.inr (Or.inr (Or.inr (Or.inr (Or.inr (Or.inr (Or.inr (Or.inl ⟨h1, h2, h3, h4, p⟩)))))))))
theorem W4.rs (h1 : 48 ≤ b) (h2 : b ≤ 64) (h3 : b ≠ 49) (p : Ps j) : W4 μ ρ Ps Pa Pl Pm b j ∨ zN μ ≤ b := Or.inl (Or.inr (Or.inr (Or.inr (Or.inr (Or.inr (Or.inr (Or.inr (Or.inr (Or.inr (Or.inr (Or.inr (Or.inl ⟨h1, h2, h3, p⟩))))))))))))
theorem W4.u (h1 : 42 ≤ b) (h2 : b ≤ 44) : W4 μ ρ Ps Pa Pl Pm b j ∨ zN μ ≤ b := Or.inl (Or.inr (Or.inr (Or.inr (Or.inr (Or.inr (Or.inr (Or.inr (Or.inr (Or.inr (Or.inr (Or.inr (Or.inr (Or.inr (Or.inr (Or.inl ⟨h1, h2⟩)))))))))))))))
theorem W4.r14 : W4 μ ρ Ps Pa Pl Pm 31 14 ∨ zN μ ≤ 31 := Or.inl (Or.inr (Or.inr (Or.inr (Or.inr (Or.inr (Or.inr (Or.inr (Or.inr (Or.inr (Or.inr (Or.inr (Or.inr (Or.inr (Or.inr (Or.inr ⟨rfl, rfl⟩)))))))))))))))
theorem WA4.s (p : Ps i) (hi : i < nS ρ) : WA4 μ ρ Ps Pm (saF μ i) j ∨ zN μ ≤ saF μ i := Or.inl (Or.inl ⟨i, p, hi, rfl⟩)
theorem WA4.s' {c : Nat} (p : Ps i) (hi : i < nS ρ) (e : c = saF μ i) : WA4 μ ρ Ps Pm c j ∨ zN μ ≤ c := Or.inl (Or.inl ⟨i, p, hi, e⟩)
theorem WA4.m (p : Pm i) (hi : i < nM ρ) : WA4 μ ρ Ps Pm (maF μ i) j ∨ zN μ ≤ maF μ i := Or.inl (Or.inr ⟨i, p, hi, rfl⟩)
end W4s
section WornOf
variable {E : ZE} {l : Launch} {d nc ns : Nat} {g : Gh} {t : Nat} {M : ZM} {ρ : RV} {K : Option Value → ZM → Prop} {i : Nat}
theorem r_wornOf (hS : Stat M) (hr : RIg g t ρ) (hi : i < nS ρ) (st : ρ 48 i = 2) (h61 : zI M 61 i = ρ 61 i) (h79 : ∀ j, zI M 79 j = ρ 79 j) (k : K (some (.int (wrn ρ i))) M) : AW E l (d + 1) nc ns mX11_wornOf 0 (zargs 2 [.ref 31, .int (nI i)]) [] M K := by
  have b300 := hr.s.2.2.1.2
  have b200 := hr.s.2.2.2.1.2
  have w1 : vp_in (nI i) 300 := vp_in_nI (by omega) (by decide)
  have w2 : (nI i).toNatClampNeg = i := nI_clamp (by omega)
  obtain ⟨t1, t2⟩ := (hr.sa hi).2.2.2.2.2.2.2.2.2.2.2.2.2.2.2.1 st
  obtain ⟨a, ha⟩ : ∃ a, a = tN (ρ 61 i) := ⟨_, rfl⟩
  rw [← ha] at t1 t2
  have w4 : vp_in (nI a) 200 := vp_in_nI (by omega) (by decide)
  have w5 : (nI a).toNatClampNeg = a := nI_clamp (by omega)
  obtain ⟨f1, f2, f3, f4, f5, f6, f7, f8, f9, f10, f11⟩ := hr.a t2
  obtain ⟨e1, e2, e3⟩ := rng_of f7 (by decide)
  obtain ⟨n, hn⟩ : ∃ n, n = tN (ρ 79 a) := ⟨_, rfl⟩
  rw [← hn] at e1 e2
  have tn : tN (nI n) = n := nI_clamp (by omega)
  refine t_X11_wornOf hS ?_
  simp (disch := omega) only [h61, h79, w1, w2, t1, w4, w5, e1, true_implies, false_implies, implies_true, not_true_eq_false, not_false_eq_true, and_true, true_and, Option.some.injEq, reduceCtorEq, forall_eq', forall_eq]
  refine r_digit3 hS (by omega) ⟨_, rfl, hS, ?_⟩
  have g3 : wrn ρ i = nI (n / 100 % 10) := by unfold wrn; rw [← ha, e1]; unfold dg; rw [tn]
  rw [← g3]
  exact k
end WornOf
section SortU
variable {E : ZE} {l : Launch} {d : Nat} {g : Gh} {L : Nat} {X : Nat → Int32} {t : Nat} {μ : ZM} {x1 x2 x3 : Int32}
set_option maxHeartbeats 4000000 in
theorem pr_sort1N (hI : IV g L X t μ) {i : Nat} (hi : i < nS (rf μ)) (q : ¬ rf μ 60 i = 0) (hb : bst (wrI (rf μ) i) = 1) (hl : zA μ (maF μ (smo (rf μ) i)) 12 = none) : PRp E l d L X t mX10_sort mX11_sort [some (.ref 11), some (.int (nI i)), none, none] [some (.ref 31), some (.int (nI i)), none, none] μ := by
  obtain ⟨ρ, hρ⟩ : ∃ ρ, rf μ = ρ := ⟨_, rfl⟩
  have hS := hI.st
  have hr := hI.r hρ
  have hc := hI.c hρ
  have R : ∀ a j, 31 ≤ a → a < 88 → zI μ a j = ρ a j := fun a j h1 h2 => rfz hρ h1 h2
  obtain ⟨s1, s2, s3, s4, s5, s6, s7, s8, s9, s10, s11⟩ := hc.s
  obtain ⟨b1, b2, b3, b4, b5, b6, b7, b8⟩ := hr.s
  have hU : IV g L X (t + 1) μ := hI.up (Nat.le_succ t)
  refine PRp.mk fun K hK => ?_
  have hA := hS.N
  rw [hρ] at hi q hb hl
  have b300 := b3.2
  have h1 : ¬ nI i < 0 := nI_pos (by omega)
  have h2 := ix_lt (by omega) hi
  have h3 : vp_in (nI i) 300 := vp_in_nI (by omega) (by decide)
  have h4 : (nI i).toNatClampNeg = i := nI_clamp (by omega)
  rw [← b3.1] at h2
  obtain ⟨c1, c2, c3, c4, c5, c6, c7, c8, c9, c10, c11, c12, c13, c14, c15, c16, c17, c18, c19, c20, c21, c22, c23⟩ := hc.sa hi
  obtain ⟨d1, d2, d3, d4, d5, d6, d7, d8, d9, d10, d11, d12, d13, d14, d15, d16, d17, d18, d19⟩ := hr.sa hi
  have st : ρ 48 i = 2 := d14 (d10.resolve_left q)
  have lr := hr.l d2
  obtain ⟨m, hm⟩ : ∃ m, m = smo ρ i := ⟨_, rfl⟩
  have hm' : m < nM ρ := by rw [hm]; exact lr.2.1
  have e45 : ρ 45 (ρ 49 i).toNatClampNeg = nI m := by rw [hm]; exact lr.1
  have b20 := b1.2
  have v20 : vp_in (nI m) 20 := vp_in_nI (by omega) (by decide)
  have c20 : (nI m).toNatClampNeg = m := nI_clamp (by omega)
  have w3 := v_sl hr hi
  rw [← hm] at c6
  obtain ⟨m1, m2, m3, m4, m5, m6, m7, m8, m9, m10, m11, m12⟩ := hc.m hm'
  have m4' := m4
  obtain ⟨p1, p2, p3, p4, p5, p6, p7, p8, p9⟩ := m4
  obtain ⟨r1, r2, r3, r4, r5, r6⟩ := hr.m hm'
  have nAB : saF μ i ≠ maF μ m := kne c4 p1 (by decide)
  have nAB1 : maF μ m + 1 ≠ saF μ i := kne p6 c4 (by decide)
  have nAB2 : maF μ m + 2 ≠ saF μ i := kne p8 c4 (by decide)
  have neg1 : (-1 : Int32) < 0 := by decide
  have refS : ∀ (M1 : ZM) (Q : Option Value → ZM → Prop), Stat M1 → rf M1 = ρ → AW E l (d + 299) 0 0 mX11_sort 26 [some (.ref 31), some (.int (nI i)), some (.int (nI (bst (wrI ρ i)))), some (.int (-1))] [] M1 Q → AW E l (d + 299) 0 0 mX11_sort 0 [some (.ref 31), some (.int (nI i)), none, none] [] M1 Q := by
    intro M1 Q hS1 hr1 hq
    have R1 : ∀ a j, 31 ≤ a → a < 88 → zI M1 a j = ρ a j := fun a j h1 h2 => rfz hr1 h1 h2
    refine t_X11_sort hS1 ?_
    simp (disch := omega) only [h1, h2, h3, h4, R1, q, true_implies, false_implies, implies_true, not_true_eq_false, not_false_eq_true, and_true, true_and, Option.some.injEq, reduceCtorEq, forall_eq', forall_eq]
    exact r_best26 hS1 hr hr1 hi st (fun b hb => by rw [hb]; exact hq)
  refine t_X10_sort hS ?_
  simp (disch := omega) only [h1, h2, h3, h4, s3, c1, c4, c22, q, true_implies, false_implies, implies_true, not_true_eq_false, not_false_eq_true, and_true, true_and, Option.some.injEq, reduceCtorEq, forall_eq', forall_eq]
  refine c_bestWay hS hr hc hi st ⟨_, rfl, hS, ?_⟩
  rw [hb] at refS ⊢
  have n0 : nI 1 = 1 := rfl
  have nu := nU_le hr hc
  have u1 := hc.u.1
  obtain ⟨us, u2, u3, u4, u5⟩ := hc.u.2
  obtain ⟨-, x2, x3⟩ := u5 m hm'
  have nus : ∀ k, k < nU ρ → us k ≠ i := fun k hk z => by
    have := (u2 k hk).2.1
    rw [z] at this
    exact q this
  have nlt : nU ρ < nS ρ := by
    have := pig (nU ρ + 1) (nS ρ) (fun k => if k = nU ρ then i else us k) (fun k hk => ?_) (fun k k' hk hk' e => ?_)
    · omega
    · by_cases c : k = nU ρ
      · simp only [c, if_true]
        exact hi
      · simp only [c, if_false]
        exact (u2 k (by omega)).1
    · by_cases c : k = nU ρ <;> by_cases c' : k' = nU ρ
      · omega
      · simp only [c, c', if_true, if_false] at e
        exact absurd e.symm (nus k' (by omega))
      · simp only [c, c', if_true, if_false] at e
        exact absurd e (nus k (by omega))
      · simp only [c, c', if_false] at e
        exact u3 k k' (by omega) (by omega) e
  have vU : vp_in (nI (nU ρ)) 300 := vp_in_nI (by omega) (by decide)
  have cU : (nI (nU ρ)).toNatClampNeg = nU ρ := nI_clamp (by omega)
  have pU : nI (nU ρ) + 1 = nI (nU ρ + 1) := nI_1 _
  rw [← hm] at hl
  simp +decide (disch := omega) only [n0, true_implies, false_implies, implies_true, not_true_eq_false, not_false_eq_true, and_true, true_and, Option.some.injEq, reduceCtorEq, forall_eq', forall_eq]
  refine t_X10_sort_53 hS ?_
  simp +decide (disch := omega) only [n0, c4, zA_sI, zK_sI, zK_sA, zI_sA, zA_ne, zA_nk, zA_eq, c6, p1, hl, zI_ne, zI_nk, zI_eq, x3, m11, s8, s10, true_implies, false_implies, implies_true, not_true_eq_false, not_false_eq_true, and_true, true_and, Option.some.injEq, reduceCtorEq, forall_eq', forall_eq]
  refine nmI (P := fun M => K (some (.int 1)) M) fun M1 e1 => ?_
  have hS1 : Stat M1 := by
    rw [e1]
    repeat' (with_reducible first | exact hS | exact hA | exact m2 | exact bbl.1 | refine Stat.wI ?_ | refine Stat.wNew ?_ | refine Stat.wAhi ?_ ?_)
  have hr1 : rf M1 = ρ := by
    rw [e1]
    simp (disch := first | omega | (simp only [zN_sI, zN_sJ, zN_sA, zN_sNew]; done) | (simp only [zN_sI, zN_sJ, zN_sA, zN_sNew]; omega)) only [rf_wi, rf_wa, hρ]
  have R1 : ∀ a j, 31 ≤ a → a < 88 → zI M1 a j = ρ a j := fun a j h1 h2 => rfz hr1 h1 h2
  refine hK _ _ hS1 (by rw [e1]; repeat' (with_reducible first | exact hI.s0 | refine S0.wi ?_ (by omega) | refine S0.wa ?_ | refine S0.wn ?_ (by first | omega | (simp only [zN_sI, zN_sA, zN_sNew]; omega)))) fun Q hQ => refS M1 Q hS1 hr1 ?_
  refine t_X11_sort_26 hS1 ?_
  simp +decide (disch := omega) only [neg1, n0, h3, h4, R1, w3, e45, v20, c20, u1, vU, cU, zI_ne, zI_nk, zI_eq, true_implies, false_implies, implies_true, not_true_eq_false, not_false_eq_true, and_true, true_and, Option.some.injEq, reduceCtorEq, forall_eq', forall_eq]
  refine r_wornOf (by repeat' (with_reducible first | exact hS1 | exact hA | refine Stat.wI ?_ | refine Stat.wNew ?_ | refine Stat.wAr ?_ (by decide) | refine Stat.wAhi ?_ ?_)) hr hi st (by simp (disch := first | omega | (simp only [zN_sI, zN_sJ, zN_sA, zN_sNew]; done) | (simp only [zN_sI, zN_sJ, zN_sA, zN_sNew]; omega)) only [zA_sI, zK_sI, zN_sI, zL_sI, zK_sA, zN_sA, zL_sA, zI_sA, zN_sNew, zI_ne, zI_nk, zI_eq, zA_ne, zA_nk, zA_eq, zI_nn, zA_nn, zK_nn, zL_nn, zI_ne', zA_ne', zK_ne', zL_ne', R1]) (fun j => by simp (disch := first | omega | (simp only [zN_sI, zN_sJ, zN_sA, zN_sNew]; done) | (simp only [zN_sI, zN_sJ, zN_sA, zN_sNew]; omega)) only [zA_sI, zK_sI, zN_sI, zL_sI, zK_sA, zN_sA, zL_sA, zI_sA, zN_sNew, zI_ne, zI_nk, zI_eq, zA_ne, zA_nk, zA_eq, zI_nn, zA_nn, zK_nn, zL_nn, zI_ne', zA_ne', zK_ne', zL_ne', R1]) ⟨_, rfl, by repeat' (with_reducible first | exact hS1 | exact hA | refine Stat.wI ?_ | refine Stat.wNew ?_ | refine Stat.wAr ?_ (by decide) | refine Stat.wAhi ?_ ?_), ?_⟩
  simp +decide (disch := omega) only [R1, u1, vU, cU, pU, zI_ne, zI_nk, zI_eq, true_implies, false_implies, implies_true, not_true_eq_false, not_false_eq_true, and_true, true_and, Option.some.injEq, reduceCtorEq, forall_eq', forall_eq]
  refine hQ g _ ?_
  refine nmI (P := IV g L X (t + 1)) fun M2 hM => ?_
  have hS2 : Stat M2 := by
    rw [hM]
    repeat' (with_reducible first | exact hS1 | exact hA | refine Stat.wI ?_ | refine Stat.wNew ?_ | refine Stat.wAr ?_ (by decide) | refine Stat.wAhi ?_ ?_)
  rw [e1] at hM
  have qs : ∀ j, saF M2 j = saF μ j := fun j => by unfold saF; simp (disch := first | omega | (simp only [zN_sI, zN_sJ, zN_sA, zN_sNew]; done) | (simp only [zN_sI, zN_sJ, zN_sA, zN_sNew]; omega)) only [rf_z, hM, zA_sI, zK_sI, zN_sI, zL_sI, zK_sA, zN_sA, zL_sA, zI_sA, zN_sNew, zI_ne, zI_nk, zI_eq, zA_ne, zA_nk, zA_eq, zI_nn, zA_nn, zK_nn, zL_nn, zI_ne', zA_ne', zK_ne', zL_ne', R]
  have ql : ∀ j, laF M2 j = laF μ j := fun j => by unfold laF; simp (disch := first | omega | (simp only [zN_sI, zN_sJ, zN_sA, zN_sNew]; done) | (simp only [zN_sI, zN_sJ, zN_sA, zN_sNew]; omega)) only [rf_z, hM, zA_sI, zK_sI, zN_sI, zL_sI, zK_sA, zN_sA, zL_sA, zI_sA, zN_sNew, zI_ne, zI_nk, zI_eq, zA_ne, zA_nk, zA_eq, zI_nn, zA_nn, zK_nn, zL_nn, zI_ne', zA_ne', zK_ne', zL_ne', R]
  have qm : ∀ j, maF M2 j = maF μ j := fun j => by unfold maF; simp (disch := first | omega | (simp only [zN_sI, zN_sJ, zN_sA, zN_sNew]; done) | (simp only [zN_sI, zN_sJ, zN_sA, zN_sNew]; omega)) only [rf_z, hM, zA_sI, zK_sI, zN_sI, zL_sI, zK_sA, zN_sA, zL_sA, zI_sA, zN_sNew, zI_ne, zI_nk, zI_eq, zA_ne, zA_nk, zA_eq, zI_nn, zA_nn, zK_nn, zL_nn, zI_ne', zA_ne', zK_ne', zL_ne', R]
  have qa : ∀ j, aaF M2 j = aaF μ j := fun j => by unfold aaF; simp (disch := first | omega | (simp only [zN_sI, zN_sJ, zN_sA, zN_sNew]; done) | (simp only [zN_sI, zN_sJ, zN_sA, zN_sNew]; omega)) only [rf_z, hM, zA_sI, zK_sI, zN_sI, zL_sI, zK_sA, zN_sA, zL_sA, zI_sA, zN_sNew, zI_ne, zI_nk, zI_eq, zA_ne, zA_nk, zA_eq, zI_nn, zA_nn, zK_nn, zL_nn, zI_ne', zA_ne', zK_ne', zL_ne', R]
  have r48 : ∀ b j, (48 ≤ b ∧ b < 60) ∨ (61 ≤ b ∧ b < 88) ∨ (45 ≤ b ∧ b < 48) → rf M2 b j = ρ b j := fun b j hb => by simp (disch := first | omega | (simp only [zN_sI, zN_sJ, zN_sA, zN_sNew]; done) | (simp only [zN_sI, zN_sJ, zN_sA, zN_sNew]; omega)) only [rf_z, hM, zA_sI, zK_sI, zN_sI, zL_sI, zK_sA, zN_sA, zL_sA, zI_sA, zN_sNew, zI_ne, zI_nk, zI_eq, zA_ne, zA_nk, zA_eq, zI_nn, zA_nn, zK_nn, zL_nn, zI_ne', zA_ne', zK_ne', zL_ne', R]
  have r60 : ∀ j, j ≠ i → rf M2 60 j = ρ 60 j := fun j hj => by simp (disch := first | omega | (simp only [zN_sI, zN_sJ, zN_sA, zN_sNew]; done) | (simp only [zN_sI, zN_sJ, zN_sA, zN_sNew]; omega)) only [rf_z, hM, zA_sI, zK_sI, zN_sI, zL_sI, zK_sA, zN_sA, zL_sA, zI_sA, zN_sNew, zI_ne, zI_nk, zI_eq, zA_ne, zA_nk, zA_eq, zI_nn, zA_nn, zK_nn, zL_nn, zI_ne', zA_ne', zK_ne', zL_ne', R]
  have r60' : rf M2 60 i = 0 := by simp (disch := first | omega | (simp only [zN_sI, zN_sJ, zN_sA, zN_sNew]; done) | (simp only [zN_sI, zN_sJ, zN_sA, zN_sNew]; omega)) only [rf_z, hM, zA_sI, zK_sI, zN_sI, zL_sI, zK_sA, zN_sA, zL_sA, zI_sA, zN_sNew, zI_ne, zI_nk, zI_eq, zA_ne, zA_nk, zA_eq, zI_nn, zA_nn, zK_nn, zL_nn, zI_ne', zA_ne', zK_ne', zL_ne', R]
  have qsl : ∀ j, sl (rf M2) j = sl ρ j := fun j => by unfold sl; rw [r48 _ _ (by decide)]
  have qlm : ∀ j, lm (rf M2) j = lm ρ j := fun j => by unfold lm; rw [r48 _ _ (by decide)]
  have qsm : ∀ j, smo (rf M2) j = smo ρ j := fun j => by unfold smo; rw [qsl, qlm]
  have qM : nM (rf M2) = nM ρ := by unfold nM; simp (disch := first | omega | (simp only [zN_sI, zN_sJ, zN_sA, zN_sNew]; done) | (simp only [zN_sI, zN_sJ, zN_sA, zN_sNew]; omega)) only [rf_z, hM, zA_sI, zK_sI, zN_sI, zL_sI, zK_sA, zN_sA, zL_sA, zI_sA, zN_sNew, zI_ne, zI_nk, zI_eq, zA_ne, zA_nk, zA_eq, zI_nn, zA_nn, zK_nn, zL_nn, zI_ne', zA_ne', zK_ne', zL_ne', R]
  have qL : nL (rf M2) = nL ρ := by unfold nL; simp (disch := first | omega | (simp only [zN_sI, zN_sJ, zN_sA, zN_sNew]; done) | (simp only [zN_sI, zN_sJ, zN_sA, zN_sNew]; omega)) only [rf_z, hM, zA_sI, zK_sI, zN_sI, zL_sI, zK_sA, zN_sA, zL_sA, zI_sA, zN_sNew, zI_ne, zI_nk, zI_eq, zA_ne, zA_nk, zA_eq, zI_nn, zA_nn, zK_nn, zL_nn, zI_ne', zA_ne', zK_ne', zL_ne', R]
  have qS : nS (rf M2) = nS ρ := by unfold nS; simp (disch := first | omega | (simp only [zN_sI, zN_sJ, zN_sA, zN_sNew]; done) | (simp only [zN_sI, zN_sJ, zN_sA, zN_sNew]; omega)) only [rf_z, hM, zA_sI, zK_sI, zN_sI, zL_sI, zK_sA, zN_sA, zL_sA, zI_sA, zN_sNew, zI_ne, zI_nk, zI_eq, zA_ne, zA_nk, zA_eq, zI_nn, zA_nn, zK_nn, zL_nn, zI_ne', zA_ne', zK_ne', zL_ne', R]
  have qA : nA (rf M2) = nA ρ := by unfold nA; simp (disch := first | omega | (simp only [zN_sI, zN_sJ, zN_sA, zN_sNew]; done) | (simp only [zN_sI, zN_sJ, zN_sA, zN_sNew]; omega)) only [rf_z, hM, zA_sI, zK_sI, zN_sI, zL_sI, zK_sA, zN_sA, zL_sA, zI_sA, zN_sNew, zI_ne, zI_nk, zI_eq, zA_ne, zA_nk, zA_eq, zI_nn, zA_nn, zK_nn, zL_nn, zI_ne', zA_ne', zK_ne', zL_ne', R]
  have e31 : rf M2 31 1 = ρ 31 1 := by simp (disch := first | omega | (simp only [zN_sI, zN_sJ, zN_sA, zN_sNew]; done) | (simp only [zN_sI, zN_sJ, zN_sA, zN_sNew]; omega)) only [rf_z, hM, zA_sI, zK_sI, zN_sI, zL_sI, zK_sA, zN_sA, zL_sA, zI_sA, zN_sNew, zI_ne, zI_nk, zI_eq, zA_ne, zA_nk, zA_eq, zI_nn, zA_nn, zK_nn, zL_nn, zI_ne', zA_ne', zK_ne', zL_ne', R]
  refine IV.fr4 (Ps := (· = i)) (Pa := (fun _ => False)) (Pl := (fun _ => False)) (Pm := (· = m)) hI hS2 ?_ (fun _ => by rw [hM]; simp only [zJ_sI, zJ_sA]) hρ rfl (Nat.le_succ t) ?_ (fun j hj p => ?_) (fun _ _ p => p.elim) (fun j hj p => ?_) (fun _ _ p => p.elim) ⟨?_, fun _ p => p.elim, fun j p => by rw [p]; exact hm'⟩ ?_ ?_ ?_ ?_
  · rw [hM]
    repeat' (with_reducible first | exact EqX.rfl | refine EqX.wi ?_ (by first | exact W4.p (by decide) | exact W4.s (Ps := _) (Or.inl rfl) hi | exact W4.s (Ps := _) rfl hi | exact W4.m (Pm := _) rfl hm' | exact W4.rs (Ps := _) (by decide) (by decide) (by decide) (Or.inl rfl) | exact W4.rs (Ps := _) (by decide) (by decide) (by decide) rfl | exact W4.rm (Pm := _) (by decide) (by decide) (by decide) (by decide) rfl | exact W4.u (by decide) (by decide) | exact W4.r14 | exact W4.rp (by decide)) | refine EqX.wa ?_ (by first | exact WA4.m (Pm := _) rfl hm' | exact WA4.s' (Ps := _) (Or.inr rfl) hjl ejl | exact WA4.s (Ps := _) rfl hi))
  · refine hr.s.cg2 fun j hj => ?_
    simp (disch := first | omega | (simp only [zN_sI, zN_sJ, zN_sA, zN_sNew]; done) | (simp only [zN_sI, zN_sJ, zN_sA, zN_sNew]; omega)) only [rf_z, hM, zA_sI, zK_sI, zN_sI, zL_sI, zK_sA, zN_sA, zL_sA, zI_sA, zN_sNew, zI_ne, zI_nk, zI_eq, zA_ne, zA_nk, zA_eq, zI_nn, zA_nn, zK_nn, zL_nn, zI_ne', zA_ne', zK_ne', zL_ne', R]
  · subst p
    constructor
    · unfold RIm
      simp (disch := first | omega | (simp only [zN_sI, zN_sJ, zN_sA, zN_sNew]; done) | (simp only [zN_sI, zN_sJ, zN_sA, zN_sNew]; omega)) only [rf_z, hM, zA_sI, zK_sI, zN_sI, zL_sI, zK_sA, zN_sA, zL_sA, zI_sA, zN_sNew, zI_ne, zI_nk, zI_eq, zA_ne, zA_nk, zA_eq, zI_nn, zA_nn, zK_nn, zL_nn, zI_ne', zA_ne', zK_ne', zL_ne', R]
      exact ⟨r1, r2, r3, r4, ⟨r5.1, by have := r5.2; omega⟩, r6⟩
    · unfold CRm MdlP
      rw [qm]
      simp (disch := first | omega | (simp only [zN_sI, zN_sJ, zN_sA, zN_sNew]; done) | (simp only [zN_sI, zN_sJ, zN_sA, zN_sNew]; omega)) only [rf_z, hM, zA_sI, zK_sI, zN_sI, zL_sI, zK_sA, zN_sA, zL_sA, zI_sA, zN_sNew, zI_ne, zI_nk, zI_eq, zA_ne, zA_nk, zA_eq, zI_nn, zA_nn, zK_nn, zL_nn, zI_ne', zA_ne', zK_ne', zL_ne', R, true_implies, false_implies, implies_true, not_true_eq_false, not_false_eq_true, and_true, true_and, Option.some.injEq, reduceCtorEq, forall_eq', forall_eq]
      exact ⟨m1, m2, m3, m4', m5, m6, m7, m8, m9, m10, m11, m12⟩
  · have rowR : ∀ j, j < nS ρ → RIsa (rf M2) j := fun j hj => by
      obtain ⟨d1, d2, d3, d4, d5, d6, d7, d8, d9, d10, d11, d12, d13, d14, d15, d16, d17, d18, d19⟩ := hr.sa hj
      unfold RIsa
      rw [qsl, qL, qA, e31, r48 49 _ (by decide), r48 50 _ (by decide), r48 54 _ (by decide), r48 52 _ (by decide), r48 53 _ (by decide), r48 55 _ (by decide), r48 56 _ (by decide), r48 57 _ (by decide), r48 48 _ (by decide), r48 58 _ (by decide), r48 59 _ (by decide), r48 61 _ (by decide), r48 62 _ (by decide), r48 63 _ (by decide), r48 64 _ (by decide)]
      by_cases cj : j = i
      · have e60 : rf M2 60 j = 0 := by rw [cj]; exact r60'
        rw [e60]
        exact ⟨d1, d2, d3, d4, d5, d6, d7, d8, d9, Or.inl rfl, d11, d12, d13, fun z => absurd z (by decide), d15, d16, d17, d18, d19⟩
      · rw [r60 j cj]
        exact ⟨d1, d2, d3, d4, d5, d6, d7, d8, d9, d10, d11, d12, d13, d14, d15, d16, d17, d18, d19⟩
    refine ⟨rowR j hj, ?_⟩
    clear rowR
    have kj := k_sa hc hj
    have njB : saF μ j ≠ maF μ m := kne kj.1 p1 (by decide)
    obtain ⟨o1, o2, o3, o4, o5, o6, o7, o8, o9, o10, o11, o12, o13, o14, o15, o16, o17, o18, o19, o20, o21, o22, o23⟩ := hc.sa hj
    unfold CRsa
    rw [qs, qsl, qsm, ql, qm, r48 51 _ (by decide), r48 50 _ (by decide), r48 54 _ (by decide), r48 52 _ (by decide), r48 53 _ (by decide), r48 55 _ (by decide), r48 56 _ (by decide), r48 57 _ (by decide), r48 48 _ (by decide), r48 58 _ (by decide), r48 59 _ (by decide), r48 62 _ (by decide), r48 63 _ (by decide), r48 64 _ (by decide), r48 61 _ (by decide), qa]
    by_cases cj : j = i
    · subst cj
      rw [r60']
      simp (disch := first | omega | (simp only [zN_sI, zN_sJ, zN_sA, zN_sNew]; done) | (simp only [zN_sI, zN_sJ, zN_sA, zN_sNew]; omega)) only [rf_z, hM, zA_sI, zK_sI, zN_sI, zL_sI, zK_sA, zN_sA, zL_sA, zI_sA, zN_sNew, zI_ne, zI_nk, zI_eq, zA_ne, zA_nk, zA_eq, zI_nn, zA_nn, zK_nn, zL_nn, zI_ne', zA_ne', zK_ne', zL_ne', R, true_implies, false_implies, implies_true, not_true_eq_false, not_false_eq_true, and_true, true_and, Option.some.injEq, reduceCtorEq, forall_eq', forall_eq]
      exact ⟨o1, o2, o3, o4, o5, o6, o7, o8, o9, o10, o11, o12, o13, o14, o15, o16, o17, o18, o19, o20, o21, o23⟩
    · exact absurd p cj
  · intro j p
    rw [p]
    exact hi
  · exact hr.w.cg qA (fun j hj => ⟨r48 _ _ (by decide), by unfold as_; rw [r48 _ _ (by decide)]⟩) (fun j hj q1 q2 => by rw [r48 _ _ (by decide)]; exact q2)
  · unfold CRs
    simp (disch := first | omega | (simp only [zN_sI, zN_sJ, zN_sA, zN_sNew]; done) | (simp only [zN_sI, zN_sJ, zN_sA, zN_sNew]; omega)) only [rf_z, hM, zA_sI, zK_sI, zN_sI, zL_sI, zK_sA, zN_sA, zL_sA, zI_sA, zN_sNew, zI_ne, zI_nk, zI_eq, zA_ne, zA_nk, zA_eq, zI_nn, zA_nn, zK_nn, zL_nn, zI_ne', zA_ne', zK_ne', zL_ne', R, s1, s2, s3, s4, s5, s6, s7, s8, s9, s10, s11, true_implies, false_implies, implies_true, not_true_eq_false, not_false_eq_true, and_true, true_and, Option.some.injEq, reduceCtorEq, forall_eq', forall_eq]
  · refine hc.n.cg ?_ ?_ (fun j => ?_) (fun j => ?_) (fun j => r48 _ _ (by decide)) (fun j => r48 _ _ (by decide))
    · unfold nN
      simp (disch := first | omega | (simp only [zN_sI, zN_sJ, zN_sA, zN_sNew]; done) | (simp only [zN_sI, zN_sJ, zN_sA, zN_sNew]; omega)) only [rf_z, hM, zA_sI, zK_sI, zN_sI, zL_sI, zK_sA, zN_sA, zL_sA, zI_sA, zN_sNew, zI_ne, zI_nk, zI_eq, zA_ne, zA_nk, zA_eq, zI_nn, zA_nn, zK_nn, zL_nn, zI_ne', zA_ne', zK_ne', zL_ne', R]
    · unfold tL
      simp (disch := first | omega | (simp only [zN_sI, zN_sJ, zN_sA, zN_sNew]; done) | (simp only [zN_sI, zN_sJ, zN_sA, zN_sNew]; omega)) only [rf_z, hM, zA_sI, zK_sI, zN_sI, zL_sI, zK_sA, zN_sA, zL_sA, zI_sA, zN_sNew, zI_ne, zI_nk, zI_eq, zA_ne, zA_nk, zA_eq, zI_nn, zA_nn, zK_nn, zL_nn, zI_ne', zA_ne', zK_ne', zL_ne', R]
    all_goals simp (disch := first | omega | (simp only [zN_sI, zN_sJ, zN_sA, zN_sNew]; done) | (simp only [zN_sI, zN_sJ, zN_sA, zN_sNew]; omega)) only [rf_z, hM, zA_sI, zK_sI, zN_sI, zL_sI, zK_sA, zN_sA, zL_sA, zI_sA, zN_sNew, zI_ne, zI_nk, zI_eq, zA_ne, zA_nk, zA_eq, zI_nn, zA_nn, zK_nn, zL_nn, zI_ne', zA_ne', zK_ne', zL_ne', R]
  · refine CRu.put hr hc hi q st ?_ qS qM (fun b b1 b2 j hj => ?_) ?_ ?_ ?_ r60 r60' (fun j => r48 _ _ (by decide)) (fun j => r48 _ _ (by decide)) (fun j => r48 _ _ (by decide)) qsm qs qm (fun k hk hne => ?_) ?_ ?_ ?_ ?_
    · simp (disch := first | omega | (simp only [zN_sI, zN_sJ, zN_sA, zN_sNew]; done) | (simp only [zN_sI, zN_sJ, zN_sA, zN_sNew]; omega)) only [rf_z, hM, zA_sI, zK_sI, zN_sI, zL_sI, zK_sA, zN_sA, zL_sA, zI_sA, zN_sNew, zI_ne, zI_nk, zI_eq, zA_ne, zA_nk, zA_eq, zI_nn, zA_nn, zK_nn, zL_nn, zI_ne', zA_ne', zK_ne', zL_ne', R, u1, pU]
    · simp (disch := first | omega | (simp only [zN_sI, zN_sJ, zN_sA, zN_sNew]; done) | (simp only [zN_sI, zN_sJ, zN_sA, zN_sNew]; omega)) only [rf_z, hM, zA_sI, zK_sI, zN_sI, zL_sI, zK_sA, zN_sA, zL_sA, zI_sA, zN_sNew, zI_ne, zI_nk, zI_eq, zA_ne, zA_nk, zA_eq, zI_nn, zA_nn, zK_nn, zL_nn, zI_ne', zA_ne', zK_ne', zL_ne', R]
    · rw [← hm]
      simp (disch := first | omega | (simp only [zN_sI, zN_sJ, zN_sA, zN_sNew]; done) | (simp only [zN_sI, zN_sJ, zN_sA, zN_sNew]; omega)) only [rf_z, hM, zA_sI, zK_sI, zN_sI, zL_sI, zK_sA, zN_sA, zL_sA, zI_sA, zN_sNew, zI_ne, zI_nk, zI_eq, zA_ne, zA_nk, zA_eq, zI_nn, zA_nn, zK_nn, zL_nn, zI_ne', zA_ne', zK_ne', zL_ne', R]
    · simp (disch := first | omega | (simp only [zN_sI, zN_sJ, zN_sA, zN_sNew]; done) | (simp only [zN_sI, zN_sJ, zN_sA, zN_sNew]; omega)) only [rf_z, hM, zA_sI, zK_sI, zN_sI, zL_sI, zK_sA, zN_sA, zL_sA, zI_sA, zN_sNew, zI_ne, zI_nk, zI_eq, zA_ne, zA_nk, zA_eq, zI_nn, zA_nn, zK_nn, zL_nn, zI_ne', zA_ne', zK_ne', zL_ne', R]
    · simp (disch := first | omega | (simp only [zN_sI, zN_sJ, zN_sA, zN_sNew]; done) | (simp only [zN_sI, zN_sJ, zN_sA, zN_sNew]; omega)) only [rf_z, hM, zA_sI, zK_sI, zN_sI, zL_sI, zK_sA, zN_sA, zL_sA, zI_sA, zN_sNew, zI_ne, zI_nk, zI_eq, zA_ne, zA_nk, zA_eq, zI_nn, zA_nn, zK_nn, zL_nn, zI_ne', zA_ne', zK_ne', zL_ne', R]
      decide
    · rw [← hm] at hne
      have kk := k_ma hc hk
      have n1 : maF μ k ≠ maF μ m := fun z => hne (ma_inj hr hc hk hm' z)
      have n2 : maF μ k ≠ saF μ i := kne kk.1 c4 (by decide)
      skip
      simp (disch := first | omega | (simp only [zN_sI, zN_sJ, zN_sA, zN_sNew]; done) | (simp only [zN_sI, zN_sJ, zN_sA, zN_sNew]; omega)) only [rf_z, hM, zA_sI, zK_sI, zN_sI, zL_sI, zK_sA, zN_sA, zL_sA, zI_sA, zN_sNew, zI_ne, zI_nk, zI_eq, zA_ne, zA_nk, zA_eq, zI_nn, zA_nn, zK_nn, zL_nn, zI_ne', zA_ne', zK_ne', zL_ne', R, and_self]
    · rw [← hm]
      simp (disch := first | omega | (simp only [zN_sI, zN_sJ, zN_sA, zN_sNew]; done) | (simp only [zN_sI, zN_sJ, zN_sA, zN_sNew]; omega)) only [rf_z, hM, zA_sI, zK_sI, zN_sI, zL_sI, zK_sA, zN_sA, zL_sA, zI_sA, zN_sNew, zI_ne, zI_nk, zI_eq, zA_ne, zA_nk, zA_eq, zI_nn, zA_nn, zK_nn, zL_nn, zI_ne', zA_ne', zK_ne', zL_ne', R]
    · rw [← hm]
      simp (disch := first | omega | (simp only [zN_sI, zN_sJ, zN_sA, zN_sNew]; done) | (simp only [zN_sI, zN_sJ, zN_sA, zN_sNew]; omega)) only [rf_z, hM, zA_sI, zK_sI, zN_sI, zL_sI, zK_sA, zN_sA, zL_sA, zI_sA, zN_sNew, zI_ne, zI_nk, zI_eq, zA_ne, zA_nk, zA_eq, zI_nn, zA_nn, zK_nn, zL_nn, zI_ne', zA_ne', zK_ne', zL_ne', R, x3]
    · rw [← hm]
      intro _
      refine ⟨by simp (disch := first | omega | (simp only [zN_sI, zN_sJ, zN_sA, zN_sNew]; done) | (simp only [zN_sI, zN_sJ, zN_sA, zN_sNew]; omega)) only [rf_z, hM, zA_sI, zK_sI, zN_sI, zL_sI, zK_sA, zN_sA, zL_sA, zI_sA, zN_sNew, zI_ne, zI_nk, zI_eq, zA_ne, zA_nk, zA_eq, zI_nn, zA_nn, zK_nn, zL_nn, zI_ne', zA_ne', zK_ne', zL_ne', R], fun j hj => ?_⟩
      have kj := k_sa hc hj
      have njB : saF μ j ≠ maF μ m := kne kj.1 p1 (by decide)
      simp (disch := first | omega | (simp only [zN_sI, zN_sJ, zN_sA, zN_sNew]; done) | (simp only [zN_sI, zN_sJ, zN_sA, zN_sNew]; omega)) only [rf_z, hM, zA_sI, zK_sI, zN_sI, zL_sI, zK_sA, zN_sA, zL_sA, zI_sA, zN_sNew, zI_ne, zI_nk, zI_eq, zA_ne, zA_nk, zA_eq, zI_nn, zA_nn, zK_nn, zL_nn, zI_ne', zA_ne', zK_ne', zL_ne', R]
    · rw [← hm]
      rw [hl]
      exact fun b hb => by cases hb
end SortU
