section TakeQ
variable {E : ZE} {l : Launch} {d D : Nat} {g : Gh} {L : Nat} {X : Nat → Int32} {t : Nat} {M : ZM} {ρ : RV} {s i m o e : Nat} {b sd w x1 : Int32} {K : Option Value → ZM → Prop}
theorem tk_note (hI : IV g L X t M) (rM : rf M = ρ) (hi : i < nA ρ) (hw : ρ 82 i = 0) (hsw : ρ 80 i = 0) (hs : s = as_ ρ i) (hm : m = smo ρ s) (hV : jV g ρ i (ρ 76 i) b sd w) (eb : b = nI (1000 * o + e)) (ho : o < 5) (he : e ≤ 100) (hK : ∀ (r : Int32) (μ1 : ZM), Stat μ1 → S0 L X μ1 → (∀ Q : Option Value → ZM → Prop, (∀ (g' : Gh) (μ2 : ZM), IV g' L X (t + 1) μ2 → Q (some (.int r)) μ2) → AW E l (d + 299) 0 0 mX11_take 0 [some (.ref 31), some (.int (nI i)), none, none, none, none, none, none] [] μ1 Q) → K (some (.int r)) μ1) (hO : ¬ o = 0) (hO1 : ¬ o = 1) (refN : ∀ (M2 : ZM) (Q : Option Value → ZM → Prop), Stat M2 → (∀ a j, 31 ≤ a → a < 88 → a ≠ 72 → a ≠ 73 → (a = 31 → j < 76) → zI M2 a j = ρ a j) → (ρ 31 74 = 200 → Q (some (.int (-3))) M2) → (¬ ρ 31 74 = 200 → AW E l (d + 299) 0 0 mX11_take 223 [some (.ref 31), some (.int (nI i)), some (.int (nI s)), some (.int (nI m)), some (.int (nI o)), none, some (.int (coF ρ s o e)), some (.int 1)] [] M2 Q) → AW E l (d + 299) 0 0 mX11_take 129 [some (.ref 31), some (.int (nI i)), some (.int (nI s)), some (.int (nI m)), some (.int (nI o)), none, none, none] [.int (coF ρ s o e)] M2 Q) : AW E l (D + 1) 0 0 mX10_giveNote 0 (zargs 4 [.ref 11, .ref (aaF M i), .int (coF ρ s o e)]) [] M (fun v μ7 => ∃ r9 : Int32, v = some (.int r9) ∧ Stat μ7 ∧ tkPost K b (aaF M i) (some (.int r9)) μ7) := by
  have hr := hI.r rM
  have hc := hI.c rM
  have hS := hI.st
  have h88 := hS.N
  obtain ⟨s1, s2, s3, s4, s5, s6, s7, s8, s9, s10, s11⟩ := hc.s
  obtain ⟨b1, b2, b3, b4, b5, b6, b7, b8⟩ := hr.s
  have b300 := b3.2
  have b200 := b4.2
  have b20 := b1.2
  have b6' := b6.2
  have h3 : vp_in (nI i) 200 := vp_in_nI (by omega) (by decide)
  have h4 : (nI i).toNatClampNeg = i := nI_clamp (by omega)
  obtain ⟨e1, e2, e3, e4, e5, e6, e7, e8, e9, e10, e11, e12, e13, e14, e15, e16, e17, e18, e19, e20⟩ := hc.a hi
  obtain ⟨f1, f2, f3, f4, f5, f6, f7, f8, f9, f10, f11⟩ := hr.a hi
  rw [← hs] at f2 e5 f1
  have w1 : vp_in (nI s) 300 := vp_in_nI (by omega) (by decide)
  have w2 : (nI s).toNatClampNeg = s := nI_clamp (by omega)
  obtain ⟨c1, c2, c3, c4, c5, c6, c7, c8, c9, c10, c11, c12, c13, c14, c15, c16, c17, c18, c19, c20, c21, c22, c23⟩ := hc.sa f2
  obtain ⟨d1, d2, d3, d4, d5, d6, d7, d8, d9, d10, d11, d12, d13, d14, d15, d16, d17, d18, d19⟩ := hr.sa f2
  have lr := hr.l d2
  have hm' : m < nM ρ := by rw [hm]; exact lr.2.1
  have v20 : vp_in (nI m) 20 := vp_in_nI (by omega) (by decide)
  have c20 : (nI m).toNatClampNeg = m := nI_clamp (by omega)
  rw [← hm] at c6
  obtain ⟨m1, m2, m3, m4, m5, m6, m7, m8, m9, m10, m11, m12⟩ := hc.m hm'
  obtain ⟨p1, p2, p3, p4, p5, p6, p7, p8, p9⟩ := m4
  have n1 : saF M s ≠ aaF M i := kne c4 e4 (by decide)
  have n2 : saF M s ≠ maF M m := kne c4 p1 (by decide)
  have n3 : aaF M i ≠ maF M m := kne e4 p1 (by decide)
  have n10 : ¬ (1 : Int32) = 0 := by decide
  obtain ⟨v, ev⟩ : ∃ v, v = coF ρ s o e := ⟨_, rfl⟩
  rw [← ev] at refN ⊢
  have e74 : ρ 31 74 = nI (nN ρ) := b6.1
  have no1 : ¬ nI o = 1 := fun z => hO1 ((nI_eq (b := 1) (by omega) (by decide)).mp z)
  have no2 := n10
  have cN : (nI (nN ρ)).toNatClampNeg = nN ρ := nI_clamp (by omega)
  refine t_X10_giveNote hS ?_
  by_cases hn : nN ρ < 200
  · have g1 : nI (nN ρ) < 200 := by rw [show (200 : Int32) = nI 200 from rfl, nI_ltI (by omega) (by decide)]; exact hn
    have vN : vp_in (nI (nN ρ)) 200 := vp_in_nI hn (by decide)
    have nn : ¬ ρ 31 74 = 200 := by rw [e74, show (200 : Int32) = nI 200 from rfl, nI_eq (by omega) (by decide)]; omega
    have g2 : (0 : Int32) ≤ nI (nN ρ) := nI_pos' (by omega)
    have key : tkPost K b (aaF M i) (some (.int 1)) (sI (sA (sI (sI (sI (sI (sI (sI M 18 (nN ρ) v) 17 1 (nI (nN ρ + 1))) (aaF M i) 15 (nI (nN ρ))) (aaF M i) 14 v) (saF M s) 11 2) (saF M s) 12 (ρ 31 1 / 24)) (saF M s) 18 (some (aaF M i))) (saF M s) 17 1) := by
      refine tk_end (s := s) (i := i) (S := saF M s) hr f2 ((((((((hS.wI).wI).wI).wI).wI).wI).wAhi c2).wI) (by simp (disch := omega) only [zA_sI, zK_sI, zK_sA, zI_sA, zI_ne, zI_nk, zI_eq, zA_ne, zA_nk]; exact e4) (by simp (disch := omega) only [zA_sI, zK_sI, zK_sA, zI_sA, zI_ne, zI_nk, zI_eq, zA_ne, zA_nk]; exact e10) (by simp (disch := omega) only [zA_sI, zK_sI, zK_sA, zI_sA, zI_ne, zI_nk, zI_eq, zA_ne, zA_nk]; exact e5) (by simp (disch := omega) only [zA_sI, zK_sI, zK_sA, zI_sA, zI_ne, zI_nk, zI_eq, zA_ne, zA_nk]; exact c4) (by simp (disch := omega) only [zA_sI, zK_sI, zK_sA, zI_sA, zI_ne, zI_nk, zI_eq, zA_ne, zA_nk]; exact s6) (by simp (disch := omega) only [zA_sI, zK_sI, zK_sA, zI_sA, zI_ne, zI_nk, zI_eq, zA_ne, zA_nk]; exact c18) n1 e2 ?_
      have rC : rf (sI (sI (sI (sA (sI (sI (sI (sI (sI (sI M 18 (nN ρ) v) 17 1 (nI (nN ρ + 1))) (aaF M i) 15 (nI (nN ρ))) (aaF M i) 14 v) (saF M s) 11 2) (saF M s) 12 (ρ 31 1 / 24)) (saF M s) 18 (some (aaF M i))) (saF M s) 17 1) (aaF M i) 13 1) (saF M s) 13 (dyF (bdF ρ s i))) = ρ := by
        simp (disch := omega) only [rf_wi, rf_wa]
        exact rM
      refine hK _ _ ((((((((((hS.wI).wI).wI).wI).wI).wI).wAhi c2).wI).wI).wI) ((((((((((hI.s0.wi (by omega)).wi (by omega)).wi (by omega)).wi (by omega)).wi (by omega)).wi (by omega)).wa).wi (by omega)).wi (by omega)).wi (by omega)) fun Q hQ => r_take0 ((((((((((hS.wI).wI).wI).wI).wI).wI).wAhi c2).wI).wI).wI) rC hr hi hw hsw hs hm hV eb ho he (fun M2 hS2 hx2 hj2 R2 p76 => ⟨fun z => absurd z hO, fun _ => ?_⟩)
      rw [← ev]
      refine refN M2 Q hS2 R2 (fun z => absurd z nn) (fun _ => ?_)
      refine r_take223 hS2 R2 hr hi f2 (t_X11_take_270 hS2.wI.wI.wI ?_)
      simp (disch := omega) only [w1, w2, h3, h4, v20, c20, n10, no1, no2, zI_ne, zI_nk, zI_eq, R2, p76, e74, cN, vN, nI_1, if_true, if_false, true_or, or_true, false_or, or_false, and_false, false_and, and_self, or_self, Int32.add_zero, true_implies, false_implies, implies_true, not_true_eq_false, not_false_eq_true, and_true, true_and, Option.some.injEq, reduceCtorEq, forall_eq', forall_eq]
      exact hQ g _ (tkF_note hI rM hi hs hm hw hn rfl hS2 hx2 (fun y => hj2 y))
    
    simp (disch := omega) only [s7, e74, g1, vN, cN, zA_sI, zK_sI, zK_sA, zI_sA, zI_ne, zI_nk, zI_eq, zA_ne, zA_nk, nI_1, nI_pred, g2, e4, e5, c4, s6, true_implies, false_implies, implies_true, not_true_eq_false, not_false_eq_true, and_true, true_and, Option.some.injEq, reduceCtorEq, forall_eq', forall_eq]
    exact ⟨_, rfl, ((((((((hS.wI).wI).wI).wI).wI).wI).wAhi c2).wI), key⟩
  · have hn' : nN ρ = 200 := by omega
    have g1 : ¬ nI (nN ρ) < 200 := by rw [hn']; decide
    have nn : ρ 31 74 = 200 := by rw [e74, hn']; rfl
    have rf3 : K (some (.int (-3))) M := by
      refine hK _ _ hS hI.s0 fun Q hQ => r_take0 hS rM hr hi hw hsw hs hm hV eb ho he (fun M2 hS2 hx2 hj2 R2 p76 => ⟨fun z => absurd z hO, fun _ => ?_⟩)
      rw [← ev]
      exact refN M2 Q hS2 R2 (fun _ => hQ g _ (hI.endR rM hx2 hS2 hj2)) (fun z => absurd nn z)
    
    simp (disch := omega) only [s7, e74, g1, true_implies, false_implies, implies_true, not_true_eq_false, not_false_eq_true, and_true, true_and, Option.some.injEq, reduceCtorEq, forall_eq', forall_eq]
    exact (fun k => ⟨_, rfl, hS, ⟨_, rfl, hS, fun y => absurd y (by decide), fun _ => k⟩⟩) rf3
theorem tk_coins (hI : IV g L X t M) (rM : rf M = ρ) (hi : i < nA ρ) (hw : ρ 82 i = 0) (hsw : ρ 80 i = 0) (hs : s = as_ ρ i) (hm : m = smo ρ s) (hV : jV g ρ i (ρ 76 i) b sd w) (eb : b = nI (1000 * o + e)) (ho : o < 5) (he : e ≤ 100) (hK : ∀ (r : Int32) (μ1 : ZM), Stat μ1 → S0 L X μ1 → (∀ Q : Option Value → ZM → Prop, (∀ (g' : Gh) (μ2 : ZM), IV g' L X (t + 1) μ2 → Q (some (.int r)) μ2) → AW E l (d + 299) 0 0 mX11_take 0 [some (.ref 31), some (.int (nI i)), none, none, none, none, none, none] [] μ1 Q) → K (some (.int r)) μ1) (hO : ¬ o = 0) (hO1 : ¬ o = 1) (hO2 : ¬ o = 2) (refC : ∀ (M2 : ZM) (Q : Option Value → ZM → Prop), Stat M2 → (∀ a j, 31 ≤ a → a < 88 → a ≠ 72 → a ≠ 73 → (a = 31 → j < 76) → zI M2 a j = ρ a j) → (¬ coF ρ s o e ≤ ρ 31 2 → Q (some (.int (-2))) M2) → (coF ρ s o e ≤ ρ 31 2 → AW E l (d + 299) 0 0 mX11_take 223 [some (.ref 31), some (.int (nI i)), some (.int (nI s)), some (.int (nI m)), some (.int (nI o)), none, some (.int (coF ρ s o e)), some (.int 0)] [] M2 Q) → AW E l (d + 299) 0 0 mX11_take 129 [some (.ref 31), some (.int (nI i)), some (.int (nI s)), some (.int (nI m)), some (.int (nI o)), none, none, none] [.int (coF ρ s o e)] M2 Q) : AW E l (D + 1) 0 0 mX10_giveCoins 0 (zargs 3 [.ref 11, .ref (aaF M i), .int (coF ρ s o e)]) [] M (fun v μ7 => ∃ r9 : Int32, v = some (.int r9) ∧ Stat μ7 ∧ tkPost K b (aaF M i) (some (.int r9)) μ7) := by
  have hr := hI.r rM
  have hc := hI.c rM
  have hS := hI.st
  have h88 := hS.N
  obtain ⟨s1, s2, s3, s4, s5, s6, s7, s8, s9, s10, s11⟩ := hc.s
  obtain ⟨b1, b2, b3, b4, b5, b6, b7, b8⟩ := hr.s
  have b300 := b3.2
  have b200 := b4.2
  have b20 := b1.2
  have b6' := b6.2
  have h3 : vp_in (nI i) 200 := vp_in_nI (by omega) (by decide)
  have h4 : (nI i).toNatClampNeg = i := nI_clamp (by omega)
  obtain ⟨e1, e2, e3, e4, e5, e6, e7, e8, e9, e10, e11, e12, e13, e14, e15, e16, e17, e18, e19, e20⟩ := hc.a hi
  obtain ⟨f1, f2, f3, f4, f5, f6, f7, f8, f9, f10, f11⟩ := hr.a hi
  rw [← hs] at f2 e5 f1
  have w1 : vp_in (nI s) 300 := vp_in_nI (by omega) (by decide)
  have w2 : (nI s).toNatClampNeg = s := nI_clamp (by omega)
  obtain ⟨c1, c2, c3, c4, c5, c6, c7, c8, c9, c10, c11, c12, c13, c14, c15, c16, c17, c18, c19, c20, c21, c22, c23⟩ := hc.sa f2
  obtain ⟨d1, d2, d3, d4, d5, d6, d7, d8, d9, d10, d11, d12, d13, d14, d15, d16, d17, d18, d19⟩ := hr.sa f2
  have lr := hr.l d2
  have hm' : m < nM ρ := by rw [hm]; exact lr.2.1
  have v20 : vp_in (nI m) 20 := vp_in_nI (by omega) (by decide)
  have c20 : (nI m).toNatClampNeg = m := nI_clamp (by omega)
  rw [← hm] at c6
  obtain ⟨m1, m2, m3, m4, m5, m6, m7, m8, m9, m10, m11, m12⟩ := hc.m hm'
  obtain ⟨p1, p2, p3, p4, p5, p6, p7, p8, p9⟩ := m4
  have n1 : saF M s ≠ aaF M i := kne c4 e4 (by decide)
  have n2 : saF M s ≠ maF M m := kne c4 p1 (by decide)
  have n3 : aaF M i ≠ maF M m := kne e4 p1 (by decide)
  have n10 : ¬ (1 : Int32) = 0 := by decide
  obtain ⟨v, ev⟩ : ∃ v, v = coF ρ s o e := ⟨_, rfl⟩
  rw [← ev] at refC ⊢
  have no1 : ¬ nI o = 1 := fun z => hO1 ((nI_eq (b := 1) (by omega) (by decide)).mp z)
  have no2 : ¬ nI o = 2 := fun z => hO2 ((nI_eq (b := 2) (by omega) (by decide)).mp z)
  refine t_X10_giveCoins hS ?_
  by_cases hm2 : v ≤ ρ 31 2
  · have key : tkPost K b (aaF M i) (some (.int 1)) (sI (sA (sI (sI (sI (sI (sI M 17 2 (ρ 31 2 - v)) 17 3 (ρ 31 72 + v)) (aaF M i) 14 v) (saF M s) 11 2) (saF M s) 12 (ρ 31 1 / 24)) (saF M s) 18 (some (aaF M i))) (saF M s) 17 1) := by
      refine tk_end (s := s) (i := i) (S := saF M s) hr f2 (((((((hS.wI).wI).wI).wI).wI).wAhi c2).wI) (by simp (disch := omega) only [zA_sI, zK_sI, zK_sA, zI_sA, zI_ne, zI_nk, zI_eq, zA_ne, zA_nk]; exact e4) (by simp (disch := omega) only [zA_sI, zK_sI, zK_sA, zI_sA, zI_ne, zI_nk, zI_eq, zA_ne, zA_nk]; exact e10) (by simp (disch := omega) only [zA_sI, zK_sI, zK_sA, zI_sA, zI_ne, zI_nk, zI_eq, zA_ne, zA_nk]; exact e5) (by simp (disch := omega) only [zA_sI, zK_sI, zK_sA, zI_sA, zI_ne, zI_nk, zI_eq, zA_ne, zA_nk]; exact c4) (by simp (disch := omega) only [zA_sI, zK_sI, zK_sA, zI_sA, zI_ne, zI_nk, zI_eq, zA_ne, zA_nk]; exact s6) (by simp (disch := omega) only [zA_sI, zK_sI, zK_sA, zI_sA, zI_ne, zI_nk, zI_eq, zA_ne, zA_nk]; exact c18) n1 e2 ?_
      have rC : rf (sI (sI (sI (sA (sI (sI (sI (sI (sI M 17 2 (ρ 31 2 - v)) 17 3 (ρ 31 72 + v)) (aaF M i) 14 v) (saF M s) 11 2) (saF M s) 12 (ρ 31 1 / 24)) (saF M s) 18 (some (aaF M i))) (saF M s) 17 1) (aaF M i) 13 1) (saF M s) 13 (dyF (bdF ρ s i))) = ρ := by
        simp (disch := omega) only [rf_wi, rf_wa]
        exact rM
      refine hK _ _ (((((((((hS.wI).wI).wI).wI).wI).wAhi c2).wI).wI).wI) (((((((((hI.s0.wi (by omega)).wi (by omega)).wi (by omega)).wi (by omega)).wi (by omega)).wa).wi (by omega)).wi (by omega)).wi (by omega)) fun Q hQ => r_take0 (((((((((hS.wI).wI).wI).wI).wI).wAhi c2).wI).wI).wI) rC hr hi hw hsw hs hm hV eb ho he (fun M2 hS2 hx2 hj2 R2 p76 => ⟨fun z => absurd z hO, fun _ => ?_⟩)
      rw [← ev]
      refine refC M2 Q hS2 R2 (fun z => absurd hm2 z) (fun _ => ?_)
      refine r_take223 hS2 R2 hr hi f2 (t_X11_take_270 hS2.wI.wI.wI ?_)
      simp (disch := omega) only [w1, w2, h3, h4, v20, c20, n10, no1, no2, zI_ne, zI_nk, zI_eq, R2, p76, if_true, if_false, true_or, or_true, false_or, or_false, and_false, false_and, and_self, or_self, Int32.add_zero, true_implies, false_implies, implies_true, not_true_eq_false, not_false_eq_true, and_true, true_and, Option.some.injEq, reduceCtorEq, forall_eq', forall_eq]
      exact hQ g _ (tkF_coins hI rM hi hs hm hw rfl hS2 hx2 (fun y => hj2 y))
    
    simp (disch := omega) only [s8, s9, hm2, zA_sI, zK_sI, zK_sA, zI_sA, zI_ne, zI_nk, zI_eq, zA_ne, zA_nk, e4, e5, c4, s6, true_implies, false_implies, implies_true, not_true_eq_false, not_false_eq_true, and_true, true_and, Option.some.injEq, reduceCtorEq, forall_eq', forall_eq]
    exact ⟨_, rfl, (((((((hS.wI).wI).wI).wI).wI).wAhi c2).wI), key⟩
  · have rf2 : K (some (.int (-2))) M := by
      refine hK _ _ hS hI.s0 fun Q hQ => r_take0 hS rM hr hi hw hsw hs hm hV eb ho he (fun M2 hS2 hx2 hj2 R2 p76 => ⟨fun z => absurd z hO, fun _ => ?_⟩)
      rw [← ev]
      exact refC M2 Q hS2 R2 (fun _ => hQ g _ (hI.endR rM hx2 hS2 hj2)) (fun z => absurd z hm2)
    
    simp (disch := omega) only [s8, hm2, true_implies, false_implies, implies_true, not_true_eq_false, not_false_eq_true, and_true, true_and, Option.some.injEq, reduceCtorEq, forall_eq', forall_eq]
    exact (fun k => ⟨_, rfl, hS, ⟨_, rfl, hS, fun y => absurd y (by decide), fun _ => k⟩⟩) rf2
theorem tk_mend (hI : IV g L X t M) (rM : rf M = ρ) (hi : i < nA ρ) (hw : ρ 82 i = 0) (hsw : ρ 80 i = 0) (hs : s = as_ ρ i) (hm : m = smo ρ s) (hV : jV g ρ i (ρ 76 i) b sd w) (eb : b = nI (1000 * 1 + e)) (he : e ≤ 100) (hK : ∀ (r : Int32) (μ1 : ZM), Stat μ1 → S0 L X μ1 → (∀ Q : Option Value → ZM → Prop, (∀ (g' : Gh) (μ2 : ZM), IV g' L X (t + 1) μ2 → Q (some (.int r)) μ2) → AW E l (d + 299) 0 0 mX11_take 0 [some (.ref 31), some (.int (nI i)), none, none, none, none, none, none] [] μ1 Q) → K (some (.int r)) μ1) : AW E l (D + 1) 0 0 mX10_mendForBuyer 0 (zargs 2 [.ref 11, .ref (saF M s)]) [] M (fun v μ7 => ∃ r9 : Int32, v = some (.int r9) ∧ Stat μ7 ∧ tkPost K b (aaF M i) (some (.int r9)) μ7) := by
  have hr := hI.r rM
  have hc := hI.c rM
  have hS := hI.st
  have h88 := hS.N
  obtain ⟨s1, s2, s3, s4, s5, s6, s7, s8, s9, s10, s11⟩ := hc.s
  obtain ⟨b1, b2, b3, b4, b5, b6, b7, b8⟩ := hr.s
  have b300 := b3.2
  have b200 := b4.2
  have b20 := b1.2
  have b6' := b6.2
  have h3 : vp_in (nI i) 200 := vp_in_nI (by omega) (by decide)
  have h4 : (nI i).toNatClampNeg = i := nI_clamp (by omega)
  obtain ⟨e1, e2, e3, e4, e5, e6, e7, e8, e9, e10, e11, e12, e13, e14, e15, e16, e17, e18, e19, e20⟩ := hc.a hi
  obtain ⟨f1, f2, f3, f4, f5, f6, f7, f8, f9, f10, f11⟩ := hr.a hi
  rw [← hs] at f2 e5 f1
  have w1 : vp_in (nI s) 300 := vp_in_nI (by omega) (by decide)
  have w2 : (nI s).toNatClampNeg = s := nI_clamp (by omega)
  obtain ⟨c1, c2, c3, c4, c5, c6, c7, c8, c9, c10, c11, c12, c13, c14, c15, c16, c17, c18, c19, c20, c21, c22, c23⟩ := hc.sa f2
  obtain ⟨d1, d2, d3, d4, d5, d6, d7, d8, d9, d10, d11, d12, d13, d14, d15, d16, d17, d18, d19⟩ := hr.sa f2
  have lr := hr.l d2
  have hm' : m < nM ρ := by rw [hm]; exact lr.2.1
  have v20 : vp_in (nI m) 20 := vp_in_nI (by omega) (by decide)
  have c20 : (nI m).toNatClampNeg = m := nI_clamp (by omega)
  rw [← hm] at c6
  obtain ⟨m1, m2, m3, m4, m5, m6, m7, m8, m9, m10, m11, m12⟩ := hc.m hm'
  obtain ⟨p1, p2, p3, p4, p5, p6, p7, p8, p9⟩ := m4
  have n1 : saF M s ≠ aaF M i := kne c4 e4 (by decide)
  have n2 : saF M s ≠ maF M m := kne c4 p1 (by decide)
  have n3 : aaF M i ≠ maF M m := kne e4 p1 (by decide)
  have n10 : ¬ (1 : Int32) = 0 := by decide
  have ho : 1 < 5 := by decide
  have hO : ¬ 1 = 0 := by decide
  have ec : coF ρ s 1 e = ρ 34 m := by unfold coF; rw [if_pos rfl, hm]
  refine t_X10_mendForBuyer hS ⟨c4, on_some c6 ⟨p1, ?_⟩⟩
  by_cases hm2 : ρ 34 m ≤ ρ 31 2
  · have key : tkPost K b (aaF M i) (some (.int 1)) (sI (sI (sI (sI M 17 2 (ρ 31 2 - ρ 34 m)) 17 4 (ρ 31 73 + ρ 34 m)) (maF M m) 10 (ρ 40 m + 1)) (saF M s) 11 0) := by
      refine tk_end (s := s) (i := i) (S := saF M s) hr f2 ((((hS.wI).wI).wI).wI) (by simp (disch := omega) only [zA_sI, zK_sI, zK_sA, zI_sA, zI_ne, zI_nk, zI_eq, zA_ne, zA_nk]; exact e4) (by simp (disch := omega) only [zA_sI, zK_sI, zK_sA, zI_sA, zI_ne, zI_nk, zI_eq, zA_ne, zA_nk]; exact e10) (by simp (disch := omega) only [zA_sI, zK_sI, zK_sA, zI_sA, zI_ne, zI_nk, zI_eq, zA_ne, zA_nk]; exact e5) (by simp (disch := omega) only [zA_sI, zK_sI, zK_sA, zI_sA, zI_ne, zI_nk, zI_eq, zA_ne, zA_nk]; exact c4) (by simp (disch := omega) only [zA_sI, zK_sI, zK_sA, zI_sA, zI_ne, zI_nk, zI_eq, zA_ne, zA_nk]; exact s6) (by simp (disch := omega) only [zA_sI, zK_sI, zK_sA, zI_sA, zI_ne, zI_nk, zI_eq, zA_ne, zA_nk]; exact c18) n1 e2 ?_
      have rC : rf (sI (sI (sI (sI (sI (sI M 17 2 (ρ 31 2 - ρ 34 m)) 17 4 (ρ 31 73 + ρ 34 m)) (maF M m) 10 (ρ 40 m + 1)) (saF M s) 11 0) (aaF M i) 13 1) (saF M s) 13 (dyF (bdF ρ s i))) = ρ := by
        simp (disch := omega) only [rf_wi, rf_wa]
        exact rM
      refine hK _ _ ((((((hS.wI).wI).wI).wI).wI).wI) ((((((hI.s0.wi (by omega)).wi (by omega)).wi (by omega)).wi (by omega)).wi (by omega)).wi (by omega)) fun Q hQ => r_take0 ((((((hS.wI).wI).wI).wI).wI).wI) rC hr hi hw hsw hs hm hV eb ho he (fun M2 hS2 hx2 hj2 R2 p76 => ⟨fun z => absurd z hO, fun _ => ?_⟩)
      refine t_X11_take_129 hS2 (c_f (by decide) (n_e (fun _ => t_X11_take_161 hS2 (n_e (fun _ => t_X11_take_179 hS2 (t_X11_take_180 hS2 (n_e (fun z => absurd rfl z) (fun _ => c_f (by decide) ?_)))) (fun z => absurd z (by decide)))) (fun z => absurd z (by decide))))
      rw [ec, R2 31 2 (by decide) (by decide) (by decide) (by decide) (by decide)]
      refine c_t hm2 (t_X11_take_205 hS2 (c_t rfl ?_))
      refine r_take223 hS2 R2 hr hi f2 (t_X11_take_270 hS2.wI.wI.wI ?_)
      simp +decide (disch := omega) only [w1, w2, h3, h4, v20, c20, n10, zI_ne, zI_nk, zI_eq, R2, p76, if_true, if_false, true_or, or_true, false_or, or_false, and_false, false_and, and_self, or_self, Int32.add_zero, true_implies, false_implies, implies_true, not_true_eq_false, not_false_eq_true, and_true, true_and, Option.some.injEq, reduceCtorEq, forall_eq', forall_eq]
      exact hQ g _ (tkF_mend hI rM hi hs hm hw rfl hS2 hx2 (fun y => hj2 y))
    
    simp (disch := omega) only [s8, s10, m8, m11, hm2, zA_sI, zK_sI, zK_sA, zI_sA, zI_ne, zI_nk, zI_eq, zA_ne, zA_nk, true_implies, false_implies, implies_true, not_true_eq_false, not_false_eq_true, and_true, true_and, Option.some.injEq, reduceCtorEq, forall_eq', forall_eq]
    exact ⟨_, rfl, ((((hS.wI).wI).wI).wI), key⟩
  · have rf2 : K (some (.int (-2))) M := by
      refine hK _ _ hS hI.s0 fun Q hQ => r_take0 hS rM hr hi hw hsw hs hm hV eb ho he (fun M2 hS2 hx2 hj2 R2 p76 => ⟨fun z => absurd z hO, fun _ => ?_⟩)
      refine t_X11_take_129 hS2 (c_f (by decide) (n_e (fun _ => t_X11_take_161 hS2 (n_e (fun _ => t_X11_take_179 hS2 (t_X11_take_180 hS2 (n_e (fun z => absurd rfl z) (fun _ => c_f (by decide) ?_)))) (fun z => absurd z (by decide)))) (fun z => absurd z (by decide))))
      rw [ec, R2 31 2 (by decide) (by decide) (by decide) (by decide) (by decide)]
      exact c_f hm2 (hQ g _ (hI.endR rM hx2 hS2 hj2))
    
    simp (disch := omega) only [s8, m8, hm2, true_implies, false_implies, implies_true, not_true_eq_false, not_false_eq_true, and_true, true_and, Option.some.injEq, reduceCtorEq, forall_eq', forall_eq]
    exact (fun k => ⟨_, rfl, hS, ⟨_, rfl, hS, fun y => absurd y (by decide), fun _ => k⟩⟩) rf2
theorem r_newOf2 {nc ns : Nat} {M2 : ZM} {Q : Option Value → ZM → Prop} {i : Nat} (hS : Stat M2) (hr : RIg g t ρ) (R2 : (∀ a j, 31 ≤ a → a < 88 → a ≠ 72 → a ≠ 73 → (a = 31 → j < 76) → zI M2 a j = ρ a j)) (hi : i < nM ρ) (k : Q (some (.int (ρ 38 i + sS (fLe ρ (nI i)) (nL ρ)))) M2) : AW E l d nc ns mX11_newOf 0 (zargs 4 [.ref 31, .int (nI i)]) [] M2 Q := by
  obtain ⟨b1, b2, b3, b4, b5, b6, b7, b8⟩ := hr.s
  have b60 := b2.2
  have lE : ρ 31 18 ≤ nI (nL ρ) := by rw [← b2.1]; exact Int32.le_refl _
  have b20 := b1.2
  refine t_X11_newOf hS ?_
  have w1 : vp_in (nI i) 20 := vp_in_nI (by omega) (by decide)
  have w2 : (nI i).toNatClampNeg = i := nI_clamp (by omega)
  simp (disch := omega) only [R2, w1, w2, true_implies, false_implies, implies_true, not_true_eq_false, not_false_eq_true, and_true, true_and, Option.some.injEq, reduceCtorEq, forall_eq', forall_eq]
  have := lpd (P := fun j => AW E l d nc ns mX11_newOf 9 [some (.ref 31), some (.int (nI i)), some (.int (ρ 38 i + sS (fLe ρ (nI i)) j)), some (.int (nI j))] [] M2 Q) (n := nL ρ) ?_ ?_
  · simp only [sS, Int32.add_zero] at this
    exact this
  · refine t_X11_newOf_9 hS ?_
    simp (disch := omega) only [R2, lE, true_implies, false_implies, implies_true, not_true_eq_false, not_false_eq_true, and_true, true_and, Option.some.injEq, reduceCtorEq, forall_eq', forall_eq]
    exact k
  · intro j hj ih
    have l1 : ¬ ρ 31 18 ≤ nI j := by rw [b2.1]; exact nI_ge hj (by omega)
    have l3 : vp_in (nI j) 60 := vp_in_nI (by omega) (by decide)
    have l4 : (nI j).toNatClampNeg = j := nI_clamp (by omega)
    obtain ⟨d1, d2, d3⟩ := hr.l hj
    refine t_X11_newOf_9 hS ?_
    simp only [sS, fLe, ← nI_1, ← Int32.add_assoc] at ih
    simp (disch := omega) only [R2, l1, l3, l4, true_implies, false_implies, implies_true, not_true_eq_false, not_false_eq_true, and_true, true_and, Option.some.injEq, reduceCtorEq, forall_eq', forall_eq]
    by_cases q1 : ρ 45 j = nI i
    all_goals
      simp (disch := omega) only [q1, if_true, if_false, true_or, or_true, false_or, or_false, and_false, false_and, and_self, or_self, Int32.add_zero, true_implies, false_implies, implies_true, not_true_eq_false, not_false_eq_true, and_true, true_and, Option.some.injEq, reduceCtorEq, forall_eq', forall_eq] at ih ⊢
      exact ih
theorem tk_swap (ht : t ≤ 100000) (hI : IV g L X t M) (rM : rf M = ρ) (hi : i < nA ρ) (hw : ρ 82 i = 0) (hsw : ρ 80 i = 0) (hs : s = as_ ρ i) (hm : m = smo ρ s) (hV : jV g ρ i (ρ 76 i) b sd w) (eb : b = nI (1000 * 2 + e)) (he : e ≤ 100) (hK : ∀ (r : Int32) (μ1 : ZM), Stat μ1 → S0 L X μ1 → (∀ Q : Option Value → ZM → Prop, (∀ (g' : Gh) (μ2 : ZM), IV g' L X (t + 1) μ2 → Q (some (.int r)) μ2) → AW E l (d + 299) 0 0 mX11_take 0 [some (.ref 31), some (.int (nI i)), none, none, none, none, none, none] [] μ1 Q) → K (some (.int r)) μ1) : AW E l (D + 2) 0 0 mX10_giveNewPiece 0 (zargs 2 [.ref 11, .ref (aaF M i)]) [] M (fun v μ7 => ∃ r9 : Int32, v = some (.int r9) ∧ Stat μ7 ∧ tkPost K b (aaF M i) (some (.int r9)) μ7) := by
  have hr := hI.r rM
  have hc := hI.c rM
  have hS := hI.st
  have h88 := hS.N
  obtain ⟨s1, s2, s3, s4, s5, s6, s7, s8, s9, s10, s11⟩ := hc.s
  obtain ⟨b1, b2, b3, b4, b5, b6, b7, b8⟩ := hr.s
  have b300 := b3.2
  have b200 := b4.2
  have b20 := b1.2
  have b6' := b6.2
  have h3 : vp_in (nI i) 200 := vp_in_nI (by omega) (by decide)
  have h4 : (nI i).toNatClampNeg = i := nI_clamp (by omega)
  obtain ⟨e1, e2, e3, e4, e5, e6, e7, e8, e9, e10, e11, e12, e13, e14, e15, e16, e17, e18, e19, e20⟩ := hc.a hi
  obtain ⟨f1, f2, f3, f4, f5, f6, f7, f8, f9, f10, f11⟩ := hr.a hi
  rw [← hs] at f2 e5 f1
  have w1 : vp_in (nI s) 300 := vp_in_nI (by omega) (by decide)
  have w2 : (nI s).toNatClampNeg = s := nI_clamp (by omega)
  obtain ⟨c1, c2, c3, c4, c5, c6, c7, c8, c9, c10, c11, c12, c13, c14, c15, c16, c17, c18, c19, c20, c21, c22, c23⟩ := hc.sa f2
  obtain ⟨d1, d2, d3, d4, d5, d6, d7, d8, d9, d10, d11, d12, d13, d14, d15, d16, d17, d18, d19⟩ := hr.sa f2
  have lr := hr.l d2
  have hm' : m < nM ρ := by rw [hm]; exact lr.2.1
  have v20 : vp_in (nI m) 20 := vp_in_nI (by omega) (by decide)
  have c20 : (nI m).toNatClampNeg = m := nI_clamp (by omega)
  rw [← hm] at c6
  obtain ⟨m1, m2, m3, m4, m5, m6, m7, m8, m9, m10, m11, m12⟩ := hc.m hm'
  obtain ⟨p1, p2, p3, p4, p5, p6, p7, p8, p9⟩ := m4
  have n1 : saF M s ≠ aaF M i := kne c4 e4 (by decide)
  have n2 : saF M s ≠ maF M m := kne c4 p1 (by decide)
  have n3 : aaF M i ≠ maF M m := kne e4 p1 (by decide)
  have n10 : ¬ (1 : Int32) = 0 := by decide
  have ho : 2 < 5 := by decide
  have hO : ¬ 2 = 0 := by decide
  refine t_X10_giveNewPiece hS ⟨e4, on_some e5 ⟨c4, on_some c6 ?_⟩⟩
  refine c_takeNew hS hr hc hm' (fun j hf => ?_) (fun hno hl => ?_) (fun hno hl => ?_)
  · have hj' : j < nL ρ := hf.1
    obtain ⟨l1, l2, l3, l4, l5, l6, l7⟩ := hc.l hj'
    have nq1 : saF M s ≠ laF M j := kne c4 l4 (by decide)
    have nq2 : aaF M i ≠ laF M j := kne e4 l4 (by decide)
    have nz : ¬ (noL ρ m ∧ ρ 38 m = 0) := fun z => z.1 j hj' hf.2.1
    have key : tkPost K b (aaF M i) (some (.int 1)) (sI (sA (sI (sI (sI M (laF M j) 2 (ρ 47 j - 1)) (saF M s) 11 2) (saF M s) 12 (ρ 31 1 / 24)) (saF M s) 18 (some (aaF M i))) (saF M s) 17 1) := by
      refine tk_end (s := s) (i := i) (S := saF M s) hr f2 (((((hS.wI).wI).wI).wAhi c2).wI) (by simp (disch := omega) only [zA_sI, zK_sI, zK_sA, zI_sA, zI_ne, zI_nk, zI_eq, zA_ne, zA_nk]; exact e4) (by simp (disch := omega) only [zA_sI, zK_sI, zK_sA, zI_sA, zI_ne, zI_nk, zI_eq, zA_ne, zA_nk]; exact e10) (by simp (disch := omega) only [zA_sI, zK_sI, zK_sA, zI_sA, zI_ne, zI_nk, zI_eq, zA_ne, zA_nk]; exact e5) (by simp (disch := omega) only [zA_sI, zK_sI, zK_sA, zI_sA, zI_ne, zI_nk, zI_eq, zA_ne, zA_nk]; exact c4) (by simp (disch := omega) only [zA_sI, zK_sI, zK_sA, zI_sA, zI_ne, zI_nk, zI_eq, zA_ne, zA_nk]; exact s6) (by simp (disch := omega) only [zA_sI, zK_sI, zK_sA, zI_sA, zI_ne, zI_nk, zI_eq, zA_ne, zA_nk]; exact c18) n1 e2 ?_
      have rC : rf (sI (sI (sI (sA (sI (sI (sI M (laF M j) 2 (ρ 47 j - 1)) (saF M s) 11 2) (saF M s) 12 (ρ 31 1 / 24)) (saF M s) 18 (some (aaF M i))) (saF M s) 17 1) (aaF M i) 13 1) (saF M s) 13 (dyF (bdF ρ s i))) = ρ := by
        simp (disch := omega) only [rf_wi, rf_wa]
        exact rM
      refine hK _ _ (((((((hS.wI).wI).wI).wAhi c2).wI).wI).wI) (((((((hI.s0.wi (by omega)).wi (by omega)).wi (by omega)).wa).wi (by omega)).wi (by omega)).wi (by omega)) fun Q hQ => r_take0 (((((((hS.wI).wI).wI).wAhi c2).wI).wI).wI) rC hr hi hw hsw hs hm hV eb ho he (fun M2 hS2 hx2 hj2 R2 p76 => ⟨fun z => absurd z hO, fun _ => ?_⟩)
      refine t_X11_take_129 hS2 (c_f (by decide) (n_e (fun _ => t_X11_take_161 hS2 (n_e (fun z => absurd rfl z) (fun _ => ?_))) (fun z => absurd z (by decide))))
      refine r_newOf2 hS2 hr R2 hm' ⟨_, rfl, hS2, ?_⟩
      rw [nw_dec hr ht hm']
      refine n_e (fun _ => t_X11_take_179 hS2 (t_X11_take_180 hS2 (n_e (fun z => absurd rfl z) (fun _ => c_t rfl (t_X11_take_205 hS2 (c_t rfl ?_)))))) (fun z => absurd z nz)
      refine r_take223 hS2 R2 hr hi f2 (t_X11_take_270 hS2.wI.wI.wI ?_)
      simp +decide (disch := omega) only [w1, w2, h3, h4, v20, c20, n10, zI_ne, zI_nk, zI_eq, R2, p76, if_true, if_false, true_or, or_true, false_or, or_false, and_false, false_and, and_self, or_self, Int32.add_zero, true_implies, false_implies, implies_true, not_true_eq_false, not_false_eq_true, and_true, true_and, Option.some.injEq, reduceCtorEq, forall_eq', forall_eq]
      refine r_giveNew (ρ := ρ) hS2.wI.wI.wI.wI.wI.wI hr (by simp (disch := omega) only [zI_ne, zI_nk, R2]) (fun y => by simp (disch := omega) only [zI_ne, R2]) (fun y => by simp (disch := omega) only [zI_ne, R2]) (by simp (disch := omega) only [zI_ne, R2]) hm' (fun j' hj'' => ?_) (fun hn' => absurd hf.2.1 (hn' j hf.1))
      have ej : j' = j := by
        rcases Nat.lt_trichotomy j' j with z | z | z
        · exact absurd hj''.2.1 (hf.2.2 j' z)
        · exact z
        · exact absurd hf.2.1 (hj''.2.2 j z)
      subst ej
      refine ⟨rfl, hS2.wI.wI.wI.wI.wI.wI.wI, ?_⟩
      simp (disch := omega) only [zI_ne, zI_nk, p76]
      exact hQ g _ (tkF_lot hI rM hi hs hm hw hf rfl hS2 hx2 (fun y => hj2 y))
    
    refine ⟨_, rfl, hS.wI, n_e (fun _ => ?_) (fun z => absurd z (by decide))⟩
    simp (disch := omega) only [zA_sI, zK_sI, zK_sA, zI_sA, zI_ne, zI_nk, zI_eq, zA_ne, zA_nk, e4, e5, c4, s6, true_implies, false_implies, implies_true, not_true_eq_false, not_false_eq_true, and_true, true_and, Option.some.injEq, reduceCtorEq, forall_eq', forall_eq]
    exact ⟨_, rfl, (((((hS.wI).wI).wI).wAhi c2).wI), key⟩
  · have nz : ¬ (noL ρ m ∧ ρ 38 m = 0) := fun z => hl z.2
    have key : tkPost K b (aaF M i) (some (.int 1)) (sI (sA (sI (sI (sI M (maF M m) 7 (ρ 38 m - 1)) (saF M s) 11 2) (saF M s) 12 (ρ 31 1 / 24)) (saF M s) 18 (some (aaF M i))) (saF M s) 17 1) := by
      refine tk_end (s := s) (i := i) (S := saF M s) hr f2 (((((hS.wI).wI).wI).wAhi c2).wI) (by simp (disch := omega) only [zA_sI, zK_sI, zK_sA, zI_sA, zI_ne, zI_nk, zI_eq, zA_ne, zA_nk]; exact e4) (by simp (disch := omega) only [zA_sI, zK_sI, zK_sA, zI_sA, zI_ne, zI_nk, zI_eq, zA_ne, zA_nk]; exact e10) (by simp (disch := omega) only [zA_sI, zK_sI, zK_sA, zI_sA, zI_ne, zI_nk, zI_eq, zA_ne, zA_nk]; exact e5) (by simp (disch := omega) only [zA_sI, zK_sI, zK_sA, zI_sA, zI_ne, zI_nk, zI_eq, zA_ne, zA_nk]; exact c4) (by simp (disch := omega) only [zA_sI, zK_sI, zK_sA, zI_sA, zI_ne, zI_nk, zI_eq, zA_ne, zA_nk]; exact s6) (by simp (disch := omega) only [zA_sI, zK_sI, zK_sA, zI_sA, zI_ne, zI_nk, zI_eq, zA_ne, zA_nk]; exact c18) n1 e2 ?_
      have rC : rf (sI (sI (sI (sA (sI (sI (sI M (maF M m) 7 (ρ 38 m - 1)) (saF M s) 11 2) (saF M s) 12 (ρ 31 1 / 24)) (saF M s) 18 (some (aaF M i))) (saF M s) 17 1) (aaF M i) 13 1) (saF M s) 13 (dyF (bdF ρ s i))) = ρ := by
        simp (disch := omega) only [rf_wi, rf_wa]
        exact rM
      refine hK _ _ (((((((hS.wI).wI).wI).wAhi c2).wI).wI).wI) (((((((hI.s0.wi (by omega)).wi (by omega)).wi (by omega)).wa).wi (by omega)).wi (by omega)).wi (by omega)) fun Q hQ => r_take0 (((((((hS.wI).wI).wI).wAhi c2).wI).wI).wI) rC hr hi hw hsw hs hm hV eb ho he (fun M2 hS2 hx2 hj2 R2 p76 => ⟨fun z => absurd z hO, fun _ => ?_⟩)
      refine t_X11_take_129 hS2 (c_f (by decide) (n_e (fun _ => t_X11_take_161 hS2 (n_e (fun z => absurd rfl z) (fun _ => ?_))) (fun z => absurd z (by decide))))
      refine r_newOf2 hS2 hr R2 hm' ⟨_, rfl, hS2, ?_⟩
      rw [nw_dec hr ht hm']
      refine n_e (fun _ => t_X11_take_179 hS2 (t_X11_take_180 hS2 (n_e (fun z => absurd rfl z) (fun _ => c_t rfl (t_X11_take_205 hS2 (c_t rfl ?_)))))) (fun z => absurd z nz)
      refine r_take223 hS2 R2 hr hi f2 (t_X11_take_270 hS2.wI.wI.wI ?_)
      simp +decide (disch := omega) only [w1, w2, h3, h4, v20, c20, n10, zI_ne, zI_nk, zI_eq, R2, p76, if_true, if_false, true_or, or_true, false_or, or_false, and_false, false_and, and_self, or_self, Int32.add_zero, true_implies, false_implies, implies_true, not_true_eq_false, not_false_eq_true, and_true, true_and, Option.some.injEq, reduceCtorEq, forall_eq', forall_eq]
      refine r_giveNew (ρ := ρ) hS2.wI.wI.wI.wI.wI.wI hr (by simp (disch := omega) only [zI_ne, zI_nk, R2]) (fun y => by simp (disch := omega) only [zI_ne, R2]) (fun y => by simp (disch := omega) only [zI_ne, R2]) (by simp (disch := omega) only [zI_ne, R2]) hm' (fun j' hj'' => absurd hj''.2.1 (hno j' hj''.1)) (fun _ => ?_)
      refine ⟨rfl, hS2.wI.wI.wI.wI.wI.wI.wI, ?_⟩
      simp (disch := omega) only [zI_ne, zI_nk, p76]
      exact hQ g _ (tkF_loose hI rM hi hs hm hw hl rfl hS2 hx2 (fun y => hj2 y))
    
    refine ⟨_, rfl, hS.wI, n_e (fun _ => ?_) (fun z => absurd z (by decide))⟩
    simp (disch := omega) only [zA_sI, zK_sI, zK_sA, zI_sA, zI_ne, zI_nk, zI_eq, zA_ne, zA_nk, e4, e5, c4, s6, true_implies, false_implies, implies_true, not_true_eq_false, not_false_eq_true, and_true, true_and, Option.some.injEq, reduceCtorEq, forall_eq', forall_eq]
    exact ⟨_, rfl, (((((hS.wI).wI).wI).wAhi c2).wI), key⟩
  · refine ⟨_, rfl, hS, n_e (fun z => absurd rfl z) (fun _ => ⟨e4, on_some e5 ⟨c4, ?_⟩⟩)⟩
    rw [c14, show ρ 56 s = coF ρ s 2 e from by unfold coF; rw [if_neg (by decide), if_pos rfl]]
    refine AW.mono (tk_note hI rM hi hw hsw hs hm hV eb ho he hK (by decide) (by decide) (fun M2 Q hS2 R2 k1 k2 => ?_)) (fun v C ⟨r9, z1, z2, z3⟩ => ⟨r9, z1, z2, r9, rfl, z2, z3⟩)
    refine t_X11_take_129 hS2 (c_f (by decide) (n_e (fun _ => t_X11_take_161 hS2 (n_e (fun z => absurd rfl z) (fun _ => ?_))) (fun z => absurd z (by decide))))
    refine r_newOf2 hS2 hr R2 hm' ⟨_, rfl, hS2, ?_⟩
    rw [nw_dec hr ht hm']
    refine n_e (fun z => absurd ⟨hno, hl⟩ z) (fun _ => t_X11_take_175 hS2 (t_X11_take_180 hS2 (n_e (fun _ => t_X11_take_205 hS2 (c_f (by decide) ?_)) (fun z => absurd z (by decide)))))
    rw [R2 31 74 (by decide) (by decide) (by decide) (by decide) (by decide)]
    exact ⟨k2, k1⟩
theorem tk_tail (ht : t ≤ 100000) (hI : IV g L X t M) (rM : rf M = ρ) (hi : i < nA ρ) (hw : ρ 82 i = 0) (hsw : ρ 80 i = 0) (hs : s = as_ ρ i) (hm : m = smo ρ s) (hV : jV g ρ i (ρ 76 i) b sd w) (eb : b = nI (1000 * o + e)) (ho : o < 5) (he : e ≤ 100) (hK : ∀ (r : Int32) (μ1 : ZM), Stat μ1 → S0 L X μ1 → (∀ Q : Option Value → ZM → Prop, (∀ (g' : Gh) (μ2 : ZM), IV g' L X (t + 1) μ2 → Q (some (.int r)) μ2) → AW E l (d + 299) 0 0 mX11_take 0 [some (.ref 31), some (.int (nI i)), none, none, none, none, none, none] [] μ1 Q) → K (some (.int r)) μ1) : AW E l (D + 3) 0 0 mX10_carryOut 0 (zargs 6 [.ref 11, .ref (aaF M i), .int (nI o), .int (nI e)]) [] M (tkPost K b (aaF M i)) := by
  have hr := hI.r rM
  have hc := hI.c rM
  have hS := hI.st
  have h88 := hS.N
  obtain ⟨s1, s2, s3, s4, s5, s6, s7, s8, s9, s10, s11⟩ := hc.s
  obtain ⟨b1, b2, b3, b4, b5, b6, b7, b8⟩ := hr.s
  have b300 := b3.2
  have b200 := b4.2
  have b20 := b1.2
  have b6' := b6.2
  have h3 : vp_in (nI i) 200 := vp_in_nI (by omega) (by decide)
  have h4 : (nI i).toNatClampNeg = i := nI_clamp (by omega)
  obtain ⟨e1, e2, e3, e4, e5, e6, e7, e8, e9, e10, e11, e12, e13, e14, e15, e16, e17, e18, e19, e20⟩ := hc.a hi
  obtain ⟨f1, f2, f3, f4, f5, f6, f7, f8, f9, f10, f11⟩ := hr.a hi
  rw [← hs] at f2 e5 f1
  have w1 : vp_in (nI s) 300 := vp_in_nI (by omega) (by decide)
  have w2 : (nI s).toNatClampNeg = s := nI_clamp (by omega)
  obtain ⟨c1, c2, c3, c4, c5, c6, c7, c8, c9, c10, c11, c12, c13, c14, c15, c16, c17, c18, c19, c20, c21, c22, c23⟩ := hc.sa f2
  obtain ⟨d1, d2, d3, d4, d5, d6, d7, d8, d9, d10, d11, d12, d13, d14, d15, d16, d17, d18, d19⟩ := hr.sa f2
  have lr := hr.l d2
  have hm' : m < nM ρ := by rw [hm]; exact lr.2.1
  have v20 : vp_in (nI m) 20 := vp_in_nI (by omega) (by decide)
  have c20 : (nI m).toNatClampNeg = m := nI_clamp (by omega)
  rw [← hm] at c6
  obtain ⟨m1, m2, m3, m4, m5, m6, m7, m8, m9, m10, m11, m12⟩ := hc.m hm'
  obtain ⟨p1, p2, p3, p4, p5, p6, p7, p8, p9⟩ := m4
  have n1 : saF M s ≠ aaF M i := kne c4 e4 (by decide)
  have n2 : saF M s ≠ maF M m := kne c4 p1 (by decide)
  have n3 : aaF M i ≠ maF M m := kne e4 p1 (by decide)
  have n10 : ¬ (1 : Int32) = 0 := by decide
  obtain ⟨p1', p2', p3'⟩ := rng_of d8 (by decide)
  have hb : tN (ρ 56 s) * e ≤ 99999 * 100 := Nat.mul_le_mul (by omega) he
  have much : ∀ k, 3 ≤ k → zI M (saF M s) 9 * nI e / 100 = coF ρ s k e := by
    intro k hk
    unfold coF
    rw [if_neg (by omega), if_neg (by omega), c14]
    obtain ⟨P, eP⟩ : ∃ P, P = tN (ρ 56 s) := ⟨_, rfl⟩
    rw [← eP] at p1' hb ⊢
    rw [p1', pk_mul, show (100 : Int32) = nI 100 from rfl, pk_div (by omega) (by decide) (by decide)]
  refine t_X10_carryOut hS ⟨e4, on_some e5 ⟨c4, ?_⟩⟩
  rw [e6, c15]
  have ho' : o = 0 ∨ o = 1 ∨ o = 2 ∨ o = 3 ∨ o = 4 := by omega
  rcases ho' with rfl | rfl | rfl | rfl | rfl
  · have rf2 : K (some (.int (-2))) M := hK _ _ hS hI.s0 fun Q hQ => r_take0 hS rM hr hi hw hsw hs hm hV eb ho he (fun M2 hS2 hx2 hj2 R2 p76 => ⟨fun _ => hQ g _ (hI.endR rM hx2 hS2 hj2), fun z => absurd rfl z⟩)
    have gG : tkPost K b (aaF M i) (some (.int (-2))) M := ⟨_, rfl, hS, fun y => absurd y (by decide), fun _ => rf2⟩
    exact ⟨fun _ => ⟨fun z => absurd z (by decide), fun z => absurd z (by decide), fun z => absurd z (by decide), fun z => absurd z (by decide), fun _ => gG⟩, fun _ => ⟨fun _ => ⟨fun z => absurd z (by decide), fun z => absurd z (by decide), fun z => absurd z (by decide), fun z => absurd z (by decide), fun _ => gG⟩, fun _ => ⟨fun z => absurd z (by decide), fun z => absurd z (by decide), fun z => absurd z (by decide), fun z => absurd z (by decide), fun _ => gG⟩⟩⟩
  · have gG : AW E l (D + 2) 0 0 mX10_mendForBuyer 0 (zargs 2 [.ref 11, .ref (saF M s)]) [] M (fun v μ7 => ∃ r9 : Int32, v = some (.int r9) ∧ Stat μ7 ∧ tkPost K b (aaF M i) (some (.int r9)) μ7) := tk_mend (D := D + 1) hI rM hi hw hsw hs hm hV eb he hK
    exact ⟨fun _ => ⟨fun _ => gG, fun z => absurd z (by decide), fun z => absurd z (by decide), fun z => absurd z (by decide), fun z => absurd rfl z.1⟩, fun _ => ⟨fun _ => ⟨fun _ => gG, fun z => absurd z (by decide), fun z => absurd z (by decide), fun z => absurd z (by decide), fun z => absurd rfl z.1⟩, fun _ => ⟨fun _ => gG, fun z => absurd z (by decide), fun z => absurd z (by decide), fun z => absurd z (by decide), fun z => absurd rfl z.1⟩⟩⟩
  · have gG : AW E l (D + 2) 0 0 mX10_giveNewPiece 0 (zargs 2 [.ref 11, .ref (aaF M i)]) [] M (fun v μ7 => ∃ r9 : Int32, v = some (.int r9) ∧ Stat μ7 ∧ tkPost K b (aaF M i) (some (.int r9)) μ7) := tk_swap ht hI rM hi hw hsw hs hm hV eb he hK
    exact ⟨fun _ => ⟨fun z => absurd z (by decide), fun _ => gG, fun z => absurd z (by decide), fun z => absurd z (by decide), fun z => absurd rfl z.2.1⟩, fun _ => ⟨fun _ => ⟨fun z => absurd z (by decide), fun _ => gG, fun z => absurd z (by decide), fun z => absurd z (by decide), fun z => absurd rfl z.2.1⟩, fun _ => ⟨fun z => absurd z (by decide), fun _ => gG, fun z => absurd z (by decide), fun z => absurd z (by decide), fun z => absurd rfl z.2.1⟩⟩⟩
  · rw [much 3 (by decide)]
    have gG : AW E l (D + 2) 0 0 mX10_giveNote 0 (zargs 4 [.ref 11, .ref (aaF M i), .int (coF ρ s 3 e)]) [] M (fun v μ7 => ∃ r9 : Int32, v = some (.int r9) ∧ Stat μ7 ∧ tkPost K b (aaF M i) (some (.int r9)) μ7) := by
      refine tk_note (D := D + 1) hI rM hi hw hsw hs hm hV eb ho he hK (by decide) (by decide) (fun M2 Q hS2 R2 k1 k2 => ?_)
      refine t_X11_take_129 hS2 (c_t rfl (t_X11_take_175 hS2 (t_X11_take_180 hS2 (n_e (fun _ => t_X11_take_205 hS2 (c_f (by decide) ?_)) (fun z => absurd z (by decide))))))
      rw [R2 31 74 (by decide) (by decide) (by decide) (by decide) (by decide)]
      exact ⟨k2, k1⟩
    exact ⟨fun _ => ⟨fun z => absurd z (by decide), fun z => absurd z (by decide), fun _ => gG, fun z => absurd z (by decide), fun z => absurd rfl z.2.2.1⟩, fun _ => ⟨fun _ => ⟨fun z => absurd z (by decide), fun z => absurd z (by decide), fun _ => gG, fun z => absurd z (by decide), fun z => absurd rfl z.2.2.1⟩, fun _ => ⟨fun z => absurd z (by decide), fun z => absurd z (by decide), fun _ => gG, fun z => absurd z (by decide), fun z => absurd rfl z.2.2.1⟩⟩⟩
  · rw [much 4 (by decide)]
    have gN : (ρ 75 i = 0 ∨ ¬ ρ 57 s = 0) → AW E l (D + 2) 0 0 mX10_giveNote 0 (zargs 4 [.ref 11, .ref (aaF M i), .int (coF ρ s 4 e)]) [] M (fun v μ7 => ∃ r9 : Int32, v = some (.int r9) ∧ Stat μ7 ∧ tkPost K b (aaF M i) (some (.int r9)) μ7) := by
      intro hpg
      refine tk_note (D := D + 1) hI rM hi hw hsw hs hm hV eb ho he hK (by decide) (by decide) (fun M2 Q hS2 R2 k1 k2 => ?_)
      have w175 : AW E l (d + 299) 0 0 mX11_take 175 [some (.ref 31), some (.int (nI i)), some (.int (nI s)), some (.int (nI m)), some (.int (nI 4)), none, some (.int (coF ρ s 4 e)), none] [] M2 Q := by
        refine t_X11_take_175 hS2 (t_X11_take_180 hS2 (n_e (fun _ => t_X11_take_205 hS2 (c_f (by decide) ?_)) (fun z => absurd z (by decide))))
        rw [R2 31 74 (by decide) (by decide) (by decide) (by decide) (by decide)]
        exact ⟨k2, k1⟩
      refine t_X11_take_129 hS2 (c_f (by decide) (n_e (fun z => absurd rfl z) (fun _ => ⟨h3, ?_⟩)))
      rw [h4, w2, R2 75 i (by decide) (by decide) (by decide) (by decide) (by omega), R2 57 s (by decide) (by decide) (by decide) (by decide) (by omega)]
      exact ⟨fun _ => w175, fun z => ⟨w1, fun _ => w175, fun z' => absurd z' (hpg.resolve_left z)⟩⟩
    have gC : ¬ ρ 75 i = 0 → ρ 57 s = 0 → AW E l (D + 2) 0 0 mX10_giveCoins 0 (zargs 3 [.ref 11, .ref (aaF M i), .int (coF ρ s 4 e)]) [] M (fun v μ7 => ∃ r9 : Int32, v = some (.int r9) ∧ Stat μ7 ∧ tkPost K b (aaF M i) (some (.int r9)) μ7) := by
      intro hp hg
      refine tk_coins (D := D + 1) hI rM hi hw hsw hs hm hV eb ho he hK (by decide) (by decide) (by decide) (fun M2 Q hS2 R2 k1 k2 => ?_)
      refine t_X11_take_129 hS2 (c_f (by decide) (n_e (fun z => absurd rfl z) (fun _ => ⟨h3, ?_⟩)))
      rw [h4, w2, R2 75 i (by decide) (by decide) (by decide) (by decide) (by omega), R2 57 s (by decide) (by decide) (by decide) (by decide) (by omega)]
      refine c_f hp ⟨w1, n_e (fun z => absurd hg z) (fun _ => ?_)⟩
      refine t_X11_take_161 hS2 (n_e (fun _ => t_X11_take_179 hS2 (t_X11_take_180 hS2 (n_e (fun z => absurd rfl z) (fun _ => c_f (by decide) ?_)))) (fun z => absurd z (by decide)))
      rw [R2 31 2 (by decide) (by decide) (by decide) (by decide) (by decide)]
      exact ⟨fun z => t_X11_take_205 hS2 (c_t rfl (k2 z)), fun z => k1 z⟩
    have gi : ¬ ρ 57 s = 1 → ρ 57 s = 0 := fun z => d9.resolve_right z
    have gi' : ρ 57 s = 1 → ¬ ρ 57 s = 0 := fun z => by rw [z]; decide
    exact ⟨fun y => ⟨fun z => absurd z (by decide), fun z => absurd z (by decide), fun z => absurd z (by decide), fun _ => gN (Or.inl y), fun z => absurd rfl z.2.2.2⟩, fun y => ⟨fun y' => ⟨fun z => absurd z (by decide), fun z => absurd z (by decide), fun z => absurd z (by decide), fun _ => gC y (gi y'), fun z => absurd rfl z.2.2.2⟩, fun y' => ⟨fun z => absurd z (by decide), fun z => absurd z (by decide), fun z => absurd z (by decide), fun _ => gN (Or.inr (gi' y')), fun z => absurd rfl z.2.2.2⟩⟩⟩
theorem pr_take {μ : ZM} (ht : t ≤ 100000) (hI : IV g L X t μ) : PRp E l d L X t mX10_take mX11_take [some (.ref 11), some (.int x1), none, none, none] [some (.ref 31), some (.int x1), none, none, none, none, none, none] μ := by
  obtain ⟨ρ, hρ⟩ : ∃ ρ, rf μ = ρ := ⟨_, rfl⟩
  have hS := hI.st
  have hr := hI.r hρ
  have hc := hI.c hρ
  have R : ∀ a j, 31 ≤ a → a < 88 → zI μ a j = ρ a j := fun a j h1 h2 => rfz hρ h1 h2
  obtain ⟨s1, s2, s3, s4, s5, s6, s7, s8, s9, s10, s11⟩ := hc.s
  obtain ⟨b1, b2, b3, b4, b5, b6, b7, b8⟩ := hr.s
  have hU : IV g L X (t + 1) μ := hI.up (Nat.le_succ t)
  refine PRp.mk fun K hK => ?_
  rcases ix3 x1 (n := nA ρ) (by have := b4.2; omega) with h | ⟨h, h'⟩ | ⟨i, hi, rfl⟩
  · refine t_X10_take hS ?_
    simp (disch := omega) only [h, true_implies, false_implies, implies_true, not_true_eq_false, not_false_eq_true, and_true, true_and, Option.some.injEq, reduceCtorEq, forall_eq', forall_eq]
    refine hK _ _ hS hI.s0 fun Q hQ => t_X11_take hS ?_
    simp (disch := omega) only [h, R, true_implies, false_implies, implies_true, not_true_eq_false, not_false_eq_true, and_true, true_and, Option.some.injEq, reduceCtorEq, forall_eq', forall_eq]
    exact hQ _ _ hU
  · rw [← b4.1] at h'
    refine t_X10_take hS ?_
    simp (disch := omega) only [h, h', s4, true_implies, false_implies, implies_true, not_true_eq_false, not_false_eq_true, and_true, true_and, Option.some.injEq, reduceCtorEq, forall_eq', forall_eq]
    refine hK _ _ hS hI.s0 fun Q hQ => t_X11_take hS ?_
    simp (disch := omega) only [h, h', R, true_implies, false_implies, implies_true, not_true_eq_false, not_false_eq_true, and_true, true_and, Option.some.injEq, reduceCtorEq, forall_eq', forall_eq]
    exact hQ _ _ hU
  · have b200 := b4.2
    have h1 : ¬ nI i < 0 := nI_pos (by omega)
    have h2 := ix_lt (by omega) hi
    have h3 : vp_in (nI i) 200 := vp_in_nI (by omega) (by decide)
    have h4 : (nI i).toNatClampNeg = i := nI_clamp (by omega)
    rw [← b4.1] at h2
    obtain ⟨e1, e2, e3, e4, e5, e6, e7, e8, e9, e10, e11, e12, e13, e14, e15, e16, e17, e18, e19, e20⟩ := hc.a hi
    obtain ⟨f1, f2, f3, f4, f5, f6, f7, f8, f9, f10, f11⟩ := hr.a hi
    by_cases y1 : ρ 82 i = 0
    · by_cases y2 : ρ 80 i = 0
      · obtain ⟨b, sd, w, hV⟩ := jV_ex hr hi (ρ 76 i)
        refine t_X10_take hS ?_
        simp (disch := omega) only [h1, h2, h3, h4, s4, e1, e4, e7, e16, e18, y1, y2, true_implies, false_implies, implies_true, not_true_eq_false, not_false_eq_true, and_true, true_and, Option.some.injEq, reduceCtorEq, forall_eq', forall_eq]
        refine c_judgeV hI hρ hi hV (fun M IM rM hxM hjM q2 q3 q4 q5 q6 vb vw => ⟨rfl, IM.st, ?_⟩)
        rw [q2]
        have eA : aaF μ i = aaF M i := by
          unfold aaF
          rw [hxM.2.2.2.1 15 i (by have := hS.N; omega) (fun z => z)]
        rw [eA]
        obtain ⟨o, e, ho, he, eb⟩ := vb
        have a1 : b / 1000 = nI o := by
          rw [eb, show (1000 : Int32) = nI 1000 from rfl, pk_div (by omega) (by decide) (by decide)]
          congr 1
          omega
        have a2 : b - nI o * 1000 = nI e := by
          rw [← a1, eb, show (1000 : Int32) = nI 1000 from rfl, pk_rem (by omega) (by decide) (by decide)]
          congr 1
          omega
        rw [a1, a2]
        exact tk_tail (D := d + 295) ht IM rM hi y1 y2 rfl rfl hV eb ho he hK
      · refine t_X10_take hS ?_
        simp (disch := omega) only [h1, h2, h3, h4, y1, y2, s4, e1, e4, e16, e18, true_implies, false_implies, implies_true, not_true_eq_false, not_false_eq_true, and_true, true_and, Option.some.injEq, reduceCtorEq, forall_eq', forall_eq]
        refine hK _ _ hS hI.s0 fun Q hQ => t_X11_take hS ?_
        simp (disch := omega) only [h1, h2, h3, h4, y1, y2, R, true_implies, false_implies, implies_true, not_true_eq_false, not_false_eq_true, and_true, true_and, Option.some.injEq, reduceCtorEq, forall_eq', forall_eq]
        exact hQ _ _ hU
    · refine t_X10_take hS ?_
      simp (disch := omega) only [h1, h2, h3, h4, y1, s4, e1, e4, e18, true_implies, false_implies, implies_true, not_true_eq_false, not_false_eq_true, and_true, true_and, Option.some.injEq, reduceCtorEq, forall_eq', forall_eq]
      refine hK _ _ hS hI.s0 fun Q hQ => t_X11_take hS ?_
      simp (disch := omega) only [h1, h2, h3, h4, y1, R, true_implies, false_implies, implies_true, not_true_eq_false, not_false_eq_true, and_true, true_and, Option.some.injEq, reduceCtorEq, forall_eq', forall_eq]
      exact hQ _ _ hU
end TakeQ
