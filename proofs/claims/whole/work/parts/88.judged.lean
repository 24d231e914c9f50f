/-! judged, ofAsking -/
def jV (g : Gh) (ρ : RV) (a : Nat) (x : Int32) (b sd w : Int32) : Prop := ∃ d0 nd f0 nf w0 nw o0 no, AB ρ a d0 nd f0 nf w0 nw o0 no ∧ (jL (jP g ρ (as_ ρ a) x (ρ 75 a) (ρ 76 a)) d0 (nd + 1) f0 (nf + 1) w0 (nw + 1) o0 (no + 1)).foldl (hear (tN (ρ 56 (as_ ρ a)))) none = some (b, sd, w)
theorem jV_ex {g : Gh} {t : Nat} {ρ : RV} {a : Nat} (hr : RIg g t ρ) (ha : a < nA ρ) (x : Int32) : ∃ b sd w, jV g ρ a x b sd w := by
  obtain ⟨d0, nd, f0, nf, w0, nw, o0, no, hB⟩ := AB_of hr ha
  obtain ⟨b, sd, w, hJ⟩ := jL_some (P := tN (ρ 56 (as_ ρ a))) (F := jP g ρ (as_ ρ a) x (ρ 75 a) (ρ 76 a)) (d0 := d0) (nd := nd) (f0 := f0) (nf := nf) (w0 := w0) (nw := nw) (o0 := o0) (no := no)
  exact ⟨b, sd, w, d0, nd, f0, nf, w0, nw, o0, no, hB, hJ⟩
section JudgedP
variable {E : ZE} {l : Launch} {d nc ns : Nat} {g : Gh} {L : Nat} {X : Nat → Int32} {t : Nat} {μ : ZM} {ρ : RV} {K : Option Value → ZM → Prop} {a : Nat} {x x1 x2 x3 b sd w : Int32}
theorem c_judgeV (hI : IV g L X t μ) (hρ : rf μ = ρ) (ha : a < nA ρ) (hV : jV g ρ a x b sd w) (k : ∀ M, IV g L X t M → rf M = ρ → EqX μ M (fun b _ => 22 ≤ b ∧ b ≤ 29) (fun _ _ => False) → (∀ j, zJ M 86 j = zJ μ 86 j) → zI M 29 2 = b → zI M 29 3 = nI (wW (tN (ρ 56 (as_ ρ a))) b) → zI M 29 4 = sd → zI M 29 5 = w → zI M 29 6 = nI (wW (tN (ρ 56 (as_ ρ a))) w) → vok b → vok w → K none M) : AW E l (d + 5) nc ns mX10_judge 0 (zargs 13 [.ref 11, .ref (aaF μ a), .int x]) [] μ K := by
  obtain ⟨d0, nd, f0, nf, w0, nw, o0, no, hB, hJ⟩ := hV
  refine c_judge hI hρ ha hB (fun M hSM hxM hjM hJM => ?_)
  rw [hJ] at hJM
  obtain ⟨-, -, j2, j3, j4, j5, j6, vb, vw⟩ := hJM
  obtain ⟨IM, rM⟩ := hI.csc hρ hxM hjM hSM
  exact k M IM rM hxM hjM j2 j3 j4 j5 j6 vb vw
theorem r_findV (hS : Stat μ) (hr : RIg g t ρ) (hρ : rf μ = ρ) (ha : a < nA ρ) (hV : jV g ρ a x b sd w) (k : ∀ M, Stat M → EqX μ M (fun b j => b = 72 ∨ b = 73 ∨ (b = 31 ∧ 76 ≤ j ∧ j ≤ 78)) (fun _ _ => False) → (∀ j, zJ M 86 j = zJ μ 86 j) → (∀ a j, 31 ≤ a → a < 88 → a ≠ 72 → a ≠ 73 → (a = 31 → j < 76) → zI M a j = ρ a j) → zI M 31 76 = b → zI M 31 78 = sd → zI M 31 77 = w → vok b → vok w → K none M) : AW E l (d + 3) nc ns mX11_find 0 (zargs 13 [.ref 31, .int (nI a), .int x]) [] μ K := by
  obtain ⟨d0, nd, f0, nf, w0, nw, o0, no, hB, hJ⟩ := hV
  refine r_find hS hr (fun b j _ _ _ => by rw [hρ]) ha hB (fun M hSM hxM hjM hJM => ?_)
  rw [hJ] at hJM
  obtain ⟨j1, j2, j3, vb, vw⟩ := hJM
  have h88 := hS.N
  exact k M hSM hxM hjM (fun a j h1 h2 h3 h4 h5 => by rw [hxM.2.2.1 a j (by omega) (by omega)]; exact rfz hρ h1 h2) j1 j2 j3 vb vw
end JudgedP
section JudgedQ
variable {E : ZE} {l : Launch} {d : Nat} {g : Gh} {L : Nat} {X : Nat → Int32} {t : Nat} {μ : ZM} {x1 x2 x3 : Int32}
theorem pr_judged (hI : IV g L X t μ) : PRp E l d L X t mX10_judged mX11_judged [some (.ref 11), some (.int x1), some (.int x2), some (.int x3), none] [some (.ref 31), some (.int x1), some (.int x2), some (.int x3)] μ := by
  obtain ⟨ρ, hρ⟩ : ∃ ρ, rf μ = ρ := ⟨_, rfl⟩
  have hS := hI.st
  have hr := hI.r hρ
  have hc := hI.c hρ
  have R : ∀ a j, 31 ≤ a → a < 88 → zI μ a j = ρ a j := fun a j h1 h2 => rfz hρ h1 h2
  obtain ⟨s1, s2, s3, s4, s5, s6, s7, s8, s9, s10, s11⟩ := hc.s
  obtain ⟨b1, b2, b3, b4, b5, b6, b7, b8⟩ := hr.s
  have hU : IV g L X (t + 1) μ := hI.up (Nat.le_succ t)
  refine PRp.mk fun K hK => ?_
  rcases ix3 x1 (n := nA ρ) (by have := b4.2; omega) with h | ⟨h, h'⟩ | ⟨i, hi, rfl⟩
  · refine t_X10_judged hS ?_
    simp (disch := omega) only [h, true_implies, false_implies, implies_true, not_true_eq_false, not_false_eq_true, and_true, true_and, Option.some.injEq, reduceCtorEq, forall_eq', forall_eq]
    refine hK _ _ hS hI.s0 fun Q hQ => t_X11_judged hS ?_
    simp (disch := omega) only [h, R, true_implies, false_implies, implies_true, not_true_eq_false, not_false_eq_true, and_true, true_and, Option.some.injEq, reduceCtorEq, forall_eq', forall_eq]
    exact hQ _ _ hU
  · rw [← b4.1] at h'
    refine t_X10_judged hS ?_
    simp (disch := omega) only [h, h', s4, true_implies, false_implies, implies_true, not_true_eq_false, not_false_eq_true, and_true, true_and, Option.some.injEq, reduceCtorEq, forall_eq', forall_eq]
    refine hK _ _ hS hI.s0 fun Q hQ => t_X11_judged hS ?_
    simp (disch := omega) only [h, h', R, true_implies, false_implies, implies_true, not_true_eq_false, not_false_eq_true, and_true, true_and, Option.some.injEq, reduceCtorEq, forall_eq', forall_eq]
    exact hQ _ _ hU
  · have b200 := b4.2
    have h1 : ¬ nI i < 0 := nI_pos (by omega)
    have h2 := ix_lt (by omega) hi
    have h3 : vp_in (nI i) 200 := vp_in_nI (by omega) (by decide)
    have h4 : (nI i).toNatClampNeg = i := nI_clamp (by omega)
    rw [← b4.1] at h2
    obtain ⟨e1, e2, e3, e4, e5, e6, e7, e8, e9, e10, e11, e12, e13, e14, e15, e16, e17, e18, e19, e20⟩ := hc.a hi
    obtain ⟨f1, f2, f3, f4, f5, f6, f7, f8, f9, f10, f11⟩ := hr.a hi
    by_cases y1 : x2 < 0
    · refine t_X10_judged hS ?_
      simp (disch := omega) only [h1, h2, h3, h4, y1, s4, e1, true_implies, false_implies, implies_true, not_true_eq_false, not_false_eq_true, and_true, true_and, Option.some.injEq, reduceCtorEq, forall_eq', forall_eq]
      refine hK _ _ hS hI.s0 fun Q hQ => t_X11_judged hS ?_
      simp (disch := omega) only [h1, h2, h3, h4, y1, R, true_implies, false_implies, implies_true, not_true_eq_false, not_false_eq_true, and_true, true_and, Option.some.injEq, reduceCtorEq, forall_eq', forall_eq]
      exact hQ _ _ hU
    by_cases y2 : 2999 < x2
    · refine t_X10_judged hS ?_
      simp (disch := omega) only [h1, h2, h3, h4, y1, y2, s4, e1, true_implies, false_implies, implies_true, not_true_eq_false, not_false_eq_true, and_true, true_and, Option.some.injEq, reduceCtorEq, forall_eq', forall_eq]
      refine hK _ _ hS hI.s0 fun Q hQ => t_X11_judged hS ?_
      simp (disch := omega) only [h1, h2, h3, h4, y1, y2, R, true_implies, false_implies, implies_true, not_true_eq_false, not_false_eq_true, and_true, true_and, Option.some.injEq, reduceCtorEq, forall_eq', forall_eq]
      exact hQ _ _ hU
    by_cases y3 : x3 < 0
    · refine t_X10_judged hS ?_
      simp (disch := omega) only [h1, h2, h3, h4, y1, y2, y3, s4, e1, true_implies, false_implies, implies_true, not_true_eq_false, not_false_eq_true, and_true, true_and, Option.some.injEq, reduceCtorEq, forall_eq', forall_eq]
      refine hK _ _ hS hI.s0 fun Q hQ => t_X11_judged hS ?_
      simp (disch := omega) only [h1, h2, h3, h4, y1, y2, y3, R, true_implies, false_implies, implies_true, not_true_eq_false, not_false_eq_true, and_true, true_and, Option.some.injEq, reduceCtorEq, forall_eq', forall_eq]
      exact hQ _ _ hU
    by_cases y4 : 1 < x3
    · refine t_X10_judged hS ?_
      simp (disch := omega) only [h1, h2, h3, h4, y1, y2, y3, y4, s4, e1, true_implies, false_implies, implies_true, not_true_eq_false, not_false_eq_true, and_true, true_and, Option.some.injEq, reduceCtorEq, forall_eq', forall_eq]
      refine hK _ _ hS hI.s0 fun Q hQ => t_X11_judged hS ?_
      simp (disch := omega) only [h1, h2, h3, h4, y1, y2, y3, y4, R, true_implies, false_implies, implies_true, not_true_eq_false, not_false_eq_true, and_true, true_and, Option.some.injEq, reduceCtorEq, forall_eq', forall_eq]
      exact hQ _ _ hU
    obtain ⟨b, sd, w, hV⟩ := jV_ex hr hi x2
    refine t_X10_judged hS ?_
    simp (disch := omega) only [h1, h2, h3, h4, s4, e1, y1, y2, y3, y4, true_implies, false_implies, implies_true, not_true_eq_false, not_false_eq_true, and_true, true_and, Option.some.injEq, reduceCtorEq, forall_eq', forall_eq]
    refine c_judgeV hI hρ hi hV (fun M IM rM hxM hjM q2 q3 q4 q5 q6 vb vw => ⟨rfl, IM.st, ?_⟩)
    have RM : ∀ a j, 31 ≤ a → a < 88 → zI M a j = ρ a j := fun a j h1 h2 => rfz rM h1 h2
    rw [q2, q5]
    have fin : ∀ (Q : Option Value → ZM → Prop), ((¬ x3 = 0 → ∀ (g' : Gh) (μ2 : ZM), IV g' L X (t + 1) μ2 → Q (some (.int w)) μ2) ∧ (x3 = 0 → ∀ (g' : Gh) (μ2 : ZM), IV g' L X (t + 1) μ2 → Q (some (.int b)) μ2)) → AW E l (d + 299) 0 0 mX11_judged 0 [some (.ref 31), some (.int (nI i)), some (.int x2), some (.int x3)] [] M Q := by
      intro Q hQ
      refine t_X11_judged IM.st ?_
      simp (disch := omega) only [h1, h2, y1, y2, y3, y4, RM, true_implies, false_implies, implies_true, not_true_eq_false, not_false_eq_true, and_true, true_and, Option.some.injEq, reduceCtorEq, forall_eq', forall_eq]
      refine r_findV IM.st hr rM hi hV (fun M2 hS2 hx2 hj2 R2 p1 p2 p3 _ _ => ⟨rfl, hS2, ?_⟩)
      rw [p1, p3]
      exact ⟨fun z => hQ.1 z g _ (IM.endR rM hx2 hS2 hj2), fun z => hQ.2 z g _ (IM.endR rM hx2 hS2 hj2)⟩
    refine ⟨fun z => hK _ _ IM.st IM.s0 fun Q hQ => fin Q ⟨fun _ => hQ, fun z' => absurd z' z⟩, fun z => hK _ _ IM.st IM.s0 fun Q hQ => fin Q ⟨fun z' => absurd z z', fun _ => hQ⟩⟩
theorem pr_ofAsking (hI : IV g L X t μ) : PRp E l d L X t mX10_ofAsking mX11_ofAsking [some (.ref 11), some (.int x1), some (.int x2), none] [some (.ref 31), some (.int x1), some (.int x2)] μ := by
  obtain ⟨ρ, hρ⟩ : ∃ ρ, rf μ = ρ := ⟨_, rfl⟩
  have hS := hI.st
  have hr := hI.r hρ
  have hc := hI.c hρ
  have R : ∀ a j, 31 ≤ a → a < 88 → zI μ a j = ρ a j := fun a j h1 h2 => rfz hρ h1 h2
  obtain ⟨s1, s2, s3, s4, s5, s6, s7, s8, s9, s10, s11⟩ := hc.s
  obtain ⟨b1, b2, b3, b4, b5, b6, b7, b8⟩ := hr.s
  have hU : IV g L X (t + 1) μ := hI.up (Nat.le_succ t)
  refine PRp.mk fun K hK => ?_
  rcases ix3 x1 (n := nA ρ) (by have := b4.2; omega) with h | ⟨h, h'⟩ | ⟨i, hi, rfl⟩
  · refine t_X10_ofAsking hS ?_
    simp (disch := omega) only [h, true_implies, false_implies, implies_true, not_true_eq_false, not_false_eq_true, and_true, true_and, Option.some.injEq, reduceCtorEq, forall_eq', forall_eq]
    refine hK _ _ hS hI.s0 fun Q hQ => t_X11_ofAsking hS ?_
    simp (disch := omega) only [h, R, true_implies, false_implies, implies_true, not_true_eq_false, not_false_eq_true, and_true, true_and, Option.some.injEq, reduceCtorEq, forall_eq', forall_eq]
    exact hQ _ _ hU
  · rw [← b4.1] at h'
    refine t_X10_ofAsking hS ?_
    simp (disch := omega) only [h, h', s4, true_implies, false_implies, implies_true, not_true_eq_false, not_false_eq_true, and_true, true_and, Option.some.injEq, reduceCtorEq, forall_eq', forall_eq]
    refine hK _ _ hS hI.s0 fun Q hQ => t_X11_ofAsking hS ?_
    simp (disch := omega) only [h, h', R, true_implies, false_implies, implies_true, not_true_eq_false, not_false_eq_true, and_true, true_and, Option.some.injEq, reduceCtorEq, forall_eq', forall_eq]
    exact hQ _ _ hU
  · have b200 := b4.2
    have h1 : ¬ nI i < 0 := nI_pos (by omega)
    have h2 := ix_lt (by omega) hi
    have h3 : vp_in (nI i) 200 := vp_in_nI (by omega) (by decide)
    have h4 : (nI i).toNatClampNeg = i := nI_clamp (by omega)
    rw [← b4.1] at h2
    obtain ⟨e1, e2, e3, e4, e5, e6, e7, e8, e9, e10, e11, e12, e13, e14, e15, e16, e17, e18, e19, e20⟩ := hc.a hi
    obtain ⟨f1, f2, f3, f4, f5, f6, f7, f8, f9, f10, f11⟩ := hr.a hi
    have out : (x2 < 0 ∨ 9 < x2) → (¬ x2 = 0 ∧ ¬ x2 = 1 ∧ ¬ x2 = 2 ∧ ¬ x2 = 3 ∧ ¬ x2 = 4 ∧ ¬ x2 = 5 ∧ ¬ x2 = 6 ∧ ¬ x2 = 7 ∧ ¬ x2 = 8 ∧ ¬ x2 = 9) := by
      intro z
      refine ⟨?_, ?_, ?_, ?_, ?_, ?_, ?_, ?_, ?_, ?_⟩ <;> (rintro rfl; exact absurd z (by decide))
    by_cases y1 : x2 < 0
    · obtain ⟨n1, n2, n3, n4, n5, n6, n7, n8, n9, n10⟩ := out (Or.inl y1)
      refine t_X10_ofAsking hS ?_
      simp (disch := omega) only [h1, h2, h3, h4, y1, n1, n2, n3, n4, n5, n6, n7, n8, n9, n10, s4, e1, true_implies, false_implies, implies_true, not_true_eq_false, not_false_eq_true, and_true, true_and, Option.some.injEq, reduceCtorEq, forall_eq', forall_eq]
      refine hK _ _ hS hI.s0 fun Q hQ => t_X11_ofAsking hS ?_
      simp (disch := omega) only [h1, h2, h3, h4, y1, n1, n2, n3, n4, n5, n6, n7, n8, n9, n10, R, true_implies, false_implies, implies_true, not_true_eq_false, not_false_eq_true, and_true, true_and, Option.some.injEq, reduceCtorEq, forall_eq', forall_eq]
      exact hQ _ _ hU
    by_cases y2 : 9 < x2
    · obtain ⟨n1, n2, n3, n4, n5, n6, n7, n8, n9, n10⟩ := out (Or.inr y2)
      refine t_X10_ofAsking hS ?_
      simp (disch := omega) only [h1, h2, h3, h4, y1, y2, n1, n2, n3, n4, n5, n6, n7, n8, n9, n10, s4, e1, true_implies, false_implies, implies_true, not_true_eq_false, not_false_eq_true, and_true, true_and, Option.some.injEq, reduceCtorEq, forall_eq', forall_eq]
      refine hK _ _ hS hI.s0 fun Q hQ => t_X11_ofAsking hS ?_
      simp (disch := omega) only [h1, h2, h3, h4, y1, y2, n1, n2, n3, n4, n5, n6, n7, n8, n9, n10, R, true_implies, false_implies, implies_true, not_true_eq_false, not_false_eq_true, and_true, true_and, Option.some.injEq, reduceCtorEq, forall_eq', forall_eq]
      exact hQ _ _ hU
    obtain ⟨b, sd, w, hV⟩ := jV_ex hr hi (ρ 76 i)
    have b300 := b3.2
    obtain ⟨s, hs⟩ : ∃ s, s = as_ ρ i := ⟨_, rfl⟩
    have w1 : vp_in (nI s) 300 := vp_in_nI (by omega) (by decide)
    have w2 : (nI s).toNatClampNeg = s := nI_clamp (by omega)
    have d8 : rng (ρ 56 s) 0 99999 := by rw [hs]; exact (hr.sa f2).2.2.2.2.2.2.2.1
    obtain ⟨p1, p2, p3⟩ := rng_of d8 (by decide)
    obtain ⟨P, eP⟩ : ∃ P, P = tN (ρ 56 s) := ⟨_, rfl⟩
    rw [← eP] at p1 p2
    obtain ⟨c1, c2, c3, c4, c5, c6, c7, c8, c9, c10, c11, c12, c13, c14, c15, c16, c17, c18, c19, c20, c21, c22, c23⟩ := hc.sa f2
    rw [← hs] at e5 f1 f2 c4 c5
    obtain ⟨f, hf, rfl⟩ : ∃ f, f ≤ 9 ∧ x2 = nI f := nI_of2 (M := 9) (by decide) y1 (Int32.not_lt.mp y2)
    have hf10 : f = 0 ∨ f = 1 ∨ f = 2 ∨ f = 3 ∨ f = 4 ∨ f = 5 ∨ f = 6 ∨ f = 7 ∨ f = 8 ∨ f = 9 := by omega
    have n10 : ¬ (1 : Int32) = 0 := by decide
    -- cells told as they stand
    rcases hf10 with rfl | rfl | rfl | rfl | rfl | rfl | rfl | rfl | rfl | rfl
    · refine t_X10_ofAsking hS ?_
      simp +decide (disch := omega) only [h1, h2, h3, h4, s4, e1, true_implies, false_implies, implies_true, not_true_eq_false, not_false_eq_true, and_true, true_and, Option.some.injEq, reduceCtorEq, forall_eq', forall_eq]
      refine t_X10_ofAsking_43 hS ?_
      simp +decide (disch := omega) only [f1, e4, e5, c4, c5, true_implies, false_implies, implies_true, not_true_eq_false, not_false_eq_true, and_true, true_and, Option.some.injEq, reduceCtorEq, forall_eq', forall_eq]
      refine hK _ _ hS hI.s0 fun Q hQ => t_X11_ofAsking hS ?_
      simp +decide (disch := omega) only [h1, h2, h3, h4, R, f1, e4, e5, c4, c5, true_implies, false_implies, implies_true, not_true_eq_false, not_false_eq_true, and_true, true_and, Option.some.injEq, reduceCtorEq, forall_eq', forall_eq]
      exact hQ _ _ hU
    · refine t_X10_ofAsking hS ?_
      simp +decide (disch := omega) only [h1, h2, h3, h4, s4, e1, true_implies, false_implies, implies_true, not_true_eq_false, not_false_eq_true, and_true, true_and, Option.some.injEq, reduceCtorEq, forall_eq', forall_eq]
      refine t_X10_ofAsking_43 hS ?_
      simp +decide (disch := omega) only [e4, e6, true_implies, false_implies, implies_true, not_true_eq_false, not_false_eq_true, and_true, true_and, Option.some.injEq, reduceCtorEq, forall_eq', forall_eq]
      refine hK _ _ hS hI.s0 fun Q hQ => t_X11_ofAsking hS ?_
      simp +decide (disch := omega) only [h1, h2, h3, h4, R, e4, e6, true_implies, false_implies, implies_true, not_true_eq_false, not_false_eq_true, and_true, true_and, Option.some.injEq, reduceCtorEq, forall_eq', forall_eq]
      exact hQ _ _ hU
    · refine t_X10_ofAsking hS ?_
      simp +decide (disch := omega) only [h1, h2, h3, h4, s4, e1, true_implies, false_implies, implies_true, not_true_eq_false, not_false_eq_true, and_true, true_and, Option.some.injEq, reduceCtorEq, forall_eq', forall_eq]
      refine t_X10_ofAsking_43 hS ?_
      simp +decide (disch := omega) only [e4, e7, true_implies, false_implies, implies_true, not_true_eq_false, not_false_eq_true, and_true, true_and, Option.some.injEq, reduceCtorEq, forall_eq', forall_eq]
      refine hK _ _ hS hI.s0 fun Q hQ => t_X11_ofAsking hS ?_
      simp +decide (disch := omega) only [h1, h2, h3, h4, R, e4, e7, true_implies, false_implies, implies_true, not_true_eq_false, not_false_eq_true, and_true, true_and, Option.some.injEq, reduceCtorEq, forall_eq', forall_eq]
      exact hQ _ _ hU
    · refine t_X10_ofAsking hS ?_
      simp +decide (disch := omega) only [h1, h2, h3, h4, s4, e1, true_implies, false_implies, implies_true, not_true_eq_false, not_false_eq_true, and_true, true_and, Option.some.injEq, reduceCtorEq, forall_eq', forall_eq]
      refine t_X10_ofAsking_34 hS ⟨e4, ?_⟩
      rw [e7]
      refine c_judgeV hI hρ hi hV (fun M IM rM hxM hjM q2 q3 q4 q5 q6 vb vw => ⟨rfl, IM.st, ?_⟩)
      have RM : ∀ a j, 31 ≤ a → a < 88 → zI M a j = ρ a j := fun a j h1 h2 => rfz rM h1 h2
      refine t_X10_ofAsking_43 IM.st ?_
      rw [← hs, ← eP] at q3 q6
      have bb := wW_le (P := P) (by omega) vb
      have bw := wW_le (P := P) (by omega) vw
      have eqq : (nI (wW P b) = nI (wW P w)) = (wW P b = wW P w) := by rw [nI_eq (by omega) (by omega)]
      simp +decide (disch := omega) only [q3, q6, eqq, true_implies, false_implies, implies_true, not_true_eq_false, not_false_eq_true, and_true, true_and, Option.some.injEq, reduceCtorEq, forall_eq', forall_eq]
      have fin : ∀ (r : Int32), (wW P b = wW P w → r = 0) → (¬ wW P b = wW P w → r = 1) → K (some (.int r)) M := by
        intro r r0 r1
        refine hK _ _ IM.st IM.s0 fun Q hQ => t_X11_ofAsking IM.st ?_
        simp +decide (disch := omega) only [h1, h2, h3, h4, RM, true_implies, false_implies, implies_true, not_true_eq_false, not_false_eq_true, and_true, true_and, Option.some.injEq, reduceCtorEq, forall_eq', forall_eq]
        refine r_findV IM.st hr rM hi hV (fun M2 hS2 hx2 hj2 R2 p1' p2' p3' _ _ => ⟨rfl, hS2, ?_⟩)
        simp (disch := omega) only [R2, p1', p3', f1, w1, w2, true_implies, false_implies, implies_true, not_true_eq_false, not_false_eq_true, and_true, true_and, Option.some.injEq, reduceCtorEq, forall_eq', forall_eq]
        rw [p1]
        refine r_worthOf hS2 (by omega) vb ⟨_, rfl, hS2, ?_⟩
        simp (disch := omega) only [R2, p1', p3', f1, w1, w2, true_implies, false_implies, implies_true, not_true_eq_false, not_false_eq_true, and_true, true_and, Option.some.injEq, reduceCtorEq, forall_eq', forall_eq]
        rw [p1]
        refine r_worthOf hS2 (by omega) vw ⟨_, rfl, hS2, ?_⟩
        rw [eqq]
        refine ⟨fun z => ?_, fun z => ?_⟩
        · rw [← r0 z]
          exact hQ g _ (IM.endR rM hx2 hS2 hj2)
        · rw [← r1 z]
          exact hQ g _ (IM.endR rM hx2 hS2 hj2)
      exact ⟨fun z => fin 0 (fun _ => rfl) (fun z' => absurd z z'), fun z => fin 1 (fun z' => absurd z' z) (fun _ => rfl)⟩
    · rcases f9 with z | z
      · refine t_X10_ofAsking hS ?_
        simp +decide (disch := omega) only [h1, h2, h3, h4, s4, e1, true_implies, false_implies, implies_true, not_true_eq_false, not_false_eq_true, and_true, true_and, Option.some.injEq, reduceCtorEq, forall_eq', forall_eq]
        refine t_X10_ofAsking_43 hS ?_
        simp +decide (disch := omega) only [e4, e16, z, true_implies, false_implies, implies_true, not_true_eq_false, not_false_eq_true, and_true, true_and, Option.some.injEq, reduceCtorEq, forall_eq', forall_eq]
        refine hK _ _ hS hI.s0 fun Q hQ => t_X11_ofAsking hS ?_
        simp +decide (disch := omega) only [h1, h2, h3, h4, R, e4, e16, z, true_implies, false_implies, implies_true, not_true_eq_false, not_false_eq_true, and_true, true_and, Option.some.injEq, reduceCtorEq, forall_eq', forall_eq]
        exact hQ _ _ hU
      · refine t_X10_ofAsking hS ?_
        simp +decide (disch := omega) only [h1, h2, h3, h4, s4, e1, true_implies, false_implies, implies_true, not_true_eq_false, not_false_eq_true, and_true, true_and, Option.some.injEq, reduceCtorEq, forall_eq', forall_eq]
        refine t_X10_ofAsking_43 hS ?_
        simp +decide (disch := omega) only [e4, e16, z, n10, true_implies, false_implies, implies_true, not_true_eq_false, not_false_eq_true, and_true, true_and, Option.some.injEq, reduceCtorEq, forall_eq', forall_eq]
        refine hK _ _ hS hI.s0 fun Q hQ => t_X11_ofAsking hS ?_
        simp +decide (disch := omega) only [h1, h2, h3, h4, R, e4, e16, z, n10, true_implies, false_implies, implies_true, not_true_eq_false, not_false_eq_true, and_true, true_and, Option.some.injEq, reduceCtorEq, forall_eq', forall_eq]
        exact hQ _ _ hU
    · rcases f10 with z | z
      · refine t_X10_ofAsking hS ?_
        simp +decide (disch := omega) only [h1, h2, h3, h4, s4, e1, true_implies, false_implies, implies_true, not_true_eq_false, not_false_eq_true, and_true, true_and, Option.some.injEq, reduceCtorEq, forall_eq', forall_eq]
        refine t_X10_ofAsking_43 hS ?_
        simp +decide (disch := omega) only [e4, e17, z, true_implies, false_implies, implies_true, not_true_eq_false, not_false_eq_true, and_true, true_and, Option.some.injEq, reduceCtorEq, forall_eq', forall_eq]
        refine hK _ _ hS hI.s0 fun Q hQ => t_X11_ofAsking hS ?_
        simp +decide (disch := omega) only [h1, h2, h3, h4, R, e4, e17, z, true_implies, false_implies, implies_true, not_true_eq_false, not_false_eq_true, and_true, true_and, Option.some.injEq, reduceCtorEq, forall_eq', forall_eq]
        exact hQ _ _ hU
      · refine t_X10_ofAsking hS ?_
        simp +decide (disch := omega) only [h1, h2, h3, h4, s4, e1, true_implies, false_implies, implies_true, not_true_eq_false, not_false_eq_true, and_true, true_and, Option.some.injEq, reduceCtorEq, forall_eq', forall_eq]
        refine t_X10_ofAsking_43 hS ?_
        simp +decide (disch := omega) only [e4, e17, z, n10, true_implies, false_implies, implies_true, not_true_eq_false, not_false_eq_true, and_true, true_and, Option.some.injEq, reduceCtorEq, forall_eq', forall_eq]
        refine hK _ _ hS hI.s0 fun Q hQ => t_X11_ofAsking hS ?_
        simp +decide (disch := omega) only [h1, h2, h3, h4, R, e4, e17, z, n10, true_implies, false_implies, implies_true, not_true_eq_false, not_false_eq_true, and_true, true_and, Option.some.injEq, reduceCtorEq, forall_eq', forall_eq]
        exact hQ _ _ hU
    · refine t_X10_ofAsking hS ?_
      simp +decide (disch := omega) only [h1, h2, h3, h4, s4, e1, true_implies, false_implies, implies_true, not_true_eq_false, not_false_eq_true, and_true, true_and, Option.some.injEq, reduceCtorEq, forall_eq', forall_eq]
      refine t_X10_ofAsking_43 hS ?_
      simp +decide (disch := omega) only [e4, e18, true_implies, false_implies, implies_true, not_true_eq_false, not_false_eq_true, and_true, true_and, Option.some.injEq, reduceCtorEq, forall_eq', forall_eq]
      refine hK _ _ hS hI.s0 fun Q hQ => t_X11_ofAsking hS ?_
      simp +decide (disch := omega) only [h1, h2, h3, h4, R, e4, e18, true_implies, false_implies, implies_true, not_true_eq_false, not_false_eq_true, and_true, true_and, Option.some.injEq, reduceCtorEq, forall_eq', forall_eq]
      exact hQ _ _ hU
    · refine t_X10_ofAsking hS ?_
      simp +decide (disch := omega) only [h1, h2, h3, h4, s4, e1, true_implies, false_implies, implies_true, not_true_eq_false, not_false_eq_true, and_true, true_and, Option.some.injEq, reduceCtorEq, forall_eq', forall_eq]
      refine t_X10_ofAsking_43 hS ?_
      simp +decide (disch := omega) only [e4, e19, true_implies, false_implies, implies_true, not_true_eq_false, not_false_eq_true, and_true, true_and, Option.some.injEq, reduceCtorEq, forall_eq', forall_eq]
      refine hK _ _ hS hI.s0 fun Q hQ => t_X11_ofAsking hS ?_
      simp +decide (disch := omega) only [h1, h2, h3, h4, R, e4, e19, true_implies, false_implies, implies_true, not_true_eq_false, not_false_eq_true, and_true, true_and, Option.some.injEq, reduceCtorEq, forall_eq', forall_eq]
      exact hQ _ _ hU
    · refine t_X10_ofAsking hS ?_
      simp +decide (disch := omega) only [h1, h2, h3, h4, s4, e1, true_implies, false_implies, implies_true, not_true_eq_false, not_false_eq_true, and_true, true_and, Option.some.injEq, reduceCtorEq, forall_eq', forall_eq]
      refine t_X10_ofAsking_43 hS ?_
      simp +decide (disch := omega) only [e4, e20, true_implies, false_implies, implies_true, not_true_eq_false, not_false_eq_true, and_true, true_and, Option.some.injEq, reduceCtorEq, forall_eq', forall_eq]
      refine hK _ _ hS hI.s0 fun Q hQ => t_X11_ofAsking hS ?_
      simp +decide (disch := omega) only [h1, h2, h3, h4, R, e4, e20, true_implies, false_implies, implies_true, not_true_eq_false, not_false_eq_true, and_true, true_and, Option.some.injEq, reduceCtorEq, forall_eq', forall_eq]
      exact hQ _ _ hU
    · refine t_X10_ofAsking hS ?_
      simp +decide (disch := omega) only [h1, h2, h3, h4, s4, e1, true_implies, false_implies, implies_true, not_true_eq_false, not_false_eq_true, and_true, true_and, Option.some.injEq, reduceCtorEq, forall_eq', forall_eq]
      refine t_X10_ofAsking_34 hS ⟨e4, ?_⟩
      rw [e7]
      refine c_judgeV hI hρ hi hV (fun M IM rM hxM hjM q2 q3 q4 q5 q6 vb vw => ⟨rfl, IM.st, ?_⟩)
      have RM : ∀ a j, 31 ≤ a → a < 88 → zI M a j = ρ a j := fun a j h1 h2 => rfz rM h1 h2
      refine t_X10_ofAsking_43 IM.st ?_
      simp +decide (disch := omega) only [q4, true_implies, false_implies, implies_true, not_true_eq_false, not_false_eq_true, and_true, true_and, Option.some.injEq, reduceCtorEq, forall_eq', forall_eq]
      refine hK _ _ IM.st IM.s0 fun Q hQ => t_X11_ofAsking IM.st ?_
      simp +decide (disch := omega) only [h1, h2, h3, h4, RM, true_implies, false_implies, implies_true, not_true_eq_false, not_false_eq_true, and_true, true_and, Option.some.injEq, reduceCtorEq, forall_eq', forall_eq]
      refine r_findV IM.st hr rM hi hV (fun M2 hS2 hx2 hj2 R2 p1' p2' p3' _ _ => ⟨rfl, hS2, ?_⟩)
      rw [p2']
      exact hQ g _ (IM.endR rM hx2 hS2 hj2)
end JudgedQ
