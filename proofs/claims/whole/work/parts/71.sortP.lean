section SortQ
variable {E : ZE} {l : Launch} {d : Nat} {g : Gh} {L : Nat} {X : Nat → Int32} {t : Nat} {μ : ZM} {x1 x2 x3 : Int32}
theorem pr_sort (hI : IV g L X t μ) (ht : t ≤ 100000) : PRp E l d L X t mX10_sort mX11_sort [some (.ref 11), some (.int x1), none, none] [some (.ref 31), some (.int x1), none, none] μ := by
  have main : ∀ i, i < nS (rf μ) → ¬ rf μ 60 i = 0 → (bst (wrI (rf μ) i) = 2 → rf μ 34 (smo (rf μ) i) ≤ rf μ 31 2) → PRp E l d L X t mX10_sort mX11_sort [some (.ref 11), some (.int (nI i)), none, none] [some (.ref 31), some (.int (nI i)), none, none] μ := by
    intro i hi q hmd
    have b4 := bst_lt (wrI (rf μ) i)
    have hb : bst (wrI (rf μ) i) = 0 ∨ bst (wrI (rf μ) i) = 1 ∨ bst (wrI (rf μ) i) = 2 ∨ bst (wrI (rf μ) i) = 3 := by omega
    rcases hb with hb | hb | hb | hb
    · exact pr_sort0 hI hi q hb ht
    · cases hl : zA μ (maF μ (smo (rf μ) i)) 12 with
      | none => exact pr_sort1N hI hi q hb hl
      | some bl => exact pr_sort1S hI hi q hb hl
    · cases hl : zA μ (maF μ (smo (rf μ) i)) 12 with
      | none => exact pr_sort2N hI hi q hb hl (hmd hb)
      | some bl => exact pr_sort2S hI hi q hb hl (hmd hb)
    · exact pr_sort3 hI hi q hb
  by_cases mn : ∃ i, x1 = nI i ∧ i < nS (rf μ) ∧ ¬ rf μ 60 i = 0 ∧ (bst (wrI (rf μ) i) = 2 → rf μ 34 (smo (rf μ) i) ≤ rf μ 31 2)
  · obtain ⟨i, rfl, hi, q, hmd⟩ := mn
    exact main i hi q hmd
  clear main
  obtain ⟨ρ, hρ⟩ : ∃ ρ, rf μ = ρ := ⟨_, rfl⟩
  have hS := hI.st
  have hr := hI.r hρ
  have hc := hI.c hρ
  have R : ∀ a j, 31 ≤ a → a < 88 → zI μ a j = ρ a j := fun a j h1 h2 => rfz hρ h1 h2
  obtain ⟨s1, s2, s3, s4, s5, s6, s7, s8, s9, s10, s11⟩ := hc.s
  obtain ⟨b1, b2, b3, b4, b5, b6, b7, b8⟩ := hr.s
  have hU : IV g L X (t + 1) μ := hI.up (Nat.le_succ t)
  refine PRp.mk fun K hK => ?_
  rw [hρ] at mn
  rcases ix3 x1 (n := nS ρ) (by have := b3.2; omega) with h | ⟨h, h'⟩ | ⟨i, hi, rfl⟩
  · refine t_X10_sort hS ?_
    simp (disch := omega) only [h, true_implies, false_implies, implies_true, not_true_eq_false, not_false_eq_true, and_true, true_and, Option.some.injEq, reduceCtorEq, forall_eq', forall_eq]
    refine hK _ _ hS hI.s0 fun Q hQ => t_X11_sort hS ?_
    simp (disch := omega) only [h, R, true_implies, false_implies, implies_true, not_true_eq_false, not_false_eq_true, and_true, true_and, Option.some.injEq, reduceCtorEq, forall_eq', forall_eq]
    exact hQ _ _ hU
  · rw [← b3.1] at h'
    refine t_X10_sort hS ?_
    simp (disch := omega) only [h, h', s3, true_implies, false_implies, implies_true, not_true_eq_false, not_false_eq_true, and_true, true_and, Option.some.injEq, reduceCtorEq, forall_eq', forall_eq]
    refine hK _ _ hS hI.s0 fun Q hQ => t_X11_sort hS ?_
    simp (disch := omega) only [h, h', R, true_implies, false_implies, implies_true, not_true_eq_false, not_false_eq_true, and_true, true_and, Option.some.injEq, reduceCtorEq, forall_eq', forall_eq]
    exact hQ _ _ hU
  · have b300 := b3.2
    have h1 : ¬ nI i < 0 := nI_pos (by omega)
    have h2 := ix_lt (by omega) hi
    have h3 : vp_in (nI i) 300 := vp_in_nI (by omega) (by decide)
    have h4 : (nI i).toNatClampNeg = i := nI_clamp (by omega)
    rw [← b3.1] at h2
    obtain ⟨c1, c2, c3, c4, c5, c6, c7, c8, c9, c10, c11, c12, c13, c14, c15, c16, c17, c18, c19, c20, c21, c22, c23⟩ := hc.sa hi
    obtain ⟨d1, d2, d3, d4, d5, d6, d7, d8, d9, d10, d11, d12, d13, d14, d15, d16, d17, d18, d19⟩ := hr.sa hi
    by_cases q : ρ 60 i = 0
    · refine t_X10_sort hS ?_
      simp (disch := omega) only [h1, h2, h3, h4, q, s3, c1, c4, c22, true_implies, false_implies, implies_true, not_true_eq_false, not_false_eq_true, and_true, true_and, Option.some.injEq, reduceCtorEq, forall_eq', forall_eq]
      refine hK _ _ hS hI.s0 fun Q hQ => t_X11_sort hS ?_
      simp (disch := omega) only [h1, h2, h3, h4, q, R, true_implies, false_implies, implies_true, not_true_eq_false, not_false_eq_true, and_true, true_and, Option.some.injEq, reduceCtorEq, forall_eq', forall_eq]
      exact hQ _ _ hU
    have st : ρ 48 i = 2 := d14 (d10.resolve_left q)
    have nb : bst (wrI ρ i) = 2 ∧ ¬ ρ 34 (smo ρ i) ≤ ρ 31 2 := Classical.byContradiction fun z => mn ⟨i, rfl, hi, q, fun hb => Classical.byContradiction fun y => z ⟨hb, y⟩⟩
    have lr := hr.l d2
    have hm' : smo ρ i < nM ρ := lr.2.1
    have e45 : ρ 45 (ρ 49 i).toNatClampNeg = nI (smo ρ i) := lr.1
    have b20 := b1.2
    have v20 : vp_in (nI (smo ρ i)) 20 := vp_in_nI (by omega) (by decide)
    have c20 : (nI (smo ρ i)).toNatClampNeg = smo ρ i := nI_clamp (by omega)
    have w3 := v_sl hr hi
    obtain ⟨m1, m2, m3, m4, m5, m6, m7, m8, m9, m10, m11, m12⟩ := hc.m hm'
    have p1 := m4.1
    refine t_X10_sort hS ?_
    simp (disch := omega) only [h1, h2, h3, h4, s3, c1, c4, c22, q, true_implies, false_implies, implies_true, not_true_eq_false, not_false_eq_true, and_true, true_and, Option.some.injEq, reduceCtorEq, forall_eq', forall_eq]
    refine c_bestWay hS hr hc hi st ⟨_, rfl, hS, ?_⟩
    rw [nb.1]
    have n0 : nI 2 = 2 := rfl
    have nb2 := nb.2
    have neg1 : (-1 : Int32) < 0 := by decide
    simp +decide (disch := omega) only [n0, c4, c6, p1, m8, s8, nb2, true_implies, false_implies, implies_true, not_true_eq_false, not_false_eq_true, and_true, true_and, Option.some.injEq, reduceCtorEq, forall_eq', forall_eq]
    refine hK _ _ hS hI.s0 fun Q hQ => t_X11_sort hS ?_
    simp (disch := omega) only [h1, h2, h3, h4, R, q, true_implies, false_implies, implies_true, not_true_eq_false, not_false_eq_true, and_true, true_and, Option.some.injEq, reduceCtorEq, forall_eq', forall_eq]
    refine r_best26 hS hr hρ hi st (fun b hb => ?_)
    rw [hb, nb.1]
    refine t_X11_sort_26 hS ?_
    simp +decide (disch := omega) only [neg1, n0, h3, h4, R, w3, e45, v20, c20, nb2, true_implies, false_implies, implies_true, not_true_eq_false, not_false_eq_true, and_true, true_and, Option.some.injEq, reduceCtorEq, forall_eq', forall_eq]
    exact hQ _ _ hU
end SortQ
