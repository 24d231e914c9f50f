section HitR
variable {E : ZE} {l : Launch} {d nc ns : Nat} {g : Gh} {L : Nat} {X : Nat → Int32} {t : Nat} {μ : ZM} {ρ : RV} {K : Option Value → ZM → Prop} {x1 : Int32}
theorem r_works20 (hS : Stat μ) (hr : RIg g t ρ) (hR : RE ρ (rf μ)) (lim : ρ 31 49 = 1) (k : ∀ M st, Stat M → MSr μ M st → K (some (.int ((exI (fun k => zI μ 72 (12 + k)) g.2 []).headD 0))) M) : AW E l (d + 1) nc ns mX11_works 0 (zargs 7 [.ref 31, .int 20]) [] μ K := by
  have R : ∀ a j, 31 ≤ a → a < 88 → a ≠ 72 → a ≠ 73 → (a = 31 → j < 76) → zI μ a j = ρ a j := fun a j h1 h2 h3 h4 h5 => by rw [← rf_z h1 h2]; exact hR a j h3 h4 h5
  obtain ⟨a1, a2, a3, a4⟩ : wfE 5 0 g.2 ∧ g.2.length ≤ 200 ∧ ρ 69 20 = nI g.2.length ∧ lst2 (ρ 70) (ρ 71) 4000 (g.2.map (enR 12)) := by
    rcases hr.lm with z | ⟨-, z⟩
    · rw [lim] at z
      exact absurd z (by decide)
    · exact z
  have h69 : zI μ 69 20 = nI g.2.length := by rw [R _ _ (by decide) (by decide) (by decide) (by decide) (by omega)]; exact a3
  refine t_X11_works hS ?_
  refine r_worE (t := 20) (e := 200 * 20 + g.2.length) hS.N (by decide) h69 rfl a2 (base := 12) (many := 5) (by decide) g.2 [] 4000 μ hS ⟨EqX.rfl, rfl, fun _ => rfl, trivial⟩ a1 (by simpa using a2) (lst2_cg (fun j _ _ => ⟨R _ _ (by decide) (by decide) (by decide) (by decide) (by omega), R _ _ (by decide) (by decide) (by decide) (by decide) (by omega)⟩) a4) (by omega) (fun M hSM hMM => ?_)
  have ln := exI_len (N := fun k => zI μ 72 (12 + k)) (st := []) a1
  obtain ⟨v, hv⟩ : ∃ v, exI (fun k => zI μ 72 (12 + k)) g.2 [] = [v] := by
    match hx : exI (fun k => zI μ 72 (12 + k)) g.2 [], ln with
    | [v], _ => exact ⟨v, rfl⟩
  rw [hv] at hMM k
  have c69 : zI M 69 20 = nI g.2.length := (hMM.1.2.2.1 69 20 (by have := hS.N; omega) (by omega)).trans h69
  have c73 : zI M 73 0 = v := hMM.2.2.2.1
  have v1 : vp_in (20 : Int32) 22 := (vp_in_nI (by decide) (by decide) : vp_in (nI 20) 22)
  have v2 : (20 : Int32).toNatClampNeg = 20 := by decide
  have v4 : 200 * 20 + zI M 69 (20 : Int32).toNatClampNeg ≤ nI (4000 + g.2.length) := by
    rw [v2, c69, show (200 : Int32) * 20 = nI 4000 from by decide, nI_add]
    exact Int32.le_refl _
  refine t_X11_works_11 hSM ⟨v1, fun _ => ⟨fun z => absurd rfl z, fun _ => ?_⟩, fun z => absurd v4 z⟩
  rw [c73]
  exact k M [v] hSM hMM
def HIv (μ : ZM) (ρ : RV) (x1 : Int32) (j : Nat) (M : ZM) : Prop := Stat M ∧ EqX μ M (fun b _ => b = 72) (fun _ _ => False) ∧ (∀ i, zJ M 86 i = zJ μ 86 i) ∧ zI M 72 12 = sS (fBo ρ x1) j ∧ zI M 72 13 = sS (fBk ρ x1) j ∧ zI M 72 15 = sS (fSp ρ x1) j ∧ zI M 72 16 = sS (fLy ρ x1) j
theorem r_isHit (hS : Stat μ) (hr : RIg g t ρ) (hR : RE ρ (rf μ)) (lim : ρ 31 49 = 1) (k : ∀ M, Stat M → EqX μ M (fun b _ => b = 72 ∨ b = 73) (fun _ _ => False) → (∀ j, zJ M 86 j = zJ μ 86 j) → K (some (.int (if htV g ρ x1 = 0 then 0 else 1))) M) : AW E l (d + 2) nc ns mX11_isHit 0 (zargs 3 [.ref 31, .int x1]) [] μ K := by
  have R : ∀ a j, 31 ≤ a → a < 88 → a ≠ 72 → a ≠ 73 → (a = 31 → j < 76) → zI μ a j = ρ a j := fun a j h1 h2 h3 h4 h5 => by rw [← rf_z h1 h2]; exact hR a j h3 h4 h5
  obtain ⟨b1, b2, b3, b4, b5, b6, b7, b8⟩ := hr.s
  have b300 := b3.2
  have hN := hS.N
  have w1 : wfE 5 0 g.2 := by
    rcases hr.lm with z | ⟨-, z⟩
    · rw [lim] at z
      exact absurd z (by decide)
    · exact z.1
  refine t_X11_isHit hS ?_
  have loop : ∀ M, HIv μ ρ x1 0 M → AW E l (d + 2) nc ns mX11_isHit 24 [some (.ref 31), some (.int x1), some (.int 0)] [] M K := by
    refine lpd (P := fun j => ∀ M, HIv μ ρ x1 j M → AW E l (d + 2) nc ns mX11_isHit 24 [some (.ref 31), some (.int x1), some (.int (nI j))] [] M K) (n := nS ρ) ?_ ?_
    · intro M ⟨hSM, hx, hj, e12, e13, e15, e16⟩
      have RM : ∀ a j, 31 ≤ a → a < 88 → a ≠ 72 → a ≠ 73 → (a = 31 → j < 76) → zI M a j = ρ a j := fun a j h1 h2 h3 h4 h5 => by rw [hx.2.2.1 a j (by omega) h3]; exact R a j h1 h2 h3 h4 h5
      have lE : ρ 31 22 ≤ nI (nS ρ) := by rw [← b3.1]; exact Int32.le_refl _
      have rest : ∀ sh, sh = hmF ρ x1 2 → AW E l (d + 1) 0 0 mX11_works 0 (zargs 7 [.ref 31, .int 20]) [] (sI M 72 14 sh) (fun v μ4 => ∃ r6 : Int32, v = some (.int r6) ∧ Stat μ4 ∧ (r6 = 0 → K (some (.int 0)) μ4) ∧ (¬ r6 = 0 → K (some (.int 1)) μ4)) := by
        intro sh hsh
        have hx2 : EqX μ (sI M 72 14 sh) (fun b _ => b = 72 ∨ b = 73) (fun _ _ => False) := (hx.mono (fun b j h => Or.inl h) (fun _ _ h => h)).wi (Or.inl (Or.inl rfl))
        have hR2 := RE_x hS hR hx2
        refine r_works20 hSM.wI hr hR2 lim (fun M3 st hS3 hM3 => ⟨_, rfl, hS3, ?_⟩)
        have nm : ∀ k, k < 5 → (fun k => zI (sI M 72 14 sh) 72 (12 + k)) k = hmF ρ x1 k := by
          intro k hk
          have hk : k = 0 ∨ k = 1 ∨ k = 2 ∨ k = 3 ∨ k = 4 := by omega
          rcases hk with rfl | rfl | rfl | rfl | rfl
          · show zI (sI M 72 14 sh) 72 12 = _
            rw [zI_nk (by decide), e12]
            rfl
          · show zI (sI M 72 14 sh) 72 13 = _
            rw [zI_nk (by decide), e13]
            rfl
          · show zI (sI M 72 14 sh) 72 14 = _
            rw [zI_eq, hsh]
          · show zI (sI M 72 14 sh) 72 15 = _
            rw [zI_nk (by decide), e15]
            rfl
          · show zI (sI M 72 14 sh) 72 16 = _
            rw [zI_nk (by decide), e16]
            rfl
        rw [exI_cg nm w1]
        have kk := k M3 hS3 (hx2.trans (hM3.1.mono (fun b j h => Or.inr h) (fun _ _ h => h))) (fun j => (hM3.2.2.1 j).trans (hj j))
        unfold htV at kk
        refine ⟨fun z => ?_, fun z => ?_⟩
        · rw [if_pos z] at kk
          exact kk
        · rw [if_neg z] at kk
          exact kk
      have h2 : hmF ρ x1 2 = if sS (fBo ρ x1) (nS ρ) = 0 then 0 else 100 * sS (fBk ρ x1) (nS ρ) / sS (fBo ρ x1) (nS ρ) := rfl
      refine t_X11_isHit_24 hSM ?_
      simp (disch := omega) only [RM, lE, true_implies, false_implies, implies_true, not_true_eq_false, not_false_eq_true, and_true, true_and, Option.some.injEq, reduceCtorEq, forall_eq', forall_eq]
      refine ⟨fun z => ⟨z, ?_⟩, fun z => ?_⟩
      · refine rest _ ?_
        rw [e12] at z ⊢
        rw [h2, if_neg z, e13]
      · refine rest _ ?_
        rw [e12] at z
        rw [h2, if_pos z]
    · intro j hj ih M ⟨hSM, hx, hj86, e12, e13, e15, e16⟩
      have RM : ∀ a j, 31 ≤ a → a < 88 → a ≠ 72 → a ≠ 73 → (a = 31 → j < 76) → zI M a j = ρ a j := fun a j h1 h2 h3 h4 h5 => by rw [hx.2.2.1 a j (by omega) h3]; exact R a j h1 h2 h3 h4 h5
      have l1 : ¬ ρ 31 22 ≤ nI j := by rw [b3.1]; exact nI_ge hj (by omega)
      have l3 : vp_in (nI j) 300 := vp_in_nI (by omega) (by decide)
      have l4 : (nI j).toNatClampNeg = j := nI_clamp (by omega)
      simp only [← nI_1] at ih
      refine t_X11_isHit_24 hSM ?_
      simp (disch := omega) only [RM, l1, l3, l4, zI_ne, zI_nk, e12, e13, e15, e16, true_implies, false_implies, implies_true, not_true_eq_false, not_false_eq_true, and_true, true_and, Option.some.injEq, reduceCtorEq, forall_eq', forall_eq]
      have nx : ∀ M', Stat M' → EqX μ M' (fun b _ => b = 72) (fun _ _ => False) → (∀ i, zJ M' 86 i = zJ μ 86 i) → zI M' 72 12 = sS (fBo ρ x1) j + fBo ρ x1 j → zI M' 72 13 = sS (fBk ρ x1) j + fBk ρ x1 j → zI M' 72 15 = sS (fSp ρ x1) j + fSp ρ x1 j → zI M' 72 16 = sS (fLy ρ x1) j + fLy ρ x1 j → AW E l (d + 2) nc ns mX11_isHit 24 [some (.ref 31), some (.int x1), some (.int (nI j + 1))] [] M' K := fun M' a1 a2 a3 a4 a5 a6 a7 => ih M' ⟨a1, a2, a3, a4, a5, a6, a7⟩
      have W : (fun (b : Nat) (_ : Nat) => b = 72) 72 0 := rfl
      by_cases q1 : ρ 53 j = x1
      · by_cases q2 : ρ 48 j = 2
        · by_cases q3 : 30 ≤ ρ 31 1 / 24 - ρ 58 j
          all_goals
            simp (disch := omega) only [q1, q2, q3, true_implies, false_implies, implies_true, not_true_eq_false, not_false_eq_true, and_true, true_and, Option.some.injEq, reduceCtorEq, forall_eq', forall_eq]
            refine nx _ hSM.wI.wI.wI.wI ((((hx.wi (Or.inl rfl)).wi (Or.inl rfl)).wi (Or.inl rfl)).wi (Or.inl rfl)) hj86 ?_ ?_ ?_ ?_
            all_goals simp (disch := omega) only [zI_nk, zI_eq, e12, e13, e15, e16, fBo, fBk, fSp, fLy, q1, q2, q3, if_true, if_false, true_or, or_true, false_or, or_false, and_false, false_and, and_self, or_self, Int32.add_zero, true_implies, false_implies, implies_true, not_true_eq_false, not_false_eq_true, and_true, true_and, Option.some.injEq, reduceCtorEq, forall_eq', forall_eq]
        · simp (disch := omega) only [q1, q2, true_implies, false_implies, implies_true, not_true_eq_false, not_false_eq_true, and_true, true_and, Option.some.injEq, reduceCtorEq, forall_eq', forall_eq]
          refine nx _ hSM.wI.wI ((hx.wi (Or.inl rfl)).wi (Or.inl rfl)) hj86 ?_ ?_ ?_ ?_
          all_goals simp (disch := omega) only [zI_nk, zI_eq, e12, e13, e15, e16, fBo, fBk, fSp, fLy, q1, q2, if_true, if_false, true_or, or_true, false_or, or_false, and_false, false_and, and_self, or_self, Int32.add_zero, true_implies, false_implies, implies_true, not_true_eq_false, not_false_eq_true, and_true, true_and, Option.some.injEq, reduceCtorEq, forall_eq', forall_eq]
      · simp (disch := omega) only [q1, true_implies, false_implies, implies_true, not_true_eq_false, not_false_eq_true, and_true, true_and, Option.some.injEq, reduceCtorEq, forall_eq', forall_eq]
        refine nx _ hSM hx hj86 ?_ ?_ ?_ ?_
        all_goals simp (disch := omega) only [e12, e13, e15, e16, fBo, fBk, fSp, fLy, q1, if_true, if_false, true_or, or_true, false_or, or_false, and_false, false_and, and_self, or_self, Int32.add_zero, true_implies, false_implies, implies_true, not_true_eq_false, not_false_eq_true, and_true, true_and, Option.some.injEq, reduceCtorEq, forall_eq', forall_eq]
  have t0 : (12 : Int32).toNatClampNeg = 12 := by decide
  have t1 : (12 + 1 : Int32).toNatClampNeg = 13 := by decide
  have t2 : (12 + 1 + 1 : Int32).toNatClampNeg = 14 := by decide
  have t3 : (12 + 1 + 1 + 1 : Int32).toNatClampNeg = 15 := by decide
  have t4 : (12 + 1 + 1 + 1 + 1 : Int32).toNatClampNeg = 16 := by decide
  refine t_X11_isHit_3 hS (br_f (by decide) ⟨by unfold vp_in; decide, ?_⟩)
  rw [t0]
  refine t_X11_isHit_3 hS.wI (br_f (by decide) ⟨by unfold vp_in; decide, ?_⟩)
  rw [t1]
  refine t_X11_isHit_3 hS.wI.wI (br_f (by decide) ⟨by unfold vp_in; decide, ?_⟩)
  rw [t2]
  refine t_X11_isHit_3 hS.wI.wI.wI (br_f (by decide) ⟨by unfold vp_in; decide, ?_⟩)
  rw [t3]
  refine t_X11_isHit_3 hS.wI.wI.wI.wI (br_f (by decide) ⟨by unfold vp_in; decide, ?_⟩)
  rw [t4]
  refine t_X11_isHit_3 hS.wI.wI.wI.wI.wI (br_t (by decide) (loop _ ⟨hS.wI.wI.wI.wI.wI, ?_, fun j => ?_, ?_, ?_, ?_, ?_⟩))
  · repeat' (with_reducible first | exact EqX.rfl | refine EqX.wi ?_ (Or.inl rfl))
  · simp only [zJ_sI]
  all_goals
    simp (disch := omega) only [zI_nk, zI_eq]
    rfl
end HitR
