section FeedP
variable {E : ZE} {l : Launch} {d : Nat} {g : Gh} {L : Nat} {X : Nat → Int32} {t : Nat} {μ : ZM} {x1 x2 x3 x4 x5 : Int32}
def fdC (x1 x2 x3 x4 x5 : Int32) (j : Nat) : Int32 := bC ([x1, x2, x3, x4, x5].getD (j / 4) 0) ([(24 : Int32), 16, 8, 0].getD (j % 4) 0)
theorem pr_feed (hI : IV g L X t μ) : PRp E l d L X t mX10_feed mX11_feed [some (.ref 11), some (.int x1), some (.int x2), some (.int x3), some (.int x4), some (.int x5)] [some (.ref 31), some (.int x1), some (.int x2), some (.int x3), some (.int x4), some (.int x5)] μ := by
  obtain ⟨ρ, hρ⟩ : ∃ ρ, rf μ = ρ := ⟨_, rfl⟩
  have hS := hI.st
  have hr := hI.r hρ
  have hc := hI.c hρ
  have R : ∀ a j, 31 ≤ a → a < 88 → zI μ a j = ρ a j := fun a j h1 h2 => rfz hρ h1 h2
  obtain ⟨s1, s2, s3, s4, s5, s6, s7, s8, s9, s10, s11⟩ := hc.s
  obtain ⟨b1, b2, b3, b4, b5, b6, b7, b8⟩ := hr.s
  have hU : IV g L X (t + 1) μ := hI.up (Nat.le_succ t)
  refine PRp.mk fun K hK => ?_
  have hA := hS.N
  have b7' := b7.2
  have b71 := b7.1
  have k1 : (ρ 31 41 ≤ 180) = (tL ρ ≤ 180) := by rw [b71, show (180 : Int32) = nI 180 from rfl, nI_leI (by omega) (by omega)]
  have k2 : (ρ 31 41 + 20 ≤ 200) = (tL ρ ≤ 180) := by
    rw [b71, show (20 : Int32) = nI 20 from rfl, nI_add, show (200 : Int32) = nI 200 from rfl, nI_leI (by omega) (by omega)]
    apply propext
    omega
  by_cases c : tL ρ ≤ 180
  · refine t_X10_feed hS ?_
    simp (disch := omega) only [s11, k1, c, true_implies, false_implies, implies_true, not_true_eq_false, not_false_eq_true, and_true, true_and, Option.some.injEq, reduceCtorEq, forall_eq', forall_eq]
    have F0 : FD μ μ 21 20 1 (tL ρ) 0 (fdC x1 x2 x3 x4 x5) := FD.rfl (by rw [s11, b71])
    refine c_append hS F0 (by omega) rfl rfl rfl rfl fun M1 t1 F1 => ⟨rfl, t1, ?_⟩
    refine c_append t1 F1 (by omega) rfl rfl rfl rfl fun M2 t2 F2 => ⟨rfl, t2, ?_⟩
    refine c_append t2 F2 (by omega) rfl rfl rfl rfl fun M3 t3 F3 => ⟨rfl, t3, ?_⟩
    refine c_append t3 F3 (by omega) rfl rfl rfl rfl fun M4 t4 F4 => ⟨rfl, t4, ?_⟩
    refine c_append t4 F4 (by omega) rfl rfl rfl rfl fun M5 t5 F5 => ⟨rfl, t5, ?_⟩
    obtain ⟨a1, a2, a3, a4, a5, a6, a7, a8⟩ := F5
    rw [a1]
    have R1 : ∀ a j, 31 ≤ a → a < 88 → zI M5 a j = ρ a j := fun a j h1 h2 => by rw [a3 a j (by omega) (by omega)]; exact R a j h1 h2
    refine hK _ _ t5 ⟨by rw [a6]; exact hI.s0.1, fun j => by rw [a3 _ _ (by omega) (by omega)]; exact hI.s0.2 j⟩ fun Q hQ => t_X11_feed t5 ?_
    simp (disch := omega) only [R1, k2, c, true_implies, false_implies, implies_true, not_true_eq_false, not_false_eq_true, and_true, true_and, Option.some.injEq, reduceCtorEq, forall_eq', forall_eq]
    have G0 : FD M5 M5 65 31 41 (tL ρ) 0 (fun j => (fdC x1 x2 x3 x4 x5 j).toInt8.toInt32) := FD.rfl (by rw [R1 _ _ (by decide) (by decide), b71])
    refine r_feedOne t5 G0 (by omega) (bRC3 _).symm (bRC2 _).symm (bRC1 _).symm (bRC0 _).symm fun N1 u1 G1 => ⟨rfl, u1, ?_⟩
    refine r_feedOne u1 G1 (by omega) (bRC3 _).symm (bRC2 _).symm (bRC1 _).symm (bRC0 _).symm fun N2 u2 G2 => ⟨rfl, u2, ?_⟩
    refine r_feedOne u2 G2 (by omega) (bRC3 _).symm (bRC2 _).symm (bRC1 _).symm (bRC0 _).symm fun N3 u3 G3 => ⟨rfl, u3, ?_⟩
    refine r_feedOne u3 G3 (by omega) (bRC3 _).symm (bRC2 _).symm (bRC1 _).symm (bRC0 _).symm fun N4 u4 G4 => ⟨rfl, u4, ?_⟩
    refine r_feedOne u4 G4 (by omega) (bRC3 _).symm (bRC2 _).symm (bRC1 _).symm (bRC0 _).symm fun N5 u5 G5 => ⟨rfl, u5, ?_⟩
    obtain ⟨e1, e2, e3, e4, e5, e6, e7, e8⟩ := G5
    rw [e1]
    refine hQ g _ ?_
    have eq : ∀ b j, ¬ (b = 65) → ¬ (b = 31 ∧ j = 41) → ¬ (b = 21) → ¬ (b = 20 ∧ j = 1) → zI N5 b j = zI μ b j := fun b j n1 n2 n3 n4 => by rw [e3 b j (by omega) n2, a3 b j (by omega) n4]
    have rq : ∀ b j, 31 ≤ b → b < 88 → ¬ b = 65 → ¬ (b = 31 ∧ j = 41) → rf N5 b j = ρ b j := fun b j n1 n2 n3 n4 => by rw [rf_z n1 n2, eq b j n3 n4 (by omega) (by omega)]; exact R b j n1 n2
    have r41 : rf N5 31 41 = nI (tL ρ + 20) := by rw [rf_z (by decide) (by decide)]; exact e1
    have tt : tL (rf N5) = tL ρ + 20 := by unfold tL at *; rw [r41]; exact nI_clamp (by omega)
    refine IV.fr1 hI u5 ?_ hρ rfl (Nat.le_succ t) (by rw [rq _ _ (by decide) (by decide) (by decide) (by decide)]; exact Int.le_refl _) (by rw [rq _ _ (by decide) (by decide) (by decide) (by decide)]; exact Int.le_refl _) ?_ ?_ ?_ ?_ (hI.w.cg fun j => by rw [e8, a8])
    · refine ⟨by rw [e4, a4]; exact Nat.le_refl _, fun b _ => ⟨by rw [e5, a5], by rw [e6, a6]⟩, fun b j _ hn => ?_, fun b j _ _ => by rw [e7, a7], fun b j _ _ => by rw [e8, a8]⟩
      unfold W1 at hn
      exact eq b j (by omega) (by omega) (by omega) (by omega)
    · obtain ⟨z1, z2, z3, z4, z5, z6, z7, z8⟩ := hr.s
      unfold RIs
      rw [tt]
      unfold nM nL nS nA nT nN at *
      rw [rq _ _ (by decide) (by decide) (by decide) (by decide), rq _ _ (by decide) (by decide) (by decide) (by decide), rq _ _ (by decide) (by decide) (by decide) (by decide), rq _ _ (by decide) (by decide) (by decide) (by decide), rq _ _ (by decide) (by decide) (by decide) (by decide), rq _ _ (by decide) (by decide) (by decide) (by decide), r41, rq _ _ (by decide) (by decide) (by decide) (by decide)]
      exact ⟨z1, z2, z3, z4, z5, z6, ⟨rfl, by omega⟩, z8⟩
    · unfold CRs
      have z20 : zI N5 20 1 = nI (tL ρ + 20) := by rw [e3 _ _ (by omega) (by omega)]; exact a1
      rw [z20, r41]
      rw [eq 11 12 (by decide) (by decide) (by decide) (by decide), eq 11 13 (by decide) (by decide) (by decide) (by decide), eq 11 14 (by decide) (by decide) (by decide) (by decide), eq 11 15 (by decide) (by decide) (by decide) (by decide), eq 11 16 (by decide) (by decide) (by decide) (by decide), eq 11 17 (by decide) (by decide) (by decide) (by decide), eq 17 1 (by decide) (by decide) (by decide) (by decide), eq 17 2 (by decide) (by decide) (by decide) (by decide), eq 17 3 (by decide) (by decide) (by decide) (by decide), eq 17 4 (by decide) (by decide) (by decide) (by decide)]
      rw [rq 31 3 (by decide) (by decide) (by decide) (by decide), rq 31 18 (by decide) (by decide) (by decide) (by decide), rq 31 22 (by decide) (by decide) (by decide) (by decide), rq 31 60 (by decide) (by decide) (by decide) (by decide), rq 31 42 (by decide) (by decide) (by decide) (by decide), rq 31 1 (by decide) (by decide) (by decide) (by decide), rq 31 74 (by decide) (by decide) (by decide) (by decide), rq 31 2 (by decide) (by decide) (by decide) (by decide), rq 31 72 (by decide) (by decide) (by decide) (by decide), rq 31 73 (by decide) (by decide) (by decide) (by decide)]
      exact ⟨s1, s2, s3, s4, s5, s6, s7, s8, s9, s10, rfl⟩
    · obtain ⟨v1, v2⟩ := hc.n
      have nn : nN (rf N5) = nN ρ := by unfold nN; rw [rq _ _ (by decide) (by decide) (by decide) (by decide)]
      unfold CRn
      rw [nn, tt]
      refine ⟨fun j hj => ?_, fun j hj => ?_⟩
      · rw [eq _ _ (by omega) (by omega) (by omega) (by omega), rq _ _ (by omega) (by omega) (by omega) (by omega)]
        exact v1 j hj
      · rw [rf_z (by decide) (by decide)]
        by_cases cj : j < tL ρ
        · rw [e3 21 _ (by omega) (by omega), a3 21 _ (by omega) (by omega), e3 65 _ (by omega) (by omega), a3 65 _ (by omega) (by omega), R 65 _ (by decide) (by decide)]
          exact v2 j cj
        · have w1 := a2 (j - tL ρ) (by omega)
          have w2 := e2 (j - tL ρ) (by omega)
          rw [show tL ρ + (j - tL ρ) = j by omega] at w1 w2
          rw [e3 21 _ (by omega) (by omega), w1, w2]
          exact ⟨bC_rng _ _, rfl⟩
    · intro j hj
      rw [eq _ _ (by omega) (by omega) (by omega) (by omega), rq _ _ (by omega) (by omega) (by omega) (by omega)]
      exact hc.h j hj
  · refine t_X10_feed hS ?_
    simp (disch := omega) only [c, s11, k1, true_implies, false_implies, implies_true, not_true_eq_false, not_false_eq_true, and_true, true_and, Option.some.injEq, reduceCtorEq, forall_eq', forall_eq]
    refine hK _ _ hS hI.s0 fun Q hQ => t_X11_feed hS ?_
    simp (disch := omega) only [c, R, k2, true_implies, false_implies, implies_true, not_true_eq_false, not_false_eq_true, and_true, true_and, Option.some.injEq, reduceCtorEq, forall_eq', forall_eq]
    exact hQ _ _ hU
end FeedP
