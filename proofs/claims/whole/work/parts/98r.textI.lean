/-! a text that reads: all that holds behind it -/
section TxI
variable {E : ZE} {l : Launch} {d : Nat} {g : Gh} {L : Nat} {X : Nat → Int32} {t w : Nat} {μ D M : ZM} {ρ : RV} {x1 x2 : Int32} {R : List Rul}
theorem IV.text (hI : IV g L X t μ) (hρ : rf μ = ρ) (hD : TxD μ D ρ x1 x2 R) (hok : okT R) (hn : nT ρ < 20) (f : Fx (WR (nT ρ)) D M) (lx : LX (nT ρ) D M 0 w (trL R)) : IV (fun i => if i = nT ρ then R else g.1 i, g.2) L X (t + 1) (finM M (nT ρ) x1 x2 w) := by
  have hr := hI.r hρ
  have hc := hI.c hρ
  have h88 := hI.st.N
  obtain ⟨s1, s2, s3, s4, s5, s6, s7, s8, s9, s10, s11⟩ := hc.s
  obtain ⟨b1, b2, b3, b4, b5, b6, b7, b8⟩ := hr.s
  obtain ⟨dx, dS, dJ, dN, d16, d20, dA16, dA11, dK, d0, d1, d2, d3, dA4, dK1, dL1, dl, db, dlo⟩ := hD
  obtain ⟨w1, w2, -⟩ := lx
  obtain ⟨n, hn'⟩ : ∃ n, n = nT ρ := ⟨_, rfl⟩
  rw [← hn'] at hn f w2 d16 dA16 d0 b5 ⊢
  obtain ⟨P, hP⟩ : ∃ P, P = finM M n x1 x2 w := ⟨_, rfl⟩
  rw [← hP]
  have pI : ∀ b j, ¬ (b = 31 ∧ (j = 41 ∨ j = 42)) → ¬ (66 ≤ b ∧ b ≤ 69 ∧ j = n) → zI P b j = zI M b j := fun b j n1 n2 => by
    rw [hP]
    unfold finM
    rw [zI_sI, if_neg (by omega), zI_sI, if_neg (by omega), zI_sI, if_neg (by omega), zI_sI, if_neg (by omega), zI_sI, if_neg (by omega), zI_sI, if_neg (by omega)]
  have pA : ∀ b j, zA P b j = zA D b j := fun b j => by rw [hP]; exact f.2.2.2.1 b j
  have pK : ∀ b, zK P b = zK D b := fun b => by rw [hP]; exact f.2.1 b
  have pL : ∀ b, zL P b = zL D b := fun b => by rw [hP]; exact f.2.2.1 b
  have pJ : ∀ b j, zJ P b j = zJ D b j := fun b j => by rw [hP]; exact f.2.2.2.2.1 b j
  have pN : zN P = zN D := by rw [hP]; exact f.1
  have p41 : zI P 31 41 = 0 := by
    rw [hP]
    unfold finM
    rw [zI_nk (by decide), zI_ne (by decide), zI_ne (by decide), zI_ne (by decide), zI_ne (by decide), zI_eq]
  have p42 : zI P 31 42 = nI (n + 1) := by
    rw [hP]
    unfold finM
    rw [zI_eq]
  have p66 : zI P 66 n = x1 := by
    rw [hP]
    unfold finM
    rw [zI_ne (by decide), zI_ne (by decide), zI_ne (by decide), zI_ne (by decide), zI_eq]
  have p67 : zI P 67 n = zI M 31 1 / 24 := by
    rw [hP]
    unfold finM
    rw [zI_ne (by decide), zI_ne (by decide), zI_ne (by decide), zI_eq]
  have p68 : zI P 68 n = x2 := by
    rw [hP]
    unfold finM
    rw [zI_ne (by decide), zI_ne (by decide), zI_eq]
  have p69 : zI P 69 n = nI w := by
    rw [hP]
    unfold finM
    rw [zI_ne (by decide), zI_eq]
  have mD : ∀ b j, ¬ WR n b j → zI M b j = zI D b j := fun b j h => f.i h
  have pD : ∀ b j, b ≠ 31 → b < 66 ∨ 71 < b → zI P b j = zI D b j := fun b j b1 b2 => by rw [pI b j (by omega) (by omega), mD b j (by unfold WR; omega)]
  have sP : Stat P := by rw [hP]; exact f.st dS
  have sc : ∀ j, j < 50 ∨ 58 ≤ j → j ≠ 41 → j ≠ 42 → rf P 31 j = ρ 31 j := fun j j1 j2 j3 => by
    rw [rf_z (by decide) (by decide), pI _ _ (by omega) (by omega), mD _ _ (by unfold WR; omega), dlo _ _ (by decide) (by decide), rfz hρ (by decide) (by decide)]
  have r41 : rf P 31 41 = 0 := by rw [rf_z (by decide) (by decide)]; exact p41
  have r42 : rf P 31 42 = nI (n + 1) := by rw [rf_z (by decide) (by decide)]; exact p42
  have t0 : tL (rf P) = 0 := by unfold tL; rw [r41]; rfl
  have nt : nT (rf P) = n + 1 := by unfold nT; rw [r42]; exact tN_n (by omega)
  have rl : ∀ b j, 31 ≤ b → b < 88 → b ≠ 31 → b < 66 ∨ 71 < b → rf P b j = ρ b j := fun b j b1 b2 b3 b4 => by
    rw [rf_z b1 b2, pD b j b3 b4, dlo _ _ b1 b2, rfz hρ b1 b2]
  have pdI : ∀ b j, 88 ≤ b → zI P b j = zI D b j := fun b j hb => pD b j (by omega) (by omega)
  have eqx : EqX μ P (W5 ρ) (WA5 ρ) := by
    refine EqX.trans dx ?_
    rw [hP]
    have e0 : EqX D M (W5 ρ) (WA5 ρ) := f.eqx.mono (fun b j z => Or.inl (WR_S (by omega) (Or.inl hn) z)) (fun _ _ z => z.elim)
    exact (((((e0.wi (Or.inl (Or.inr (Or.inr (Or.inl ⟨rfl, Or.inl rfl⟩))))).wi (Or.inl (Or.inr (Or.inr (Or.inr (Or.inr (Or.inl ⟨by decide, by decide, by omega⟩))))))).wi (Or.inl (Or.inr (Or.inr (Or.inr (Or.inr (Or.inl ⟨by decide, by decide, by omega⟩))))))).wi (Or.inl (Or.inr (Or.inr (Or.inr (Or.inr (Or.inl ⟨by decide, by decide, by omega⟩))))))).wi (Or.inl (Or.inr (Or.inr (Or.inr (Or.inr (Or.inl ⟨by decide, by decide, by omega⟩))))))).wi (Or.inl (Or.inr (Or.inr (Or.inl ⟨rfl, Or.inr (Or.inl rfl)⟩))))
  refine IV.fr5 (g' := (fun i => if i = n then R else g.1 i, g.2)) hI sP eqx hρ rfl (Nat.le_succ t) (fun i hi => by show (if i = n then R else g.1 i) = _; rw [if_neg (by omega)]) (by omega) ?_ (fun i h1 h2 => ?_) ?_ ?_ ?_ ?_ (hI.w.cg (fun j => by rw [pJ, dJ _ _ (by omega)]))
  · refine ⟨?_, ?_, ?_, ?_, ?_, ?_, ?_, ?_⟩
    · unfold nM; rw [sc _ (by decide) (by decide) (by decide)]; exact b1
    · unfold nL; rw [sc _ (by decide) (by decide) (by decide)]; exact b2
    · unfold nS; rw [sc _ (by decide) (by decide) (by decide)]; exact b3
    · unfold nA; rw [sc _ (by decide) (by decide) (by decide)]; exact b4
    · rw [nt, r42]; exact ⟨rfl, by omega⟩
    · unfold nN; rw [sc _ (by decide) (by decide) (by decide)]; exact b6
    · rw [t0, r41]; exact ⟨rfl, by decide⟩
    · rw [sc _ (by decide) (by decide) (by decide)]; exact b8
  · have hi : i = n := by omega
    rw [hi]
    have ta : taF P n = zN μ := by unfold taF; rw [pA, dA16]; rfl
    have gi : (if n = n then R else g.1 n) = R := if_pos rfl
    constructor
    · refine ⟨?_, ?_, ?_⟩
      · show okT (if n = n then R else g.1 n)
        rw [gi]
        exact hok
      · show rf P 69 n = nI (trL (if n = n then R else g.1 n)).length
        rw [gi, rf_z (by decide) (by decide), p69, w1]
        congr 1
        omega
      · show lst2 (rf P 70) (rf P 71) (200 * n) (trL (if n = n then R else g.1 n))
        rw [gi]
        refine lst2_cg (fun j _ _ => ?_) w2
        rw [rf_z (by decide) (by decide), rf_z (by decide) (by decide), pI _ _ (by omega) (by omega), pI _ _ (by omega) (by omega)]
        exact ⟨rfl, rfl⟩
    · unfold CTx
      rw [ta]
      show _ ∧ _ ∧ _ ∧ _ ∧ _ ∧ _ ∧ _ ∧ _ ∧ _ ∧ _ ∧ zL P (zN μ + 1) = (tcL 0 (if n = n then R else g.1 n)).length ∧ lst (zI P (zN μ + 1)) 0 (tcL 0 (if n = n then R else g.1 n)) ∧ ∀ k, k < 4 → _ → nNm k (if n = n then R else g.1 n)
      rw [gi]
      have e25 : zI P (zN μ + 1) = zI D (zN μ + 1) := funext fun j => pdI _ _ (by omega)
      refine ⟨by rw [pA]; exact dA16, h88, by rw [pN, dN]; omega, (pK _).trans dK, (pdI _ _ h88).trans d0, ?_, ?_, ?_, by rw [pA]; exact dA4, (pK _).trans dK1, (pL _).trans dL1, ?_, fun k hk h0 => ?_⟩
      · rw [pdI _ _ h88, d1, rf_z (by decide) (by decide), p66]
      · rw [pdI _ _ h88, d2, rf_z (by decide) (by decide), p68]
      · rw [pdI _ _ h88, d3, rf_z (by decide) (by decide), p67, mD _ _ (by unfold WR; omega), dlo _ _ (by decide) (by decide), s6, rfz hρ (a := 31) (by decide) (by decide)]
      · rw [e25]
        exact dl
      · rw [pdI _ _ h88] at h0
        exact nNm_of (by omega) dl db h0
  · exact hr.lm.cg (sc _ (by decide) (by decide) (by decide)) (by rw [rf_z (by decide) (by decide), pI _ _ (by omega) (by omega), mD _ _ (by unfold WR; omega), dlo _ _ (by decide) (by decide), rfz hρ (by decide) (by decide)]) (fun j j1 j2 => ⟨by rw [rf_z (by decide) (by decide), pI _ _ (by omega) (by omega), mD _ _ (by unfold WR; omega), dlo _ _ (by decide) (by decide), rfz hρ (by decide) (by decide)], by rw [rf_z (by decide) (by decide), pI _ _ (by omega) (by omega), mD _ _ (by unfold WR; omega), dlo _ _ (by decide) (by decide), rfz hρ (by decide) (by decide)]⟩)
  · have e : ∀ b j, b = 11 ∨ b = 17 → ¬ (b = 11 ∧ j = 16) → zI P b j = zI μ b j := fun b j hb hj => by rw [pD _ _ (by omega) (by omega), dx.2.2.1 b j (by omega) (by unfold W5 WS; omega)]
    refine ⟨?_, ?_, ?_, ?_, ?_, ?_, ?_, ?_, ?_, ?_, ?_⟩
    · rw [e _ _ (by decide) (by decide), sc _ (by decide) (by decide) (by decide)]; exact s1
    · rw [e _ _ (by decide) (by decide), sc _ (by decide) (by decide) (by decide)]; exact s2
    · rw [e _ _ (by decide) (by decide), sc _ (by decide) (by decide) (by decide)]; exact s3
    · rw [e _ _ (by decide) (by decide), sc _ (by decide) (by decide) (by decide)]; exact s4
    · rw [pD _ _ (by decide) (by decide), d16, r42]
    · rw [e _ _ (by decide) (by decide), sc _ (by decide) (by decide) (by decide)]; exact s6
    · rw [e _ _ (by decide) (by decide), sc _ (by decide) (by decide) (by decide)]; exact s7
    · rw [e _ _ (by decide) (by decide), sc _ (by decide) (by decide) (by decide)]; exact s8
    · rw [e _ _ (by decide) (by decide), sc _ (by decide) (by decide) (by decide)]; exact s9
    · rw [e _ _ (by decide) (by decide), sc _ (by decide) (by decide) (by decide)]; exact s10
    · rw [pD _ _ (by decide) (by decide), d20, r41]
  · refine ⟨fun j hj => ?_, fun j hj => by rw [t0] at hj; omega⟩
    have nn : nN (rf P) = nN ρ := by unfold nN; rw [sc _ (by decide) (by decide) (by decide)]
    rw [nn] at hj
    rw [pD _ _ (by decide) (by decide), dx.2.2.1 _ _ (by omega) (by unfold W5 WS; omega), rl 85 j (by decide) (by decide) (by decide) (by decide)]
    exact hc.n.1 j hj
  · have fM : ∀ i, maF P i = maF μ i := fun i => by unfold maF; rw [pA, dx.2.2.2.1 12 i (by omega) (by unfold WA5; omega)]
    have nm : nM (rf P) = nM ρ := by unfold nM; rw [sc _ (by decide) (by decide) (by decide)]
    refine hc.lm.cg (sc _ (by decide) (by decide) (by decide)) ((pA _ _).trans dA11) (by rw [pN, dN]; omega) (fun b b1 b2 b3 b4 => ⟨(pK b).trans (dx.2.1 b b2).1, (pL b).trans (dx.2.1 b b2).2, fun j => (pdI b j b1).trans (dx.2.2.1 b j b2 (by unfold W5 WS; omega)), fun j => (pA b j).trans (dx.2.2.2.1 b j b2 (by unfold WA5; omega))⟩) (fun i _ => fM i) (fun i i1 i2 => by omega)
theorem pr_text (hI : IV g L X t μ) : PRp E l d L X t mX10_text mX11_text [some (.ref 11), some (.int x1), some (.int x2), none] [some (.ref 31), some (.int x1), some (.int x2)] μ := by
  obtain ⟨ρ, hρ⟩ : ∃ ρ, rf μ = ρ := ⟨_, rfl⟩
  have hS := hI.st
  have hr := hI.r hρ
  have hc := hI.c hρ
  have R : ∀ a j, 31 ≤ a → a < 88 → zI μ a j = ρ a j := fun a j h1 h2 => rfz hρ h1 h2
  obtain ⟨s1, s2, s3, s4, s5, s6, s7, s8, s9, s10, s11⟩ := hc.s
  obtain ⟨b1, b2, b3, b4, b5, b6, b7, b8⟩ := hr.s
  have hU : IV g L X (t + 1) μ := hI.up (Nat.le_succ t)
  refine PRp.mk fun K hK => ?_
  by_cases y1 : x1 < 0
  · refine t_X10_text hS ?_
    simp (disch := omega) only [y1, true_implies, false_implies, implies_true, not_true_eq_false, not_false_eq_true, and_true, true_and, Option.some.injEq, reduceCtorEq, forall_eq', forall_eq]
    refine hK _ _ hS hI.s0 fun Q hQ => t_X11_text hS ?_
    simp (disch := omega) only [y1, R, true_implies, false_implies, implies_true, not_true_eq_false, not_false_eq_true, and_true, true_and, Option.some.injEq, reduceCtorEq, forall_eq', forall_eq]
    exact hQ _ _ hU
  by_cases y2 : 1 < x1
  · refine t_X10_text hS ?_
    simp (disch := omega) only [y1, y2, true_implies, false_implies, implies_true, not_true_eq_false, not_false_eq_true, and_true, true_and, Option.some.injEq, reduceCtorEq, forall_eq', forall_eq]
    refine hK _ _ hS hI.s0 fun Q hQ => t_X11_text hS ?_
    simp (disch := omega) only [y1, y2, R, true_implies, false_implies, implies_true, not_true_eq_false, not_false_eq_true, and_true, true_and, Option.some.injEq, reduceCtorEq, forall_eq', forall_eq]
    exact hQ _ _ hU
  by_cases y3 : x2 < 0
  · refine t_X10_text hS ?_
    simp (disch := omega) only [y1, y2, y3, true_implies, false_implies, implies_true, not_true_eq_false, not_false_eq_true, and_true, true_and, Option.some.injEq, reduceCtorEq, forall_eq', forall_eq]
    refine hK _ _ hS hI.s0 fun Q hQ => t_X11_text hS ?_
    simp (disch := omega) only [y1, y2, y3, R, true_implies, false_implies, implies_true, not_true_eq_false, not_false_eq_true, and_true, true_and, Option.some.injEq, reduceCtorEq, forall_eq', forall_eq]
    exact hQ _ _ hU
  by_cases y4 : 2999 < x2
  · refine t_X10_text hS ?_
    simp (disch := omega) only [y1, y2, y3, y4, true_implies, false_implies, implies_true, not_true_eq_false, not_false_eq_true, and_true, true_and, Option.some.injEq, reduceCtorEq, forall_eq', forall_eq]
    refine hK _ _ hS hI.s0 fun Q hQ => t_X11_text hS ?_
    simp (disch := omega) only [y1, y2, y3, y4, R, true_implies, false_implies, implies_true, not_true_eq_false, not_false_eq_true, and_true, true_and, Option.some.injEq, reduceCtorEq, forall_eq', forall_eq]
    exact hQ _ _ hU
  have b20 := b5.2
  have b5' := b5.1
  by_cases c : nT ρ = 20
  · have k1 : ¬ nI (nT ρ) < 20 := by rw [c]; decide
    have k2 : nI (nT ρ) = 20 := by rw [c]; rfl
    refine t_X10_text hS ?_
    simp (disch := omega) only [y1, y2, y3, y4, s5, b5', k1, true_implies, false_implies, implies_true, not_true_eq_false, not_false_eq_true, and_true, true_and, Option.some.injEq, reduceCtorEq, forall_eq', forall_eq]
    refine hK _ _ hS hI.s0 fun Q hQ => t_X11_text hS ?_
    simp (disch := omega) only [y1, y2, y3, y4, R, b5', k2, true_implies, false_implies, implies_true, not_true_eq_false, not_false_eq_true, and_true, true_and, Option.some.injEq, reduceCtorEq, forall_eq', forall_eq]
    exact hQ _ _ hU
  have k1 : nI (nT ρ) < 20 := by rw [show (20 : Int32) = nI 20 from rfl]; exact nI_lt (by omega) (by omega)
  have k2 : ¬ nI (nT ρ) = 20 := by rw [show (20 : Int32) = nI 20 from rfl, nI_eq (by omega) (by omega)]; exact c
  have h16 : zI μ 11 16 = nI (nT ρ) := by rw [s5, b5']
  have hL : zI μ 20 1 = nI (tL ρ) := by rw [s11, b7.1]
  have hb : ∀ j, j < tL ρ → rng (zI μ 21 j) 0 255 := fun j hj => (hc.n.2 j hj).1
  have h88 := hS.N
  refine t_X10_text hS (c_f y1 (c_f y2 (c_f y3 (c_f y4 (c_t (by rw [h16]; exact k1) ?_)))))
  refine c_readText (F := 2100) hS hI.cst hL b7.2 hb (Nat.le_refl _) (by omega) (fun N M1 c' hT f1 q1 p1 g1 => ⟨_, rfl, q1.st, ?_⟩)
  have n2 := q1.N2
  have aN := q1.aN
  -- the reference behind a memory of the desk's
  have rfp : ∀ (D : ZM) (Q : Option Value → ZM → Prop), Stat D → (∀ b j, 31 ≤ b → b < 88 → zI D b j = zI μ b j) → (∀ j, zJ D 10 j = zJ μ 10 j) → (∀ μ', Fx (WR (nT ρ)) D μ' → ¬ ((rlT (kA 1 (zI μ 21) (tL ρ)) (iA 1 (zI μ 21) (tL ρ)) 2100 201 0).1 = true ∧ kA 1 (zI μ 21) (tL ρ) (rlT (kA 1 (zI μ 21) (tL ρ)) (iA 1 (zI μ 21) (tL ρ)) 2100 201 0).2.1 = 23) → Q (some (.int (-100 - nI (plF (zI μ 21) (tL ρ) (rlT (kA 1 (zI μ 21) (tL ρ)) (iA 1 (zI μ 21) (tL ρ)) 2100 201 0).2.1)))) (sI μ' 31 41 0)) → ((rlT (kA 1 (zI μ 21) (tL ρ)) (iA 1 (zI μ 21) (tL ρ)) 2100 201 0).1 = true → kA 1 (zI μ 21) (tL ρ) (rlT (kA 1 (zI μ 21) (tL ρ)) (iA 1 (zI μ 21) (tL ρ)) 2100 201 0).2.1 = 23 → ∀ μ' w', Fx (WR (nT ρ)) D μ' → w' ≤ 200 → LX (nT ρ) D μ' 0 w' (trL (rlT (kA 1 (zI μ 21) (tL ρ)) (iA 1 (zI μ 21) (tL ρ)) 2100 201 0).2.2) → Q (some (.int (nI (nT ρ + 1) - 1))) (finM μ' (nT ρ) x1 x2 w')) → AW E l (d + 299) 0 0 mX11_text 0 [some (.ref 31), some (.int x1), some (.int x2)] [] D Q := by
    intro D Q sD dlo dj kb kg
    have e42 : zI D 31 42 = nI (nT ρ) := by rw [dlo _ _ (by decide) (by decide), R _ _ (by decide) (by decide), b5']
    refine t_X11_text sD (c_f y1 (c_f y2 (c_f y3 (c_f y4 (op1 (fun z => absurd (by rw [e42] at z; exact z) k2) (fun _ => ?_))))))
    rw [e42]
    refine r_begin (by_ := zI μ 21) (L := tL ρ) sD (fun j hj => (dj j).trans (hI.cst.2.2.2.2.2 j hj)) ⟨by rw [dlo _ _ (by decide) (by decide), R _ _ (by decide) (by decide), b7.1], fun j hj => by rw [dlo _ _ (by decide) (by decide), R _ _ (by decide) (by decide)]; exact (hc.n.2 j hj).2⟩ hT (fun μ2 f2 b2 r2 => ⟨rfl, b2.st, ?_⟩)
    refine r_rules hT (by omega) (Nat.le_refl _) (by omega) 201 0 μ2 0 (by omega) (Nat.zero_le _) (Nat.zero_le _) ((f2.i (by unfold WR; omega)).trans e42) b2 r2 (fun μ3 f3 ng => kb μ3 (f2.trans f3) ng) (fun z1 z2 μ3 w3 f3 b3 h200 x3 => kg z1 z2 μ3 w3 (f2.trans f3) h200 ?_)
    refine ⟨x3.1, x3.2.1, fun j hj => ?_⟩
    have e1 := x3.2.2 j hj
    rw [e1.1, e1.2]
    exact ⟨f2.i (by unfold WR; omega), f2.i (by unfold WR; omega)⟩
  by_cases gd : (rlT (kA 1 (zI μ 21) (tL ρ)) (iA 1 (zI μ 21) (tL ρ)) 2100 201 0).1 = true ∧ kA 1 (zI μ 21) (tL ρ) (rlT (kA 1 (zI μ 21) (tL ρ)) (iA 1 (zI μ 21) (tL ρ)) 2100 201 0).2.1 = 23
  · rw [if_pos gd]
    refine op1 (fun z => absurd z (by decide)) (fun _ => ?_)
    obtain ⟨g2, g3⟩ := g1 gd.1
    obtain ⟨r1, r2⟩ := rlT_ok (F := 2100) (hN_A hT) (hit_A hT (Or.inl rfl)) (hk_A (s := 1) hT.2.1) 201 0 0 (Nat.zero_le _)
    obtain ⟨r3, r4⟩ := r2 gd.1
    have fA : Fx (fun b j => WQ b j ∨ (b = 20 ∧ j = 1)) μ (sI M1 20 1 0) := (f1.mono (fun b j z => Or.inl z)).wi (Or.inr ⟨rfl, rfl⟩)
    refine c_mk h88 fA (fA.st hS) zI_eq (by rw [zI_ne (by decide)]; exact q1.len) g2 (by omega) (lst_cg (fun j _ _ => zI_ne (by decide)) g3) h16 (by omega) (fun D hD => ?_)
    have hs0 : S0 L X D := ⟨(hD.1.2.1 0 (by omega)).2.trans hI.s0.1, fun j => (hD.1.2.2.1 0 j (by omega) (by unfold W5 WS; omega)).trans (hI.s0.2 j)⟩
    refine hK _ _ hD.2.1 hs0 fun Q hQ => rfp D Q hD.2.1 hD.2.2.2.2.2.2.2.2.2.2.2.2.2.2.2.2.2.2 (fun j => hD.2.2.1 10 j (by omega)) (fun _ _ ng => absurd gd ng) (fun _ _ μ3 w3 f3 h200 x3 => ?_)
    refine hQ _ _ (IV.text hI hρ hD ⟨r4, by omega, ?_⟩ (by omega) f3 x3)
    have := x3.1
    omega
  · rw [if_neg gd]
    refine op1 (fun _ => ?_) (fun z => absurd rfl z)
    have e3 : zI (sI M1 20 1 0) 19 3 = nI (rlT (kA 1 (zI μ 21) (tL ρ)) (iA 1 (zI μ 21) (tL ρ)) 2100 201 0).2.1 := by rw [zI_ne (by decide)]; exact q1.at3
    rw [e3, nI_clamp (by omega), zI_ne (b := 23) (by decide), p1 _ aN]
    refine c_f (by rw [show (201 : Int32) = nI 201 from rfl, nI_leI (by decide) (by omega)]; omega) ⟨vp_in_nI (by omega) (by decide), ?_⟩
    have fA : Fx (fun b j => WQ b j ∨ (b = 20 ∧ j = 1)) μ (sI M1 20 1 0) := (f1.mono (fun b j z => Or.inl z)).wi (Or.inr ⟨rfl, rfl⟩)
    have fB : Fx (W6 ρ) μ (sI M1 20 1 0) := fA.mono (fun b j z => z.elim (fun z => Or.inl (WQ_S z)) (fun z => Or.inr (Or.inl z)))
    refine hK _ _ (fA.st hS) (fA.s0 (fun b j z => by unfold WQ WT WP at z; omega) hI.s0) fun Q hQ => rfp _ Q (fA.st hS) (fun b j b1 b2 => fA.i (by unfold WQ WT WP; omega)) (fun j => fA.2.2.2.2.1 _ _) (fun μ3 f3 _ => ?_) (fun z1 z2 => absurd ⟨z1, z2⟩ gd)
    have fC : Fx (W6 ρ) μ (sI μ3 31 41 0) := (fB.trans (f3.mono (fun b j z => Or.inl (WR_S (Nat.le_refl _) (Or.inl (by omega)) z)))).wi (Or.inr (Or.inr ⟨rfl, rfl⟩))
    refine hQ g _ (hI.tape hρ fC ?_ zI_eq (Nat.le_succ t))
    rw [zI_ne (by decide), f3.i (by unfold WR; omega), zI_eq]
end TxI
