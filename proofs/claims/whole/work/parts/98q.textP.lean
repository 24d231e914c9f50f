/-! a text that doesn't read: the tape alone is gone -/
def W6 (ρ : RV) (b j : Nat) : Prop := WS ρ b j ∨ (b = 20 ∧ j = 1) ∨ (b = 31 ∧ j = 41)
theorem WQ_S {ρ : RV} {b j : Nat} (h : WQ b j) : WS ρ b j := by
  unfold WQ WT WP at h
  unfold WS
  omega
theorem WR_S {ρ : RV} {ta b j : Nat} (h1 : nT ρ ≤ ta) (h2 : ta < 20 ∨ ta = 21) (h : WR ta b j) : WS ρ b j := by
  unfold WR at h
  unfold WS
  omega
section Tpe
variable {g : Gh} {L : Nat} {X : Nat → Int32} {t t' : Nat} {μ M : ZM} {ρ : RV}
theorem IV.tape (hI : IV g L X t μ) (hρ : rf μ = ρ) (f : Fx (W6 ρ) μ M) (h20 : zI M 20 1 = 0) (h41 : zI M 31 41 = 0) (ht : t ≤ t') : IV g L X t' M := by
  have hr := hI.r hρ
  have hc := hI.c hρ
  obtain ⟨s1, s2, s3, s4, s5, s6, s7, s8, s9, s10, s11⟩ := hc.s
  obtain ⟨b1, b2, b3, b4, b5, b6, b7, b8⟩ := hr.s
  have sc : ∀ j, j < 50 ∨ 58 ≤ j → j < 76 → j ≠ 41 → rf M 31 j = ρ 31 j := fun j j1 j2 j3 => by
    rw [rf_z (by decide) (by decide), f.i (by unfold W6 WS; omega), rfz hρ (by decide) (by decide)]
  have r41 : rf M 31 41 = 0 := by rw [rf_z (by decide) (by decide)]; exact h41
  have t0 : tL (rf M) = 0 := by unfold tL; rw [r41]; rfl
  refine IV.fr1 hI (f.st hI.st) (f.eqx.mono (fun b j z => ?_) (fun _ _ z => z)) hρ rfl ht ?_ ?_ ?_ ?_ ?_ ?_ (hI.w.cg (fun j => f.2.2.2.2.1 _ _))
  · rcases z with z | z | z
    · exact Or.inl z
    · exact Or.inr (Or.inr (Or.inl z))
    · exact Or.inr (Or.inr (Or.inr (Or.inr (Or.inr (Or.inl ⟨z.1, Or.inr z.2⟩)))))
  · rw [sc _ (by decide) (by decide) (by decide)]
    exact Int.le_refl _
  · rw [sc _ (by decide) (by decide) (by decide)]
    exact Int.le_refl _
  · refine ⟨?_, ?_, ?_, ?_, ?_, ?_, ?_, ?_⟩
    · unfold nM; rw [sc _ (by decide) (by decide) (by decide)]; exact b1
    · unfold nL; rw [sc _ (by decide) (by decide) (by decide)]; exact b2
    · unfold nS; rw [sc _ (by decide) (by decide) (by decide)]; exact b3
    · unfold nA; rw [sc _ (by decide) (by decide) (by decide)]; exact b4
    · unfold nT; rw [sc _ (by decide) (by decide) (by decide)]; exact b5
    · unfold nN; rw [sc _ (by decide) (by decide) (by decide)]; exact b6
    · rw [t0, r41]; exact ⟨rfl, by decide⟩
    · rw [sc _ (by decide) (by decide) (by decide)]; exact b8
  · have e : ∀ b j, b = 11 ∨ b = 17 → zI M b j = zI μ b j := fun b j hb => f.i (by unfold W6 WS; omega)
    refine ⟨?_, ?_, ?_, ?_, ?_, ?_, ?_, ?_, ?_, ?_, ?_⟩
    · rw [e _ _ (by decide), sc _ (by decide) (by decide) (by decide)]; exact s1
    · rw [e _ _ (by decide), sc _ (by decide) (by decide) (by decide)]; exact s2
    · rw [e _ _ (by decide), sc _ (by decide) (by decide) (by decide)]; exact s3
    · rw [e _ _ (by decide), sc _ (by decide) (by decide) (by decide)]; exact s4
    · rw [e _ _ (by decide), sc _ (by decide) (by decide) (by decide)]; exact s5
    · rw [e _ _ (by decide), sc _ (by decide) (by decide) (by decide)]; exact s6
    · rw [e _ _ (by decide), sc _ (by decide) (by decide) (by decide)]; exact s7
    · rw [e _ _ (by decide), sc _ (by decide) (by decide) (by decide)]; exact s8
    · rw [e _ _ (by decide), sc _ (by decide) (by decide) (by decide)]; exact s9
    · rw [e _ _ (by decide), sc _ (by decide) (by decide) (by decide)]; exact s10
    · rw [h20, r41]
  · refine ⟨fun j hj => ?_, fun j hj => by rw [t0] at hj; omega⟩
    have nn : nN (rf M) = nN ρ := by unfold nN; rw [sc _ (by decide) (by decide) (by decide)]
    rw [nn] at hj
    have e85 : rf M 85 j = ρ 85 j := by rw [rf_z (by decide) (by decide), f.i (by unfold W6 WS; omega), rfz hρ (by decide) (by decide)]
    rw [f.i (by unfold W6 WS; omega), e85]
    exact hc.n.1 j hj
  · intro j hj
    have e87 : rf M 87 j = ρ 87 j := by rw [rf_z (by decide) (by decide), f.i (by unfold W6 WS; omega), rfz hρ (by decide) (by decide)]
    rw [f.i (by unfold W6 WS; omega), e87]
    exact hc.h j hj
end Tpe
/-! a text that reads: what the desk makes of it -/
def TxD (μ D : ZM) (ρ : RV) (x1 x2 : Int32) (R : List Rul) : Prop := EqX μ D (W5 ρ) (WA5 ρ) ∧ Stat D ∧ (∀ b j, b < zN μ → zJ D b j = zJ μ b j) ∧ zN D = zN μ + 2 ∧ zI D 11 16 = nI (nT ρ + 1) ∧ zI D 20 1 = 0 ∧ zA D 16 (nT ρ) = some (zN μ) ∧ zA D 11 11 = zA μ 11 11 ∧ zK D (zN μ) = 9 ∧ zI D (zN μ) 0 = nI (nT ρ) ∧ zI D (zN μ) 1 = x1 ∧ zI D (zN μ) 2 = x2 ∧ zI D (zN μ) 3 = zI μ 11 17 / 24 ∧ zA D (zN μ) 4 = some (zN μ + 1) ∧ zK D (zN μ + 1) = 13 ∧ zL D (zN μ + 1) = (tcL 0 R).length ∧ lst (zI D (zN μ + 1)) 0 (tcL 0 R) ∧ bts (zI D (zN μ + 1)) (tcL 0 R).length (zI D (zN μ) 5) ∧ ∀ b j, 31 ≤ b → b < 88 → zI D b j = zI μ b j
section MkT
variable {E : ZE} {l : Launch} {d n c : Nat} {μ A : ZM} {ρ : RV} {x1 x2 : Int32} {R : List Rul} {K : Option Value → ZM → Prop}
theorem c_mk (h88 : 88 ≤ zN μ) (fA : Fx (fun b j => WQ b j ∨ (b = 20 ∧ j = 1)) μ A) (sA_ : Stat A) (h20 : zI A 20 1 = 0) (hl : zI A 19 2 = nI c) (hc : c = (tcL 0 R).length) (hc2 : c ≤ 200) (hx : lst (zI A 25) 0 (tcL 0 R)) (h16 : zI μ 11 16 = nI (nT ρ)) (hn : nT ρ < 20) (k : ∀ D, TxD μ D ρ x1 x2 R → K (some (.int (nI (nT ρ + 1) - 1))) D) : (¬ (zI (sNew A 9 0) 19 2) < 0) ∧ ((zI (sNew A 9 0) 19 2).toNatClampNeg ≤ 400) ∧ (11 ≤ (zN (sNew A 9 0))) ∧ (¬ (zI (sNew (sNew A 9 0) 13 ((zI (sNew A 9 0) 19 2).toNatClampNeg)) 19 2) < 0) ∧ (0 + (zI (sNew (sNew A 9 0) 13 ((zI (sNew A 9 0) 19 2).toNatClampNeg)) 19 2).toNatClampNeg ≤ zL (sNew (sNew A 9 0) 13 ((zI (sNew A 9 0) 19 2).toNatClampNeg)) 25) ∧ (0 + (zI (sNew (sNew A 9 0) 13 ((zI (sNew A 9 0) 19 2).toNatClampNeg)) 19 2).toNatClampNeg ≤ zL (sNew (sNew A 9 0) 13 ((zI (sNew A 9 0) 19 2).toNatClampNeg)) (zN (sNew A 9 0))) ∧ AW E l (d + 9) 0 0 mX9_init 0 (zargs 8 [.ref (zN A), .int (zI (sNew A 9 0) 11 16), .int x1, .int x2, .int ((zI (sNew A 9 0) 11 17) / 24), .ref (zN (sNew A 9 0))]) [] (sCpy (sNew (sNew A 9 0) 13 ((zI (sNew A 9 0) 19 2).toNatClampNeg)) 25 0 (zN (sNew A 9 0)) 0 (zI (sNew (sNew A 9 0) 13 ((zI (sNew A 9 0) 19 2).toNatClampNeg)) 19 2).toNatClampNeg) (fun v μ16 => v = none ∧ Stat μ16 ∧ (zK μ16 (zN A) = 9) ∧ (vp_in (zI A 11 16) 20) ∧ K (some (.int ((zI (sI (sA μ16 16 (zI A 11 16).toNatClampNeg (some (zN A))) 11 16 ((zI (sA μ16 16 (zI A 11 16).toNatClampNeg (some (zN A))) 11 16) + 1)) 11 16) - 1))) (sI (sA μ16 16 (zI A 11 16).toNatClampNeg (some (zN A))) 11 16 ((zI (sA μ16 16 (zI A 11 16).toNatClampNeg (some (zN A))) 11 16) + 1))) := by
  have p88 := h88
  have eN : zN A = zN μ := fA.1
  have e16 : zI A 11 16 = nI (nT ρ) := (fA.i (by unfold WQ WT WP; omega)).trans h16
  have e17 : zI A 11 17 = zI μ 11 17 := fA.i (by unfold WQ WT WP; omega)
  have z1 : zI (sNew A 9 0) 19 2 = nI c := by rw [zI_nn (by omega)]; exact hl
  have z2 : zI (sNew A 9 0) 11 16 = nI (nT ρ) := by rw [zI_nn (by omega)]; exact e16
  have z3 : zI (sNew A 9 0) 11 17 = zI μ 11 17 := by rw [zI_nn (by omega)]; exact e17
  have n1 : zN (sNew A 9 0) = zN μ + 1 := by rw [zN_sNew, eN]
  have z4 : zI (sNew (sNew A 9 0) 13 c) 19 2 = nI c := by rw [zI_nn (by omega)]; exact z1
  have l25 : zL (sNew (sNew A 9 0) 13 c) 25 = 400 := by rw [zL_nn (by omega), zL_nn (by omega)]; exact sl_25 sA_
  have l2 : zL (sNew (sNew A 9 0) 13 c) (zN μ + 1) = c := by rw [zL_ne' n1.symm]
  rw [z1, nI_clamp (by omega), z2, z3, z4, nI_clamp (by omega), l25, n1, l2, e16, nI_clamp (by omega), eN]
  refine ⟨nI_pos (by omega), by omega, by omega, nI_pos (by omega), by omega, by omega, ?_⟩
  obtain ⟨B, hB⟩ : ∃ B, B = sCpy (sNew (sNew A 9 0) 13 c) 25 0 (zN μ + 1) 0 c := ⟨_, rfl⟩
  rw [← hB]
  have sB_ : Stat B := by rw [hB]; exact (sA_.wNew.wNew).wCpy
  have nB : zN B = zN μ + 2 := by rw [hB]; show zN (sNew (sNew A 9 0) 13 c) = _; rw [zN_sNew, n1]
  have kB : zK B (zN μ) = 9 := by rw [hB]; show zK (sNew (sNew A 9 0) 13 c) _ = _; rw [zK_nn (by omega), zK_ne' eN.symm]
  have kB2 : zK B (zN μ + 1) = 13 := by rw [hB]; show zK (sNew (sNew A 9 0) 13 c) _ = _; rw [zK_ne' n1.symm]
  have lB : zL B (zN μ + 1) = c := by rw [hB]; exact l2
  have iB : ∀ j, j < c → zI B (zN μ + 1) j = zI A 25 j := fun j hj => by
    rw [hB, zI_sCpy, if_pos ⟨rfl, by omega, by omega⟩, zI_nn (by omega), zI_nn (by omega)]
    congr 1
    omega
  have oB : ∀ b j, b < zN μ → zI B b j = zI A b j := fun b j hb => by
    rw [hB, zI_sCpy, if_neg (by omega), zI_nn (by omega), zI_nn (by omega)]
  have aB : ∀ b j, b < zN μ → zA B b j = zA A b j := fun b j hb => by
    rw [hB]
    show zA (sNew (sNew A 9 0) 13 c) b j = _
    rw [zA_nn (by omega), zA_nn (by omega)]
  have jB : ∀ b j, b < zN μ → zJ B b j = zJ μ b j := fun b j hb => by
    rw [hB]
    show zJ (sNew (sNew A 9 0) 13 c) b j = _
    rw [zJ_sNew, zJ_sNew, n1, eN, if_neg (by omega), if_neg (by omega)]
    exact fA.2.2.2.2.1 b j
  have kzB : ∀ b, b < zN μ → zK B b = zK μ b ∧ zL B b = zL μ b := fun b hb => by
    rw [hB]
    show zK (sNew (sNew A 9 0) 13 c) b = _ ∧ zL (sNew (sNew A 9 0) 13 c) b = _
    rw [zK_nn (by omega), zK_nn (by omega), zL_nn (by omega), zL_nn (by omega)]
    exact ⟨fA.2.1 b, fA.2.2.1 b⟩
  refine t_X9_init sB_ ⟨kB, ?_⟩
  refine c_bits (n := c) ((sB_.wI.wI.wI.wI).wAhi h88) kB kB2 lB (by omega) (fun x hb => ⟨rfl, ((sB_.wI.wI.wI.wI).wAhi h88).wI, kB, vp_in_nI hn (by decide), ?_⟩)
  refine nmI (P := fun D => K (some (.int ((zI D 11 16) - 1))) D) fun D hD => ?_
  have hb' : ∀ j, zI (sA (sI (sI (sI (sI B (zN μ) 0 (nI (nT ρ))) (zN μ) 1 x1) (zN μ) 2 x2) (zN μ) 3 (zI μ 11 17 / 24)) (zN μ) 4 (some (zN μ + 1))) (zN μ + 1) j = zI B (zN μ + 1) j := fun j => by
    rw [zI_sA, zI_ne (by omega), zI_ne (by omega), zI_ne (by omega), zI_ne (by omega)]
  have d16 : zI D 11 16 = nI (nT ρ + 1) := by
    rw [hD, zI_eq, zI_sA, zI_ne (by omega), zI_sA, zI_ne (by omega), zI_ne (by omega), zI_ne (by omega), zI_ne (by omega), oB _ _ (by omega), e16, nI_1]
  rw [d16]
  have dI : ∀ b j, b < zN μ → ¬ (b = 11 ∧ j = 16) → zI D b j = zI A b j := fun b j hb hn => by
    rw [hD, zI_sI, if_neg hn, zI_sA, zI_ne (by omega), zI_sA, zI_ne (by omega), zI_ne (by omega), zI_ne (by omega), zI_ne (by omega), oB _ _ hb]
  have dA : ∀ b j, b < zN μ → ¬ (b = 16 ∧ j = nT ρ) → zA D b j = zA μ b j := fun b j hb hn => by
    rw [hD, zA_sI, zA_sA, if_neg hn, zA_sI, zA_ne (by omega), zA_sI, zA_sI, zA_sI, zA_sI, aB _ _ hb]
    exact fA.2.2.2.1 b j
  have dP : ∀ j, zI D (zN μ + 1) j = zI B (zN μ + 1) j := fun j => by
    rw [hD, zI_ne (by omega), zI_sA, zI_ne (by omega)]
    exact hb' j
  have dK : ∀ b, zK D b = zK B b := fun b => by rw [hD]; rfl
  have dL : ∀ b, zL D b = zL B b := fun b => by rw [hD]; rfl
  have dJ : ∀ b j, zJ D b j = zJ B b j := fun b j => by rw [hD]; rfl
  have dN : zN D = zN B := by rw [hD]; rfl
  have dS : Stat D := by rw [hD]; exact (((sB_.wI.wI.wI.wI).wAhi h88).wI.wAr (by decide)).wI
  refine k D ⟨⟨by rw [dN, nB]; omega, fun b hb => ⟨(dK b).trans (kzB b hb).1, (dL b).trans (kzB b hb).2⟩, fun b j hb hw => ?_, fun b j hb hw => dA b j hb (fun z => hw (Or.inr ⟨z.1, by omega⟩)), fun b j hb _ => by rw [dJ, jB b j hb]⟩, dS, fun b j hb => by rw [dJ]; exact jB b j hb, by rw [dN, nB], d16, ?_, ?_, dA _ _ (by omega) (by omega), (dK _).trans kB, ?_, ?_, ?_, ?_, ?_, (dK _).trans kB2, (dL _).trans (lB.trans hc), ?_, ?_, fun b j b1 b2 => ?_⟩
  · rw [dI b j hb (fun z => hw (Or.inr (Or.inr (Or.inr (Or.inl z)))))]
    refine fA.i (fun z => hw ?_)
    rcases z with z | z
    · exact Or.inl (WQ_S z)
    · exact Or.inr (Or.inl z)
  · rw [dI _ _ (by omega) (by omega)]
    exact h20
  · rw [hD, zA_sI, zA_eq]
  · rw [hD, zI_ne (by omega), zI_sA, zI_nk (by decide), zI_sA, zI_nk (by decide), zI_nk (by decide), zI_nk (by decide), zI_eq]
  · rw [hD, zI_ne (by omega), zI_sA, zI_nk (by decide), zI_sA, zI_nk (by decide), zI_nk (by decide), zI_eq]
  · rw [hD, zI_ne (by omega), zI_sA, zI_nk (by decide), zI_sA, zI_nk (by decide), zI_eq]
  · rw [hD, zI_ne (by omega), zI_sA, zI_nk (by decide), zI_sA, zI_eq]
  · rw [hD, zA_sI, zA_ne (by omega), zA_sI, zA_eq]
  · exact lst_cg (fun j j1 j2 => (dP j).trans (iB j (by omega))) hx
  · rw [← hc]
    have e5 : zI D (zN μ) 5 = x := by rw [hD, zI_ne (by omega), zI_sA, zI_eq]
    rw [e5]
    exact fun j kk hj hk e => hb j kk hj hk ((hb' j).trans ((dP j).symm.trans e))
  · rw [dI _ _ (by omega) (by omega)]
    exact fA.i (by unfold WQ WT WP; omega)
end MkT
