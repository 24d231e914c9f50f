section Fr
variable {g g' : Gh} {L : Nat} {X : Nat → Int32} {t t' : Nat} {μ μ' : ZM} {ρ ρ' : RV} {Ps Pa Pl Pm : Nat → Prop} {b j k : Nat}
section Cells

theorem WIo.sa (hr : RIg g t ρ) (hc : CRg g μ ρ) (hj : j < nS ρ) (h : WIo μ ρ Ps Pa Pl Pm (saF μ j) k) : Ps j := by
  obtain ⟨q1, q2, q3⟩ := k_sa hc hj
  rcases h with h | ⟨i, p, hi, e⟩ | ⟨i, p, hi, e⟩ | ⟨-, i, p, hi, e⟩ | ⟨i, p, hi, e⟩
  · omega
  · rw [sa_inj hr hc hj hi e]
    exact p
  · exact absurd e (kne q1 (k_aa hc hi).1 (by decide))
  · exact absurd e (kne q1 (k_la hc hi).1 (by decide))
  · obtain ⟨m1, m2, m3, -⟩ := k_ma hc hi
    rcases e with e | e | e
    · exact absurd e (kne q1 m1 (by decide))
    · exact absurd e (kne q1 m2 (by decide))
    · exact absurd e (kne q1 m3 (by decide))
theorem WIo.aa (hr : RIg g t ρ) (hc : CRg g μ ρ) (hj : j < nA ρ) (h : WIo μ ρ Ps Pa Pl Pm (aaF μ j) k) : Pa j := by
  obtain ⟨q1, q2, q3⟩ := k_aa hc hj
  rcases h with h | ⟨i, p, hi, e⟩ | ⟨i, p, hi, e⟩ | ⟨-, i, p, hi, e⟩ | ⟨i, p, hi, e⟩
  · omega
  · exact absurd e (kne q1 (k_sa hc hi).1 (by decide))
  · rw [hc.d j i hj hi e]
    exact p
  · exact absurd e (kne q1 (k_la hc hi).1 (by decide))
  · obtain ⟨m1, m2, m3, -⟩ := k_ma hc hi
    rcases e with e | e | e
    · exact absurd e (kne q1 m1 (by decide))
    · exact absurd e (kne q1 m2 (by decide))
    · exact absurd e (kne q1 m3 (by decide))
theorem WIo.la (hr : RIg g t ρ) (hc : CRg g μ ρ) (hj : j < nL ρ) (h : WIo μ ρ Ps Pa Pl Pm (laF μ j) k) : Pl j := by
  obtain ⟨q1, q2, q3⟩ := k_la hc hj
  rcases h with h | ⟨i, p, hi, e⟩ | ⟨i, p, hi, e⟩ | ⟨-, i, p, hi, e⟩ | ⟨i, p, hi, e⟩
  · omega
  · exact absurd e (kne q1 (k_sa hc hi).1 (by decide))
  · exact absurd e (kne q1 (k_aa hc hi).1 (by decide))
  · rw [la_inj hr hc hj hi e]
    exact p
  · obtain ⟨m1, m2, m3, -⟩ := k_ma hc hi
    rcases e with e | e | e
    · exact absurd e (kne q1 m1 (by decide))
    · exact absurd e (kne q1 m2 (by decide))
    · exact absurd e (kne q1 m3 (by decide))
theorem WIo.ma (hr : RIg g t ρ) (hc : CRg g μ ρ) (hj : j < nM ρ) (hb : b = maF μ j ∨ b = maF μ j + 1 ∨ b = maF μ j + 2) (h : WIo μ ρ Ps Pa Pl Pm b k) : Pm j := by
  obtain ⟨q1, q2, q3, q4, q5⟩ := k_ma hc hj
  have hk : zK μ b = 4 ∨ zK μ b = 13 := by rcases hb with rfl | rfl | rfl <;> simp [q1, q2, q3]
  rcases h with h | ⟨i, p, hi, e⟩ | ⟨i, p, hi, e⟩ | ⟨-, i, p, hi, e⟩ | ⟨i, p, hi, e⟩
  · omega
  · have := (k_sa hc hi).1
    rw [e] at hk
    omega
  · have := (k_aa hc hi).1
    rw [e] at hk
    omega
  · have := (k_la hc hi).1
    rw [e] at hk
    omega
  · obtain ⟨m1, m2, m3, -⟩ := k_ma hc hi
    have e2 : maF μ j = maF μ i := by
      rcases hb with hb | hb | hb <;> rcases e with e | e | e
      · omega
      · exact absurd (hb.symm.trans e) (kne q1 m2 (by decide))
      · exact absurd (hb.symm.trans e) (kne q1 m3 (by decide))
      · exact absurd (hb.symm.trans e) (kne q2 m1 (by decide))
      · omega
      · exact absurd (show maF μ j = maF μ i + 1 by omega) (kne q1 m2 (by decide))
      · exact absurd (hb.symm.trans e) (kne q3 m1 (by decide))
      · exact absurd (show maF μ j + 1 = maF μ i by omega) (kne q2 m1 (by decide))
      · omega
    rw [ma_inj hr hc hj hi e2]
    exact p
theorem WIo.ta (hr : RIg g t ρ) (hc : CRg g μ ρ) (hj : j < nT ρ) (hb : b = taF μ j ∨ b = taF μ j + 1) (h : WIo μ ρ Ps Pa Pl Pm b k) : False := by
  obtain ⟨q1, q2, q4, q5⟩ := k_ta hc hj
  have hk : zK μ b = 9 ∨ zK μ b = 13 := by rcases hb with rfl | rfl <;> simp [q1, q2]
  rcases h with h | ⟨i, p, hi, e⟩ | ⟨i, p, hi, e⟩ | ⟨-, i, p, hi, e⟩ | ⟨i, p, hi, e⟩
  · omega
  · have := (k_sa hc hi).1
    rw [e] at hk
    omega
  · have := (k_aa hc hi).1
    rw [e] at hk
    omega
  · have := (k_la hc hi).1
    rw [e] at hk
    omega
  · obtain ⟨m1, m2, m3, -⟩ := k_ma hc hi
    rcases hb with hb | hb <;> rcases e with e | e | e
    · exact absurd (hb.symm.trans e) (kne q1 m1 (by decide))
    · exact absurd (hb.symm.trans e) (kne q1 m2 (by decide))
    · exact absurd (hb.symm.trans e) (kne q1 m3 (by decide))
    · exact absurd (hb.symm.trans e) (kne q2 m1 (by decide))
    · exact absurd (show taF μ j = maF μ i by omega) (kne q1 m1 (by decide))
    · exact absurd (show taF μ j = maF μ i + 1 by omega) (kne q1 m2 (by decide))
theorem WIo.lo (hr : RIg g t ρ) (hc : CRg g μ ρ) (h1 : b ≤ 10 ∨ 32 ≤ b) (h2 : b < 88) (h : WIo μ ρ Ps Pa Pl Pm b k) : False := by
  rcases h with h | ⟨i, p, hi, e⟩ | ⟨i, p, hi, e⟩ | ⟨-, i, p, hi, e⟩ | ⟨i, p, hi, e⟩
  · omega
  · have := (k_sa hc hi).2.1
    omega
  · have := (k_aa hc hi).2.1
    omega
  · have := (k_la hc hi).2.1
    omega
  · have := (k_ma hc hi).2.2.2.1
    omega
theorem WA.hi (hr : RIg g t ρ) (hc : CRg g μ ρ) (h1 : 88 ≤ b) (h : WA μ ρ Ps Pm b k) : (∃ i, Ps i ∧ i < nS ρ ∧ b = saF μ i) ∨ (∃ i, Pm i ∧ i < nM ρ ∧ b = maF μ i) := by
  rcases h with h | h | h | h | h | h | h
  · omega
  · omega
  · omega
  · omega
  · omega
  · omega
  · exact h
theorem WA.o (hr : RIg g t ρ) (hc : CRg g μ ρ) (h1 : 88 ≤ b) (h : WA μ ρ Ps Pm b k) : WIo μ ρ Ps Pa Pl Pm b k := by
  rcases WA.hi hr hc h1 h with h | ⟨i, p, hi, e⟩
  · exact Or.inr (Or.inl h)
  · exact Or.inr (Or.inr (Or.inr (Or.inr ⟨i, p, hi, Or.inl e⟩)))
theorem WA.lo (hr : RIg g t ρ) (hc : CRg g μ ρ) (h2 : b < 88) (h : WA μ ρ Ps Pm b k) : (b = 11 ∧ k = 11) ∨ (b = 12 ∧ nM ρ ≤ k) ∨ (b = 13 ∧ nL ρ ≤ k) ∨ (b = 14 ∧ nS ρ ≤ k) ∨ (b = 15 ∧ nA ρ ≤ k) ∨ (b = 16 ∧ nT ρ ≤ k) := by
  rcases h with h | h | h | h | h | h | ⟨i, p, hi, e⟩ | ⟨i, p, hi, e⟩
  · exact Or.inl h
  · exact Or.inr (Or.inl h)
  · exact Or.inr (Or.inr (Or.inl h))
  · exact Or.inr (Or.inr (Or.inr (Or.inl h)))
  · exact Or.inr (Or.inr (Or.inr (Or.inr (Or.inl h))))
  · exact Or.inr (Or.inr (Or.inr (Or.inr (Or.inr h))))
  · have := (k_sa hc hi).2.1
    omega
  · have := (k_ma hc hi).2.2.2.1
    omega
theorem EqX.sm (hr : RIg g t ρ) (hc : CRg g μ ρ) (hx : EqX μ μ' (WI μ ρ Ps Pa Pl Pm) (WA μ ρ Ps Pm)) (h1 : 88 ≤ b) (h2 : b < zN μ) (hn : ∀ k, ¬ WIo μ ρ Ps Pa Pl Pm b k) : SM μ μ' b := by
  refine ⟨(hx.2.1 b h2).1, (hx.2.1 b h2).2, fun j => hx.2.2.1 b j h2 ?_, fun j => hx.2.2.2.1 b j h2 ?_⟩
  · rintro (h | h)
    · exact hn _ h
    · have := h.2.1
      omega
  · intro h
    exact hn j (WA.o hr hc h1 h)
end Cells
theorem WIr.sa (h : WIr ρ Ps Pa Pl Pm b j) (h1 : 48 ≤ b) (h2 : b ≤ 64) (hj : j < nS ρ) : b ≠ 49 ∧ Ps j := by
  obtain ⟨-, -, h⟩ := h
  rcases h with h | h | h | h | h | h | h | h | h | h | h | h | h | h | h
  all_goals first | (exfalso; omega) | exact h.2.2
theorem WIr.aa (h : WIr ρ Ps Pa Pl Pm b j) (h1 : 74 ≤ b) (h2 : b ≤ 84) (hj : j < nA ρ) : b ≠ 74 ∧ b ≠ 79 ∧ Pa j := by
  obtain ⟨-, -, h⟩ := h
  rcases h with h | h | h | h | h | h | h | h | h | h | h | h | h | h | h
  all_goals first | (exfalso; omega) | exact ⟨by omega, h.2.2⟩
theorem WIr.la (h : WIr ρ Ps Pa Pl Pm b j) (h1 : 45 ≤ b) (h2 : b ≤ 47) (hj : j < nL ρ) : b = 47 ∧ Pl j := by
  obtain ⟨-, -, h⟩ := h
  rcases h with h | h | h | h | h | h | h | h | h | h | h | h | h | h | h
  all_goals first | (exfalso; omega) | exact h
theorem WIr.ma (h : WIr ρ Ps Pa Pl Pm b j) (h2 : b ≤ 41) (h36 : b ≠ 36) (h37 : b ≠ 37) (hj : j < nM ρ) : Pm j := by
  obtain ⟨-, -, h⟩ := h
  rcases h with h | h | h | h | h | h | h | h | h | h | h | h | h | h | h
  · exact h.2.2.2.resolve_right (by omega)
  all_goals (exfalso; omega)
theorem WIr.mp (h : WIr ρ Ps Pa Pl Pm b j) (h1 : 36 ≤ b) (h2 : b ≤ 37) (hj : j / 20 < nM ρ) : Pm (j / 20) := by
  obtain ⟨-, -, h⟩ := h
  rcases h with h | h | h | h | h | h | h | h | h | h | h | h | h | h | h
  · exfalso; omega
  · exact h.2.2.resolve_right (by omega)
  all_goals (exfalso; omega)
theorem WIr.ta (h : WIr ρ Ps Pa Pl Pm b j) (h1 : 66 ≤ b) (h2 : b ≤ 69) (hj : j < nT ρ) : False := by
  obtain ⟨-, -, h⟩ := h
  rcases h with h | h | h | h | h | h | h | h | h | h | h | h | h | h | h
  all_goals omega
theorem WIr.ts (h : WIr ρ Ps Pa Pl Pm b j) (h1 : 70 ≤ b) (h2 : b ≤ 71) (hj : j < 200 * nT ρ) : False := by
  obtain ⟨-, -, h⟩ := h
  rcases h with h | h | h | h | h | h | h | h | h | h | h | h | h | h | h
  all_goals omega
/-- reference's rows that are not written -/
theorem EqX.rr (hS : Stat μ) (hr : RIg g t ρ) (hc : CRg g μ ρ) (hx : EqX μ μ' (WI μ ρ Ps Pa Pl Pm) (WA μ ρ Ps Pm)) (h1 : rf μ = ρ) (h2 : rf μ' = ρ') (hb : 32 ≤ b) (hb' : b < 88) (hn : ¬ WIr ρ Ps Pa Pl Pm b j) : ρ' b j = ρ b j := by
  rw [← rfz h2 (by omega) hb', ← rfz h1 (by omega) hb']
  refine hx.2.2.1 b j (by have := hS.2.2.2.1; omega) ?_
  rintro (h | h)
  · exact WIo.lo hr hc (Or.inr hb) hb' h
  · exact hn h
theorem EqX.ra (hS : Stat μ) (hr : RIg g t ρ) (hc : CRg g μ ρ) (hx : EqX μ μ' (WI μ ρ Ps Pa Pl Pm) (WA μ ρ Ps Pm)) : (∀ i, i < nM ρ → zA μ' 12 i = zA μ 12 i) ∧ (∀ i, i < nL ρ → zA μ' 13 i = zA μ 13 i) ∧ (∀ i, i < nS ρ → zA μ' 14 i = zA μ 14 i) ∧ (∀ i, i < nA ρ → zA μ' 15 i = zA μ 15 i) ∧ (∀ i, i < nT ρ → zA μ' 16 i = zA μ 16 i) := by
  have h88 := hS.2.2.2.1
  refine ⟨fun i hi => hx.2.2.2.1 _ i (by omega) ?_, fun i hi => hx.2.2.2.1 _ i (by omega) ?_, fun i hi => hx.2.2.2.1 _ i (by omega) ?_, fun i hi => hx.2.2.2.1 _ i (by omega) ?_, fun i hi => hx.2.2.2.1 _ i (by omega) ?_⟩
  all_goals
    intro h
    have := WA.lo hr hc (by omega) h
    omega
theorem IV.fr (hI : IV g L X t μ) (hS' : Stat μ') (hx : EqX μ μ' (WI μ ρ Ps Pa Pl Pm) (WA μ ρ Ps Pm)) (h1 : rf μ = ρ) (h2 : rf μ' = ρ') (ht : t ≤ t') (hg : ∀ i, i < nT ρ → g'.1 i = g.1 i)
    (cM : nM ρ ≤ nM ρ') (cL : nL ρ ≤ nL ρ') (cS : nS ρ ≤ nS ρ') (cA : nA ρ ≤ nA ρ') (cT : nT ρ ≤ nT ρ') (hh : (ρ 31 1).toInt ≤ (ρ' 31 1).toInt) (hd : (ρ 31 1 / 24).toInt ≤ (ρ' 31 1 / 24).toInt) (rs : RIs ρ')
    (rm : ∀ i, i < nM ρ' → (i < nM ρ → Pm i) → RIm ρ' t' i ∧ CRm μ' ρ' i) (rl : ∀ i, i < nL ρ' → (i < nL ρ → Pl i) → RIl ρ' i ∧ CRl μ' ρ' i) (rsa : ∀ i, i < nS ρ' → (i < nS ρ → Ps i) → RIsa ρ' i ∧ CRsa μ' ρ' i) (ra : ∀ i, i < nA ρ' → (i < nA ρ → Pa i) → RIa ρ' i ∧ CRa μ' ρ' i) (rt : ∀ i, i < nT ρ' → nT ρ ≤ i → RTx g' ρ' i ∧ CTx g' μ' ρ' i)
    (rfr : RFr ρ') (rwt : RWt ρ') (rlm : RLm g' ρ') (cs : CRs μ' ρ') (cn : CRn μ' ρ') (ch : CRh μ' ρ') (cd : CRd μ' ρ') (cl : CLm g' μ' ρ') (cu : CRu μ' ρ') (cw : CRw μ') : IV g' L X t' μ' := by
  have hS := hI.st
  have hr := hI.r h1
  have hc := hI.c h1
  have hN := hx.1
  have h88 := hS.2.2.2.1
  obtain ⟨aM, aL, aS, aA, aT⟩ := EqX.ra hS hr hc hx
  have fM : ∀ i, i < nM ρ → maF μ' i = maF μ i := fun i hi => by unfold maF; rw [aM i hi]
  have fL : ∀ i, i < nL ρ → laF μ' i = laF μ i := fun i hi => by unfold laF; rw [aL i hi]
  have fS : ∀ i, i < nS ρ → saF μ' i = saF μ i := fun i hi => by unfold saF; rw [aS i hi]
  have fA : ∀ i, i < nA ρ → aaF μ' i = aaF μ i := fun i hi => by unfold aaF; rw [aA i hi]
  have lo : ∀ b j, b ≤ 10 → zI μ' b j = zI μ b j := fun b j hb => hx.2.2.1 b j (by omega) (fun h => by
    rcases h with h | h
    · exact WIo.lo hr hc (Or.inl hb) (by omega) h
    · have := h.1
      omega)
  have r45 : ∀ i, i < nL ρ → ρ' 45 i = ρ 45 i := fun i hi => EqX.rr hS hr hc hx h1 h2 (by decide) (by decide) (fun h => by have := (WIr.la h (by decide) (by decide) hi).1; omega)
  have r49 : ∀ i, i < nS ρ → ρ' 49 i = ρ 49 i := fun i hi => EqX.rr hS hr hc hx h1 h2 (by decide) (by decide) (fun h => (WIr.sa h (by decide) (by decide) hi).1 _root_.rfl)
  have fsl : ∀ i, i < nS ρ → sl ρ' i = sl ρ i := fun i hi => by unfold sl; rw [r49 i hi]
  have fmo : ∀ i, i < nS ρ → smo ρ' i = smo ρ i := fun i hi => by unfold smo lm; rw [fsl i hi, r45 _ (hr.sa hi).2.1]
  refine ⟨hS', ⟨(hx.2.1 0 (by omega)).2.trans hI.s0.1, fun j => (lo 0 j (by omega)).trans (hI.s0.2 j)⟩, ?_, cw, h2 ▸ ⟨rs, fun i hi => ?_, fun i hi => ?_, fun i hi => ?_, fun i hi => ?_, rfr, rwt, fun i hi => ?_, rlm⟩, h2 ▸ ⟨cs, cn, ch, fun i hi => ?_, fun i hi => ?_, fun i hi => ?_, fun i hi => ?_, cd, fun i hi => ?_, cl, cu⟩⟩
  · obtain ⟨c1, c2, c3, c4, c5, c6⟩ := hI.cst
    exact ⟨fun j hj => (lo _ _ (by omega)).trans (c1 j hj), fun j hj => (lo _ _ (by omega)).trans (c2 j hj), fun j hj => (lo _ _ (by omega)).trans (c3 j hj), fun j hj => (lo _ _ (by omega)).trans (c4 j hj), fun j hj => (lo _ _ (by omega)).trans (c5 j hj), fun j hj => (hx.2.2.2.2 10 j (by omega) (by decide)).trans (c6 j hj)⟩
  · by_cases p : i < nM ρ → Pm i
    · exact (rm i hi p).1
    · have hi' : i < nM ρ := Classical.byContradiction fun q => p (fun z => absurd z q)
      have np : ¬ Pm i := fun q => p (fun _ => q)
      refine (hr.m hi').fr ht (fun b b1 b2 b3 b4 => EqX.rr hS hr hc hx h1 h2 b1 (by omega) (fun h => np (WIr.ma h b2 b3 b4 hi'))) (fun b b1 b2 j hj => EqX.rr hS hr hc hx h1 h2 (by omega) (by omega) (fun h => np ?_))
      have := WIr.mp h b1 b2 (by omega)
      rwa [show (20 * i + j) / 20 = i by omega] at this
  · by_cases p : i < nL ρ → Pl i
    · exact (rl i hi p).1
    · have hi' : i < nL ρ := Classical.byContradiction fun q => p (fun z => absurd z q)
      have np : ¬ Pl i := fun q => p (fun _ => q)
      exact (hr.l hi').fr (fun b b1 b2 => EqX.rr hS hr hc hx h1 h2 (by omega) (by omega) (fun h => np (WIr.la h b1 b2 hi').2)) cM
  · by_cases p : i < nS ρ → Ps i
    · exact (rsa i hi p).1
    · have hi' : i < nS ρ := Classical.byContradiction fun q => p (fun z => absurd z q)
      have np : ¬ Ps i := fun q => p (fun _ => q)
      exact (hr.sa hi').fr (fun b b1 b2 => EqX.rr hS hr hc hx h1 h2 (by omega) (by omega) (fun h => np (WIr.sa h b1 b2 hi').2)) cL cA hh hd
  · by_cases p : i < nA ρ → Pa i
    · exact (ra i hi p).1
    · have hi' : i < nA ρ := Classical.byContradiction fun q => p (fun z => absurd z q)
      have np : ¬ Pa i := fun q => p (fun _ => q)
      exact (hr.a hi').fr (fun b b1 b2 => EqX.rr hS hr hc hx h1 h2 (by omega) (by omega) (fun h => np (WIr.aa h b1 b2 hi').2.2)) cS hd
  · by_cases p : nT ρ ≤ i
    · exact (rt i hi p).1
    · have hi' : i < nT ρ := by omega
      exact (hr.tx hi').fr (hg i hi') (EqX.rr hS hr hc hx h1 h2 (by decide) (by decide) (fun h => WIr.ta h (by decide) (by decide) hi')) (fun j hj => ⟨EqX.rr hS hr hc hx h1 h2 (by decide) (by decide) (fun h => WIr.ts h (by decide) (by decide) (by omega)), EqX.rr hS hr hc hx h1 h2 (by decide) (by decide) (fun h => WIr.ts h (by decide) (by decide) (by omega))⟩)
  · by_cases p : i < nM ρ → Pm i
    · exact (rm i hi p).2
    · have hi' : i < nM ρ := Classical.byContradiction fun q => p (fun z => absurd z q)
      have np : ¬ Pm i := fun q => p (fun _ => q)
      obtain ⟨k1, k2, k3, k4, k5⟩ := k_ma hc hi'
      refine (hc.m hi').fr hN (aM i hi') (EqX.sm hr hc hx k4 (by omega) (fun k h => np (WIo.ma hr hc hi' (Or.inl _root_.rfl) h))) (EqX.sm hr hc hx (by omega) (by omega) (fun k h => np (WIo.ma hr hc hi' (Or.inr (Or.inl _root_.rfl)) h))) (EqX.sm hr hc hx (by omega) (by omega) (fun k h => np (WIo.ma hr hc hi' (Or.inr (Or.inr _root_.rfl)) h))) (fun b b1 b2 b3 b4 => EqX.rr hS hr hc hx h1 h2 b1 (by omega) (fun h => np (WIr.ma h b2 b3 b4 hi'))) (fun b b1 b2 j hj => EqX.rr hS hr hc hx h1 h2 (by omega) (by omega) (fun h => np ?_))
      have := WIr.mp h b1 b2 (by omega)
      rwa [show (20 * i + j) / 20 = i by omega] at this
  · by_cases p : i < nL ρ → Pl i
    · exact (rl i hi p).2
    · have hi' : i < nL ρ := Classical.byContradiction fun q => p (fun z => absurd z q)
      have np : ¬ Pl i := fun q => p (fun _ => q)
      exact (hc.l hi').fr hN (aL i hi') (EqX.sm hr hc hx (k_la hc hi').2.1 (k_la hc hi').2.2 (fun k h => np (WIo.la hr hc hi' h))) (fun b b1 b2 => EqX.rr hS hr hc hx h1 h2 (by omega) (by omega) (fun h => np (WIr.la h b1 b2 hi').2)) (fM _ (hr.l hi').2.1)
  · by_cases p : i < nS ρ → Ps i
    · exact (rsa i hi p).2
    · have hi' : i < nS ρ := Classical.byContradiction fun q => p (fun z => absurd z q)
      have np : ¬ Ps i := fun q => p (fun _ => q)
      have hl := (hr.sa hi').2.1
      exact (hc.sa hi').fr hN (aS i hi') (EqX.sm hr hc hx (k_sa hc hi').2.1 (k_sa hc hi').2.2 (fun k h => np (WIo.sa hr hc hi' h))) (fun b b1 b2 => EqX.rr hS hr hc hx h1 h2 (by omega) (by omega) (fun h => np (WIr.sa h b1 b2 hi').2)) (fM _ (hr.l hl).2.1) (fL _ hl) (fmo i hi') (fun q => fA _ ((hr.sa hi').2.2.2.2.2.2.2.2.2.2.2.2.2.2.2.1 q).2)
  · by_cases p : i < nA ρ → Pa i
    · exact (ra i hi p).2
    · have hi' : i < nA ρ := Classical.byContradiction fun q => p (fun z => absurd z q)
      have np : ¬ Pa i := fun q => p (fun _ => q)
      exact (hc.a hi').fr hN (aA i hi') (EqX.sm hr hc hx (k_aa hc hi').2.1 (k_aa hc hi').2.2 (fun k h => np (WIo.aa hr hc hi' h))) (fun b b1 b2 => EqX.rr hS hr hc hx h1 h2 (by omega) (by omega) (fun h => np (WIr.aa h b1 b2 hi').2.2)) (fS _ (hr.a hi').2.1)
  · by_cases p : nT ρ ≤ i
    · exact (rt i hi p).2
    · have hi' : i < nT ρ := by omega
      obtain ⟨k1, k2, k3, k4⟩ := k_ta hc hi'
      exact (hc.tx hi').fr (hg i hi') hN (aT i hi') (EqX.sm hr hc hx k3 (by omega) (fun k h => WIo.ta hr hc hi' (Or.inl _root_.rfl) h)) (EqX.sm hr hc hx (by omega) (by omega) (fun k h => WIo.ta hr hc hi' (Or.inr _root_.rfl) h)) (fun b b1 b2 => EqX.rr hS hr hc hx h1 h2 (by omega) (by omega) (fun h => WIr.ta h b1 b2 hi'))
end Fr
