section Fr1
variable {g : Gh} {L : Nat} {X : Nat → Int32} {t t' : Nat} {μ μ' : ZM} {ρ ρ' : RV}
/-! writes to the hour, the tape, honesty and scratch alone -/
def W1 (ρ : RV) (b j : Nat) : Prop := WS ρ b j ∨ (b = 11 ∧ j = 17) ∨ (b = 20 ∧ j = 1) ∨ b = 21 ∨ b = 30 ∨ (b = 31 ∧ (j = 1 ∨ j = 41)) ∨ b = 65 ∨ b = 87
theorem IV.fr1 (hI : IV g L X t μ) (hS' : Stat μ') (hx : EqX μ μ' (W1 ρ) (fun _ _ => False)) (h1 : rf μ = ρ) (h2 : rf μ' = ρ') (ht : t ≤ t') (hh : (ρ 31 1).toInt ≤ (ρ' 31 1).toInt) (hd : (ρ 31 1 / 24).toInt ≤ (ρ' 31 1 / 24).toInt) (rs : RIs ρ') (cs : CRs μ' ρ') (cn : CRn μ' ρ') (ch : CRh μ' ρ') (cw : CRw μ') : IV g L X t' μ' := by
  have hS := hI.st
  have hr := hI.r h1
  have hc := hI.c h1
  have h88 := hS.2.2.2.1
  have hN := hx.1
  have hx' : EqX μ μ' (WI μ ρ (fun _ => False) (fun _ => False) (fun _ => False) (fun _ => False)) (WA μ ρ (fun _ => False) (fun _ => False)) := by
    refine EqX.mono hx (fun b j h => ?_) (fun b j h => h.elim)
    rcases h with h | h | h | h | h | h | h | h
    · rcases h with h | h | h | h | h | h
      · exact Or.inl (Or.inl (by omega))
      · exact Or.inl (Or.inl (by omega))
      · exact Or.inl (Or.inl (by omega))
      · exact Or.inl (Or.inl (by omega))
      · exact Or.inr ⟨by omega, by omega, Or.inr (Or.inr (Or.inr (Or.inr (Or.inr (Or.inr (Or.inr (Or.inr (Or.inr (Or.inr (Or.inl (by omega)))))))))))⟩
      · exact Or.inr ⟨by omega, by omega, Or.inr (Or.inr (Or.inr (Or.inr (Or.inr (Or.inr (Or.inr (Or.inr (Or.inr (Or.inl (by omega))))))))))⟩
    · exact Or.inl (Or.inl (by omega))
    · exact Or.inl (Or.inl (by omega))
    · exact Or.inl (Or.inl (by omega))
    · exact Or.inl (Or.inl (by omega))
    · exact Or.inl (Or.inl (by omega))
    · exact Or.inr ⟨by omega, by omega, Or.inr (Or.inr (Or.inr (Or.inr (Or.inr (Or.inr (Or.inr (Or.inl h)))))))⟩
    · exact Or.inr ⟨by omega, by omega, Or.inr (Or.inr (Or.inr (Or.inr (Or.inr (Or.inr (Or.inr (Or.inr (Or.inr (Or.inr (Or.inr (Or.inr (Or.inr (Or.inr h)))))))))))))⟩
  have er : ∀ b j, 31 ≤ b → b < 88 → ¬ W1 ρ b j → ρ' b j = ρ b j := fun b j b1 b2 hn => by
    rw [← rfz h2 b1 b2, ← rfz h1 b1 b2]
    exact hx.2.2.1 b j (by omega) hn
  have eI : ∀ b j, b < zN μ → ¬ W1 ρ b j → zI μ' b j = zI μ b j := hx.2.2.1
  have eA : ∀ b j, b < zN μ → zA μ' b j = zA μ b j := fun b j hb => hx.2.2.2.1 b j hb (fun z => z)
  have sc : ∀ j, j = 3 ∨ j = 14 ∨ j = 18 ∨ j = 22 ∨ j = 42 ∨ j = 49 ∨ j = 60 → ρ' 31 j = ρ 31 j := fun j hj => er 31 j (by decide) (by decide) (by unfold W1 WS; omega)
  have c1 : nM ρ' = nM ρ := by unfold nM; rw [sc _ (by decide)]
  have c2 : nL ρ' = nL ρ := by unfold nL; rw [sc _ (by decide)]
  have c3 : nS ρ' = nS ρ := by unfold nS; rw [sc _ (by decide)]
  have c4 : nA ρ' = nA ρ := by unfold nA; rw [sc _ (by decide)]
  have c5 : nT ρ' = nT ρ := by unfold nT; rw [sc _ (by decide)]
  have rw' : ∀ b j, 32 ≤ b → b < 65 → ρ' b j = ρ b j := fun b j b1 b2 => er b j (by omega) (by omega) (by unfold W1 WS; omega)
  have rw2 : ∀ b j, 74 ≤ b → b < 87 → ρ' b j = ρ b j := fun b j b1 b2 => er b j (by omega) (by omega) (by unfold W1 WS; omega)
  have fS : ∀ j, saF μ' j = saF μ j := fun j => by unfold saF; rw [eA 14 j (by omega)]
  have fM : ∀ j, maF μ' j = maF μ j := fun j => by unfold maF; rw [eA 12 j (by omega)]
  have fA : ∀ j, aaF μ' j = aaF μ j := fun j => by unfold aaF; rw [eA 15 j (by omega)]
  have esl : ∀ j, smo ρ' j = smo ρ j := fun j => by unfold smo lm sl; rw [rw' _ _ (by decide) (by decide), rw' _ _ (by decide) (by decide)]
  refine IV.fr hI hS' hx' h1 h2 ht (fun _ _ => rfl) (by omega) (by omega) (by omega) (by omega) (by omega) hh hd rs
    (fun i hi q => (q (by omega)).elim) (fun i hi q => (q (by omega)).elim) (fun i hi q => (q (by omega)).elim) (fun i hi q => (q (by omega)).elim) (fun i hi q => by omega) ?_ ?_ ?_ cs cn ch ?_ ?_ ?_ cw
  · exact hr.f.cg (by omega) (by omega) (by omega) (fun b i hb hi => rw' b i (by omega) (by omega)) (fun b i hb hi => rw' b i (by omega) (by omega)) (fun b i hb hi => rw2 b i (by omega) (by omega))
  · exact hr.w.cg c4 (fun i hi => ⟨rw2 _ _ (by decide) (by decide), by unfold as_; rw [rw2 _ _ (by decide) (by decide)]⟩) (fun i hi q1 q2 => by rw [rw' _ _ (by decide) (by decide)]; exact q2)
  · exact hr.lm.cg (sc _ (by decide)) (er _ _ (by decide) (by decide) (by unfold W1 WS; omega)) (fun j j1 j2 => ⟨er _ _ (by decide) (by decide) (by unfold W1 WS; omega), er _ _ (by decide) (by decide) (by unfold W1 WS; omega)⟩)
  · intro i j hi hj e
    rw [fA, fA] at e
    exact hc.d i j (by omega) (by omega) e
  · refine hc.lm.cg (sc _ (by decide)) (eA _ _ (by omega)) hN (fun b b1 b2 b3 b4 => ⟨(hx.2.1 b b2).1, (hx.2.1 b b2).2, fun j => eI b j b2 (by unfold W1 WS; omega), fun j => eA b j b2⟩) (fun i _ => fM i) (fun i i1 i2 => by omega)
  · refine hc.u.cg (sc _ (by decide)) (by omega) (by omega) (fun b b1 b2 j => rw' _ _ (by omega) (by omega)) (fun j hj a1 a2 => ?_) (fun j hj => ⟨fS j, eA _ _ (k_sa hc hj).2.2⟩) (fun j j1 j2 => by omega) (fun m hm => ?_) (fun m m1 m2 => by omega) (fun j hj => (hr.l (hr.sa hj).2.1).2.1) (by have := hr.s.1.2; omega)
    · rw [rw' _ _ (by decide) (by decide), rw' _ _ (by decide) (by decide), rw2 _ _ (by decide) (by decide), rw' _ _ (by decide) (by decide)]
      exact ⟨a1, a2, esl j, rfl⟩
    · have k := k_ma hc hm
      rw [fM, eA _ _ (by omega), eA _ _ (by omega), eI _ _ (by omega) (by unfold W1 WS; omega)]
      exact ⟨rfl, rfl, rfl⟩
end Fr1
