section Fr4
variable {g : Gh} {L : Nat} {X : Nat → Int32} {t t' : Nat} {μ μ' : ZM} {ρ ρ' : RV} {Ps Pa Pl Pm : Nat → Prop} {a k b j c n : Nat}
def W4 (μ : ZM) (ρ : RV) (Ps Pa Pl Pm : Nat → Prop) (b j : Nat) : Prop := WS ρ b j ∨ (b = 17 ∧ 1 ≤ j) ∨ b = 18 ∨ (∃ i, Ps i ∧ i < nS ρ ∧ b = saF μ i) ∨ (∃ i, Pa i ∧ i < nA ρ ∧ b = aaF μ i) ∨ (j = 2 ∧ ∃ i, Pl i ∧ i < nL ρ ∧ b = laF μ i) ∨ (∃ i, Pm i ∧ i < nM ρ ∧ (b = maF μ i ∨ b = maF μ i + 1 ∨ b = maF μ i + 2))
  ∨ (b = 31 ∧ (j = 2 ∨ (72 ≤ j ∧ j ≤ 74))) ∨ (32 ≤ b ∧ b ≤ 41 ∧ b ≠ 36 ∧ b ≠ 37 ∧ Pm j) ∨ (36 ≤ b ∧ b ≤ 37 ∧ Pm (j / 20)) ∨ (b = 47 ∧ Pl j) ∨ (48 ≤ b ∧ b ≤ 64 ∧ b ≠ 49 ∧ Ps j) ∨ (75 ≤ b ∧ b ≤ 84 ∧ b ≠ 79 ∧ Pa j) ∨ b = 85 ∨ (42 ≤ b ∧ b ≤ 44) ∨ (b = 31 ∧ j = 14)
def WA4 (μ : ZM) (ρ : RV) (Ps Pm : Nat → Prop) (b j : Nat) : Prop := (∃ i, Ps i ∧ i < nS ρ ∧ b = saF μ i) ∨ (∃ i, Pm i ∧ i < nM ρ ∧ b = maF μ i)
theorem IV.fr4 (hI : IV g L X t μ) (hS' : Stat μ') (hx : EqX μ μ' (W4 μ ρ Ps Pa Pl Pm) (WA4 μ ρ Ps Pm)) (hj : ∀ j, zJ μ' 86 j = zJ μ 86 j) (h1 : rf μ = ρ) (h2 : rf μ' = ρ') (ht : t ≤ t')
    (rs : RIs ρ') (rm : ∀ i, i < nM ρ → Pm i → RIm ρ' t' i ∧ CRm μ' ρ' i) (rl : ∀ i, i < nL ρ → Pl i → RIl ρ' i ∧ CRl μ' ρ' i) (rsa : ∀ i, i < nS ρ → Ps i → RIsa ρ' i ∧ CRsa μ' ρ' i) (ra : ∀ i, i < nA ρ → Pa i → RIa ρ' i ∧ CRa μ' ρ' i) (rb : (∀ i, Ps i → i < nS ρ) ∧ (∀ i, Pa i → i < nA ρ) ∧ (∀ i, Pm i → i < nM ρ))
    (rwt : RWt ρ') (cs : CRs μ' ρ') (cn : CRn μ' ρ') (cu : CRu μ' ρ') : IV g L X t' μ' := by
  have hS := hI.st
  have hr := hI.r h1
  have hc := hI.c h1
  have h88 := hS.2.2.2.1
  have hN := hx.1
  have hx' : EqX μ μ' (WI μ ρ Ps Pa Pl Pm) (WA μ ρ Ps Pm) := by
    refine EqX.mono hx (fun b j h => ?_) (fun b j h => Or.inr (Or.inr (Or.inr (Or.inr (Or.inr (Or.inr h))))))
    rcases h with h | h | h | h | h | h | h | h | h | h | h | h | h | h | h | h
    · rcases h with h | h | h | h | h | h
      · exact Or.inl (Or.inl (by omega))
      · exact Or.inl (Or.inl (by omega))
      · exact Or.inl (Or.inl (by omega))
      · exact Or.inl (Or.inl (by omega))
      · exact Or.inr ⟨by omega, by omega, Or.inr (Or.inr (Or.inr (Or.inr (Or.inr (Or.inr (Or.inr (Or.inr (Or.inr (Or.inr (Or.inl (by omega)))))))))))⟩
      · exact Or.inr ⟨by omega, by omega, Or.inr (Or.inr (Or.inr (Or.inr (Or.inr (Or.inr (Or.inr (Or.inr (Or.inr (Or.inl (by omega))))))))))⟩
    · exact Or.inl (Or.inl (by omega))
    · exact Or.inl (Or.inl (by omega))
    · exact Or.inl (Or.inr (Or.inl h))
    · exact Or.inl (Or.inr (Or.inr (Or.inl h)))
    · exact Or.inl (Or.inr (Or.inr (Or.inr (Or.inl h))))
    · obtain ⟨i, p, hi, e⟩ := h
      exact Or.inl (Or.inr (Or.inr (Or.inr (Or.inr ⟨i, p, hi, by omega⟩))))
    · exact Or.inl (Or.inl (by omega))
    · exact Or.inr ⟨by omega, by omega, Or.inl ⟨h.2.1, h.2.2.1, h.2.2.2.1, Or.inl h.2.2.2.2⟩⟩
    · exact Or.inr ⟨by omega, by omega, Or.inr (Or.inl ⟨h.1, h.2.1, Or.inl h.2.2⟩)⟩
    · exact Or.inr ⟨by omega, by omega, Or.inr (Or.inr (Or.inr (Or.inr (Or.inl h))))⟩
    · exact Or.inr ⟨by omega, by omega, Or.inr (Or.inr (Or.inr (Or.inr (Or.inr (Or.inr (Or.inl h))))))⟩
    · exact Or.inr ⟨by omega, by omega, Or.inr (Or.inr (Or.inr (Or.inr (Or.inr (Or.inr (Or.inr (Or.inr (Or.inr (Or.inr (Or.inr (Or.inr (Or.inl h))))))))))))⟩
    · exact Or.inr ⟨by omega, by omega, Or.inr (Or.inr (Or.inr (Or.inr (Or.inr (Or.inr (Or.inr (Or.inr (Or.inr (Or.inr (Or.inr (Or.inr (Or.inr (Or.inl h)))))))))))))⟩
    · exact Or.inr ⟨by omega, by omega, Or.inr (Or.inr (Or.inl h))⟩
    · exact Or.inl (Or.inl (by omega))
  -- low cells
  have nlo : ∀ b j, b < 88 → W4 μ ρ Ps Pa Pl Pm b j → WS ρ b j ∨ (b = 17 ∧ 1 ≤ j) ∨ b = 18 ∨ (b = 31 ∧ (j = 2 ∨ (72 ≤ j ∧ j ≤ 74))) ∨ (32 ≤ b ∧ b ≤ 41 ∧ b ≠ 36 ∧ b ≠ 37 ∧ Pm j) ∨ (36 ≤ b ∧ b ≤ 37) ∨ (b = 47) ∨ (48 ≤ b ∧ b ≤ 64 ∧ b ≠ 49 ∧ Ps j) ∨ (75 ≤ b ∧ b ≤ 84 ∧ b ≠ 79 ∧ Pa j) ∨ (b = 85 ∨ (42 ≤ b ∧ b ≤ 44) ∨ (b = 31 ∧ j = 14)) := by
    intro b j hb h
    rcases h with h | h | h | ⟨i, p, hi, e⟩ | ⟨i, p, hi, e⟩ | ⟨-, i, p, hi, e⟩ | ⟨i, p, hi, e⟩ | h | h | h | h | h | h | h
    · exact Or.inl h
    · exact Or.inr (Or.inl h)
    · exact Or.inr (Or.inr (Or.inl h))
    · have := (k_sa hc hi).2.1
      omega
    · have := (k_aa hc hi).2.1
      omega
    · have := (k_la hc hi).2.1
      omega
    · have := (k_ma hc hi).2.2.2.1
      omega
    · exact Or.inr (Or.inr (Or.inr (Or.inl h)))
    · exact Or.inr (Or.inr (Or.inr (Or.inr (Or.inl h))))
    · exact Or.inr (Or.inr (Or.inr (Or.inr (Or.inr (Or.inl ⟨h.1, h.2.1⟩)))))
    · exact Or.inr (Or.inr (Or.inr (Or.inr (Or.inr (Or.inr (Or.inl h.1))))))
    · exact Or.inr (Or.inr (Or.inr (Or.inr (Or.inr (Or.inr (Or.inr (Or.inl h)))))))
    · exact Or.inr (Or.inr (Or.inr (Or.inr (Or.inr (Or.inr (Or.inr (Or.inr (Or.inl h))))))))
    · exact Or.inr (Or.inr (Or.inr (Or.inr (Or.inr (Or.inr (Or.inr (Or.inr (Or.inr h))))))))
  have er : ∀ b j, 31 ≤ b → b < 88 → ¬ W4 μ ρ Ps Pa Pl Pm b j → ρ' b j = ρ b j := fun b j b1 b2 hn => by
    rw [← rfz h2 b1 b2, ← rfz h1 b1 b2]
    exact hx.2.2.1 b j (by omega) hn
  have eI : ∀ b j, b < zN μ → ¬ W4 μ ρ Ps Pa Pl Pm b j → zI μ' b j = zI μ b j := hx.2.2.1
  have eA : ∀ b j, b < 88 → zA μ' b j = zA μ b j := fun b j hb => hx.2.2.2.1 b j (by omega) (fun z => by
    rcases z with ⟨i, p, hi, e⟩ | ⟨i, p, hi, e⟩
    · have := (k_sa hc hi).2.1
      omega
    · have := (k_ma hc hi).2.2.2.1
      omega)
  have sc : ∀ j, j = 1 ∨ j = 3 ∨ j = 18 ∨ j = 22 ∨ j = 42 ∨ j = 49 ∨ j = 60 → ρ' 31 j = ρ 31 j := fun j hj => er 31 j (by decide) (by decide) (fun h => by
    have := nlo 31 j (by decide) h
    unfold WS at this
    omega)
  have c1 : nM ρ' = nM ρ := by unfold nM; rw [sc _ (by decide)]
  have c2 : nL ρ' = nL ρ := by unfold nL; rw [sc _ (by decide)]
  have c3 : nS ρ' = nS ρ := by unfold nS; rw [sc _ (by decide)]
  have c4 : nA ρ' = nA ρ := by unfold nA; rw [sc _ (by decide)]
  have c5 : nT ρ' = nT ρ := by unfold nT; rw [sc _ (by decide)]
  have fS : ∀ j, saF μ' j = saF μ j := fun j => by unfold saF; rw [eA 14 j (by omega)]
  have fM : ∀ j, maF μ' j = maF μ j := fun j => by unfold maF; rw [eA 12 j (by omega)]
  have fA : ∀ j, aaF μ' j = aaF μ j := fun j => by unfold aaF; rw [eA 15 j (by omega)]
  have r45 : ∀ j, ρ' 45 j = ρ 45 j := fun j => er 45 j (by decide) (by decide) (fun h => by have := nlo 45 j (by decide) h; unfold WS at this; omega)
  have r49 : ∀ j, ρ' 49 j = ρ 49 j := fun j => er 49 j (by decide) (by decide) (fun h => by have := nlo 49 j (by decide) h; unfold WS at this; omega)
  have r74 : ∀ j, ρ' 74 j = ρ 74 j := fun j => er 74 j (by decide) (by decide) (fun h => by have := nlo 74 j (by decide) h; unfold WS at this; omega)
  have r79 : ∀ j, ρ' 79 j = ρ 79 j := fun j => er 79 j (by decide) (by decide) (fun h => by have := nlo 79 j (by decide) h; unfold WS at this; omega)
  have r69 : ∀ j, ρ' 69 j = ρ 69 j := fun j => er 69 j (by decide) (by decide) (fun h => by have := nlo 69 j (by decide) h; unfold WS at this; omega)
  have esl : ∀ j, smo ρ' j = smo ρ j := fun j => by unfold smo lm sl; rw [r49, r45]
  have rsal : ∀ b j, 48 ≤ b → b ≤ 64 → ¬ Ps j → ρ' b j = ρ b j := fun b j b1 b2 np => er b j (by omega) (by omega) (fun h => by
    rcases nlo b j (by omega) h with h | h | h | h | h | h | h | h | h | h
    · unfold WS at h
      omega
    all_goals first | omega | exact np h.2.2.2)
  have rask : ∀ b j, 74 ≤ b → b ≤ 84 → ¬ Pa j → ρ' b j = ρ b j := fun b j b1 b2 np => er b j (by omega) (by omega) (fun h => by
    rcases nlo b j (by omega) h with h | h | h | h | h | h | h | h | h | h
    · unfold WS at h
      omega
    all_goals first | omega | exact np h.2.2.2)
  have rmod : ∀ b j, 32 ≤ b → b ≤ 41 → b ≠ 36 → b ≠ 37 → ¬ Pm j → ρ' b j = ρ b j := fun b j b1 b2 b3 b4 np => er b j (by omega) (by omega) (fun h => by
    rcases nlo b j (by omega) h with h | h | h | h | h | h | h | h | h | h
    · unfold WS at h
      omega
    all_goals first | omega | exact np h.2.2.2.2)
  refine IV.fr hI hS' hx' h1 h2 ht (fun _ _ => rfl) (by omega) (by omega) (by omega) (by omega) (by omega) (by rw [sc _ (by decide)]; exact Int.le_refl _) (by rw [sc _ (by decide)]; exact Int.le_refl _) rs
    (fun i hi q => rm i (by omega) (q (by omega))) (fun i hi q => rl i (by omega) (q (by omega))) (fun i hi q => rsa i (by omega) (q (by omega))) (fun i hi q => ra i (by omega) (q (by omega))) (fun i hi q => by omega) ?_ rwt ?_ cs cn ?_ ?_ ?_ cu (hI.w.cg hj)
  · refine hr.f.cg (by omega) (by omega) (by omega) (fun b i hb hi => ?_) (fun b i hb hi => ?_) (fun b i hb hi => ?_)
    · exact rmod b i (by omega) (by omega) (by omega) (by omega) (fun p => by have := rb.2.2 i p; omega)
    · exact rsal b i (by omega) (by omega) (fun p => by have := rb.1 i p; omega)
    · exact rask b i (by omega) (by omega) (fun p => by have := rb.2.1 i p; omega)
  · refine hr.lm.cg (sc _ (by decide)) (r69 _) (fun j j1 j2 => ⟨er _ _ (by decide) (by decide) (fun h => ?_), er _ _ (by decide) (by decide) (fun h => ?_)⟩)
    · have := nlo _ _ (by decide) h
      unfold WS at this
      omega
    · have := nlo _ _ (by decide) h
      unfold WS at this
      omega
  · intro j hj
    rw [eI _ _ (by omega) (fun h => by have := nlo _ _ (by decide) h; unfold WS at this; omega), er _ _ (by decide) (by decide) (fun h => by have := nlo _ _ (by decide) h; unfold WS at this; omega)]
    exact hc.h j hj
  · intro i j hi hj e
    rw [fA, fA] at e
    exact hc.d i j (by omega) (by omega) e
  · refine hc.lm.cg (sc _ (by decide)) (eA _ _ (by decide)) hN (fun b b1 b2 b3 b4 => ?_) (fun i _ => fM i) (fun i i1 i2 => by omega)
    refine ⟨(hx.2.1 b b2).1, (hx.2.1 b b2).2, fun j => eI b j b2 (fun h => ?_), fun j => hx.2.2.2.1 b j b2 (fun z => ?_)⟩
    · rcases h with h | h | h | ⟨i, p, hi, e⟩ | ⟨i, p, hi, e⟩ | ⟨-, i, p, hi, e⟩ | ⟨i, p, hi, e⟩ | h | h | h | h | h | h | h
      · unfold WS at h
        omega
      · omega
      · omega
      · exact absurd e (kne b3 (k_sa hc hi).1 (by decide))
      · exact absurd e (kne b3 (k_aa hc hi).1 (by decide))
      · exact absurd e (kne b3 (k_la hc hi).1 (by decide))
      · have := b4 i hi
        rcases e with e | e | e
        · exact absurd e (kne b3 (k_ma hc hi).1 (by decide))
        · omega
        · omega
      all_goals omega
    · rcases z with ⟨i, p, hi, e⟩ | ⟨i, p, hi, e⟩
      · exact absurd e (kne b3 (k_sa hc hi).1 (by decide))
      · exact absurd e (kne b3 (k_ma hc hi).1 (by decide))
end Fr4
