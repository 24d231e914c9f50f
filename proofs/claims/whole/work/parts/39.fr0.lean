section Cg2
variable {g : Gh} {L : Nat} {X : Nat → Int32} {t t' : Nat} {μ μ' : ZM} {ρ ρ' : RV} {Ps Pa Pl Pm : Nat → Prop} {a k b j c n : Nat}
theorem zI_ne {x : Int32} (h : b ≠ a) : zI (sI μ a k x) b j = zI μ b j := by rw [zI_sI, if_neg (fun z => h z.1)]
theorem zI_nk {x : Int32} (h : j ≠ k) : zI (sI μ a k x) b j = zI μ b j := by rw [zI_sI, if_neg (fun z => h z.2)]
theorem zI_eq {x : Int32} : zI (sI μ a k x) a k = x := by rw [zI_sI, if_pos ⟨rfl, rfl⟩]
theorem zA_ne {o : Option Nat} (h : b ≠ a) : zA (sA μ a k o) b j = zA μ b j := by rw [zA_sA, if_neg (fun z => h z.1)]
theorem zA_nk {o : Option Nat} (h : j ≠ k) : zA (sA μ a k o) b j = zA μ b j := by rw [zA_sA, if_neg (fun z => h z.2)]
theorem zA_eq {o : Option Nat} : zA (sA μ a k o) a k = o := by rw [zA_sA, if_pos ⟨rfl, rfl⟩]
theorem zI_nn (h : b ≠ zN μ) : zI (sNew μ c n) b j = zI μ b j := by rw [zI_sNew, if_neg h]
theorem zA_nn (h : b ≠ zN μ) : zA (sNew μ c n) b j = zA μ b j := by rw [zA_sNew, if_neg h]
theorem zK_nn (h : b ≠ zN μ) : zK (sNew μ c n) b = zK μ b := by rw [zK_sNew, if_neg h]
theorem zL_nn (h : b ≠ zN μ) : zL (sNew μ c n) b = zL μ b := by rw [zL_sNew, if_neg h]
theorem zI_en : zI (sNew μ c n) (zN μ) j = 0 := by rw [zI_sNew, if_pos rfl]
theorem zA_en : zA (sNew μ c n) (zN μ) j = none := by rw [zA_sNew, if_pos rfl]
theorem zK_en : zK (sNew μ c n) (zN μ) = c := by rw [zK_sNew, if_pos rfl]
theorem zL_en : zL (sNew μ c n) (zN μ) = n := by rw [zL_sNew, if_pos rfl]
theorem S0.wi {x : Int32} (h : S0 L X μ) (ha : 0 < a) : S0 L X (sI μ a k x) := ⟨h.1, fun j => by rw [zI_ne (by omega)]; exact h.2 j⟩
theorem S0.wa {o : Option Nat} (h : S0 L X μ) : S0 L X (sA μ a k o) := h
theorem S0.wn (h : S0 L X μ) (hn : 0 < zN μ) : S0 L X (sNew μ c n) := ⟨by rw [zL_nn (by omega)]; exact h.1, fun j => by rw [zI_nn (by omega)]; exact h.2 j⟩
theorem RFr.cg (h : RFr ρ) (cM : nM ρ ≤ nM ρ') (cS : nS ρ ≤ nS ρ') (cA : nA ρ ≤ nA ρ') (eM : ∀ b i, b = 35 ∨ b = 38 ∨ b = 39 ∨ b = 40 → nM ρ' ≤ i → ρ' b i = ρ b i) (eS : ∀ b i, b = 48 ∨ b = 57 ∨ b = 60 ∨ b = 62 ∨ b = 64 → nS ρ' ≤ i → ρ' b i = ρ b i) (eA : ∀ b i, b = 82 ∨ b = 83 → nA ρ' ≤ i → ρ' b i = ρ b i) : RFr ρ' := by
  obtain ⟨f1, f2, f3⟩ := h
  refine ⟨fun i h1 h2 => ?_, fun i h1 h2 => ?_, fun i h1 h2 => ?_⟩
  · rw [eM _ i (by decide) h1, eM _ i (by decide) h1, eM _ i (by decide) h1, eM _ i (by decide) h1]
    exact f1 i (by omega) h2
  · rw [eS _ i (by decide) h1, eS _ i (by decide) h1, eS _ i (by decide) h1, eS _ i (by decide) h1, eS _ i (by decide) h1]
    exact f2 i (by omega) h2
  · rw [eA _ i (by decide) h1, eA _ i (by decide) h1]
    exact f3 i (by omega) h2
theorem RWt.cg (h : RWt ρ) (hA : nA ρ' = nA ρ) (e : ∀ i, i < nA ρ → ρ' 82 i = ρ 82 i ∧ as_ ρ' i = as_ ρ i) (es : ∀ i, i < nA ρ → ρ 82 i = 0 → ρ 48 (as_ ρ i) = 1 → ρ' 48 (as_ ρ i) = 1) : RWt ρ' := by
  refine ⟨fun i hi q => ?_, fun i j hi hj q1 q2 q3 => ?_⟩
  · rw [hA] at hi
    rw [(e i hi).1] at q
    rw [(e i hi).2]
    exact es i hi q (h.1 i hi q)
  · rw [hA] at hi hj
    rw [(e i hi).1] at q1
    rw [(e j hj).1] at q2
    rw [(e i hi).2, (e j hj).2] at q3
    exact h.2 i j hi hj q1 q2 q3
theorem RLm.cg (h : RLm g ρ) (e49 : ρ' 31 49 = ρ 31 49) (e69 : ρ' 69 20 = ρ 69 20) (es : ∀ j, 4000 ≤ j → j < 4200 → ρ' 70 j = ρ 70 j ∧ ρ' 71 j = ρ 71 j) : RLm g ρ' := by
  unfold RLm at h ⊢
  rw [e49, e69]
  rcases h with q | ⟨q1, q2, q3, q4, q5⟩
  · exact Or.inl q
  · refine Or.inr ⟨q1, q2, q3, q4, lst2_cg (fun j j1 j2 => ?_) q5⟩
    rw [List.length_map] at j2
    exact es j j1 (by omega)
theorem CLm.cg (h : CLm g μ ρ) (e49 : ρ' 31 49 = ρ 31 49) (eA : zA μ' 11 11 = zA μ 11 11) (hN : zN μ ≤ zN μ') (hs : ∀ b, 88 ≤ b → b < zN μ → zK μ b = 13 → (∀ i, i < nM ρ → b ≠ maF μ i + 1 ∧ b ≠ maF μ i + 2) → SM μ μ' b) (fM : ∀ i, i < nM ρ → maF μ' i = maF μ i) (nm : ∀ i, nM ρ ≤ i → i < nM ρ' → zN μ ≤ maF μ' i) : CLm g μ' ρ' := by
  unfold CLm at h ⊢
  rw [e49, eA]
  rcases h with q | ⟨q1, lc, q2, q3, q4, q5, q6, q7, q8⟩
  · exact Or.inl q
  · have sm := hs lc q3 q4 q5 q8
    refine Or.inr ⟨q1, lc, q2, q3, by omega, sm.1.trans q5, sm.2.1.trans q6, lst_cg (fun j _ _ => sm.2.2.1 j) q7, fun i hi => ?_⟩
    by_cases c : i < nM ρ
    · rw [fM i c]
      exact q8 i c
    · have := nm i (by omega) hi
      omega
theorem CRn.cg (h : CRn μ ρ) (hN : nN ρ' = nN ρ) (hT : tL ρ' = tL ρ) (e18 : ∀ j, zI μ' 18 j = zI μ 18 j) (e21 : ∀ j, zI μ' 21 j = zI μ 21 j) (e85 : ∀ j, ρ' 85 j = ρ 85 j) (e65 : ∀ j, ρ' 65 j = ρ 65 j) : CRn μ' ρ' := by
  unfold CRn at h ⊢
  rw [hN, hT]
  simp only [e18, e21, e85, e65]
  exact h
theorem CRs.cg (h : CRs μ ρ) (eS : SC ρ ρ') (e1 : ∀ j, 12 ≤ j → zI μ' 11 j = zI μ 11 j) (e2 : ∀ j, 1 ≤ j → zI μ' 17 j = zI μ 17 j) (e3 : zI μ' 20 1 = zI μ 20 1) : CRs μ' ρ' := by
  unfold CRs at h ⊢
  rw [e1 _ (by decide), e1 _ (by decide), e1 _ (by decide), e1 _ (by decide), e1 _ (by decide), e1 _ (by decide), e2 _ (by decide), e2 _ (by decide), e2 _ (by decide), e2 _ (by decide), e3]
  rw [eS _ (by decide), eS _ (by decide), eS _ (by decide), eS _ (by decide), eS _ (by decide), eS _ (by decide), eS _ (by decide), eS _ (by decide), eS _ (by decide), eS _ (by decide), eS _ (by decide)]
  exact h
theorem CRw.cg (h : CRw μ) (e : ∀ j, zJ μ' 86 j = zJ μ 86 j) : CRw μ' := by
  unfold CRw at h ⊢
  simp only [e]
  exact h
/-! writes to rows and to the purse alone -/
def W0 (μ : ZM) (ρ : RV) (Ps Pa Pl Pm : Nat → Prop) (b j : Nat) : Prop := WS ρ b j ∨ (b = 17 ∧ 1 ≤ j) ∨ b = 18 ∨ (∃ i, Ps i ∧ i < nS ρ ∧ b = saF μ i) ∨ (∃ i, Pa i ∧ i < nA ρ ∧ b = aaF μ i) ∨ (j = 2 ∧ ∃ i, Pl i ∧ i < nL ρ ∧ b = laF μ i) ∨ (∃ i, Pm i ∧ i < nM ρ ∧ ((b = maF μ i ∧ j ≠ 8) ∨ b = maF μ i + 1 ∨ b = maF μ i + 2))
  ∨ (b = 31 ∧ (j = 2 ∨ (72 ≤ j ∧ j ≤ 74))) ∨ (32 ≤ b ∧ b ≤ 41 ∧ b ≠ 36 ∧ b ≠ 37 ∧ Pm j) ∨ (36 ≤ b ∧ b ≤ 37 ∧ Pm (j / 20)) ∨ (b = 47 ∧ Pl j) ∨ (48 ≤ b ∧ b ≤ 64 ∧ b ≠ 49 ∧ Ps j) ∨ (75 ≤ b ∧ b ≤ 84 ∧ b ≠ 79 ∧ Pa j) ∨ b = 85
def WA0 (μ : ZM) (ρ : RV) (Ps : Nat → Prop) (b j : Nat) : Prop := j ≠ 19 ∧ ∃ i, Ps i ∧ i < nS ρ ∧ b = saF μ i
theorem IV.fr0 (hI : IV g L X t μ) (hS' : Stat μ') (hx : EqX μ μ' (W0 μ ρ Ps Pa Pl Pm) (WA0 μ ρ Ps)) (hj : ∀ j, zJ μ' 86 j = zJ μ 86 j) (h1 : rf μ = ρ) (h2 : rf μ' = ρ') (ht : t ≤ t')
    (rs : RIs ρ') (rm : ∀ i, i < nM ρ → Pm i → RIm ρ' t' i ∧ CRm μ' ρ' i) (rl : ∀ i, i < nL ρ → Pl i → RIl ρ' i ∧ CRl μ' ρ' i) (rsa : ∀ i, i < nS ρ → Ps i → RIsa ρ' i ∧ CRsa μ' ρ' i) (ra : ∀ i, i < nA ρ → Pa i → RIa ρ' i ∧ CRa μ' ρ' i) (rb : (∀ i, Ps i → i < nS ρ) ∧ (∀ i, Pa i → i < nA ρ) ∧ (∀ i, Pm i → i < nM ρ))
    (rwt : RWt ρ') (cs : CRs μ' ρ') (cn : CRn μ' ρ') (hu : ∀ i, Ps i → ρ 60 i = 0 → ρ 48 i = 2 → ρ' 60 i = 0 ∧ ρ' 48 i = 2 ∧ ρ' 61 i = ρ 61 i) : IV g L X t' μ' := by
  have hS := hI.st
  have hr := hI.r h1
  have hc := hI.c h1
  have h88 := hS.2.2.2.1
  have hN := hx.1
  have hx' : EqX μ μ' (WI μ ρ Ps Pa Pl Pm) (WA μ ρ Ps Pm) := by
    refine EqX.mono hx (fun b j h => ?_) (fun b j h => Or.inr (Or.inr (Or.inr (Or.inr (Or.inr (Or.inr (Or.inl h.2)))))))
    rcases h with h | h | h | h | h | h | h | h | h | h | h | h | h | h
    · rcases h with h | h | h | h | h | h
      · exact Or.inl (Or.inl (by omega))
      · exact Or.inl (Or.inl (by omega))
      · exact Or.inl (Or.inl (by omega))
      · exact Or.inl (Or.inl (by omega))
      · exact Or.inr ⟨by omega, by omega, Or.inr (Or.inr (Or.inr (Or.inr (Or.inr (Or.inr (Or.inr (Or.inr (Or.inr (Or.inr (Or.inl (by omega)))))))))))⟩
      · exact Or.inr ⟨by omega, by omega, Or.inr (Or.inr (Or.inr (Or.inr (Or.inr (Or.inr (Or.inr (Or.inr (Or.inr (Or.inl (by omega))))))))))⟩
    · exact Or.inl (Or.inl (by omega))
    · exact Or.inl (Or.inl (by omega))
    · exact Or.inl (Or.inr (Or.inl h))
    · exact Or.inl (Or.inr (Or.inr (Or.inl h)))
    · exact Or.inl (Or.inr (Or.inr (Or.inr (Or.inl h))))
    · obtain ⟨i, p, hi, e⟩ := h
      exact Or.inl (Or.inr (Or.inr (Or.inr (Or.inr ⟨i, p, hi, by omega⟩))))
    · exact Or.inl (Or.inl (by omega))
    · exact Or.inr ⟨by omega, by omega, Or.inl ⟨h.2.1, h.2.2.1, h.2.2.2.1, Or.inl h.2.2.2.2⟩⟩
    · exact Or.inr ⟨by omega, by omega, Or.inr (Or.inl ⟨h.1, h.2.1, Or.inl h.2.2⟩)⟩
    · exact Or.inr ⟨by omega, by omega, Or.inr (Or.inr (Or.inr (Or.inr (Or.inl h))))⟩
    · exact Or.inr ⟨by omega, by omega, Or.inr (Or.inr (Or.inr (Or.inr (Or.inr (Or.inr (Or.inl h))))))⟩
    · exact Or.inr ⟨by omega, by omega, Or.inr (Or.inr (Or.inr (Or.inr (Or.inr (Or.inr (Or.inr (Or.inr (Or.inr (Or.inr (Or.inr (Or.inr (Or.inl h))))))))))))⟩
    · exact Or.inr ⟨by omega, by omega, Or.inr (Or.inr (Or.inr (Or.inr (Or.inr (Or.inr (Or.inr (Or.inr (Or.inr (Or.inr (Or.inr (Or.inr (Or.inr (Or.inl h)))))))))))))⟩
  -- low cells
  have nlo : ∀ b j, b < 88 → W0 μ ρ Ps Pa Pl Pm b j → WS ρ b j ∨ (b = 17 ∧ 1 ≤ j) ∨ b = 18 ∨ (b = 31 ∧ (j = 2 ∨ (72 ≤ j ∧ j ≤ 74))) ∨ (32 ≤ b ∧ b ≤ 41 ∧ b ≠ 36 ∧ b ≠ 37 ∧ Pm j) ∨ (36 ≤ b ∧ b ≤ 37) ∨ (b = 47) ∨ (48 ≤ b ∧ b ≤ 64 ∧ b ≠ 49 ∧ Ps j) ∨ (75 ≤ b ∧ b ≤ 84 ∧ b ≠ 79 ∧ Pa j) ∨ b = 85 := by
    intro b j hb h
    rcases h with h | h | h | ⟨i, p, hi, e⟩ | ⟨i, p, hi, e⟩ | ⟨-, i, p, hi, e⟩ | ⟨i, p, hi, e⟩ | h | h | h | h | h | h | h
    · exact Or.inl h
    · exact Or.inr (Or.inl h)
    · exact Or.inr (Or.inr (Or.inl h))
    · have := (k_sa hc hi).2.1
      omega
    · have := (k_aa hc hi).2.1
      omega
    · have := (k_la hc hi).2.1
      omega
    · have := (k_ma hc hi).2.2.2.1
      omega
    · exact Or.inr (Or.inr (Or.inr (Or.inl h)))
    · exact Or.inr (Or.inr (Or.inr (Or.inr (Or.inl h))))
    · exact Or.inr (Or.inr (Or.inr (Or.inr (Or.inr (Or.inl ⟨h.1, h.2.1⟩)))))
    · exact Or.inr (Or.inr (Or.inr (Or.inr (Or.inr (Or.inr (Or.inl h.1))))))
    · exact Or.inr (Or.inr (Or.inr (Or.inr (Or.inr (Or.inr (Or.inr (Or.inl h)))))))
    · exact Or.inr (Or.inr (Or.inr (Or.inr (Or.inr (Or.inr (Or.inr (Or.inr (Or.inl h))))))))
    · exact Or.inr (Or.inr (Or.inr (Or.inr (Or.inr (Or.inr (Or.inr (Or.inr (Or.inr h))))))))
  have er : ∀ b j, 31 ≤ b → b < 88 → ¬ W0 μ ρ Ps Pa Pl Pm b j → ρ' b j = ρ b j := fun b j b1 b2 hn => by
    rw [← rfz h2 b1 b2, ← rfz h1 b1 b2]
    exact hx.2.2.1 b j (by omega) hn
  have eI : ∀ b j, b < zN μ → ¬ W0 μ ρ Ps Pa Pl Pm b j → zI μ' b j = zI μ b j := hx.2.2.1
  have eA : ∀ b j, b < 88 → zA μ' b j = zA μ b j := fun b j hb => hx.2.2.2.1 b j (by omega) (fun z => by
    obtain ⟨-, i, p, hi, e⟩ := z
    have := (k_sa hc hi).2.1
    omega)
  have sc : ∀ j, j = 1 ∨ j = 3 ∨ j = 14 ∨ j = 18 ∨ j = 22 ∨ j = 42 ∨ j = 49 ∨ j = 60 → ρ' 31 j = ρ 31 j := fun j hj => er 31 j (by decide) (by decide) (fun h => by
    have := nlo 31 j (by decide) h
    unfold WS at this
    omega)
  have c1 : nM ρ' = nM ρ := by unfold nM; rw [sc _ (by decide)]
  have c2 : nL ρ' = nL ρ := by unfold nL; rw [sc _ (by decide)]
  have c3 : nS ρ' = nS ρ := by unfold nS; rw [sc _ (by decide)]
  have c4 : nA ρ' = nA ρ := by unfold nA; rw [sc _ (by decide)]
  have c5 : nT ρ' = nT ρ := by unfold nT; rw [sc _ (by decide)]
  have fS : ∀ j, saF μ' j = saF μ j := fun j => by unfold saF; rw [eA 14 j (by omega)]
  have fM : ∀ j, maF μ' j = maF μ j := fun j => by unfold maF; rw [eA 12 j (by omega)]
  have fA : ∀ j, aaF μ' j = aaF μ j := fun j => by unfold aaF; rw [eA 15 j (by omega)]
  have r45 : ∀ j, ρ' 45 j = ρ 45 j := fun j => er 45 j (by decide) (by decide) (fun h => by have := nlo 45 j (by decide) h; unfold WS at this; omega)
  have r49 : ∀ j, ρ' 49 j = ρ 49 j := fun j => er 49 j (by decide) (by decide) (fun h => by have := nlo 49 j (by decide) h; unfold WS at this; omega)
  have r74 : ∀ j, ρ' 74 j = ρ 74 j := fun j => er 74 j (by decide) (by decide) (fun h => by have := nlo 74 j (by decide) h; unfold WS at this; omega)
  have r79 : ∀ j, ρ' 79 j = ρ 79 j := fun j => er 79 j (by decide) (by decide) (fun h => by have := nlo 79 j (by decide) h; unfold WS at this; omega)
  have r69 : ∀ j, ρ' 69 j = ρ 69 j := fun j => er 69 j (by decide) (by decide) (fun h => by have := nlo 69 j (by decide) h; unfold WS at this; omega)
  have esl : ∀ j, smo ρ' j = smo ρ j := fun j => by unfold smo lm sl; rw [r49, r45]
  have rsal : ∀ b j, 48 ≤ b → b ≤ 64 → ¬ Ps j → ρ' b j = ρ b j := fun b j b1 b2 np => er b j (by omega) (by omega) (fun h => by
    rcases nlo b j (by omega) h with h | h | h | h | h | h | h | h | h | h
    · unfold WS at h
      omega
    all_goals first | omega | exact np h.2.2.2)
  have rask : ∀ b j, 74 ≤ b → b ≤ 84 → ¬ Pa j → ρ' b j = ρ b j := fun b j b1 b2 np => er b j (by omega) (by omega) (fun h => by
    rcases nlo b j (by omega) h with h | h | h | h | h | h | h | h | h | h
    · unfold WS at h
      omega
    all_goals first | omega | exact np h.2.2.2)
  have rmod : ∀ b j, 32 ≤ b → b ≤ 41 → b ≠ 36 → b ≠ 37 → ¬ Pm j → ρ' b j = ρ b j := fun b j b1 b2 b3 b4 np => er b j (by omega) (by omega) (fun h => by
    rcases nlo b j (by omega) h with h | h | h | h | h | h | h | h | h | h
    · unfold WS at h
      omega
    all_goals first | omega | exact np h.2.2.2.2)
  refine IV.fr hI hS' hx' h1 h2 ht (fun _ _ => rfl) (by omega) (by omega) (by omega) (by omega) (by omega) (by rw [sc _ (by decide)]; exact Int.le_refl _) (by rw [sc _ (by decide)]; exact Int.le_refl _) rs
    (fun i hi q => rm i (by omega) (q (by omega))) (fun i hi q => rl i (by omega) (q (by omega))) (fun i hi q => rsa i (by omega) (q (by omega))) (fun i hi q => ra i (by omega) (q (by omega))) (fun i hi q => by omega) ?_ rwt ?_ cs cn ?_ ?_ ?_ ?_ (hI.w.cg hj)
  · refine hr.f.cg (by omega) (by omega) (by omega) (fun b i hb hi => ?_) (fun b i hb hi => ?_) (fun b i hb hi => ?_)
    · exact rmod b i (by omega) (by omega) (by omega) (by omega) (fun p => by have := rb.2.2 i p; omega)
    · exact rsal b i (by omega) (by omega) (fun p => by have := rb.1 i p; omega)
    · exact rask b i (by omega) (by omega) (fun p => by have := rb.2.1 i p; omega)
  · refine hr.lm.cg (sc _ (by decide)) (r69 _) (fun j j1 j2 => ⟨er _ _ (by decide) (by decide) (fun h => ?_), er _ _ (by decide) (by decide) (fun h => ?_)⟩)
    · have := nlo _ _ (by decide) h
      unfold WS at this
      omega
    · have := nlo _ _ (by decide) h
      unfold WS at this
      omega
  · intro j hj
    rw [eI _ _ (by omega) (fun h => by have := nlo _ _ (by decide) h; unfold WS at this; omega), er _ _ (by decide) (by decide) (fun h => by have := nlo _ _ (by decide) h; unfold WS at this; omega)]
    exact hc.h j hj
  · intro i j hi hj e
    rw [fA, fA] at e
    exact hc.d i j (by omega) (by omega) e
  · refine hc.lm.cg (sc _ (by decide)) (eA _ _ (by decide)) hN (fun b b1 b2 b3 b4 => ?_) (fun i _ => fM i) (fun i i1 i2 => by omega)
    refine ⟨(hx.2.1 b b2).1, (hx.2.1 b b2).2, fun j => eI b j b2 (fun h => ?_), fun j => hx.2.2.2.1 b j b2 (fun z => ?_)⟩
    · rcases h with h | h | h | ⟨i, p, hi, e⟩ | ⟨i, p, hi, e⟩ | ⟨-, i, p, hi, e⟩ | ⟨i, p, hi, e⟩ | h | h | h | h | h | h | h
      · unfold WS at h
        omega
      · omega
      · omega
      · exact absurd e (kne b3 (k_sa hc hi).1 (by decide))
      · exact absurd e (kne b3 (k_aa hc hi).1 (by decide))
      · exact absurd e (kne b3 (k_la hc hi).1 (by decide))
      · have := b4 i hi
        rcases e with e | e | e
        · exact absurd e.1 (kne b3 (k_ma hc hi).1 (by decide))
        · omega
        · omega
      all_goals omega
    · obtain ⟨-, i, p, hi, e⟩ := z
      exact absurd e (kne b3 (k_sa hc hi).1 (by decide))
  · refine hc.u.cg (sc _ (by decide)) (by omega) (by omega) (fun b b1 b2 j => er b j (by omega) (by omega) (fun h => ?_)) (fun j hj a1 a2 => ?_) (fun j hj => ⟨fS j, hx.2.2.2.1 _ _ (k_sa hc hj).2.2 (fun z => z.1 rfl)⟩) (fun j j1 j2 => by omega) (fun m hm => ?_) (fun m m1 m2 => by omega) (fun j hj => (hr.l (hr.sa hj).2.1).2.1) (by have := hr.s.1.2; omega)
    · have := nlo _ _ (by omega) h
      unfold WS at this
      omega
    · by_cases p : Ps j
      · obtain ⟨u1, u2, u3⟩ := hu j p a1 a2
        rw [u3, r79]
        exact ⟨u1, u2, esl j, rfl⟩
      · rw [rsal _ _ (by decide) (by decide) p, rsal _ _ (by decide) (by decide) p, rsal _ _ (by decide) (by decide) p, r79]
        exact ⟨a1, a2, esl j, rfl⟩
    · have k := k_ma hc hm
      have nA : ∀ j, zA μ' (maF μ m) j = zA μ (maF μ m) j := fun j => hx.2.2.2.1 _ _ (by omega) (fun z => by
        obtain ⟨-, i, p, hi, e⟩ := z
        exact absurd e (kne k.1 (k_sa hc hi).1 (by decide)))
      rw [fM, nA, nA, eI _ _ (by omega) (fun h => ?_)]
      · exact ⟨rfl, rfl, rfl⟩
      · rcases h with h | h | h | ⟨i, p, hi, e⟩ | ⟨i, p, hi, e⟩ | ⟨-, i, p, hi, e⟩ | ⟨i, p, hi, e⟩ | h | h | h | h | h | h | h
        · unfold WS at h
          omega
        · omega
        · omega
        · exact absurd e (kne k.1 (k_sa hc hi).1 (by decide))
        · exact absurd e (kne k.1 (k_aa hc hi).1 (by decide))
        · exact absurd e (kne k.1 (k_la hc hi).1 (by decide))
        · rcases e with e | e | e
          · exact e.2 rfl
          · exact absurd e (kne k.1 (k_ma hc hi).2.1 (by decide))
          · exact absurd e (kne k.1 (k_ma hc hi).2.2.1 (by decide))
        all_goals omega
end Cg2
