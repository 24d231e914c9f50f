section New
variable {μ : ZM} {a k b j c n : Nat}
theorem zI_ne' (h : b = zN μ) : zI (sNew μ c n) b j = 0 := by rw [zI_sNew, if_pos h]
theorem zA_ne' (h : b = zN μ) : zA (sNew μ c n) b j = none := by rw [zA_sNew, if_pos h]
theorem zK_ne' (h : b = zN μ) : zK (sNew μ c n) b = c := by rw [zK_sNew, if_pos h]
theorem zL_ne' (h : b = zN μ) : zL (sNew μ c n) b = n := by rw [zL_sNew, if_pos h]
theorem Stat.wAhi {x : Option Nat} (h : Stat μ) (ha : 88 ≤ a) : Stat (sA μ a k x) := h.wAr (fun q hq z => by
  have : ∀ q ∈ rT, q.1 < 88 := by decide
  have := this q hq
  omega)
theorem Stat.N (h : Stat μ) : 88 ≤ zN μ := h.2.2.2.1
end New
section Fr3
variable {g : Gh} {L : Nat} {X : Nat → Int32} {t t' : Nat} {μ μ' : ZM} {ρ ρ' : RV} {Ps Pa Pl Pm : Nat → Prop} {a k b j c n : Nat}
/-! writes to rows, to new rows and to the purse -/
def N3 (ρ : RV) (b j : Nat) : Prop := (b = 11 ∧ 12 ≤ j ∧ j ≤ 15) ∨ (b = 31 ∧ (j = 3 ∨ j = 18 ∨ j = 22 ∨ j = 60)) ∨ (32 ≤ b ∧ b ≤ 41 ∧ b ≠ 36 ∧ b ≠ 37 ∧ nM ρ ≤ j) ∨ (45 ≤ b ∧ b ≤ 47 ∧ nL ρ ≤ j) ∨ (48 ≤ b ∧ b ≤ 64 ∧ nS ρ ≤ j) ∨ (74 ≤ b ∧ b ≤ 84 ∧ nA ρ ≤ j)
def W3 (μ : ZM) (ρ : RV) (Ps Pa Pl Pm : Nat → Prop) (b j : Nat) : Prop := W0 μ ρ Ps Pa Pl Pm b j ∨ N3 ρ b j
def WA3 (μ : ZM) (ρ : RV) (Ps : Nat → Prop) (b j : Nat) : Prop := WA0 μ ρ Ps b j ∨ (b = 12 ∧ nM ρ ≤ j) ∨ (b = 13 ∧ nL ρ ≤ j) ∨ (b = 14 ∧ nS ρ ≤ j) ∨ (b = 15 ∧ nA ρ ≤ j)
theorem IV.fr3 (hI : IV g L X t μ) (hS' : Stat μ') (hx : EqX μ μ' (W3 μ ρ Ps Pa Pl Pm) (WA3 μ ρ Ps)) (hj : ∀ j, zJ μ' 86 j = zJ μ 86 j) (h1 : rf μ = ρ) (h2 : rf μ' = ρ') (ht : t ≤ t') (cM : nM ρ ≤ nM ρ') (cL : nL ρ ≤ nL ρ') (cS : nS ρ ≤ nS ρ') (cA : nA ρ ≤ nA ρ')
    (rs : RIs ρ') (rm : ∀ i, i < nM ρ' → (i < nM ρ → Pm i) → RIm ρ' t' i ∧ CRm μ' ρ' i) (rl : ∀ i, i < nL ρ' → (i < nL ρ → Pl i) → RIl ρ' i ∧ CRl μ' ρ' i) (rsa : ∀ i, i < nS ρ' → (i < nS ρ → Ps i) → RIsa ρ' i ∧ CRsa μ' ρ' i) (ra : ∀ i, i < nA ρ' → (i < nA ρ → Pa i) → RIa ρ' i ∧ CRa μ' ρ' i)
    (rfr : RFr ρ') (rwt : RWt ρ') (cs : CRs μ' ρ') (cn : CRn μ' ρ') (cd : CRd μ' ρ') (hu : ∀ i, Ps i → ρ 60 i = 0 → ρ 48 i = 2 → ρ' 60 i = 0 ∧ ρ' 48 i = 2 ∧ ρ' 61 i = ρ 61 i) (nm : ∀ i, nM ρ ≤ i → i < nM ρ' → zN μ ≤ maF μ' i ∧ zA μ' (maF μ' i) 11 = none ∧ zA μ' (maF μ' i) 12 = none ∧ zI μ' (maF μ' i) 8 = 0) (nsa : ∀ j, nS ρ ≤ j → j < nS ρ' → zA μ' (saF μ' j) 19 = none) : IV g L X t' μ' := by
  have hS := hI.st
  have hr := hI.r h1
  have hc := hI.c h1
  have h88 := hS.2.2.2.1
  have hN := hx.1
  have hx' : EqX μ μ' (WI μ ρ Ps Pa Pl Pm) (WA μ ρ Ps Pm) := by
    refine EqX.mono hx (fun b j h => ?_) (fun b j h => ?_)
    · rcases h with h | h
      · rcases h with h | h | h | h | h | h | h | h | h | h | h | h | h | h
        · rcases h with h | h | h | h | h | h
          · exact Or.inl (Or.inl (by omega))
          · exact Or.inl (Or.inl (by omega))
          · exact Or.inl (Or.inl (by omega))
          · exact Or.inl (Or.inl (by omega))
          · exact Or.inr ⟨by omega, by omega, Or.inr (Or.inr (Or.inr (Or.inr (Or.inr (Or.inr (Or.inr (Or.inr (Or.inr (Or.inr (Or.inl (by omega)))))))))))⟩
          · exact Or.inr ⟨by omega, by omega, Or.inr (Or.inr (Or.inr (Or.inr (Or.inr (Or.inr (Or.inr (Or.inr (Or.inr (Or.inl (by omega))))))))))⟩
        · exact Or.inl (Or.inl (by omega))
        · exact Or.inl (Or.inl (by omega))
        · exact Or.inl (Or.inr (Or.inl h))
        · exact Or.inl (Or.inr (Or.inr (Or.inl h)))
        · exact Or.inl (Or.inr (Or.inr (Or.inr (Or.inl h))))
        · obtain ⟨i, p, hi, e⟩ := h
          exact Or.inl (Or.inr (Or.inr (Or.inr (Or.inr ⟨i, p, hi, by omega⟩))))
        · exact Or.inl (Or.inl (by omega))
        · exact Or.inr ⟨by omega, by omega, Or.inl ⟨h.2.1, h.2.2.1, h.2.2.2.1, Or.inl h.2.2.2.2⟩⟩
        · exact Or.inr ⟨by omega, by omega, Or.inr (Or.inl ⟨h.1, h.2.1, Or.inl h.2.2⟩)⟩
        · exact Or.inr ⟨by omega, by omega, Or.inr (Or.inr (Or.inr (Or.inr (Or.inl h))))⟩
        · exact Or.inr ⟨by omega, by omega, Or.inr (Or.inr (Or.inr (Or.inr (Or.inr (Or.inr (Or.inl h))))))⟩
        · exact Or.inr ⟨by omega, by omega, Or.inr (Or.inr (Or.inr (Or.inr (Or.inr (Or.inr (Or.inr (Or.inr (Or.inr (Or.inr (Or.inr (Or.inr (Or.inl h))))))))))))⟩
        · exact Or.inr ⟨by omega, by omega, Or.inr (Or.inr (Or.inr (Or.inr (Or.inr (Or.inr (Or.inr (Or.inr (Or.inr (Or.inr (Or.inr (Or.inr (Or.inr (Or.inl h)))))))))))))⟩
      · rcases h with h | h | h | h | h | h
        · exact Or.inl (Or.inl (by omega))
        · exact Or.inl (Or.inl (by omega))
        · exact Or.inr ⟨by omega, by omega, Or.inl ⟨h.2.1, h.2.2.1, h.2.2.2.1, Or.inr h.2.2.2.2⟩⟩
        · exact Or.inr ⟨by omega, by omega, Or.inr (Or.inr (Or.inr (Or.inl h)))⟩
        · exact Or.inr ⟨by omega, by omega, Or.inr (Or.inr (Or.inr (Or.inr (Or.inr (Or.inl h)))))⟩
        · exact Or.inr ⟨by omega, by omega, Or.inr (Or.inr (Or.inr (Or.inr (Or.inr (Or.inr (Or.inr (Or.inr (Or.inr (Or.inr (Or.inr (Or.inl h)))))))))))⟩
    · rcases h with h | h | h | h | h
      · exact Or.inr (Or.inr (Or.inr (Or.inr (Or.inr (Or.inr (Or.inl h.2))))))
      · exact Or.inr (Or.inl h)
      · exact Or.inr (Or.inr (Or.inl h))
      · exact Or.inr (Or.inr (Or.inr (Or.inl h)))
      · exact Or.inr (Or.inr (Or.inr (Or.inr (Or.inl h))))
  have nlo : ∀ b j, b < 88 → W3 μ ρ Ps Pa Pl Pm b j → WS ρ b j ∨ (b = 17 ∧ 1 ≤ j) ∨ b = 18 ∨ (b = 31 ∧ (j = 2 ∨ (72 ≤ j ∧ j ≤ 74))) ∨ (32 ≤ b ∧ b ≤ 41) ∨ (b = 47) ∨ (48 ≤ b ∧ b ≤ 64 ∧ b ≠ 49 ∧ Ps j) ∨ (75 ≤ b ∧ b ≤ 84 ∧ b ≠ 79 ∧ Pa j) ∨ b = 85 ∨ N3 ρ b j := by
    intro b j hb h
    rcases h with h | h
    · rcases h with h | h | h | ⟨i, p, hi, e⟩ | ⟨i, p, hi, e⟩ | ⟨-, i, p, hi, e⟩ | ⟨i, p, hi, e⟩ | h | h | h | h | h | h | h
      · exact Or.inl h
      · exact Or.inr (Or.inl h)
      · exact Or.inr (Or.inr (Or.inl h))
      · have := (k_sa hc hi).2.1
        omega
      · have := (k_aa hc hi).2.1
        omega
      · have := (k_la hc hi).2.1
        omega
      · have := (k_ma hc hi).2.2.2.1
        omega
      · exact Or.inr (Or.inr (Or.inr (Or.inl h)))
      · exact Or.inr (Or.inr (Or.inr (Or.inr (Or.inl ⟨h.1, h.2.1⟩))))
      · exact Or.inr (Or.inr (Or.inr (Or.inr (Or.inl ⟨by omega, by omega⟩))))
      · exact Or.inr (Or.inr (Or.inr (Or.inr (Or.inr (Or.inl h.1)))))
      · exact Or.inr (Or.inr (Or.inr (Or.inr (Or.inr (Or.inr (Or.inl h))))))
      · exact Or.inr (Or.inr (Or.inr (Or.inr (Or.inr (Or.inr (Or.inr (Or.inl h)))))))
      · exact Or.inr (Or.inr (Or.inr (Or.inr (Or.inr (Or.inr (Or.inr (Or.inr (Or.inl h))))))))
    · exact Or.inr (Or.inr (Or.inr (Or.inr (Or.inr (Or.inr (Or.inr (Or.inr (Or.inr h))))))))
  have nhi : ∀ b j, 88 ≤ b → W3 μ ρ Ps Pa Pl Pm b j → W0 μ ρ Ps Pa Pl Pm b j := by
    intro b j hb h
    rcases h with h | h
    · exact h
    · unfold N3 at h
      omega
  have er : ∀ b j, 31 ≤ b → b < 88 → ¬ W3 μ ρ Ps Pa Pl Pm b j → ρ' b j = ρ b j := fun b j b1 b2 hn => by
    rw [← rfz h2 b1 b2, ← rfz h1 b1 b2]
    exact hx.2.2.1 b j (by omega) hn
  have eI : ∀ b j, b < zN μ → ¬ W3 μ ρ Ps Pa Pl Pm b j → zI μ' b j = zI μ b j := hx.2.2.1
  have eA : ∀ b j, b < zN μ → ¬ WA3 μ ρ Ps b j → zA μ' b j = zA μ b j := hx.2.2.2.1
  have sc : ∀ j, j = 1 ∨ j = 14 ∨ j = 42 ∨ j = 49 → ρ' 31 j = ρ 31 j := fun j hj => er 31 j (by decide) (by decide) (fun h => by
    have := nlo 31 j (by decide) h
    unfold WS N3 at this
    omega)
  have c5 : nT ρ' = nT ρ := by unfold nT; rw [sc _ (by decide)]
  obtain ⟨aM, aL, aS, aA, aT⟩ := EqX.ra hS hr hc hx'
  have fS : ∀ j, j < nS ρ → saF μ' j = saF μ j := fun j hj => by unfold saF; rw [aS j hj]
  have fM : ∀ j, j < nM ρ → maF μ' j = maF μ j := fun j hj => by unfold maF; rw [aM j hj]
  have r45 : ∀ j, j < nL ρ → ρ' 45 j = ρ 45 j := fun j hj => er 45 j (by decide) (by decide) (fun h => by have := nlo 45 j (by decide) h; unfold WS N3 at this; omega)
  have r49 : ∀ j, j < nS ρ → ρ' 49 j = ρ 49 j := fun j hj => er 49 j (by decide) (by decide) (fun h => by have := nlo 49 j (by decide) h; unfold WS N3 at this; omega)
  have r79 : ∀ j, j < nA ρ → ρ' 79 j = ρ 79 j := fun j hj => er 79 j (by decide) (by decide) (fun h => by have := nlo 79 j (by decide) h; unfold WS N3 at this; omega)
  have r69 : ∀ j, ρ' 69 j = ρ 69 j := fun j => er 69 j (by decide) (by decide) (fun h => by have := nlo 69 j (by decide) h; unfold WS N3 at this; omega)
  have esl : ∀ j, j < nS ρ → smo ρ' j = smo ρ j := fun j hj => by
    have e1 : sl ρ' j = sl ρ j := by unfold sl; rw [r49 j hj]
    unfold smo
    rw [e1]
    unfold lm
    rw [r45 _ (hr.sa hj).2.1]
  have rsal : ∀ b j, 48 ≤ b → b ≤ 64 → j < nS ρ → ¬ Ps j → ρ' b j = ρ b j := fun b j b1 b2 hj np => er b j (by omega) (by omega) (fun h => by
    rcases nlo b j (by omega) h with h | h | h | h | h | h | h | h | h | h
    · unfold WS at h
      omega
    all_goals first | omega | exact np h.2.2.2 | (unfold N3 at h; omega))
  refine IV.fr hI hS' hx' h1 h2 ht (fun _ _ => rfl) cM cL cS cA (by omega) (by rw [sc _ (by decide)]; exact Int.le_refl _) (by rw [sc _ (by decide)]; exact Int.le_refl _) rs rm rl rsa ra (fun i hi q => by omega) rfr rwt ?_ cs cn ?_ cd ?_ ?_ (hI.w.cg hj)
  · refine hr.lm.cg (sc _ (by decide)) (r69 _) (fun j j1 j2 => ⟨er _ _ (by decide) (by decide) (fun h => ?_), er _ _ (by decide) (by decide) (fun h => ?_)⟩)
    · have := nlo _ _ (by decide) h
      unfold WS N3 at this
      omega
    · have := nlo _ _ (by decide) h
      unfold WS N3 at this
      omega
  · intro j hj
    rw [eI _ _ (by omega) (fun h => by have := nlo _ _ (by decide) h; unfold WS N3 at this; omega), er _ _ (by decide) (by decide) (fun h => by have := nlo _ _ (by decide) h; unfold WS N3 at this; omega)]
    exact hc.h j hj
  · refine hc.lm.cg (sc _ (by decide)) (eA _ _ (by omega) (fun z => ?_)) hN (fun b b1 b2 b3 b4 => ?_) fM (fun i i1 i2 => (nm i i1 i2).1)
    · rcases z with ⟨-, i, p, hi, e⟩ | z
      · have := (k_sa hc hi).2.1
        omega
      · omega
    · refine ⟨(hx.2.1 b b2).1, (hx.2.1 b b2).2, fun j => eI b j b2 (fun h => ?_), fun j => eA b j b2 (fun z => ?_)⟩
      · rcases nhi b j b1 h with h | h | h | ⟨i, p, hi, e⟩ | ⟨i, p, hi, e⟩ | ⟨-, i, p, hi, e⟩ | ⟨i, p, hi, e⟩ | h | h | h | h | h | h | h
        · unfold WS at h
          omega
        · omega
        · omega
        · exact absurd e (kne b3 (k_sa hc hi).1 (by decide))
        · exact absurd e (kne b3 (k_aa hc hi).1 (by decide))
        · exact absurd e (kne b3 (k_la hc hi).1 (by decide))
        · have := b4 i hi
          rcases e with e | e | e
          · exact absurd e.1 (kne b3 (k_ma hc hi).1 (by decide))
          · omega
          · omega
        all_goals omega
      · rcases z with ⟨-, i, p, hi, e⟩ | z
        · exact absurd e (kne b3 (k_sa hc hi).1 (by decide))
        · omega
  · refine hc.u.cg (sc _ (by decide)) cS cM (fun b b1 b2 j => er b j (by omega) (by omega) (fun h => ?_)) (fun j hj a1 a2 => ?_) (fun j hj => ⟨fS j hj, eA _ _ (k_sa hc hj).2.2 (fun z => ?_)⟩) nsa (fun m hm => ?_) (fun m m1 m2 => (nm m m1 m2).2) (fun j hj => (hr.l (hr.sa hj).2.1).2.1) (by have := rs.1.2; omega)
    · have := nlo _ _ (by omega) h
      unfold WS N3 at this
      omega
    · have ta := ((hr.sa hj).2.2.2.2.2.2.2.2.2.2.2.2.2.2.2.1 a2).2
      by_cases p : Ps j
      · obtain ⟨u1, u2, u3⟩ := hu j p a1 a2
        rw [u3, r79 _ ta]
        exact ⟨u1, u2, esl j hj, rfl⟩
      · rw [rsal _ _ (by decide) (by decide) hj p, rsal _ _ (by decide) (by decide) hj p, rsal _ _ (by decide) (by decide) hj p, r79 _ ta]
        exact ⟨a1, a2, esl j hj, rfl⟩
    · rcases z with ⟨z, -⟩ | z
      · exact z rfl
      · have := (k_sa hc hj).2.1
        omega
    · have k := k_ma hc hm
      have nA : ∀ j, zA μ' (maF μ m) j = zA μ (maF μ m) j := fun j => eA _ _ (by omega) (fun z => by
        rcases z with ⟨-, i, p, hi, e⟩ | z
        · exact absurd e (kne k.1 (k_sa hc hi).1 (by decide))
        · omega)
      rw [fM m hm, nA, nA, eI _ _ (by omega) (fun h => ?_)]
      · exact ⟨rfl, rfl, rfl⟩
      · rcases nhi _ _ (by omega) h with h | h | h | ⟨i, p, hi, e⟩ | ⟨i, p, hi, e⟩ | ⟨-, i, p, hi, e⟩ | ⟨i, p, hi, e⟩ | h | h | h | h | h | h | h
        · unfold WS at h
          omega
        · omega
        · omega
        · exact absurd e (kne k.1 (k_sa hc hi).1 (by decide))
        · exact absurd e (kne k.1 (k_aa hc hi).1 (by decide))
        · exact absurd e (kne k.1 (k_la hc hi).1 (by decide))
        · rcases e with e | e | e
          · exact e.2 rfl
          · exact absurd e (kne k.1 (k_ma hc hi).2.1 (by decide))
          · exact absurd e (kne k.1 (k_ma hc hi).2.2.1 (by decide))
        all_goals omega
end Fr3
