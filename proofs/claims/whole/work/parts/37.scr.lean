/-! pieces that stay when their cells stay -/
section Cg
variable {g : Gh} {L : Nat} {X : Nat → Int32} {t t' : Nat} {μ μ' : ZM} {ρ ρ' : RV}
/-- the scalars of the reference that are no scratch -/
def SC (ρ ρ' : RV) : Prop := ∀ j, j < 50 ∨ (58 ≤ j ∧ j < 76) → ρ' 31 j = ρ 31 j
theorem SC.c (h : SC ρ ρ') : nM ρ' = nM ρ ∧ nL ρ' = nL ρ ∧ nS ρ' = nS ρ ∧ nA ρ' = nA ρ ∧ nT ρ' = nT ρ ∧ nN ρ' = nN ρ ∧ nU ρ' = nU ρ ∧ tL ρ' = tL ρ := by
  unfold nM nL nS nA nT nN nU tL
  rw [h 3 (by decide), h 18 (by decide), h 22 (by decide), h 60 (by decide), h 42 (by decide), h 74 (by decide), h 14 (by decide), h 41 (by decide)]
  exact ⟨rfl, rfl, rfl, rfl, rfl, rfl, rfl, rfl⟩
theorem RIs.cg (r : RIs ρ) (h : SC ρ ρ') : RIs ρ' := by
  obtain ⟨c1, c2, c3, c4, c5, c6, c7, c8⟩ := h.c
  unfold RIs
  rw [c1, c2, c3, c4, c5, c6, c8, h 3 (by decide), h 18 (by decide), h 22 (by decide), h 60 (by decide), h 42 (by decide), h 74 (by decide), h 41 (by decide), h 1 (by decide)]
  exact r
theorem qsF.cg (hU : nU ρ' = nU ρ) (e : ∀ b, 42 ≤ b → b ≤ 44 → ∀ j, j < nU ρ → ρ' b j = ρ b j) (m : Nat) : qsF ρ' m = qsF ρ m := by
  unfold qsF
  rw [hU]
  refine List.filter_congr fun k hk => ?_
  have hk := List.mem_range.mp hk
  rw [e 42 (by decide) (by decide) k hk, e 44 (by decide) (by decide) k hk]
theorem chn.cg {us : Nat → Nat} : ∀ {l : List Nat} {o : Option Nat}, (∀ k, k ∈ l → saF μ' (us k) = saF μ (us k) ∧ zA μ' (saF μ (us k)) 19 = zA μ (saF μ (us k)) 19) → chn μ us o l → chn μ' us o l
  | [], _, _, h => h
  | k :: r, _, e, h => by
    obtain ⟨e1, e2⟩ := e k (by simp)
    refine ⟨by rw [e1]; exact h.1, ?_⟩
    rw [e1, e2]
    exact chn.cg (fun k hk => e k (by simp [hk])) h.2
theorem qsF.lt {m k : Nat} (h : k ∈ qsF ρ m) : k < nU ρ := by
  unfold qsF at h
  exact List.mem_range.mp (List.mem_filter.mp h).1
/-- the queues stay: no sale of a queue is written but in cells that they don't read -/
theorem CRu.cg (h : CRu μ ρ) (hU : ρ' 31 14 = ρ 31 14) (hS : nS ρ ≤ nS ρ') (hM : nM ρ ≤ nM ρ') (eu : ∀ b, 42 ≤ b → b ≤ 44 → ∀ j, ρ' b j = ρ b j)
    (es : ∀ j, j < nS ρ → ρ 60 j = 0 → ρ 48 j = 2 → ρ' 60 j = 0 ∧ ρ' 48 j = 2 ∧ smo ρ' j = smo ρ j ∧ ρ' 79 (tN (ρ' 61 j)) = ρ 79 (tN (ρ 61 j)))
    (fs : ∀ j, j < nS ρ → saF μ' j = saF μ j ∧ zA μ' (saF μ j) 19 = zA μ (saF μ j) 19) (ns : ∀ j, nS ρ ≤ j → j < nS ρ' → zA μ' (saF μ' j) 19 = none)
    (fm : ∀ m, m < nM ρ → zA μ' (maF μ' m) 11 = zA μ (maF μ m) 11 ∧ zA μ' (maF μ' m) 12 = zA μ (maF μ m) 12 ∧ zI μ' (maF μ' m) 8 = zI μ (maF μ m) 8)
    (nm : ∀ m, nM ρ ≤ m → m < nM ρ' → zA μ' (maF μ' m) 11 = none ∧ zA μ' (maF μ' m) 12 = none ∧ zI μ' (maF μ' m) 8 = 0) (hlt : ∀ j, j < nS ρ → smo ρ j < nM ρ) (hb : nM ρ' ≤ 20) : CRu μ' ρ' := by
  have hU' : nU ρ' = nU ρ := by unfold nU; rw [hU]
  obtain ⟨h1, us, h2, h3, h4, h5⟩ := h
  refine ⟨by rw [hU, hU']; exact h1, us, fun k hk => ?_, fun k k' hk hk' e => h3 k k' (by omega) (by omega) e, fun j hj q => ?_, fun m hm => ?_⟩
  · rw [hU'] at hk
    obtain ⟨a1, a2, a3, a4, a5⟩ := h2 k hk
    obtain ⟨b1, b2, b3, b4⟩ := es _ a1 a2 a3
    rw [b1, b2, b3, b4, eu 42 (by decide) (by decide), eu 43 (by decide) (by decide)]
    exact ⟨by omega, rfl, rfl, a4, a5⟩
  · by_cases c : j < nS ρ
    · rw [(fs j c).1, (fs j c).2]
      exact h4 j c (fun k hk => q k (by omega))
    · exact ns j (by omega) hj
  · have eq : qsF ρ' m = qsF ρ m := qsF.cg hU' (fun b b1 b2 j _ => eu b b1 b2 j) m
    rw [eq]
    by_cases c : m < nM ρ
    · obtain ⟨c1, c2, c3⟩ := h5 m c
      rw [(fm m c).1, (fm m c).2.1, (fm m c).2.2]
      refine ⟨chn.cg (fun k hk => fs _ (h2 k (qsF.lt hk)).1) c1, ?_, c3⟩
      rw [c2]
      cases hq : (qsF ρ m).getLast? with
      | none => rfl
      | some k => exact congrArg some (fs _ (h2 k (qsF.lt (List.mem_of_getLast? hq))).1).1.symm
    · have en : qsF ρ m = [] := by
        unfold qsF
        rw [List.filter_eq_nil_iff]
        intro k hk z
        have hk := List.mem_range.mp hk
        obtain ⟨a1, a2, a3, a4, a5⟩ := h2 k hk
        simp only [a4, Bool.and_eq_true, decide_eq_true_eq] at z
        have := (nI_eq (by have := hlt _ a1; omega) (by omega)).mp z.1
        have := hlt _ a1
        omega
      rw [en]
      obtain ⟨n1, n2, n3⟩ := nm m (by omega) hm
      exact ⟨n1, n2, n3⟩
/-! scratch -/
def WS (ρ : RV) (b j : Nat) : Prop := b = 19 ∨ (b = 20 ∧ j = 5) ∨ (22 ≤ b ∧ b ≤ 29) ∨ (b = 31 ∧ ((50 ≤ j ∧ j ≤ 57) ∨ (76 ≤ j ∧ j ≤ 78))) ∨ (72 ≤ b ∧ b ≤ 73) ∨ (70 ≤ b ∧ b ≤ 71 ∧ 200 * nT ρ ≤ j ∧ (j < 4000 ∨ 4200 ≤ j))
def Scr (ρ : RV) (μ μ' : ZM) : Prop := EqX μ μ' (WS ρ) (fun _ _ => False)
theorem IV.scr (hI : IV g L X t μ) (h1 : rf μ = ρ) (hx : Scr ρ μ μ') (hS' : Stat μ') (cw : CRw μ') (ht : t ≤ t') : IV g L X t' μ' := by
  have hS := hI.st
  have hr := hI.r h1
  have hc := hI.c h1
  have h88 := hS.2.2.2.1
  have hN := hx.1
  have hx' : EqX μ μ' (WI μ ρ (fun _ => False) (fun _ => False) (fun _ => False) (fun _ => False)) (WA μ ρ (fun _ => False) (fun _ => False)) := by
    refine EqX.mono hx (fun b j h => ?_) (fun b j h => h.elim)
    rcases h with h | h | h | h | h | h
    · exact Or.inl (Or.inl (by omega))
    · exact Or.inl (Or.inl (by omega))
    · exact Or.inl (Or.inl (by omega))
    · exact Or.inl (Or.inl (by omega))
    · exact Or.inr ⟨by omega, by omega, Or.inr (Or.inr (Or.inr (Or.inr (Or.inr (Or.inr (Or.inr (Or.inr (Or.inr (Or.inr (Or.inl (by omega)))))))))))⟩
    · exact Or.inr ⟨by omega, by omega, Or.inr (Or.inr (Or.inr (Or.inr (Or.inr (Or.inr (Or.inr (Or.inr (Or.inr (Or.inl (by omega))))))))))⟩
  have er : ∀ b j, 31 ≤ b → b < 88 → ¬ WS ρ b j → rf μ' b j = ρ b j := fun b j b1 b2 hn => by
    rw [← rfz rfl b1 b2, ← rfz h1 b1 b2]
    exact hx.2.2.1 b j (by omega) hn
  have eI : ∀ b j, b < zN μ → ¬ WS ρ b j → zI μ' b j = zI μ b j := hx.2.2.1
  have eA : ∀ b j, b < zN μ → zA μ' b j = zA μ b j := fun b j hb => hx.2.2.2.1 b j hb (fun z => z)
  have sc : SC ρ (rf μ') := fun j hj => er 31 j (by decide) (by decide) (by unfold WS; omega)
  obtain ⟨c1, c2, c3, c4, c5, c6, c7, c8⟩ := sc.c
  have rw' : ∀ b j, 32 ≤ b → b < 70 → rf μ' b j = ρ b j := fun b j b1 b2 => er b j (by omega) (by omega) (by unfold WS; omega)
  have rw2 : ∀ b j, 74 ≤ b → b < 88 → rf μ' b j = ρ b j := fun b j b1 b2 => er b j (by omega) (by omega) (by unfold WS; omega)
  have fS : ∀ j, saF μ' j = saF μ j := fun j => by unfold saF; rw [eA 14 j (by omega)]
  have fM : ∀ j, maF μ' j = maF μ j := fun j => by unfold maF; rw [eA 12 j (by omega)]
  have fA : ∀ j, aaF μ' j = aaF μ j := fun j => by unfold aaF; rw [eA 15 j (by omega)]
  have esl : ∀ j, smo (rf μ') j = smo ρ j := fun j => by unfold smo lm sl; rw [rw' _ _ (by decide) (by decide), rw' _ _ (by decide) (by decide)]
  have eas : ∀ j, as_ (rf μ') j = as_ ρ j := fun j => by unfold as_; rw [rw2 _ _ (by decide) (by decide)]
  refine IV.fr hI hS' hx' h1 rfl ht (fun _ _ => rfl) (by omega) (by omega) (by omega) (by omega) (by omega) (by rw [sc _ (by decide)]; exact Int.le_refl _) (by rw [sc _ (by decide)]; exact Int.le_refl _) (hr.s.cg sc)
    (fun i hi q => (q (by omega)).elim) (fun i hi q => (q (by omega)).elim) (fun i hi q => (q (by omega)).elim) (fun i hi q => (q (by omega)).elim) (fun i hi q => by omega) ?_ ?_ ?_ ?_ ?_ ?_ ?_ ?_ ?_ cw
  · obtain ⟨f1, f2, f3⟩ := hr.f
    unfold RFr
    rw [c1, c3, c4]
    simp only [rw' _ _ (show 32 ≤ 35 by decide) (show 35 < 70 by decide), rw' _ _ (show 32 ≤ 38 by decide) (show 38 < 70 by decide), rw' _ _ (show 32 ≤ 39 by decide) (show 39 < 70 by decide), rw' _ _ (show 32 ≤ 40 by decide) (show 40 < 70 by decide), rw' _ _ (show 32 ≤ 48 by decide) (show 48 < 70 by decide), rw' _ _ (show 32 ≤ 57 by decide) (show 57 < 70 by decide), rw' _ _ (show 32 ≤ 60 by decide) (show 60 < 70 by decide), rw' _ _ (show 32 ≤ 62 by decide) (show 62 < 70 by decide), rw' _ _ (show 32 ≤ 64 by decide) (show 64 < 70 by decide), rw2 _ _ (show 74 ≤ 82 by decide) (show 82 < 88 by decide), rw2 _ _ (show 74 ≤ 83 by decide) (show 83 < 88 by decide)]
    exact ⟨f1, f2, f3⟩
  · unfold RWt
    rw [c4]
    simp only [eas, rw' _ _ (show 32 ≤ 48 by decide) (show 48 < 70 by decide), rw2 _ _ (show 74 ≤ 82 by decide) (show 82 < 88 by decide)]
    exact hr.w
  · have q := hr.lm
    unfold RLm at q ⊢
    rw [sc _ (by decide), rw' 69 _ (by decide) (by decide)]
    rcases q with q | ⟨q1, q2, q3, q4, q5⟩
    · exact Or.inl q
    · refine Or.inr ⟨q1, q2, q3, q4, lst2_cg (fun j j1 j2 => ?_) q5⟩
      rw [List.length_map] at j2
      exact ⟨er _ _ (by decide) (by decide) (by unfold WS; omega), er _ _ (by decide) (by decide) (by unfold WS; omega)⟩
  · have q := hc.s
    unfold CRs at q ⊢
    rw [eI _ _ (by omega) (by unfold WS; omega), eI _ _ (by omega) (by unfold WS; omega), eI _ _ (by omega) (by unfold WS; omega), eI _ _ (by omega) (by unfold WS; omega), eI _ _ (by omega) (by unfold WS; omega), eI _ _ (by omega) (by unfold WS; omega), eI _ _ (by omega) (by unfold WS; omega), eI _ _ (by omega) (by unfold WS; omega), eI _ _ (by omega) (by unfold WS; omega), eI _ _ (by omega) (by unfold WS; omega), eI _ _ (by omega) (by unfold WS; omega)]
    rw [sc _ (by decide), sc _ (by decide), sc _ (by decide), sc _ (by decide), sc _ (by decide), sc _ (by decide), sc _ (by decide), sc _ (by decide), sc _ (by decide), sc _ (by decide), sc _ (by decide)]
    exact q
  · have q := hc.n
    unfold CRn at q ⊢
    rw [c6, c8]
    refine ⟨fun j hj => ?_, fun j hj => ?_⟩
    · rw [eI _ _ (by omega) (by unfold WS; omega), rw2 _ _ (by decide) (by decide)]
      exact q.1 j hj
    · rw [eI _ _ (by omega) (by unfold WS; omega), rw' _ _ (by decide) (by decide)]
      exact q.2 j hj
  · intro j hj
    rw [eI _ _ (by omega) (by unfold WS; omega), rw2 _ _ (by decide) (by decide)]
    exact hc.h j hj
  · intro i j hi hj e
    rw [fA, fA] at e
    exact hc.d i j (by omega) (by omega) e
  · have q := hc.lm
    unfold CLm at q ⊢
    rw [sc _ (by decide), eA _ _ (by omega), c1]
    rcases q with q | ⟨q1, lc, q2, q3, q4, q5, q6, q7, q8⟩
    · exact Or.inl q
    · refine Or.inr ⟨q1, lc, q2, q3, by omega, ((hx.2.1 lc q4).1).trans q5, ((hx.2.1 lc q4).2).trans q6, lst_cg (fun j _ _ => eI _ _ q4 (by unfold WS; omega)) q7, fun i hi => ?_⟩
      rw [fM]
      exact q8 i hi
  · refine hc.u.cg (sc _ (by decide)) (by omega) (by omega) (fun b b1 b2 j => rw' _ _ (by omega) (by omega)) (fun j hj a1 a2 => ?_) (fun j hj => ⟨fS j, eA _ _ (k_sa hc hj).2.2⟩) (fun j j1 j2 => by omega) (fun m hm => ?_) (fun m m1 m2 => by omega) (fun j hj => (hr.l (hr.sa hj).2.1).2.1) (by have := hr.s.1.2; omega)
    · rw [rw' _ _ (by decide) (by decide), rw' _ _ (by decide) (by decide), rw2 _ _ (by decide) (by decide), rw' _ _ (by decide) (by decide)]
      exact ⟨a1, a2, esl j, rfl⟩
    · have k := k_ma hc hm
      rw [fM, eA _ _ (by omega), eA _ _ (by omega), eI _ _ (by omega) (by unfold WS; omega)]
      exact ⟨rfl, rfl, rfl⟩
theorem rf_x {Wi Wa : Nat → Nat → Prop} (hS : Stat μ) (hx : EqX μ μ' Wi Wa) (h : ∀ b j, Wi b j → b < 31 ∨ 88 ≤ b) : rf μ' = rf μ := by
  funext b j
  unfold rf
  split
  · next q => exact hx.2.2.1 b j (by have := hS.2.2.2.1; omega) (fun z => by have := h b j z; omega)
  · rfl
end Cg
