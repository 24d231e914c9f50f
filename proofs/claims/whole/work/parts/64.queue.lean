section Queue
variable {g : Gh} {t : Nat} {μ μ' : ZM} {ρ ρ' : RV}
theorem qsF_nd (ρ : RV) (m : Nat) : (qsF ρ m).Nodup := List.Pairwise.filter _ List.nodup_range
theorem chn.snoc {us us' : Nat → Nat} {A n kl : Nat} (hA : zA μ' A 19 = none) (hn : saF μ' (us' n) = A) : ∀ {l : List Nat} {o : Option Nat}, l.getLast? = some kl → l.Nodup → chn μ us o l → (∀ k, k ∈ l → saF μ' (us' k) = saF μ (us k)) → (∀ k, k ∈ l → k ≠ kl → zA μ' (saF μ (us k)) 19 = zA μ (saF μ (us k)) 19) → zA μ' (saF μ (us kl)) 19 = some A → chn μ' us' o (l ++ [n])
  | [], _, h, _, _, _, _, _ => by cases h
  | [k], o, h, _, hc, e1, _, e3 => by
    have hk : k = kl := by simpa using h
    subst hk
    refine ⟨by rw [e1 k (by simp)]; exact hc.1, ?_⟩
    rw [e1 k (by simp), e3]
    exact ⟨by rw [hn], by rw [hn]; exact hA⟩
  | k :: k2 :: r, o, h, nd, hc, e1, e2, e3 => by
    have nd' := List.nodup_cons.mp nd
    have hl : (k2 :: r).getLast? = some kl := by rw [List.getLast?_cons_cons] at h; exact h
    have hk : k ≠ kl := fun z => nd'.1 (z ▸ List.mem_of_getLast? hl)
    refine ⟨by rw [e1 k (by simp)]; exact hc.1, ?_⟩
    rw [e1 k (by simp), e2 k (by simp) hk]
    exact chn.snoc hA hn hl nd'.2 hc.2 (fun k hk => e1 k (List.mem_cons_of_mem _ hk)) (fun k hk => e2 k (List.mem_cons_of_mem _ hk)) e3
theorem qsF_put {m0 : Nat} (hU : nU ρ' = nU ρ + 1) (e : ∀ b, 42 ≤ b → b ≤ 44 → ∀ j, j < nU ρ → ρ' b j = ρ b j) (e1 : ρ' 42 (nU ρ) = nI m0) (e2 : ¬ ρ' 44 (nU ρ) = 0) (hb : m0 < 2 ^ 31) (m : Nat) (hm : m < 2 ^ 31) : qsF ρ' m = if m = m0 then qsF ρ m ++ [nU ρ] else qsF ρ m := by
  unfold qsF
  rw [hU, List.range_succ, List.filter_append]
  have e3 : (List.range (nU ρ)).filter (fun k => decide (ρ' 42 k = nI m) && !decide (ρ' 44 k = 0)) = (List.range (nU ρ)).filter (fun k => decide (ρ 42 k = nI m) && !decide (ρ 44 k = 0)) := by
    refine List.filter_congr fun k hk => ?_
    have hk := List.mem_range.mp hk
    rw [e 42 (by decide) (by decide) k hk, e 44 (by decide) (by decide) k hk]
  rw [e3]
  by_cases c : m = m0
  · subst c
    rw [if_pos rfl]
    congr 1
    simp [e1, e2]
  · rw [if_neg c]
    have : ¬ nI m0 = nI m := by rw [nI_eq hb hm]; exact fun z => c z.symm
    simp [e1, this]
theorem CRu.put {i : Nat} (hr : RIg g t ρ) (hc : CRg g μ ρ) (hi : i < nS ρ) (hp : ¬ ρ 60 i = 0) (st : ρ 48 i = 2) (hU : ρ' 31 14 = ρ 31 14 + 1) (hS : nS ρ' = nS ρ) (hM : nM ρ' = nM ρ) (eu : ∀ b, 42 ≤ b → b ≤ 44 → ∀ j, j < nU ρ → ρ' b j = ρ b j)
    (u1 : ρ' 42 (nU ρ) = nI (smo ρ i)) (u2 : ρ' 43 (nU ρ) = wrn ρ i) (u3 : ¬ ρ' 44 (nU ρ) = 0) (h60 : ∀ j, j ≠ i → ρ' 60 j = ρ 60 j) (h60' : ρ' 60 i = 0) (h48 : ∀ j, ρ' 48 j = ρ 48 j) (h61 : ∀ j, ρ' 61 j = ρ 61 j) (h79 : ∀ j, ρ' 79 j = ρ 79 j) (esm : ∀ j, smo ρ' j = smo ρ j)
    (fs : ∀ j, saF μ' j = saF μ j) (fm : ∀ j, maF μ' j = maF μ j) (om : ∀ m, m < nM ρ → m ≠ smo ρ i → zA μ' (maF μ m) 11 = zA μ (maF μ m) 11 ∧ zA μ' (maF μ m) 12 = zA μ (maF μ m) 12 ∧ zI μ' (maF μ m) 8 = zI μ (maF μ m) 8)
    (ol : zA μ' (maF μ (smo ρ i)) 12 = some (saF μ i)) (ocn : zI μ' (maF μ (smo ρ i)) 8 = zI μ (maF μ (smo ρ i)) 8 + 1)
    (on : zA μ (maF μ (smo ρ i)) 12 = none → zA μ' (maF μ (smo ρ i)) 11 = some (saF μ i) ∧ ∀ j, j < nS ρ → zA μ' (saF μ j) 19 = zA μ (saF μ j) 19)
    (os : ∀ b, zA μ (maF μ (smo ρ i)) 12 = some b → zA μ' (maF μ (smo ρ i)) 11 = zA μ (maF μ (smo ρ i)) 11 ∧ ∀ j, j < nS ρ → zA μ' (saF μ j) 19 = if saF μ j = b then some (saF μ i) else zA μ (saF μ j) 19) : CRu μ' ρ' := by
  have nu := nU_le hr hc
  have b300 := hr.s.2.2.1.2
  have b20 := hr.s.1.2
  obtain ⟨g1, us, g2, g3, g4, g5⟩ := hc.u
  have hm : smo ρ i < nM ρ := (hr.l (hr.sa hi).2.1).2.1
  have hU2 : ρ' 31 14 = nI (nU ρ + 1) := by rw [hU, g1, nI_1]
  have hn : nU ρ' = nU ρ + 1 := by unfold nU at *; rw [hU2]; exact nI_clamp (by omega)
  have nus : ∀ k, k < nU ρ → us k ≠ i := fun k hk z => by
    have := (g2 k hk).2.1
    rw [z] at this
    exact hp this
  refine ⟨by rw [hU2, hn], fun k => if k = nU ρ then i else us k, fun k hk => ?_, fun k k' hk hk' e => ?_, fun j hj q => ?_, fun m hm' => ?_⟩
  · by_cases c : k = nU ρ
    · subst c
      simp only [if_true]
      rw [h60', h48, esm, h79, h61, hS]
      exact ⟨hi, rfl, st, u1, u2⟩
    · simp only [c, if_false]
      have hk' : k < nU ρ := by omega
      obtain ⟨a1, a2, a3, a4, a5⟩ := g2 k hk'
      rw [h60 _ (nus k hk'), h48, esm, h79, h61, hS, eu 42 (by decide) (by decide) k hk', eu 43 (by decide) (by decide) k hk']
      exact ⟨a1, a2, a3, a4, a5⟩
  · by_cases c : k = nU ρ <;> by_cases c' : k' = nU ρ
    · omega
    · simp only [c, c', if_true, if_false] at e
      exact absurd e.symm (nus k' (by omega))
    · simp only [c, c', if_true, if_false] at e
      exact absurd e (nus k (by omega))
    · simp only [c, c', if_false] at e
      exact g3 k k' (by omega) (by omega) e
  · rw [hS] at hj
    rw [fs]
    have q' : ∀ k, k < nU ρ → us k ≠ j := fun k hk z => q k (by omega) (by simp only [show ¬ k = nU ρ by omega, if_false]; exact z)
    have old := g4 j hj q'
    cases hl : zA μ (maF μ (smo ρ i)) 12 with
    | none => rw [(on hl).2 j hj]; exact old
    | some b =>
      rw [(os b hl).2 j hj, if_neg, old]
      intro z
      have := (g5 (smo ρ i) hm).2.1
      rw [hl] at this
      cases hq : (qsF ρ (smo ρ i)).getLast? with
      | none => rw [hq] at this; cases this
      | some k =>
        rw [hq] at this
        have hk := qsF.lt (List.mem_of_getLast? hq)
        have e2 : b = saF μ (us k) := by simpa using this
        exact q' k hk (sa_inj hr hc (g2 k hk).1 hj (by rw [z, e2]))
  · rw [hM] at hm'
    rw [fm, qsF_put hn eu u1 u3 (by omega) m (by omega)]
    have si : zA μ' (saF μ i) 19 = none := by
      have old := g4 i hi nus
      cases hl : zA μ (maF μ (smo ρ i)) 12 with
      | none => rw [(on hl).2 i hi]; exact old
      | some b =>
        rw [(os b hl).2 i hi, if_neg, old]
        intro z
        have := (g5 (smo ρ i) hm).2.1
        rw [hl] at this
        cases hq : (qsF ρ (smo ρ i)).getLast? with
        | none => rw [hq] at this; cases this
        | some k =>
          rw [hq] at this
          have hk := qsF.lt (List.mem_of_getLast? hq)
          have e2 : b = saF μ (us k) := by simpa using this
          exact nus k hk (sa_inj hr hc (g2 k hk).1 hi (by rw [z, e2]))
    have usk : ∀ m k, k ∈ qsF ρ m → saF μ' ((fun k => if k = nU ρ then i else us k) k) = saF μ (us k) := fun m k hk => by
      have := qsF.lt hk
      simp only [show ¬ k = nU ρ by omega, if_false]
      exact fs _
    by_cases c : m = smo ρ i
    · subst c
      rw [if_pos rfl]
      obtain ⟨x1, x2, x3⟩ := g5 (smo ρ i) hm
      refine ⟨?_, ?_, ?_⟩
      · cases hl : zA μ (maF μ (smo ρ i)) 12 with
        | none =>
          rw [hl] at x2
          have hq : qsF ρ (smo ρ i) = [] := by
            cases hq : (qsF ρ (smo ρ i)).getLast? with
            | none => exact List.getLast?_eq_none_iff.mp hq
            | some k => rw [hq] at x2; cases x2
          rw [hq, (on hl).1]
          refine ⟨?_, ?_⟩
          · simp only [if_true]
            rw [fs]
          · simp only [if_true]
            rw [fs]
            exact si
        | some b =>
          rw [hl] at x2
          cases hq : (qsF ρ (smo ρ i)).getLast? with
          | none => rw [hq] at x2; cases x2
          | some kl =>
            rw [hq] at x2
            have e2 : b = saF μ (us kl) := by simpa using x2
            have hkl := qsF.lt (List.mem_of_getLast? hq)
            rw [(os b hl).1]
            refine chn.snoc (A := saF μ i) (kl := kl) si ?_ hq (qsF_nd _ _) x1 (fun k hk => usk _ k hk) (fun k hk hne => ?_) ?_
            · simp only [if_true]
              exact fs _
            · rw [(os b hl).2 _ (g2 k (qsF.lt hk)).1, if_neg]
              intro z
              rw [e2] at z
              exact hne (g3 k kl (qsF.lt hk) hkl (sa_inj hr hc (g2 k (qsF.lt hk)).1 (g2 kl hkl).1 z))
            · rw [(os b hl).2 _ (g2 kl hkl).1, if_pos e2.symm]
      · rw [ol, List.getLast?_concat]
        simp only [Option.map_some, if_true]
        rw [fs]
      · rw [ocn, x3, List.length_append]
        exact nI_1 _
    · rw [if_neg c]
      obtain ⟨o1, o2, o3⟩ := om m hm' c
      obtain ⟨x1, x2, x3⟩ := g5 m hm'
      rw [o1, o2, o3]
      refine ⟨?_, ?_, x3⟩
      · have : ∀ {l : List Nat} {o : Option Nat}, (∀ k, k ∈ l → k ∈ qsF ρ m) → chn μ us o l → chn μ' (fun k => if k = nU ρ then i else us k) o l := by
          intro l
          induction l with
          | nil => intro o _ h; exact h
          | cons k r ih =>
            intro o hk h
            have hkm := hk k (by simp)
            refine ⟨by rw [usk m k hkm]; exact h.1, ?_⟩
            have e9 : zA μ' (saF μ (us k)) 19 = zA μ (saF μ (us k)) 19 := by
              cases hl : zA μ (maF μ (smo ρ i)) 12 with
              | none => exact (on hl).2 _ (g2 k (qsF.lt hkm)).1
              | some b =>
                rw [(os b hl).2 _ (g2 k (qsF.lt hkm)).1, if_neg]
                intro z
                have y2 := (g5 (smo ρ i) hm).2.1
                rw [hl] at y2
                cases hq : (qsF ρ (smo ρ i)).getLast? with
                | none => rw [hq] at y2; cases y2
                | some kl =>
                  rw [hq] at y2
                  have e2 : b = saF μ (us kl) := by simpa using y2
                  have hkl := List.mem_of_getLast? hq
                  have ek := g3 k kl (qsF.lt hkm) (qsF.lt hkl) (sa_inj hr hc (g2 k (qsF.lt hkm)).1 (g2 kl (qsF.lt hkl)).1 (by rw [z, e2]))
                  subst ek
                  unfold qsF at hkm hkl
                  have p1 := (List.mem_filter.mp hkm).2
                  have p2 := (List.mem_filter.mp hkl).2
                  simp only [Bool.and_eq_true, decide_eq_true_eq] at p1 p2
                  exact c ((nI_eq (by omega) (by omega)).mp (p1.1.symm.trans p2.1))
            rw [usk m k hkm, e9]
            exact ih (fun k' h' => hk k' (List.mem_cons_of_mem _ h')) h.2
        exact this (fun k hk => hk) x1
      · rw [x2]
        cases hq : (qsF ρ m).getLast? with
        | none => rfl
        | some k => exact congrArg some (usk m k (List.mem_of_getLast? hq)).symm
end Queue
