section QueueT
variable {g : Gh} {t : Nat} {μ μ' : ZM} {ρ ρ' : RV}
theorem rng_split {n k0 : Nat} {l1 l2 : List Nat} (h : List.range n = l1 ++ k0 :: l2) : k0 < n ∧ (∀ k, k < k0 → k ∈ l1) ∧ k0 ∉ l2 := by
  have nd := List.nodup_range (n := n)
  rw [h] at nd
  have hk : k0 ∈ List.range n := by rw [h]; simp
  refine ⟨List.mem_range.mp hk, fun k hk' => ?_, ?_⟩
  · have hl : k0 = l1.length := by
      have h1 : (List.range n)[l1.length]? = some k0 := by rw [h]; simp
      rw [List.getElem?_range (by
        have := congrArg List.length h
        simp at this
        omega)] at h1
      simpa using h1.symm
    have h2 : (List.range n)[k]? = l1[k]? := by
      rw [h, List.getElem?_append_left (by omega)]
    rw [List.getElem?_range (by have := List.mem_range.mp hk; omega)] at h2
    exact List.mem_of_getElem? h2.symm
  · have := (List.nodup_append.mp nd).2.1
    exact (List.nodup_cons.mp this).1
theorem qsF_head {m k0 : Nat} {r : List Nat} (h : qsF ρ m = k0 :: r) : k0 < nU ρ ∧ ρ 42 k0 = nI m ∧ ¬ ρ 44 k0 = 0 ∧ ∀ k, k < k0 → ¬ (ρ 42 k = nI m ∧ ¬ ρ 44 k = 0) := by
  unfold qsF at h
  obtain ⟨l1, l2, e1, e2, e3, e4⟩ := List.filter_eq_cons_iff.mp h
  obtain ⟨a1, a2, a3⟩ := rng_split e1
  simp only [Bool.and_eq_true, decide_eq_true_eq, Bool.not_eq_true', decide_eq_false_iff_not] at e3
  refine ⟨a1, e3.1, e3.2, fun k hk z => ?_⟩
  have := e2 k (a2 k hk)
  simp [z.1, z.2] at this
theorem qsF_take {m k0 : Nat} {r : List Nat} (h : qsF ρ m = k0 :: r) (hU : nU ρ' = nU ρ) (e42 : ∀ j, ρ' 42 j = ρ 42 j) (e44 : ∀ j, j ≠ k0 → ρ' 44 j = ρ 44 j) (e44' : ρ' 44 k0 = 0) (hm : m < 2 ^ 31) : qsF ρ' m = r ∧ ∀ m', m' ≠ m → m' < 2 ^ 31 → qsF ρ' m' = qsF ρ m' := by
  have hd := qsF_head h
  refine ⟨?_, fun m' hne hb => ?_⟩
  · unfold qsF at h ⊢
    obtain ⟨l1, l2, e1, e2, e3, e4⟩ := List.filter_eq_cons_iff.mp h
    obtain ⟨a1, a2, a3⟩ := rng_split e1
    rw [hU, e1, List.filter_append, List.filter_cons_of_neg (by simp [e44']), ← e4]
    have nd := List.nodup_range (n := nU ρ)
    rw [e1] at nd
    have f1 : l1.filter (fun k => decide (ρ' 42 k = nI m) && !decide (ρ' 44 k = 0)) = [] := by
      rw [List.filter_eq_nil_iff]
      intro k hk
      have : k ≠ k0 := fun z => by
        have := (List.nodup_append.mp nd).2.2 k hk k0 (by simp)
        exact this z
      rw [e42, e44 k this]
      exact e2 k hk
    rw [f1, List.nil_append]
    refine List.filter_congr fun k hk => ?_
    rw [e42, e44 k (fun z => a3 (z ▸ hk))]
  · unfold qsF
    rw [hU]
    refine List.filter_congr fun k hk => ?_
    by_cases c : k = k0
    · subst c
      have : ¬ nI m = nI m' := by rw [nI_eq hm hb]; exact fun z => hne z.symm
      rw [e42, hd.2.1]
      simp [this]
    · rw [e42, e44 k c]
theorem CRu.take {m k0 : Nat} {r : List Nat} (hr : RIg g t ρ) (hc : CRg g μ ρ) (hm : m < nM ρ) (hq : qsF ρ m = k0 :: r) (hU : ρ' 31 14 = ρ 31 14) (hS : nS ρ' = nS ρ) (hM : nM ρ' = nM ρ) (e42 : ∀ j, ρ' 42 j = ρ 42 j) (e43 : ∀ j, ρ' 43 j = ρ 43 j) (e44 : ∀ j, j ≠ k0 → ρ' 44 j = ρ 44 j) (e44' : ρ' 44 k0 = 0)
    (h60 : ∀ j, ρ' 60 j = ρ 60 j) (h48 : ∀ j, ρ' 48 j = ρ 48 j) (h61 : ∀ j, ρ' 61 j = ρ 61 j) (h79 : ∀ j, ρ' 79 j = ρ 79 j) (esm : ∀ j, smo ρ' j = smo ρ j) (fs : ∀ j, saF μ' j = saF μ j) (fm : ∀ j, maF μ' j = maF μ j) (nx : ∀ j, j < nS ρ → zA μ' (saF μ j) 19 = zA μ (saF μ j) 19)
    (om : ∀ m', m' < nM ρ → m' ≠ m → zA μ' (maF μ m') 11 = zA μ (maF μ m') 11 ∧ zA μ' (maF μ m') 12 = zA μ (maF μ m') 12 ∧ zI μ' (maF μ m') 8 = zI μ (maF μ m') 8)
    (b0 : Nat) (hb0 : zA μ (maF μ m) 11 = some b0) (f1 : zA μ' (maF μ m) 11 = zA μ b0 19) (f2 : zA μ' (maF μ m) 12 = if zA μ b0 19 = none then none else zA μ (maF μ m) 12) (f3 : zI μ' (maF μ m) 8 = zI μ (maF μ m) 8 - 1) : CRu μ' ρ' := by
  have b20 := hr.s.1.2
  have hn : nU ρ' = nU ρ := by unfold nU; rw [hU]
  obtain ⟨q1, q2⟩ := qsF_take hq hn e42 e44 e44' (by omega)
  obtain ⟨g1, us, g2, g3, g4, g5⟩ := hc.u
  have nxk : ∀ m' k, k ∈ qsF ρ m' → saF μ' (us k) = saF μ (us k) ∧ zA μ' (saF μ (us k)) 19 = zA μ (saF μ (us k)) 19 := fun m' k hk => ⟨fs _, nx _ (g2 k (qsF.lt hk)).1⟩
  refine ⟨by rw [hU, hn]; exact g1, us, fun k hk => ?_, fun k k' hk hk' e => g3 k k' (by omega) (by omega) e, fun j hj q => ?_, fun m' hm' => ?_⟩
  · rw [hn] at hk
    rw [h60, h48, esm, h79, h61, hS, e42, e43]
    exact g2 k hk
  · rw [hS] at hj
    rw [fs, nx j hj]
    exact g4 j hj (fun k hk => q k (by omega))
  · rw [hM] at hm'
    rw [fm]
    by_cases c : m' = m
    · subst c
      obtain ⟨x1, x2, x3⟩ := g5 m' hm
      rw [hq] at x1 x2 x3
      have eb : b0 = saF μ (us k0) := by
        have := x1.1
        rw [hb0] at this
        simpa using this
      rw [q1, f1, eb]
      refine ⟨chn.cg (fun k hk => nxk m' k (by rw [hq]; exact List.mem_cons_of_mem _ hk)) x1.2, ?_, ?_⟩
      · rw [f2, eb]
        cases r with
        | nil =>
          have : zA μ (saF μ (us k0)) 19 = none := x1.2
          rw [if_pos this]
          rfl
        | cons k1 r1 =>
          have : zA μ (saF μ (us k0)) 19 = some (saF μ (us k1)) := x1.2.1
          rw [if_neg (by rw [this]; simp), x2, List.getLast?_cons_cons]
          cases hl : (k1 :: r1).getLast? with
          | none => rfl
          | some k => exact congrArg some (fs _).symm
      · rw [f3, x3]
        exact nI_pred _
    · rw [q2 m' c (by omega)]
      obtain ⟨o1, o2, o3⟩ := om m' hm' c
      obtain ⟨x1, x2, x3⟩ := g5 m' hm'
      rw [o1, o2, o3]
      refine ⟨chn.cg (nxk m') x1, ?_, x3⟩
      rw [x2]
      cases hl : (qsF ρ m').getLast? with
      | none => rfl
      | some k => exact congrArg some (fs _).symm
end QueueT
