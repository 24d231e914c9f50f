theorem dyF_3000 {x : Int32} (h : x = -1 ∨ rng x 0 2999) : (¬ dyF x = 3000 → x = dyF x ∧ True) ∧ (dyF x = 3000 → x = -1) := by
  unfold dyF
  rcases h with h | ⟨h1, h2⟩
  · rw [if_pos h]
    exact ⟨fun z => absurd rfl z, fun _ => h⟩
  · have n1 : ¬ x = -1 := by
      rw [i_eq, show (-1 : Int32).toInt = -1 from by decide]
      omega
    rw [if_neg n1]
    refine ⟨fun _ => ⟨rfl, trivial⟩, fun z => ?_⟩
    rw [i_eq, show (3000 : Int32).toInt = 3000 from by decide] at z
    omega
theorem pig : ∀ (n N : Nat) (f : Nat → Nat), (∀ k, k < n → f k < N) → (∀ k k', k < n → k' < n → f k = f k' → k = k') → n ≤ N
  | 0, _, _, _, _ => Nat.zero_le _
  | n + 1, 0, f, h, _ => absurd (h 0 (by omega)) (by omega)
  | n + 1, N + 1, f, h, hi => by
    have := pig n N (fun k => if f k = N then f n else f k) (fun k hk => ?_) (fun k k' hk hk' e => ?_)
    · omega
    · by_cases c : f k = N
      · simp only [c, if_true]
        have h1 := h n (by omega)
        have : f n ≠ N := fun z => by have := hi k n (by omega) (by omega) (c.trans z.symm); omega
        omega
      · simp only [c, if_false]
        have := h k (by omega)
        omega
    · by_cases c : f k = N <;> by_cases c' : f k' = N
      · exact hi k k' (by omega) (by omega) (c.trans c'.symm)
      · simp only [c, c', if_true, if_false] at e
        have := hi n k' (by omega) (by omega) e
        omega
      · simp only [c, c', if_true, if_false] at e
        have := hi k n (by omega) (by omega) e
        omega
      · simp only [c, c', if_false] at e
        exact hi k k' (by omega) (by omega) e
theorem nU_le {g : Gh} {t : Nat} {μ : ZM} {ρ : RV} (hr : RIg g t ρ) (hc : CRg g μ ρ) : nU ρ ≤ nS ρ := by
  obtain ⟨-, us, h2, h3, -⟩ := hc.u
  exact pig _ _ us (fun k hk => (h2 k hk).1) h3
theorem sS_len {p : Nat → Bool} : ∀ n, sS (fun k => if p k = true then 1 else 0) n = nI ((List.range n).filter p).length
  | 0 => rfl
  | n + 1 => by
    rw [List.range_succ, List.filter_append, List.length_append]
    show sS _ n + _ = _
    rw [sS_len n]
    by_cases c : p n = true
    · simp only [c, if_true, List.filter_cons_of_pos, List.filter_nil, List.length_singleton]
      exact nI_1 _
    · have e2 : List.filter p [n] = [] := by simp [c]
      rw [e2]
      show nI _ + (if p n = true then 1 else 0) = nI (_ + 0)
      rw [if_neg c]
      exact Int32.add_zero _
section UsedOf
variable {E : ZE} {l : Launch} {d nc ns : Nat} {g : Gh} {L : Nat} {X : Nat → Int32} {t : Nat} {μ : ZM} {ρ : RV} {K : Option Value → ZM → Prop} {x1 x2 x3 x4 : Int32}
theorem r_usedOf {i : Nat} (hS : Stat μ) (hρ : rf μ = ρ) (hU : ρ 31 14 = nI (nU ρ)) (hb : nU ρ ≤ 300) (k : K (some (.int (nI (qsF ρ i).length))) μ) : AW E l d nc ns mX11_usedOf 0 (zargs 4 [.ref 31, .int (nI i)]) [] μ K := by
  have R : ∀ a j, 31 ≤ a → a < 88 → zI μ a j = ρ a j := fun a j h1 h2 => rfz hρ h1 h2
  have lE : ρ 31 14 ≤ nI (nU ρ) := by rw [← hU]; exact Int32.le_refl _
  unfold qsF at k
  rw [← sS_len] at k
  refine t_X11_usedOf hS ?_
  refine lpd (P := fun j => AW E l d nc ns mX11_usedOf 4 [some (.ref 31), some (.int (nI i)), some (.int (sS (fun k => if (decide (ρ 42 k = nI i) && !decide (ρ 44 k = 0)) = true then 1 else 0) j)), some (.int (nI j))] [] μ K) (n := nU ρ) ?_ ?_
  · refine t_X11_usedOf_4 hS ?_
    simp (disch := omega) only [R, lE, true_implies, false_implies, implies_true, not_true_eq_false, not_false_eq_true, and_true, true_and, Option.some.injEq, reduceCtorEq, forall_eq', forall_eq]
    exact k
  · intro j hj ih
    have l1 : ¬ ρ 31 14 ≤ nI j := by rw [hU]; exact nI_ge hj (by omega)
    have l3 : vp_in (nI j) 300 := vp_in_nI (by omega) (by decide)
    have l4 : (nI j).toNatClampNeg = j := nI_clamp (by omega)
    refine t_X11_usedOf_4 hS ?_
    simp only [sS, ← nI_1] at ih
    simp (disch := omega) only [R, l1, l3, l4, true_implies, false_implies, implies_true, not_true_eq_false, not_false_eq_true, and_true, true_and, Option.some.injEq, reduceCtorEq, forall_eq', forall_eq]
    by_cases q1 : ρ 42 j = nI i <;> by_cases q2 : ρ 44 j = 0
    all_goals
      simp only [q1, q2, decide_true, decide_false, Bool.not_true, Bool.not_false, Bool.and_true, Bool.and_false, Bool.true_and, Bool.false_and, Bool.false_eq_true, if_true, if_false, true_or, or_true, false_or, or_false, and_false, false_and, and_self, or_self, Int32.add_zero, true_implies, false_implies, implies_true, not_true_eq_false, not_false_eq_true, and_true, true_and, Option.some.injEq, reduceCtorEq, forall_eq', forall_eq] at ih ⊢
      exact ih
end UsedOf
section Thr
variable {E : ZE} {l : Launch} {d nc ns : Nat} {g : Gh} {L : Nat} {X : Nat → Int32} {t : Nat} {μ : ZM} {ρ : RV} {K : Option Value → ZM → Prop} {x1 x2 x3 x4 : Int32}
def thF (ρ : RV) (s : Nat) : Int32 := if ρ 54 s = 0 then 1 else sS (fTh ρ s) (nS ρ)
theorem c_threes {i : Nat} (hS : Stat μ) (hr : RIg g t ρ) (hc : CRg g μ ρ) (hi : i < nS ρ) (k : K (some (.int (thF ρ i))) μ) : AW E l (d + 1) nc ns mX10_threesOf 0 (zargs 4 [.ref 11, .ref (saF μ i)]) [] μ K := by
  obtain ⟨w1, w2, w3, w4, w5, w6, w7, w8, w9, w10, -⟩ := hc.sa hi
  unfold thF at k
  refine t_X10_threesOf hS ?_
  simp (disch := omega) only [w4, w10, true_implies, false_implies, implies_true, not_true_eq_false, not_false_eq_true, and_true, true_and, Option.some.injEq, reduceCtorEq, forall_eq', forall_eq]
  by_cases c : ρ 54 i = 0
  · simp (disch := omega) only [c, if_true, if_false, true_or, or_true, false_or, or_false, and_false, false_and, and_self, or_self, Int32.add_zero, true_implies, false_implies, implies_true, not_true_eq_false, not_false_eq_true, and_true, true_and, Option.some.injEq, reduceCtorEq, forall_eq', forall_eq] at k ⊢
    exact k
  · simp (disch := omega) only [c, if_true, if_false, true_or, or_true, false_or, or_false, and_false, false_and, and_self, or_self, Int32.add_zero, true_implies, false_implies, implies_true, not_true_eq_false, not_false_eq_true, and_true, true_and, Option.some.injEq, reduceCtorEq, forall_eq', forall_eq] at k ⊢
    exact c_threes13 hS hr hc hi c k
theorem r_threes {i : Nat} (hS : Stat μ) (hr : RIg g t ρ) (hρ : rf μ = ρ) (hi : i < nS ρ) (k : K (some (.int (thF ρ i))) μ) : AW E l (d + 1) nc ns mX11_threes 0 (zargs 4 [.ref 31, .int (nI i)]) [] μ K := by
  have R : ∀ a j, 31 ≤ a → a < 88 → zI μ a j = ρ a j := fun a j h1 h2 => rfz hρ h1 h2
  have b300 := hr.s.2.2.1.2
  have w1 : vp_in (nI i) 300 := vp_in_nI (by omega) (by decide)
  have w2 : (nI i).toNatClampNeg = i := nI_clamp (by omega)
  unfold thF at k
  refine t_X11_threes hS ?_
  simp (disch := omega) only [R, w1, w2, true_implies, false_implies, implies_true, not_true_eq_false, not_false_eq_true, and_true, true_and, Option.some.injEq, reduceCtorEq, forall_eq', forall_eq]
  by_cases c : ρ 54 i = 0
  · simp (disch := omega) only [c, if_true, if_false, true_or, or_true, false_or, or_false, and_false, false_and, and_self, or_self, Int32.add_zero, true_implies, false_implies, implies_true, not_true_eq_false, not_false_eq_true, and_true, true_and, Option.some.injEq, reduceCtorEq, forall_eq', forall_eq] at k ⊢
    exact k
  · simp (disch := omega) only [c, if_true, if_false, true_or, or_true, false_or, or_false, and_false, false_and, and_self, or_self, Int32.add_zero, true_implies, false_implies, implies_true, not_true_eq_false, not_false_eq_true, and_true, true_and, Option.some.injEq, reduceCtorEq, forall_eq', forall_eq] at k ⊢
    exact r_threes15 hS hr hρ hi k
end Thr
section PairB
variable {E : ZE} {l : Launch} {d : Nat} {g : Gh} {L : Nat} {X : Nat → Int32} {t : Nat} {μ : ZM} {x1 x2 x3 x4 : Int32}
theorem pr_ofLot (hI : IV g L X t μ) : PRp E l d L X t mX10_ofLot mX11_ofLot [some (.ref 11), some (.int x1), some (.int x2), some (.int x3), none, none, none, none] [some (.ref 31), some (.int x1), some (.int x2), some (.int x3), none, none] μ := by
  obtain ⟨ρ, hρ⟩ : ∃ ρ, rf μ = ρ := ⟨_, rfl⟩
  have hS := hI.st
  have hr := hI.r hρ
  have hc := hI.c hρ
  have R : ∀ a j, 31 ≤ a → a < 88 → zI μ a j = ρ a j := fun a j h1 h2 => rfz hρ h1 h2
  obtain ⟨s1, s2, s3, s4, s5, s6, s7, s8, s9, s10, s11⟩ := hc.s
  obtain ⟨b1, b2, b3, b4, b5, b6, b7, b8⟩ := hr.s
  have hU : IV g L X (t + 1) μ := hI.up (Nat.le_succ t)
  refine PRp.mk fun K hK => ?_
  rcases ix3 x1 (n := nL ρ) (by have := b2.2; omega) with h | ⟨h, h'⟩ | ⟨i, hi, rfl⟩
  · refine t_X10_ofLot hS ?_
    simp (disch := omega) only [h, true_implies, false_implies, implies_true, not_true_eq_false, not_false_eq_true, and_true, true_and, Option.some.injEq, reduceCtorEq, forall_eq', forall_eq]
    refine hK _ _ hS hI.s0 fun Q hQ => t_X11_ofLot hS ?_
    simp (disch := omega) only [h, R, true_implies, false_implies, implies_true, not_true_eq_false, not_false_eq_true, and_true, true_and, Option.some.injEq, reduceCtorEq, forall_eq', forall_eq]
    exact hQ _ _ hU
  · rw [← b2.1] at h'
    refine t_X10_ofLot hS ?_
    simp (disch := omega) only [h, h', s2, true_implies, false_implies, implies_true, not_true_eq_false, not_false_eq_true, and_true, true_and, Option.some.injEq, reduceCtorEq, forall_eq', forall_eq]
    refine hK _ _ hS hI.s0 fun Q hQ => t_X11_ofLot hS ?_
    simp (disch := omega) only [h, h', R, true_implies, false_implies, implies_true, not_true_eq_false, not_false_eq_true, and_true, true_and, Option.some.injEq, reduceCtorEq, forall_eq', forall_eq]
    exact hQ _ _ hU
  · have b60 := b2.2
    have h1 : ¬ nI i < 0 := nI_pos (by omega)
    have h2 := ix_lt (by omega) hi
    have h3 : vp_in (nI i) 60 := vp_in_nI (by omega) (by decide)
    have h4 : (nI i).toNatClampNeg = i := nI_clamp (by omega)
    rw [← b2.1] at h2
    obtain ⟨c1, c2, c3, c4, c5, c6, c7⟩ := hc.l hi
    by_cases y1 : x2 < 0
    · refine t_X10_ofLot hS ?_
      simp (disch := omega) only [h1, h2, h3, h4, y1, s2, c1, true_implies, false_implies, implies_true, not_true_eq_false, not_false_eq_true, and_true, true_and, Option.some.injEq, reduceCtorEq, forall_eq', forall_eq]
      refine hK _ _ hS hI.s0 fun Q hQ => t_X11_ofLot hS ?_
      simp (disch := omega) only [h1, h2, h3, h4, y1, R, true_implies, false_implies, implies_true, not_true_eq_false, not_false_eq_true, and_true, true_and, Option.some.injEq, reduceCtorEq, forall_eq', forall_eq]
      exact hQ _ _ hU
    by_cases y2 : 1 < x2
    · refine t_X10_ofLot hS ?_
      simp (disch := omega) only [h1, h2, h3, h4, y1, y2, s2, c1, true_implies, false_implies, implies_true, not_true_eq_false, not_false_eq_true, and_true, true_and, Option.some.injEq, reduceCtorEq, forall_eq', forall_eq]
      refine hK _ _ hS hI.s0 fun Q hQ => t_X11_ofLot hS ?_
      simp (disch := omega) only [h1, h2, h3, h4, y1, y2, R, true_implies, false_implies, implies_true, not_true_eq_false, not_false_eq_true, and_true, true_and, Option.some.injEq, reduceCtorEq, forall_eq', forall_eq]
      exact hQ _ _ hU
    by_cases y3 : x3 < 0
    · refine t_X10_ofLot hS ?_
      simp (disch := omega) only [h1, h2, h3, h4, y1, y2, y3, s2, c1, true_implies, false_implies, implies_true, not_true_eq_false, not_false_eq_true, and_true, true_and, Option.some.injEq, reduceCtorEq, forall_eq', forall_eq]
      refine hK _ _ hS hI.s0 fun Q hQ => t_X11_ofLot hS ?_
      simp (disch := omega) only [h1, h2, h3, h4, y1, y2, y3, R, true_implies, false_implies, implies_true, not_true_eq_false, not_false_eq_true, and_true, true_and, Option.some.injEq, reduceCtorEq, forall_eq', forall_eq]
      exact hQ _ _ hU
    by_cases y4 : 2999 < x3
    · refine t_X10_ofLot hS ?_
      simp (disch := omega) only [h1, h2, h3, h4, y1, y2, y3, y4, s2, c1, true_implies, false_implies, implies_true, not_true_eq_false, not_false_eq_true, and_true, true_and, Option.some.injEq, reduceCtorEq, forall_eq', forall_eq]
      refine hK _ _ hS hI.s0 fun Q hQ => t_X11_ofLot hS ?_
      simp (disch := omega) only [h1, h2, h3, h4, y1, y2, y3, y4, R, true_implies, false_implies, implies_true, not_true_eq_false, not_false_eq_true, and_true, true_and, Option.some.injEq, reduceCtorEq, forall_eq', forall_eq]
      exact hQ _ _ hU
    refine t_X10_ofLot hS ?_
    simp (disch := omega) only [h1, h2, h3, h4, y1, y2, y3, y4, s2, c1, true_implies, false_implies, implies_true, not_true_eq_false, not_false_eq_true, and_true, true_and, Option.some.injEq, reduceCtorEq, forall_eq', forall_eq]
    refine c_ofLot hS hr hc hi y4 ?_
    refine hK _ _ hS hI.s0 fun Q hQ => t_X11_ofLot hS ?_
    simp (disch := omega) only [h1, h2, y1, y2, y3, y4, R, true_implies, false_implies, implies_true, not_true_eq_false, not_false_eq_true, and_true, true_and, Option.some.injEq, reduceCtorEq, forall_eq', forall_eq]
    exact r_ofLot hS hr hρ (hQ _ _ hU)
theorem pr_join (hI : IV g L X t μ) : PRp E l d L X t mX10_join mX11_join [some (.ref 11), some (.int x1), some (.int x2), some (.int x3), some (.int x4), none, none, none, none, none] [some (.ref 31), some (.int x1), some (.int x2), some (.int x3), some (.int x4), none, none, none] μ := by
  obtain ⟨ρ, hρ⟩ : ∃ ρ, rf μ = ρ := ⟨_, rfl⟩
  have hS := hI.st
  have hr := hI.r hρ
  have hc := hI.c hρ
  have R : ∀ a j, 31 ≤ a → a < 88 → zI μ a j = ρ a j := fun a j h1 h2 => rfz hρ h1 h2
  obtain ⟨s1, s2, s3, s4, s5, s6, s7, s8, s9, s10, s11⟩ := hc.s
  obtain ⟨b1, b2, b3, b4, b5, b6, b7, b8⟩ := hr.s
  have hU : IV g L X (t + 1) μ := hI.up (Nat.le_succ t)
  refine PRp.mk fun K hK => ?_
  rcases ix3 x1 (n := nM ρ) (by have := b1.2; omega) with h | ⟨h, h'⟩ | ⟨i, hi, rfl⟩
  · refine t_X10_join hS ?_
    simp (disch := omega) only [h, true_implies, false_implies, implies_true, not_true_eq_false, not_false_eq_true, and_true, true_and, Option.some.injEq, reduceCtorEq, forall_eq', forall_eq]
    refine hK _ _ hS hI.s0 fun Q hQ => t_X11_join hS ?_
    simp (disch := omega) only [h, R, true_implies, false_implies, implies_true, not_true_eq_false, not_false_eq_true, and_true, true_and, Option.some.injEq, reduceCtorEq, forall_eq', forall_eq]
    exact hQ _ _ hU
  · rw [← b1.1] at h'
    refine t_X10_join hS ?_
    simp (disch := omega) only [h, h', s1, true_implies, false_implies, implies_true, not_true_eq_false, not_false_eq_true, and_true, true_and, Option.some.injEq, reduceCtorEq, forall_eq', forall_eq]
    refine hK _ _ hS hI.s0 fun Q hQ => t_X11_join hS ?_
    simp (disch := omega) only [h, h', R, true_implies, false_implies, implies_true, not_true_eq_false, not_false_eq_true, and_true, true_and, Option.some.injEq, reduceCtorEq, forall_eq', forall_eq]
    exact hQ _ _ hU
  · have b20 := b1.2
    have h1 : ¬ nI i < 0 := nI_pos (by omega)
    have h2 := ix_lt (by omega) hi
    have h3 : vp_in (nI i) 20 := vp_in_nI (by omega) (by decide)
    have h4 : (nI i).toNatClampNeg = i := nI_clamp (by omega)
    rw [← b1.1] at h2
    obtain ⟨m1, m2, m3, m4, m5, m6, m7, m8, m9, m10, m11, m12⟩ := hc.m hi
    obtain ⟨p1, p2, p3, p4, p5, p6, p7, p8, p9⟩ := m4
    obtain ⟨r1, r2, r3, r4, r5, r6⟩ := hr.m hi
    by_cases y1 : x2 < 1
    · refine t_X10_join hS ?_
      simp (disch := omega) only [h1, h2, h3, h4, y1, s1, m1, true_implies, false_implies, implies_true, not_true_eq_false, not_false_eq_true, and_true, true_and, Option.some.injEq, reduceCtorEq, forall_eq', forall_eq]
      refine hK _ _ hS hI.s0 fun Q hQ => t_X11_join hS ?_
      simp (disch := omega) only [h1, h2, h3, h4, y1, R, true_implies, false_implies, implies_true, not_true_eq_false, not_false_eq_true, and_true, true_and, Option.some.injEq, reduceCtorEq, forall_eq', forall_eq]
      exact hQ _ _ hU
    by_cases y2 : 9999 < x2
    · refine t_X10_join hS ?_
      simp (disch := omega) only [h1, h2, h3, h4, y1, y2, s1, m1, true_implies, false_implies, implies_true, not_true_eq_false, not_false_eq_true, and_true, true_and, Option.some.injEq, reduceCtorEq, forall_eq', forall_eq]
      refine hK _ _ hS hI.s0 fun Q hQ => t_X11_join hS ?_
      simp (disch := omega) only [h1, h2, h3, h4, y1, y2, R, true_implies, false_implies, implies_true, not_true_eq_false, not_false_eq_true, and_true, true_and, Option.some.injEq, reduceCtorEq, forall_eq', forall_eq]
      exact hQ _ _ hU
    by_cases y3 : x3 < 0
    · refine t_X10_join hS ?_
      simp (disch := omega) only [h1, h2, h3, h4, y1, y2, y3, s1, m1, true_implies, false_implies, implies_true, not_true_eq_false, not_false_eq_true, and_true, true_and, Option.some.injEq, reduceCtorEq, forall_eq', forall_eq]
      refine hK _ _ hS hI.s0 fun Q hQ => t_X11_join hS ?_
      simp (disch := omega) only [h1, h2, h3, h4, y1, y2, y3, R, true_implies, false_implies, implies_true, not_true_eq_false, not_false_eq_true, and_true, true_and, Option.some.injEq, reduceCtorEq, forall_eq', forall_eq]
      exact hQ _ _ hU
    by_cases y5 : x4 < x3
    · by_cases y4 : 71999 < x3
      · refine t_X10_join hS ?_
        simp (disch := omega) only [h1, h2, h3, h4, y1, y2, y3, y4, y5, s1, m1, true_implies, false_implies, implies_true, not_true_eq_false, not_false_eq_true, and_true, true_and, Option.some.injEq, reduceCtorEq, forall_eq', forall_eq]
        refine hK _ _ hS hI.s0 fun Q hQ => t_X11_join hS ?_
        simp (disch := omega) only [h1, h2, h3, h4, y1, y2, y3, y4, y5, R, true_implies, false_implies, implies_true, not_true_eq_false, not_false_eq_true, and_true, true_and, Option.some.injEq, reduceCtorEq, forall_eq', forall_eq]
        exact hQ _ _ hU
      · refine t_X10_join hS ?_
        simp (disch := omega) only [h1, h2, h3, h4, y1, y2, y3, y4, y5, s1, m1, true_implies, false_implies, implies_true, not_true_eq_false, not_false_eq_true, and_true, true_and, Option.some.injEq, reduceCtorEq, forall_eq', forall_eq]
        refine hK _ _ hS hI.s0 fun Q hQ => t_X11_join hS ?_
        simp (disch := omega) only [h1, h2, h3, h4, y1, y2, y3, y4, y5, R, true_implies, false_implies, implies_true, not_true_eq_false, not_false_eq_true, and_true, true_and, Option.some.injEq, reduceCtorEq, forall_eq', forall_eq]
        exact hQ _ _ hU
    by_cases y6 : 71999 < x4
    · by_cases y4 : 71999 < x3
      · refine t_X10_join hS ?_
        simp (disch := omega) only [h1, h2, h3, h4, y1, y2, y3, y4, y5, y6, s1, m1, true_implies, false_implies, implies_true, not_true_eq_false, not_false_eq_true, and_true, true_and, Option.some.injEq, reduceCtorEq, forall_eq', forall_eq]
        refine hK _ _ hS hI.s0 fun Q hQ => t_X11_join hS ?_
        simp (disch := omega) only [h1, h2, h3, h4, y1, y2, y3, y4, y5, y6, R, true_implies, false_implies, implies_true, not_true_eq_false, not_false_eq_true, and_true, true_and, Option.some.injEq, reduceCtorEq, forall_eq', forall_eq]
        exact hQ _ _ hU
      · refine t_X10_join hS ?_
        simp (disch := omega) only [h1, h2, h3, h4, y1, y2, y3, y4, y5, y6, s1, m1, true_implies, false_implies, implies_true, not_true_eq_false, not_false_eq_true, and_true, true_and, Option.some.injEq, reduceCtorEq, forall_eq', forall_eq]
        refine hK _ _ hS hI.s0 fun Q hQ => t_X11_join hS ?_
        simp (disch := omega) only [h1, h2, h3, h4, y1, y2, y3, y4, y5, y6, R, true_implies, false_implies, implies_true, not_true_eq_false, not_false_eq_true, and_true, true_and, Option.some.injEq, reduceCtorEq, forall_eq', forall_eq]
        exact hQ _ _ hU
    have y4 : ¬ 71999 < x3 := by
      rw [i_lt] at y5 y6 ⊢
      omega
    refine t_X10_join hS ?_
    simp (disch := omega) only [h1, h2, h3, h4, y1, y2, y3, y5, y6, s1, m1, true_implies, false_implies, implies_true, not_true_eq_false, not_false_eq_true, and_true, true_and, Option.some.injEq, reduceCtorEq, forall_eq', forall_eq]
    have fin : ∀ Q : Option Value → ZM → Prop, (¬ sS (fJo ρ (nI i) x2 x3 x4) (nS ρ) = 1 → Q (some (.int (-10 - sS (fJo ρ (nI i) x2 x3 x4) (nS ρ)))) μ) ∧ (sS (fJo ρ (nI i) x2 x3 x4) (nS ρ) = 1 → Q (some (.int (laJ (fJo ρ (nI i) x2 x3 x4) (-1) (nS ρ)))) μ) → AW E l (d + 299) 0 0 mX11_join 0 [some (.ref 31), some (.int (nI i)), some (.int x2), some (.int x3), some (.int x4), none, none, none] [] μ Q := fun Q hQ => by
      refine t_X11_join hS ?_
      simp (disch := omega) only [h1, h2, y1, y2, y3, y4, y5, y6, R, true_implies, false_implies, implies_true, not_true_eq_false, not_false_eq_true, and_true, true_and, Option.some.injEq, reduceCtorEq, forall_eq', forall_eq]
      exact r_join hS hr hρ hQ
    refine c_join hS hr hc hi ⟨fun z => ?_, fun z => ?_⟩
    · exact hK _ _ hS hI.s0 fun Q hQ => fin Q ⟨fun _ => hQ _ _ hU, fun z' => absurd z' z⟩
    · refine hK _ _ hS hI.s0 fun Q hQ => fin Q ⟨fun z' => absurd z z', fun _ => ?_⟩
      rcases laJ_eq (f := fJo ρ (nI i) x2 x3 x4) (a := 0) (b := -1) (nS ρ) with e | e
      · rw [← e]
        exact hQ _ _ hU
      · rw [z] at e
        exact absurd e (by decide)
theorem pr_shift (hI : IV g L X t μ) : PRp E l d L X t mX10_shift mX11_shift [some (.ref 11), some (.int x1), none, none, none, none] [some (.ref 31), some (.int x1), none, none] μ := by
  obtain ⟨ρ, hρ⟩ : ∃ ρ, rf μ = ρ := ⟨_, rfl⟩
  have hS := hI.st
  have hr := hI.r hρ
  have hc := hI.c hρ
  have R : ∀ a j, 31 ≤ a → a < 88 → zI μ a j = ρ a j := fun a j h1 h2 => rfz hρ h1 h2
  obtain ⟨s1, s2, s3, s4, s5, s6, s7, s8, s9, s10, s11⟩ := hc.s
  obtain ⟨b1, b2, b3, b4, b5, b6, b7, b8⟩ := hr.s
  have hU : IV g L X (t + 1) μ := hI.up (Nat.le_succ t)
  refine PRp.mk fun K hK => ?_
  rcases ix3 x1 (n := nM ρ) (by have := b1.2; omega) with h | ⟨h, h'⟩ | ⟨i, hi, rfl⟩
  · refine t_X10_shift hS ?_
    simp (disch := omega) only [h, true_implies, false_implies, implies_true, not_true_eq_false, not_false_eq_true, and_true, true_and, Option.some.injEq, reduceCtorEq, forall_eq', forall_eq]
    refine hK _ _ hS hI.s0 fun Q hQ => t_X11_shift hS ?_
    simp (disch := omega) only [h, R, true_implies, false_implies, implies_true, not_true_eq_false, not_false_eq_true, and_true, true_and, Option.some.injEq, reduceCtorEq, forall_eq', forall_eq]
    exact hQ _ _ hU
  · rw [← b1.1] at h'
    refine t_X10_shift hS ?_
    simp (disch := omega) only [h, h', s1, true_implies, false_implies, implies_true, not_true_eq_false, not_false_eq_true, and_true, true_and, Option.some.injEq, reduceCtorEq, forall_eq', forall_eq]
    refine hK _ _ hS hI.s0 fun Q hQ => t_X11_shift hS ?_
    simp (disch := omega) only [h, h', R, true_implies, false_implies, implies_true, not_true_eq_false, not_false_eq_true, and_true, true_and, Option.some.injEq, reduceCtorEq, forall_eq', forall_eq]
    exact hQ _ _ hU
  · have b20 := b1.2
    have h1 : ¬ nI i < 0 := nI_pos (by omega)
    have h2 := ix_lt (by omega) hi
    have h3 : vp_in (nI i) 20 := vp_in_nI (by omega) (by decide)
    have h4 : (nI i).toNatClampNeg = i := nI_clamp (by omega)
    rw [← b1.1] at h2
    obtain ⟨m1, m2, m3, m4, m5, m6, m7, m8, m9, m10, m11, m12⟩ := hc.m hi
    obtain ⟨p1, p2, p3, p4, p5, p6, p7, p8, p9⟩ := m4
    obtain ⟨r1, r2, r3, r4, r5, r6⟩ := hr.m hi
    refine t_X10_shift hS ?_
    simp (disch := omega) only [h1, h2, h3, h4, s1, m1, true_implies, false_implies, implies_true, not_true_eq_false, not_false_eq_true, and_true, true_and, Option.some.injEq, reduceCtorEq, forall_eq', forall_eq]
    refine c_shift hS hr hc hi ?_
    refine hK _ _ hS hI.s0 fun Q hQ => t_X11_shift hS ?_
    simp (disch := omega) only [h1, h2, R, true_implies, false_implies, implies_true, not_true_eq_false, not_false_eq_true, and_true, true_and, Option.some.injEq, reduceCtorEq, forall_eq', forall_eq]
    exact r_shift hS hr hρ (hQ _ _ hU)
theorem pr_ofSale (hI : IV g L X t μ) : PRp E l d L X t mX10_ofSale mX11_ofSale [some (.ref 11), some (.int x1), some (.int x2), none] [some (.ref 31), some (.int x1), some (.int x2)] μ := by
  obtain ⟨ρ, hρ⟩ : ∃ ρ, rf μ = ρ := ⟨_, rfl⟩
  have hS := hI.st
  have hr := hI.r hρ
  have hc := hI.c hρ
  have R : ∀ a j, 31 ≤ a → a < 88 → zI μ a j = ρ a j := fun a j h1 h2 => rfz hρ h1 h2
  obtain ⟨s1, s2, s3, s4, s5, s6, s7, s8, s9, s10, s11⟩ := hc.s
  obtain ⟨b1, b2, b3, b4, b5, b6, b7, b8⟩ := hr.s
  have hU : IV g L X (t + 1) μ := hI.up (Nat.le_succ t)
  refine PRp.mk fun K hK => ?_
  rcases ix3 x1 (n := nS ρ) (by have := b3.2; omega) with h | ⟨h, h'⟩ | ⟨i, hi, rfl⟩
  · refine t_X10_ofSale hS ?_
    simp (disch := omega) only [h, true_implies, false_implies, implies_true, not_true_eq_false, not_false_eq_true, and_true, true_and, Option.some.injEq, reduceCtorEq, forall_eq', forall_eq]
    refine hK _ _ hS hI.s0 fun Q hQ => t_X11_ofSale hS ?_
    simp (disch := omega) only [h, R, true_implies, false_implies, implies_true, not_true_eq_false, not_false_eq_true, and_true, true_and, Option.some.injEq, reduceCtorEq, forall_eq', forall_eq]
    exact hQ _ _ hU
  · rw [← b3.1] at h'
    refine t_X10_ofSale hS ?_
    simp (disch := omega) only [h, h', s3, true_implies, false_implies, implies_true, not_true_eq_false, not_false_eq_true, and_true, true_and, Option.some.injEq, reduceCtorEq, forall_eq', forall_eq]
    refine hK _ _ hS hI.s0 fun Q hQ => t_X11_ofSale hS ?_
    simp (disch := omega) only [h, h', R, true_implies, false_implies, implies_true, not_true_eq_false, not_false_eq_true, and_true, true_and, Option.some.injEq, reduceCtorEq, forall_eq', forall_eq]
    exact hQ _ _ hU
  · have b300 := b3.2
    have h1 : ¬ nI i < 0 := nI_pos (by omega)
    have h2 := ix_lt (by omega) hi
    have h3 : vp_in (nI i) 300 := vp_in_nI (by omega) (by decide)
    have h4 : (nI i).toNatClampNeg = i := nI_clamp (by omega)
    rw [← b3.1] at h2
    obtain ⟨c1, c2, c3, c4, c5, c6, c7, c8, c9, c10, c11, c12, c13, c14, c15, c16, c17, c18, c19, c20, c21, c22, c23⟩ := hc.sa hi
    obtain ⟨d1, d2, d3, d4, d5, d6, d7, d8, d9, d10, d11, d12, d13, d14, d15, d16, d17, d18, d19⟩ := hr.sa hi
    have kl := hc.l d2
    have lr := hr.l d2
    have km := hc.m lr.2.1
    have vs := v_sl hr hi
    have n1 := kl.2.2.2.2.1
    have n2 : zI μ (maF μ (smo ρ i)) 0 = nI (lm ρ (sl ρ i)) := km.2.2.2.2.1
    have n3 : zK μ (maF μ (smo ρ i)) = 4 := km.2.2.2.1.1
    have n4 := kl.2.2.2.1
    have n5 : ρ 45 (nI (sl ρ i)).toNatClampNeg = nI (lm ρ (sl ρ i)) := by
      rw [nI_clamp (by have := b2.2; omega)]
      exact lr.1
    by_cases z0 : x2 = 0
    · subst z0
      refine t_X10_ofSale hS ?_
      simp +decide (disch := omega) only [h1, h2, h3, h4, s3, c1, c4, c16, true_implies, false_implies, implies_true, not_true_eq_false, not_false_eq_true, and_true, true_and, Option.some.injEq, reduceCtorEq, forall_eq', forall_eq]
      refine hK _ _ hS hI.s0 fun Q hQ => t_X11_ofSale hS ?_
      simp +decide (disch := omega) only [h1, h2, h3, h4, R, true_implies, false_implies, implies_true, not_true_eq_false, not_false_eq_true, and_true, true_and, Option.some.injEq, reduceCtorEq, forall_eq', forall_eq]
      exact hQ _ _ hU
    by_cases z1 : x2 = 1
    · subst z1
      have v1 : vp_in (nI (sl ρ i)) 60 := by rw [← d1]; exact vs
      refine t_X10_ofSale hS ?_
      simp +decide (disch := omega) only [h1, h2, h3, h4, s3, c1, c4, c6, n2, n3, true_implies, false_implies, implies_true, not_true_eq_false, not_false_eq_true, and_true, true_and, Option.some.injEq, reduceCtorEq, forall_eq', forall_eq]
      refine hK _ _ hS hI.s0 fun Q hQ => t_X11_ofSale hS ?_
      simp +decide (disch := omega) only [h1, h2, h3, h4, R, d1, n5, v1, true_implies, false_implies, implies_true, not_true_eq_false, not_false_eq_true, and_true, true_and, Option.some.injEq, reduceCtorEq, forall_eq', forall_eq]
      exact hQ _ _ hU
    by_cases z2 : x2 = 2
    · subst z2
      refine t_X10_ofSale hS ?_
      simp +decide (disch := omega) only [h1, h2, h3, h4, s3, c1, c4, c7, n1, n4, true_implies, false_implies, implies_true, not_true_eq_false, not_false_eq_true, and_true, true_and, Option.some.injEq, reduceCtorEq, forall_eq', forall_eq]
      refine hK _ _ hS hI.s0 fun Q hQ => t_X11_ofSale hS ?_
      simp +decide (disch := omega) only [h1, h2, h3, h4, R, d1, true_implies, false_implies, implies_true, not_true_eq_false, not_false_eq_true, and_true, true_and, Option.some.injEq, reduceCtorEq, forall_eq', forall_eq]
      exact hQ _ _ hU
    by_cases z3 : x2 = 3
    · subst z3
      refine t_X10_ofSale hS ?_
      simp +decide (disch := omega) only [h1, h2, h3, h4, s3, c1, c4, c9, true_implies, false_implies, implies_true, not_true_eq_false, not_false_eq_true, and_true, true_and, Option.some.injEq, reduceCtorEq, forall_eq', forall_eq]
      refine hK _ _ hS hI.s0 fun Q hQ => t_X11_ofSale hS ?_
      simp +decide (disch := omega) only [h1, h2, h3, h4, R, true_implies, false_implies, implies_true, not_true_eq_false, not_false_eq_true, and_true, true_and, Option.some.injEq, reduceCtorEq, forall_eq', forall_eq]
      exact hQ _ _ hU
    by_cases z4 : x2 = 4
    · subst z4
      refine t_X10_ofSale hS ?_
      simp +decide (disch := omega) only [h1, h2, h3, h4, s3, c1, c4, c8, true_implies, false_implies, implies_true, not_true_eq_false, not_false_eq_true, and_true, true_and, Option.some.injEq, reduceCtorEq, forall_eq', forall_eq]
      refine hK _ _ hS hI.s0 fun Q hQ => t_X11_ofSale hS ?_
      simp +decide (disch := omega) only [h1, h2, h3, h4, R, true_implies, false_implies, implies_true, not_true_eq_false, not_false_eq_true, and_true, true_and, Option.some.injEq, reduceCtorEq, forall_eq', forall_eq]
      exact hQ _ _ hU
    by_cases z5 : x2 = 5
    · subst z5
      refine t_X10_ofSale hS ?_
      simp +decide (disch := omega) only [h1, h2, h3, h4, s3, c1, c4, c11, true_implies, false_implies, implies_true, not_true_eq_false, not_false_eq_true, and_true, true_and, Option.some.injEq, reduceCtorEq, forall_eq', forall_eq]
      refine hK _ _ hS hI.s0 fun Q hQ => t_X11_ofSale hS ?_
      simp +decide (disch := omega) only [h1, h2, h3, h4, R, true_implies, false_implies, implies_true, not_true_eq_false, not_false_eq_true, and_true, true_and, Option.some.injEq, reduceCtorEq, forall_eq', forall_eq]
      exact hQ _ _ hU
    by_cases z6 : x2 = 6
    · subst z6
      refine t_X10_ofSale hS ?_
      simp +decide (disch := omega) only [h1, h2, h3, h4, s3, c1, c4, c12, true_implies, false_implies, implies_true, not_true_eq_false, not_false_eq_true, and_true, true_and, Option.some.injEq, reduceCtorEq, forall_eq', forall_eq]
      refine hK _ _ hS hI.s0 fun Q hQ => t_X11_ofSale hS ?_
      simp +decide (disch := omega) only [h1, h2, h3, h4, R, true_implies, false_implies, implies_true, not_true_eq_false, not_false_eq_true, and_true, true_and, Option.some.injEq, reduceCtorEq, forall_eq', forall_eq]
      exact hQ _ _ hU
    by_cases z7 : x2 = 7
    · subst z7
      refine t_X10_ofSale hS ?_
      simp +decide (disch := omega) only [h1, h2, h3, h4, s3, c1, c4, c10, true_implies, false_implies, implies_true, not_true_eq_false, not_false_eq_true, and_true, true_and, Option.some.injEq, reduceCtorEq, forall_eq', forall_eq]
      refine hK _ _ hS hI.s0 fun Q hQ => t_X11_ofSale hS ?_
      simp +decide (disch := omega) only [h1, h2, h3, h4, R, true_implies, false_implies, implies_true, not_true_eq_false, not_false_eq_true, and_true, true_and, Option.some.injEq, reduceCtorEq, forall_eq', forall_eq]
      exact hQ _ _ hU
    by_cases z8 : x2 = 8
    · subst z8
      refine t_X10_ofSale hS ?_
      simp +decide (disch := omega) only [h1, h2, h3, h4, s3, c1, c4, c13, true_implies, false_implies, implies_true, not_true_eq_false, not_false_eq_true, and_true, true_and, Option.some.injEq, reduceCtorEq, forall_eq', forall_eq]
      refine hK _ _ hS hI.s0 fun Q hQ => t_X11_ofSale hS ?_
      simp +decide (disch := omega) only [h1, h2, h3, h4, R, true_implies, false_implies, implies_true, not_true_eq_false, not_false_eq_true, and_true, true_and, Option.some.injEq, reduceCtorEq, forall_eq', forall_eq]
      exact hQ _ _ hU
    by_cases z9 : x2 = 9
    · subst z9
      refine t_X10_ofSale hS ?_
      simp +decide (disch := omega) only [h1, h2, h3, h4, s3, c1, c4, c14, true_implies, false_implies, implies_true, not_true_eq_false, not_false_eq_true, and_true, true_and, Option.some.injEq, reduceCtorEq, forall_eq', forall_eq]
      refine hK _ _ hS hI.s0 fun Q hQ => t_X11_ofSale hS ?_
      simp +decide (disch := omega) only [h1, h2, h3, h4, R, true_implies, false_implies, implies_true, not_true_eq_false, not_false_eq_true, and_true, true_and, Option.some.injEq, reduceCtorEq, forall_eq', forall_eq]
      exact hQ _ _ hU
    by_cases z10 : x2 = 10
    · subst z10
      rcases d9 with z | z
      · refine t_X10_ofSale hS ?_
        simp +decide (disch := omega) only [h1, h2, h3, h4, s3, c1, c4, c15, z, true_implies, false_implies, implies_true, not_true_eq_false, not_false_eq_true, and_true, true_and, Option.some.injEq, reduceCtorEq, forall_eq', forall_eq]
        refine hK _ _ hS hI.s0 fun Q hQ => t_X11_ofSale hS ?_
        simp +decide (disch := omega) only [h1, h2, h3, h4, R, z, true_implies, false_implies, implies_true, not_true_eq_false, not_false_eq_true, and_true, true_and, Option.some.injEq, reduceCtorEq, forall_eq', forall_eq]
        exact hQ _ _ hU
      · refine t_X10_ofSale hS ?_
        simp +decide (disch := omega) only [h1, h2, h3, h4, s3, c1, c4, c15, z, true_implies, false_implies, implies_true, not_true_eq_false, not_false_eq_true, and_true, true_and, Option.some.injEq, reduceCtorEq, forall_eq', forall_eq]
        refine hK _ _ hS hI.s0 fun Q hQ => t_X11_ofSale hS ?_
        simp +decide (disch := omega) only [h1, h2, h3, h4, R, z, true_implies, false_implies, implies_true, not_true_eq_false, not_false_eq_true, and_true, true_and, Option.some.injEq, reduceCtorEq, forall_eq', forall_eq]
        exact hQ _ _ hU
    by_cases z11 : x2 = 11
    · subst z11
      obtain ⟨w1, w2⟩ := dyF_3000 (d12.imp (fun z => z) (fun z => z.1))
      by_cases z : dyF (ρ 58 i) = 3000
      · have w2 := w2 z
        refine t_X10_ofSale hS ?_
        simp +decide (disch := omega) only [h1, h2, h3, h4, s3, c1, c4, c17, z, true_implies, false_implies, implies_true, not_true_eq_false, not_false_eq_true, and_true, true_and, Option.some.injEq, reduceCtorEq, forall_eq', forall_eq]
        refine hK _ _ hS hI.s0 fun Q hQ => t_X11_ofSale hS ?_
        simp +decide (disch := omega) only [h1, h2, h3, h4, R, w2, true_implies, false_implies, implies_true, not_true_eq_false, not_false_eq_true, and_true, true_and, Option.some.injEq, reduceCtorEq, forall_eq', forall_eq]
        exact hQ _ _ hU
      · have w1 := (w1 z).1
        refine t_X10_ofSale hS ?_
        simp +decide (disch := omega) only [h1, h2, h3, h4, s3, c1, c4, c17, z, true_implies, false_implies, implies_true, not_true_eq_false, not_false_eq_true, and_true, true_and, Option.some.injEq, reduceCtorEq, forall_eq', forall_eq]
        refine hK _ _ hS hI.s0 fun Q hQ => t_X11_ofSale hS ?_
        simp +decide (disch := omega) only [h1, h2, h3, h4, R, true_implies, false_implies, implies_true, not_true_eq_false, not_false_eq_true, and_true, true_and, Option.some.injEq, reduceCtorEq, forall_eq', forall_eq]
        rw [w1]
        exact hQ _ _ hU
    by_cases z12 : x2 = 12
    · subst z12
      refine t_X10_ofSale hS ?_
      simp +decide (disch := omega) only [h1, h2, h3, h4, s3, c1, true_implies, false_implies, implies_true, not_true_eq_false, not_false_eq_true, and_true, true_and, Option.some.injEq, reduceCtorEq, forall_eq', forall_eq]
      refine c_threes hS hr hc hi ⟨_, rfl, hS, ?_⟩
      refine hK _ _ hS hI.s0 fun Q hQ => t_X11_ofSale hS ?_
      simp +decide (disch := omega) only [h1, h2, R, true_implies, false_implies, implies_true, not_true_eq_false, not_false_eq_true, and_true, true_and, Option.some.injEq, reduceCtorEq, forall_eq', forall_eq]
      exact r_threes hS hr hρ hi ⟨_, rfl, hS, hQ _ _ hU⟩
    refine t_X10_ofSale hS ?_
    simp (disch := omega) only [h1, h2, h3, h4, z0, z1, z2, z3, z4, z5, z6, z7, z8, z9, z10, z11, z12, s3, c1, not_false_eq_true, and_self, true_implies, false_implies, implies_true, not_true_eq_false, not_false_eq_true, and_true, true_and, Option.some.injEq, reduceCtorEq, forall_eq', forall_eq]
    refine hK _ _ hS hI.s0 fun Q hQ => t_X11_ofSale hS ?_
    simp (disch := omega) only [h1, h2, h3, h4, z0, z1, z2, z3, z4, z5, z6, z7, z8, z9, z10, z11, z12, R, not_false_eq_true, and_self, true_implies, false_implies, implies_true, not_true_eq_false, not_false_eq_true, and_true, true_and, Option.some.injEq, reduceCtorEq, forall_eq', forall_eq]
    exact hQ _ _ hU
theorem pr_stock (hI : IV g L X t μ) : PRp E l d L X t mX10_stock mX11_stock [some (.ref 11), some (.int x1), some (.int x2), none] [some (.ref 31), some (.int x1), some (.int x2), none, none] μ := by
  obtain ⟨ρ, hρ⟩ : ∃ ρ, rf μ = ρ := ⟨_, rfl⟩
  have hS := hI.st
  have hr := hI.r hρ
  have hc := hI.c hρ
  have R : ∀ a j, 31 ≤ a → a < 88 → zI μ a j = ρ a j := fun a j h1 h2 => rfz hρ h1 h2
  obtain ⟨s1, s2, s3, s4, s5, s6, s7, s8, s9, s10, s11⟩ := hc.s
  obtain ⟨b1, b2, b3, b4, b5, b6, b7, b8⟩ := hr.s
  have hU : IV g L X (t + 1) μ := hI.up (Nat.le_succ t)
  refine PRp.mk fun K hK => ?_
  rcases ix3 x1 (n := nM ρ) (by have := b1.2; omega) with h | ⟨h, h'⟩ | ⟨i, hi, rfl⟩
  · refine t_X10_stock hS ?_
    simp (disch := omega) only [h, true_implies, false_implies, implies_true, not_true_eq_false, not_false_eq_true, and_true, true_and, Option.some.injEq, reduceCtorEq, forall_eq', forall_eq]
    refine hK _ _ hS hI.s0 fun Q hQ => t_X11_stock hS ?_
    simp (disch := omega) only [h, R, true_implies, false_implies, implies_true, not_true_eq_false, not_false_eq_true, and_true, true_and, Option.some.injEq, reduceCtorEq, forall_eq', forall_eq]
    exact hQ _ _ hU
  · rw [← b1.1] at h'
    refine t_X10_stock hS ?_
    simp (disch := omega) only [h, h', s1, true_implies, false_implies, implies_true, not_true_eq_false, not_false_eq_true, and_true, true_and, Option.some.injEq, reduceCtorEq, forall_eq', forall_eq]
    refine hK _ _ hS hI.s0 fun Q hQ => t_X11_stock hS ?_
    simp (disch := omega) only [h, h', R, true_implies, false_implies, implies_true, not_true_eq_false, not_false_eq_true, and_true, true_and, Option.some.injEq, reduceCtorEq, forall_eq', forall_eq]
    exact hQ _ _ hU
  · have b20 := b1.2
    have h1 : ¬ nI i < 0 := nI_pos (by omega)
    have h2 := ix_lt (by omega) hi
    have h3 : vp_in (nI i) 20 := vp_in_nI (by omega) (by decide)
    have h4 : (nI i).toNatClampNeg = i := nI_clamp (by omega)
    rw [← b1.1] at h2
    obtain ⟨m1, m2, m3, m4, m5, m6, m7, m8, m9, m10, m11, m12⟩ := hc.m hi
    obtain ⟨p1, p2, p3, p4, p5, p6, p7, p8, p9⟩ := m4
    obtain ⟨r1, r2, r3, r4, r5, r6⟩ := hr.m hi
    have hu := hc.u
    have nu := nU_le hr hc
    have b300 := b3.2
    obtain ⟨u1, us, u2, u3, u4, u5⟩ := hu
    have u6 := (u5 i hi).2.2
    by_cases z0 : x2 = 0
    · subst z0
      refine t_X10_stock hS ?_
      simp +decide (disch := omega) only [h1, h2, h3, h4, s1, m1, p1, true_implies, false_implies, implies_true, not_true_eq_false, not_false_eq_true, and_true, true_and, Option.some.injEq, reduceCtorEq, forall_eq', forall_eq]
      refine c_leftIn hS hr hc hi ⟨_, rfl, hS, ?_⟩
      rw [m9]
      refine hK _ _ hS hI.s0 fun Q hQ => t_X11_stock hS ?_
      simp +decide (disch := omega) only [h1, h2, R, true_implies, false_implies, implies_true, not_true_eq_false, not_false_eq_true, and_true, true_and, Option.some.injEq, reduceCtorEq, forall_eq', forall_eq]
      exact r_newOf hS hr hρ hi ⟨_, rfl, hS, hQ _ _ hU⟩
    by_cases z1 : x2 = 1
    · subst z1
      refine t_X10_stock hS ?_
      simp +decide (disch := omega) only [h1, h2, h3, h4, s1, m1, p1, u6, true_implies, false_implies, implies_true, not_true_eq_false, not_false_eq_true, and_true, true_and, Option.some.injEq, reduceCtorEq, forall_eq', forall_eq]
      refine hK _ _ hS hI.s0 fun Q hQ => t_X11_stock hS ?_
      simp +decide (disch := omega) only [h1, h2, R, true_implies, false_implies, implies_true, not_true_eq_false, not_false_eq_true, and_true, true_and, Option.some.injEq, reduceCtorEq, forall_eq', forall_eq]
      exact r_usedOf hS hρ u1 (by omega) ⟨_, rfl, hS, hQ _ _ hU⟩
    by_cases z2 : x2 = 2
    · subst z2
      refine t_X10_stock hS ?_
      simp +decide (disch := omega) only [h1, h2, h3, h4, s1, m1, true_implies, false_implies, implies_true, not_true_eq_false, not_false_eq_true, and_true, true_and, Option.some.injEq, reduceCtorEq, forall_eq', forall_eq]
      refine t_X10_salesOf hS (c_salesOf6 hS hr hc hi ⟨_, rfl, hS, ?_⟩)
      refine hK _ _ hS hI.s0 fun Q hQ => t_X11_stock hS ?_
      simp +decide (disch := omega) only [h1, h2, R, true_implies, false_implies, implies_true, not_true_eq_false, not_false_eq_true, and_true, true_and, Option.some.injEq, reduceCtorEq, forall_eq', forall_eq]
      exact r_stock71 hS hr hρ (hQ _ _ hU)
    by_cases z3 : x2 = 3
    · subst z3
      refine t_X10_stock hS ?_
      simp +decide (disch := omega) only [h1, h2, h3, h4, s1, m1, p1, m10, true_implies, false_implies, implies_true, not_true_eq_false, not_false_eq_true, and_true, true_and, Option.some.injEq, reduceCtorEq, forall_eq', forall_eq]
      refine hK _ _ hS hI.s0 fun Q hQ => t_X11_stock hS ?_
      simp +decide (disch := omega) only [h1, h2, h3, h4, R, true_implies, false_implies, implies_true, not_true_eq_false, not_false_eq_true, and_true, true_and, Option.some.injEq, reduceCtorEq, forall_eq', forall_eq]
      exact hQ _ _ hU
    by_cases z4 : x2 = 4
    · subst z4
      refine t_X10_stock hS ?_
      simp +decide (disch := omega) only [h1, h2, h3, h4, s1, m1, true_implies, false_implies, implies_true, not_true_eq_false, not_false_eq_true, and_true, true_and, Option.some.injEq, reduceCtorEq, forall_eq', forall_eq]
      refine t_X10_salesOf hS (c_salesOf6 hS hr hc hi ⟨_, rfl, hS, ?_⟩)
      refine hK _ _ hS hI.s0 fun Q hQ => t_X11_stock hS ?_
      simp +decide (disch := omega) only [h1, h2, R, true_implies, false_implies, implies_true, not_true_eq_false, not_false_eq_true, and_true, true_and, Option.some.injEq, reduceCtorEq, forall_eq', forall_eq]
      exact r_stock126 hS hr hρ (hQ _ _ hU)
    by_cases z5 : x2 = 5
    · subst z5
      refine t_X10_stock hS ?_
      simp +decide (disch := omega) only [h1, h2, h3, h4, s1, m1, true_implies, false_implies, implies_true, not_true_eq_false, not_false_eq_true, and_true, true_and, Option.some.injEq, reduceCtorEq, forall_eq', forall_eq]
      refine t_X10_salesOf hS (c_salesOf6 hS hr hc hi ⟨_, rfl, hS, ?_⟩)
      refine hK _ _ hS hI.s0 fun Q hQ => t_X11_stock hS ?_
      simp +decide (disch := omega) only [h1, h2, R, true_implies, false_implies, implies_true, not_true_eq_false, not_false_eq_true, and_true, true_and, Option.some.injEq, reduceCtorEq, forall_eq', forall_eq]
      exact r_stock164 hS hr hρ (hQ _ _ hU)
    by_cases z6 : x2 = 6
    · subst z6
      refine t_X10_stock hS ?_
      simp +decide (disch := omega) only [h1, h2, h3, h4, s1, m1, p1, m11, true_implies, false_implies, implies_true, not_true_eq_false, not_false_eq_true, and_true, true_and, Option.some.injEq, reduceCtorEq, forall_eq', forall_eq]
      refine hK _ _ hS hI.s0 fun Q hQ => t_X11_stock hS ?_
      simp +decide (disch := omega) only [h1, h2, h3, h4, R, true_implies, false_implies, implies_true, not_true_eq_false, not_false_eq_true, and_true, true_and, Option.some.injEq, reduceCtorEq, forall_eq', forall_eq]
      exact hQ _ _ hU
    refine t_X10_stock hS ?_
    simp (disch := omega) only [h1, h2, h3, h4, z0, z1, z2, z3, z4, z5, z6, s1, m1, not_false_eq_true, and_self, true_implies, false_implies, implies_true, not_true_eq_false, not_false_eq_true, and_true, true_and, Option.some.injEq, reduceCtorEq, forall_eq', forall_eq]
    refine hK _ _ hS hI.s0 fun Q hQ => t_X11_stock hS ?_
    simp (disch := omega) only [h1, h2, h3, h4, z0, z1, z2, z3, z4, z5, z6, R, not_false_eq_true, and_self, true_implies, false_implies, implies_true, not_true_eq_false, not_false_eq_true, and_true, true_and, Option.some.injEq, reduceCtorEq, forall_eq', forall_eq]
    exact hQ _ _ hU
theorem pr_count (hI : IV g L X t μ) : PRp E l d L X t mX10_count mX11_count [some (.ref 11), some (.int x1)] [some (.ref 31), some (.int x1), none, none] μ := by
  obtain ⟨ρ, hρ⟩ : ∃ ρ, rf μ = ρ := ⟨_, rfl⟩
  have hS := hI.st
  have hr := hI.r hρ
  have hc := hI.c hρ
  have R : ∀ a j, 31 ≤ a → a < 88 → zI μ a j = ρ a j := fun a j h1 h2 => rfz hρ h1 h2
  obtain ⟨s1, s2, s3, s4, s5, s6, s7, s8, s9, s10, s11⟩ := hc.s
  obtain ⟨b1, b2, b3, b4, b5, b6, b7, b8⟩ := hr.s
  have hU : IV g L X (t + 1) μ := hI.up (Nat.le_succ t)
  refine PRp.mk fun K hK => ?_
  have b200 := b6.2
  by_cases z0 : x1 = 0
  · subst z0
    refine t_X10_count hS ?_
    simp +decide (disch := omega) only [s1, true_implies, false_implies, implies_true, not_true_eq_false, not_false_eq_true, and_true, true_and, Option.some.injEq, reduceCtorEq, forall_eq', forall_eq]
    refine hK _ _ hS hI.s0 fun Q hQ => t_X11_count hS ?_
    simp +decide (disch := omega) only [s1, R, true_implies, false_implies, implies_true, not_true_eq_false, not_false_eq_true, and_true, true_and, Option.some.injEq, reduceCtorEq, forall_eq', forall_eq]
    exact hQ _ _ hU
  by_cases z1 : x1 = 1
  · subst z1
    refine t_X10_count hS ?_
    simp +decide (disch := omega) only [s2, true_implies, false_implies, implies_true, not_true_eq_false, not_false_eq_true, and_true, true_and, Option.some.injEq, reduceCtorEq, forall_eq', forall_eq]
    refine hK _ _ hS hI.s0 fun Q hQ => t_X11_count hS ?_
    simp +decide (disch := omega) only [s2, R, true_implies, false_implies, implies_true, not_true_eq_false, not_false_eq_true, and_true, true_and, Option.some.injEq, reduceCtorEq, forall_eq', forall_eq]
    exact hQ _ _ hU
  by_cases z2 : x1 = 2
  · subst z2
    refine t_X10_count hS ?_
    simp +decide (disch := omega) only [s3, true_implies, false_implies, implies_true, not_true_eq_false, not_false_eq_true, and_true, true_and, Option.some.injEq, reduceCtorEq, forall_eq', forall_eq]
    refine hK _ _ hS hI.s0 fun Q hQ => t_X11_count hS ?_
    simp +decide (disch := omega) only [s3, R, true_implies, false_implies, implies_true, not_true_eq_false, not_false_eq_true, and_true, true_and, Option.some.injEq, reduceCtorEq, forall_eq', forall_eq]
    exact hQ _ _ hU
  by_cases z3 : x1 = 3
  · subst z3
    refine t_X10_count hS ?_
    simp +decide (disch := omega) only [s4, true_implies, false_implies, implies_true, not_true_eq_false, not_false_eq_true, and_true, true_and, Option.some.injEq, reduceCtorEq, forall_eq', forall_eq]
    refine hK _ _ hS hI.s0 fun Q hQ => t_X11_count hS ?_
    simp +decide (disch := omega) only [s4, R, true_implies, false_implies, implies_true, not_true_eq_false, not_false_eq_true, and_true, true_and, Option.some.injEq, reduceCtorEq, forall_eq', forall_eq]
    exact hQ _ _ hU
  by_cases z4 : x1 = 4
  · subst z4
    refine t_X10_count hS ?_
    simp +decide (disch := omega) only [s7, true_implies, false_implies, implies_true, not_true_eq_false, not_false_eq_true, and_true, true_and, Option.some.injEq, reduceCtorEq, forall_eq', forall_eq]
    refine hK _ _ hS hI.s0 fun Q hQ => t_X11_count hS ?_
    simp +decide (disch := omega) only [s7, R, true_implies, false_implies, implies_true, not_true_eq_false, not_false_eq_true, and_true, true_and, Option.some.injEq, reduceCtorEq, forall_eq', forall_eq]
    exact hQ _ _ hU
  by_cases z5 : x1 = 5
  · subst z5
    refine t_X10_count hS ?_
    simp +decide (disch := omega) only [s8, true_implies, false_implies, implies_true, not_true_eq_false, not_false_eq_true, and_true, true_and, Option.some.injEq, reduceCtorEq, forall_eq', forall_eq]
    refine hK _ _ hS hI.s0 fun Q hQ => t_X11_count hS ?_
    simp +decide (disch := omega) only [s8, R, true_implies, false_implies, implies_true, not_true_eq_false, not_false_eq_true, and_true, true_and, Option.some.injEq, reduceCtorEq, forall_eq', forall_eq]
    exact hQ _ _ hU
  by_cases z6 : x1 = 6
  · subst z6
    refine t_X10_count hS ?_
    simp +decide (disch := omega) only [true_implies, false_implies, implies_true, not_true_eq_false, not_false_eq_true, and_true, true_and, Option.some.injEq, reduceCtorEq, forall_eq', forall_eq]
    refine t_X5_onAllNotes hS ?_
    refine lpd (P := fun j => AW E l (d + 298) 0 0 mX5_onAllNotes 4 [some (.ref 17), some (.int (sS (ρ 85) j)), some (.int (nI j))] [] μ (fun v μ8 => ∃ r10 : Int32, v = some (.int r10) ∧ Stat μ8 ∧ K (some (.int r10)) μ8)) (n := nN ρ) ?_ ?_
    · refine t_X5_onAllNotes_4 hS ?_
      have lE : ρ 31 74 ≤ nI (nN ρ) := by rw [← b6.1]; exact Int32.le_refl _
      simp (disch := omega) only [s7, lE, true_implies, false_implies, implies_true, not_true_eq_false, not_false_eq_true, and_true, true_and, Option.some.injEq, reduceCtorEq, forall_eq', forall_eq]
      refine ⟨_, rfl, hS, ?_⟩
      refine hK _ _ hS hI.s0 fun Q hQ => t_X11_count hS ?_
      simp +decide (disch := omega) only [true_implies, false_implies, implies_true, not_true_eq_false, not_false_eq_true, and_true, true_and, Option.some.injEq, reduceCtorEq, forall_eq', forall_eq]
      refine lpd (P := fun j => AW E l (d + 299) 0 0 mX11_count 96 [some (.ref 31), none, some (.int (sS (ρ 85) j)), some (.int (nI j))] [] μ Q) (n := nN ρ) ?_ ?_
      · refine t_X11_count_96 hS ?_
        simp (disch := omega) only [R, lE, true_implies, false_implies, implies_true, not_true_eq_false, not_false_eq_true, and_true, true_and, Option.some.injEq, reduceCtorEq, forall_eq', forall_eq]
        exact hQ _ _ hU
      · intro j hj ih
        have l1 : ¬ ρ 31 74 ≤ nI j := by rw [b6.1]; exact nI_ge hj (by omega)
        have l3 : vp_in (nI j) 200 := vp_in_nI (by omega) (by decide)
        have l4 : (nI j).toNatClampNeg = j := nI_clamp (by omega)
        refine t_X11_count_96 hS ?_
        simp only [sS, ← nI_1] at ih
        simp (disch := omega) only [R, l1, l3, l4, true_implies, false_implies, implies_true, not_true_eq_false, not_false_eq_true, and_true, true_and, Option.some.injEq, reduceCtorEq, forall_eq', forall_eq]
        exact ih
    · intro j hj ih
      have l1 : ¬ ρ 31 74 ≤ nI j := by rw [b6.1]; exact nI_ge hj (by omega)
      have l3 : vp_in (nI j) 200 := vp_in_nI (by omega) (by decide)
      have l4 : (nI j).toNatClampNeg = j := nI_clamp (by omega)
      refine t_X5_onAllNotes_4 hS ?_
      simp only [sS, ← nI_1] at ih
      have u := hc.n.1 j hj
      simp (disch := omega) only [s7, l1, l3, l4, u, true_implies, false_implies, implies_true, not_true_eq_false, not_false_eq_true, and_true, true_and, Option.some.injEq, reduceCtorEq, forall_eq', forall_eq]
      exact ih
  by_cases z7 : x1 = 7
  · subst z7
    refine t_X10_count hS ?_
    simp +decide (disch := omega) only [s6, true_implies, false_implies, implies_true, not_true_eq_false, not_false_eq_true, and_true, true_and, Option.some.injEq, reduceCtorEq, forall_eq', forall_eq]
    refine hK _ _ hS hI.s0 fun Q hQ => t_X11_count hS ?_
    simp +decide (disch := omega) only [s6, R, true_implies, false_implies, implies_true, not_true_eq_false, not_false_eq_true, and_true, true_and, Option.some.injEq, reduceCtorEq, forall_eq', forall_eq]
    exact hQ _ _ hU
  by_cases z8 : x1 = 8
  · subst z8
    refine t_X10_count hS ?_
    simp +decide (disch := omega) only [s5, true_implies, false_implies, implies_true, not_true_eq_false, not_false_eq_true, and_true, true_and, Option.some.injEq, reduceCtorEq, forall_eq', forall_eq]
    refine hK _ _ hS hI.s0 fun Q hQ => t_X11_count hS ?_
    simp +decide (disch := omega) only [s5, R, true_implies, false_implies, implies_true, not_true_eq_false, not_false_eq_true, and_true, true_and, Option.some.injEq, reduceCtorEq, forall_eq', forall_eq]
    exact hQ _ _ hU
  by_cases z9 : x1 = 9
  · subst z9
    refine t_X10_count hS ?_
    simp +decide (disch := omega) only [s11, true_implies, false_implies, implies_true, not_true_eq_false, not_false_eq_true, and_true, true_and, Option.some.injEq, reduceCtorEq, forall_eq', forall_eq]
    refine hK _ _ hS hI.s0 fun Q hQ => t_X11_count hS ?_
    simp +decide (disch := omega) only [s11, R, true_implies, false_implies, implies_true, not_true_eq_false, not_false_eq_true, and_true, true_and, Option.some.injEq, reduceCtorEq, forall_eq', forall_eq]
    exact hQ _ _ hU
  by_cases z10 : x1 = 10
  · subst z10
    refine t_X10_count hS ?_
    simp +decide (disch := omega) only [s9, true_implies, false_implies, implies_true, not_true_eq_false, not_false_eq_true, and_true, true_and, Option.some.injEq, reduceCtorEq, forall_eq', forall_eq]
    refine hK _ _ hS hI.s0 fun Q hQ => t_X11_count hS ?_
    simp +decide (disch := omega) only [s9, R, true_implies, false_implies, implies_true, not_true_eq_false, not_false_eq_true, and_true, true_and, Option.some.injEq, reduceCtorEq, forall_eq', forall_eq]
    exact hQ _ _ hU
  by_cases z11 : x1 = 11
  · subst z11
    refine t_X10_count hS ?_
    simp +decide (disch := omega) only [s10, true_implies, false_implies, implies_true, not_true_eq_false, not_false_eq_true, and_true, true_and, Option.some.injEq, reduceCtorEq, forall_eq', forall_eq]
    refine hK _ _ hS hI.s0 fun Q hQ => t_X11_count hS ?_
    simp +decide (disch := omega) only [s10, R, true_implies, false_implies, implies_true, not_true_eq_false, not_false_eq_true, and_true, true_and, Option.some.injEq, reduceCtorEq, forall_eq', forall_eq]
    exact hQ _ _ hU
  refine t_X10_count hS ?_
  simp (disch := omega) only [z0, z1, z2, z3, z4, z5, z6, z7, z8, z9, z10, z11, not_false_eq_true, and_self, true_implies, false_implies, implies_true, not_true_eq_false, not_false_eq_true, and_true, true_and, Option.some.injEq, reduceCtorEq, forall_eq', forall_eq]
  refine hK _ _ hS hI.s0 fun Q hQ => t_X11_count hS ?_
  simp (disch := omega) only [z0, z1, z2, z3, z4, z5, z6, z7, z8, z9, z10, z11, R, not_false_eq_true, and_self, true_implies, false_implies, implies_true, not_true_eq_false, not_false_eq_true, and_true, true_and, Option.some.injEq, reduceCtorEq, forall_eq', forall_eq]
  exact hQ _ _ hU
end PairB
