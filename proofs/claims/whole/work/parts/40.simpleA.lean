section W0s
variable {μ μ' : ZM} {ρ ρ' : RV} {Ps Pa Pl Pm : Nat → Prop} {b j i : Nat}
theorem W0.s (p : Ps i) (hi : i < nS ρ) : W0 μ ρ Ps Pa Pl Pm (saF μ i) j ∨ zN μ ≤ saF μ i := Or.inl (Or.inr (Or.inr (Or.inr (Or.inl ⟨i, p, hi, rfl⟩))))
theorem W0.a (p : Pa i) (hi : i < nA ρ) : W0 μ ρ Ps Pa Pl Pm (aaF μ i) j ∨ zN μ ≤ aaF μ i := Or.inl (Or.inr (Or.inr (Or.inr (Or.inr (Or.inl ⟨i, p, hi, rfl⟩)))))
theorem W0.l (p : Pl i) (hi : i < nL ρ) : W0 μ ρ Ps Pa Pl Pm (laF μ i) 2 ∨ zN μ ≤ laF μ i := Or.inl (Or.inr (Or.inr (Or.inr (Or.inr (Or.inr (Or.inl ⟨rfl, i, p, hi, rfl⟩))))))
theorem W0.m (p : Pm i) (hi : i < nM ρ) (hj : j ≠ 8) : W0 μ ρ Ps Pa Pl Pm (maF μ i) j ∨ zN μ ≤ maF μ i := Or.inl (Or.inr (Or.inr (Or.inr (Or.inr (Or.inr (Or.inr (Or.inl ⟨i, p, hi, Or.inl ⟨rfl, hj⟩⟩)))))))
theorem W0.m1 (p : Pm i) (hi : i < nM ρ) : W0 μ ρ Ps Pa Pl Pm (maF μ i + 1) j ∨ zN μ ≤ maF μ i + 1 := Or.inl (Or.inr (Or.inr (Or.inr (Or.inr (Or.inr (Or.inr (Or.inl ⟨i, p, hi, Or.inr (Or.inl rfl)⟩)))))))
theorem W0.m2 (p : Pm i) (hi : i < nM ρ) : W0 μ ρ Ps Pa Pl Pm (maF μ i + 2) j ∨ zN μ ≤ maF μ i + 2 := Or.inl (Or.inr (Or.inr (Or.inr (Or.inr (Or.inr (Or.inr (Or.inl ⟨i, p, hi, Or.inr (Or.inr rfl)⟩)))))))
theorem W0.p (h : 1 ≤ j) : W0 μ ρ Ps Pa Pl Pm 17 j ∨ zN μ ≤ 17 := Or.inl (Or.inr (Or.inl ⟨rfl, h⟩))
theorem W0.n : W0 μ ρ Ps Pa Pl Pm 18 j ∨ zN μ ≤ 18 := Or.inl (Or.inr (Or.inr (Or.inl rfl)))
theorem W0.rp (h : j = 2 ∨ (72 ≤ j ∧ j ≤ 74)) : W0 μ ρ Ps Pa Pl Pm 31 j ∨ zN μ ≤ 31 := Or.inl (Or.inr (Or.inr (Or.inr (Or.inr (Or.inr (Or.inr (Or.inr (Or.inl ⟨rfl, h⟩))))))))
theorem W0.rm (h1 : 32 ≤ b) (h2 : b ≤ 41) (h3 : b ≠ 36) (h4 : b ≠ 37) (p : Pm j) : W0 μ ρ Ps Pa Pl Pm b j ∨ zN μ ≤ b := Or.inl (Or.inr (Or.inr (Or.inr (Or.inr (Or.inr (Or.inr (Or.inr (Or.inr (Or.inl ⟨h1, h2, h3, h4, p⟩)))))))))
theorem W0.rq (h1 : 36 ≤ b) (h2 : b ≤ 37) (p : Pm (j / 20)) : W0 μ ρ Ps Pa Pl Pm b j ∨ zN μ ≤ b := Or.inl (Or.inr (Or.inr (Or.inr (Or.inr (Or.inr (Or.inr (Or.inr (Or.inr (Or.inr (Or.inl ⟨h1, h2, p⟩))))))))))
theorem W0.rl (p : Pl j) : W0 μ ρ Ps Pa Pl Pm 47 j ∨ zN μ ≤ 47 := Or.inl (Or.inr (Or.inr (Or.inr (Or.inr (Or.inr (Or.inr (Or.inr (Or.inr (Or.inr (Or.inr (Or.inl ⟨rfl, p⟩)))))))))))
theorem W0.rs (h1 : 48 ≤ b) (h2 : b ≤ 64) (h3 : b ≠ 49) (p : Ps j) : W0 μ ρ Ps Pa Pl Pm b j ∨ zN μ ≤ b := Or.inl (Or.inr (Or.inr (Or.inr (Or.inr (Or.inr (Or.inr (Or.inr (Or.inr (Or.inr (Or.inr (Or.inr (Or.inl ⟨h1, h2, h3, p⟩))))))))))))
theorem W0.ra (h1 : 75 ≤ b) (h2 : b ≤ 84) (h3 : b ≠ 79) (p : Pa j) : W0 μ ρ Ps Pa Pl Pm b j ∨ zN μ ≤ b := Or.inl (Or.inr (Or.inr (Or.inr (Or.inr (Or.inr (Or.inr (Or.inr (Or.inr (Or.inr (Or.inr (Or.inr (Or.inr (Or.inl ⟨h1, h2, h3, p⟩)))))))))))))
theorem W0.rn : W0 μ ρ Ps Pa Pl Pm 85 j ∨ zN μ ≤ 85 := Or.inl (Or.inr (Or.inr (Or.inr (Or.inr (Or.inr (Or.inr (Or.inr (Or.inr (Or.inr (Or.inr (Or.inr (Or.inr (Or.inr rfl)))))))))))))
theorem saF_i {a k : Nat} {x : Int32} : saF (sI μ a k x) i = saF μ i := rfl
theorem maF_i {a k : Nat} {x : Int32} : maF (sI μ a k x) i = maF μ i := rfl
theorem laF_i {a k : Nat} {x : Int32} : laF (sI μ a k x) i = laF μ i := rfl
theorem aaF_i {a k : Nat} {x : Int32} : aaF (sI μ a k x) i = aaF μ i := rfl
theorem taF_i {a k : Nat} {x : Int32} : taF (sI μ a k x) i = taF μ i := rfl
/-- a sale's row alone, in the desk and in the reference -/
theorem IV.sal {g : Gh} {L : Nat} {X : Nat → Int32} {t : Nat} (hI : IV g L X t μ) (h1 : rf μ = ρ) (hi : i < nS ρ) (f b : Nat) (x y : Int32) (hb : 48 ≤ b) (hb' : b ≤ 64) (hb2 : b ≠ 49) (hb3 : b ≠ 61) (ρ' : RV) (h2 : ρ' = fun a j => if a = b ∧ j = i then y else ρ a j)
    (rs : RIsa ρ' i) (cs : CRsa (sI (sI μ (saF μ i) f x) b i y) ρ' i) (hw : ρ 48 i = 1 → ρ' 48 i = 1) (hu : ρ 60 i = 0 → ρ 48 i = 2 → ρ' 60 i = 0 ∧ ρ' 48 i = 2) : IV g L X (t + 1) (sI (sI μ (saF μ i) f x) b i y) := by
  have hS := hI.st
  have hr := hI.r h1
  have hc := hI.c h1
  have k := k_sa hc hi
  have h3 : rf (sI (sI μ (saF μ i) f x) b i y) = ρ' := by
    rw [h2]
    funext a j
    unfold rf
    by_cases q : 31 ≤ a ∧ a < 88
    · rw [if_pos q, zI_sI, zI_ne (show a ≠ saF μ i by omega), rfz h1 q.1 q.2]
    · rw [if_neg q, if_neg (by omega), ← h1]
      unfold rf
      rw [if_neg q]
  have e : ∀ a j, a ≠ b → ρ' a j = ρ a j := fun a j ha => by rw [h2]; exact if_neg (fun z => ha z.1)
  have sc : SC ρ ρ' := fun j _ => e 31 j (by omega)
  refine IV.fr0 (Ps := (· = i)) (Pa := fun _ => False) (Pl := fun _ => False) (Pm := fun _ => False) hI hS.wI.wI ((EqX.rfl.wi (W0.s (Ps := (· = i)) rfl hi)).wi (W0.rs (Ps := (· = i)) hb hb' hb2 rfl)) (fun _ => rfl) h1 h3 (Nat.le_succ t) (hr.s.cg sc) (fun _ _ p => p.elim) (fun _ _ p => p.elim) (fun j _ p => by rw [p]; exact ⟨rs, cs⟩) (fun _ _ p => p.elim) ⟨fun j p => by rw [p]; exact hi, fun _ p => p.elim, fun _ p => p.elim⟩ ?_ ?_ ?_ ?_
  · refine hr.w.cg sc.c.2.2.2.1 (fun j hj => ⟨e _ _ (by omega), by unfold as_; rw [e _ _ (by omega)]⟩) (fun j hj q1 q2 => ?_)
    by_cases c : as_ ρ j = i
    · rw [c] at q2 ⊢
      exact hw q2
    · rw [h2]
      show (if _ then _ else _) = _
      rw [if_neg (fun z => c z.2)]
      exact q2
  · refine hc.s.cg sc (fun j _ => ?_) (fun j _ => ?_) ?_
    all_goals rw [zI_ne (by omega), zI_ne (by omega)]
  · refine hc.n.cg sc.c.2.2.2.2.2.1 sc.c.2.2.2.2.2.2.2 (fun j => ?_) (fun j => ?_) (fun j => e _ _ (by omega)) (fun j => e _ _ (by omega))
    all_goals rw [zI_ne (by omega), zI_ne (by omega)]
  · intro j p a1 a2
    rw [p] at a1 a2 ⊢
    exact ⟨(hu a1 a2).1, (hu a1 a2).2, e _ _ (by omega)⟩
end W0s
/-! numbers -/
theorem nn_of {x : Int32} (h : 0 ≤ x.toInt) : x = nI (tN x) ∧ ((tN x : Nat) : Int) = x.toInt ∧ tN x < 2 ^ 31 := by
  obtain ⟨j, hj, rfl⟩ := nI_of (x := x) (by rw [i_lt]; show ¬ x.toInt < 0; omega)
  unfold tN
  rw [nI_clamp hj, nI_toInt hj]
  exact ⟨rfl, rfl, hj⟩
theorem rng_of {x : Int32} {lo hi : Int} (h : rng x lo hi) (h0 : 0 ≤ lo) : x = nI (tN x) ∧ (tN x : Int) ≤ hi ∧ lo ≤ (tN x : Int) := by
  obtain ⟨h1, h2⟩ := h
  obtain ⟨e1, e2, e3⟩ := nn_of (x := x) (by omega)
  exact ⟨e1, by omega, by omega⟩
theorem bit_of {x : Int32} (h1 : ¬ x < 0) (h2 : ¬ 1 < x) : x = 0 ∨ x = 1 := by
  rw [i_lt] at h1 h2
  rw [i_eq, i_eq]
  have e0 : (0 : Int32).toInt = 0 := by decide
  have e1 : (1 : Int32).toInt = 1 := by decide
  omega
theorem rng_x {x : Int32} (n : Nat) {y : Int32} (hy : y = nI n) (hn : n < 2 ^ 31) (h1 : ¬ x < 0) (h2 : ¬ y < x) : rng x 0 n := by
  subst hy
  rw [i_lt] at h1 h2
  rw [nI_toInt hn] at h2
  have e0 : (0 : Int32).toInt = 0 := by decide
  exact ⟨by omega, by omega⟩
section SimA
variable {E : ZE} {l : Launch} {d : Nat} {g : Gh} {L : Nat} {X : Nat → Int32} {t : Nat} {μ : ZM} {x1 x2 x3 : Int32}
theorem pr_keep (hI : IV g L X t μ) : PRp E l d L X t mX10_keep mX11_keep [some (.ref 11), some (.int x1), none] [some (.ref 31), some (.int x1)] μ := by
  obtain ⟨ρ, hρ⟩ : ∃ ρ, rf μ = ρ := ⟨_, rfl⟩
  have hS := hI.st
  have hr := hI.r hρ
  have hc := hI.c hρ
  have R : ∀ a j, 31 ≤ a → a < 88 → zI μ a j = ρ a j := fun a j h1 h2 => rfz hρ h1 h2
  obtain ⟨s1, s2, s3, s4, s5, s6, s7, s8, s9, s10, s11⟩ := hc.s
  obtain ⟨b1, b2, b3, b4, b5, b6, b7, b8⟩ := hr.s
  have hU : IV g L X (t + 1) μ := hI.up (Nat.le_succ t)
  refine PRp.mk fun K hK => ?_
  rcases ix3 x1 (n := nS ρ) (by have := b3.2; omega) with h | ⟨h, h'⟩ | ⟨i, hi, rfl⟩
  · refine t_X10_keep hS ?_
    simp (disch := omega) only [h, true_implies, false_implies, implies_true, not_true_eq_false, not_false_eq_true, and_true, true_and, Option.some.injEq, reduceCtorEq, forall_eq', forall_eq]
    refine hK _ _ hS hI.s0 fun Q hQ => t_X11_keep hS ?_
    simp (disch := omega) only [h, R, true_implies, false_implies, implies_true, not_true_eq_false, not_false_eq_true, and_true, true_and, Option.some.injEq, reduceCtorEq, forall_eq', forall_eq]
    exact hQ _ _ hU
  · rw [← b3.1] at h'
    refine t_X10_keep hS ?_
    simp (disch := omega) only [h, h', s3, true_implies, false_implies, implies_true, not_true_eq_false, not_false_eq_true, and_true, true_and, Option.some.injEq, reduceCtorEq, forall_eq', forall_eq]
    refine hK _ _ hS hI.s0 fun Q hQ => t_X11_keep hS ?_
    simp (disch := omega) only [h, h', R, true_implies, false_implies, implies_true, not_true_eq_false, not_false_eq_true, and_true, true_and, Option.some.injEq, reduceCtorEq, forall_eq', forall_eq]
    exact hQ _ _ hU
  · have b300 := b3.2
    have h1 : ¬ nI i < 0 := nI_pos (by omega)
    have h2 := ix_lt (by omega) hi
    have h3 : vp_in (nI i) 300 := vp_in_nI (by omega) (by decide)
    have h4 : (nI i).toNatClampNeg = i := nI_clamp (by omega)
    rw [← b3.1] at h2
    obtain ⟨c1, c2, c3, c4, c5, c6, c7, c8, c9, c10, c11, c12, c13, c14, c15, c16, c17, c18, c19, c20, c21, c22, c23⟩ := hc.sa hi
    obtain ⟨d1, d2, d3, d4, d5, d6, d7, d8, d9, d10, d11, d12, d13, d14, d15, d16, d17, d18, d19⟩ := hr.sa hi
    by_cases q : ρ 48 i = 0
    · refine t_X10_keep hS ?_
      simp (disch := omega) only [h1, h2, h3, h4, s3, c1, c4, c16, q, true_implies, false_implies, implies_true, not_true_eq_false, not_false_eq_true, and_true, true_and, Option.some.injEq, reduceCtorEq, forall_eq', forall_eq]
      refine hK _ _ hS.wI (hI.s0.wi (by omega)) fun Q hQ => t_X11_keep hS.wI ?_
      simp (disch := omega) only [h1, h2, h3, h4, zI_ne, R, q, true_implies, false_implies, implies_true, not_true_eq_false, not_false_eq_true, and_true, true_and, Option.some.injEq, reduceCtorEq, forall_eq', forall_eq]
      refine hQ g _ (hI.sal hρ hi 11 48 3 3 (by decide) (by decide) (by decide) (by decide) _ rfl ?_ ?_ ?_ ?_)
      · unfold RIsa sl
        simp only [Nat.reduceEqDiff, false_and, if_false, true_and, and_true, and_self, if_true]
        exact ⟨d1, d2, d3, d4, d5, d6, d7, d8, d9, d10, ⟨by decide, by decide⟩, d12, ⟨fun z => absurd z (by decide), fun z => absurd (d13.mpr z) (by rw [q]; decide)⟩, fun z => absurd (d14 z) (by rw [q]; decide), d15, fun z => absurd z (by decide), d17, d18, d19⟩
      · unfold CRsa smo lm sl
        simp only [Nat.reduceEqDiff, false_and, if_false, true_and, and_true, and_self, if_true]
        simp (disch := omega) only [saF_i, maF_i, laF_i, aaF_i, taF_i, zA_sI, zK_sI, zN_sI, zL_sI, zI_ne, zI_nk, zI_eq, true_implies, false_implies, implies_true, not_true_eq_false, not_false_eq_true, and_true, true_and, Option.some.injEq, reduceCtorEq, forall_eq', forall_eq]
        exact ⟨c1, c2, c3, c4, c5, c6, c7, c8, c9, c10, c11, c12, c13, c14, c15, c17, c18, c19, c20, c21, c22, fun z => absurd z (by decide)⟩
      · rw [q]
        exact fun z => absurd z (by decide)
      · rw [q]
        exact fun _ z => absurd z (by decide)
    · refine t_X10_keep hS ?_
      simp (disch := omega) only [h1, h2, h3, h4, q, s3, c1, c4, c16, true_implies, false_implies, implies_true, not_true_eq_false, not_false_eq_true, and_true, true_and, Option.some.injEq, reduceCtorEq, forall_eq', forall_eq]
      refine hK _ _ hS hI.s0 fun Q hQ => t_X11_keep hS ?_
      simp (disch := omega) only [h1, h2, h3, h4, q, R, true_implies, false_implies, implies_true, not_true_eq_false, not_false_eq_true, and_true, true_and, Option.some.injEq, reduceCtorEq, forall_eq', forall_eq]
      exact hQ _ _ hU
theorem pr_gift (hI : IV g L X t μ) : PRp E l d L X t mX10_gift mX11_gift [some (.ref 11), some (.int x1), some (.int x2), none, none] [some (.ref 31), some (.int x1), some (.int x2), none] μ := by
  obtain ⟨ρ, hρ⟩ : ∃ ρ, rf μ = ρ := ⟨_, rfl⟩
  have hS := hI.st
  have hr := hI.r hρ
  have hc := hI.c hρ
  have R : ∀ a j, 31 ≤ a → a < 88 → zI μ a j = ρ a j := fun a j h1 h2 => rfz hρ h1 h2
  obtain ⟨s1, s2, s3, s4, s5, s6, s7, s8, s9, s10, s11⟩ := hc.s
  obtain ⟨b1, b2, b3, b4, b5, b6, b7, b8⟩ := hr.s
  have hU : IV g L X (t + 1) μ := hI.up (Nat.le_succ t)
  refine PRp.mk fun K hK => ?_
  rcases ix3 x1 (n := nS ρ) (by have := b3.2; omega) with h | ⟨h, h'⟩ | ⟨i, hi, rfl⟩
  · refine t_X10_gift hS ?_
    simp (disch := omega) only [h, true_implies, false_implies, implies_true, not_true_eq_false, not_false_eq_true, and_true, true_and, Option.some.injEq, reduceCtorEq, forall_eq', forall_eq]
    refine hK _ _ hS hI.s0 fun Q hQ => t_X11_gift hS ?_
    simp (disch := omega) only [h, R, true_implies, false_implies, implies_true, not_true_eq_false, not_false_eq_true, and_true, true_and, Option.some.injEq, reduceCtorEq, forall_eq', forall_eq]
    exact hQ _ _ hU
  · rw [← b3.1] at h'
    refine t_X10_gift hS ?_
    simp (disch := omega) only [h, h', s3, true_implies, false_implies, implies_true, not_true_eq_false, not_false_eq_true, and_true, true_and, Option.some.injEq, reduceCtorEq, forall_eq', forall_eq]
    refine hK _ _ hS hI.s0 fun Q hQ => t_X11_gift hS ?_
    simp (disch := omega) only [h, h', R, true_implies, false_implies, implies_true, not_true_eq_false, not_false_eq_true, and_true, true_and, Option.some.injEq, reduceCtorEq, forall_eq', forall_eq]
    exact hQ _ _ hU
  · have b300 := b3.2
    have h1 : ¬ nI i < 0 := nI_pos (by omega)
    have h2 := ix_lt (by omega) hi
    have h3 : vp_in (nI i) 300 := vp_in_nI (by omega) (by decide)
    have h4 : (nI i).toNatClampNeg = i := nI_clamp (by omega)
    rw [← b3.1] at h2
    obtain ⟨c1, c2, c3, c4, c5, c6, c7, c8, c9, c10, c11, c12, c13, c14, c15, c16, c17, c18, c19, c20, c21, c22, c23⟩ := hc.sa hi
    obtain ⟨d1, d2, d3, d4, d5, d6, d7, d8, d9, d10, d11, d12, d13, d14, d15, d16, d17, d18, d19⟩ := hr.sa hi
    by_cases y1 : x2 < 0
    · refine t_X10_gift hS ?_
      simp (disch := omega) only [h1, h2, h3, h4, y1, s3, c1, true_implies, false_implies, implies_true, not_true_eq_false, not_false_eq_true, and_true, true_and, Option.some.injEq, reduceCtorEq, forall_eq', forall_eq]
      refine hK _ _ hS hI.s0 fun Q hQ => t_X11_gift hS ?_
      simp (disch := omega) only [h1, h2, h3, h4, y1, R, true_implies, false_implies, implies_true, not_true_eq_false, not_false_eq_true, and_true, true_and, Option.some.injEq, reduceCtorEq, forall_eq', forall_eq]
      exact hQ _ _ hU
    by_cases y2 : 1 < x2
    · refine t_X10_gift hS ?_
      simp (disch := omega) only [h1, h2, h3, h4, y1, y2, s3, c1, true_implies, false_implies, implies_true, not_true_eq_false, not_false_eq_true, and_true, true_and, Option.some.injEq, reduceCtorEq, forall_eq', forall_eq]
      refine hK _ _ hS hI.s0 fun Q hQ => t_X11_gift hS ?_
      simp (disch := omega) only [h1, h2, h3, h4, y1, y2, R, true_implies, false_implies, implies_true, not_true_eq_false, not_false_eq_true, and_true, true_and, Option.some.injEq, reduceCtorEq, forall_eq', forall_eq]
      exact hQ _ _ hU
    refine t_X10_gift hS ?_
    simp (disch := omega) only [h1, h2, h3, h4, s3, c1, c4, c15, y1, y2, true_implies, false_implies, implies_true, not_true_eq_false, not_false_eq_true, and_true, true_and, Option.some.injEq, reduceCtorEq, forall_eq', forall_eq]
    refine hK _ _ hS.wI (hI.s0.wi (by omega)) fun Q hQ => t_X11_gift hS.wI ?_
    have n01 : ¬ (0 : Int32) = 1 := by decide
    have n10 : ¬ (1 : Int32) = 0 := by decide
    rcases bit_of y1 y2 with y | y <;> rcases d9 with z | z
    · simp (disch := omega) only [h1, h2, h3, h4, zI_ne, R, y1, y2, z, true_implies, false_implies, implies_true, not_true_eq_false, not_false_eq_true, and_true, true_and, Option.some.injEq, reduceCtorEq, forall_eq', forall_eq]
      simp (disch := omega) only [y, n01, n10, true_implies, false_implies, implies_true, not_true_eq_false, not_false_eq_true, and_true, true_and, Option.some.injEq, reduceCtorEq, forall_eq', forall_eq]
      rw [z] at hQ
      refine hQ g _ (hI.sal hρ hi 10 57 0 0 (by decide) (by decide) (by decide) (by decide) _ rfl ?_ ?_ ?_ ?_)
      · unfold RIsa sl
        simp only [Nat.reduceEqDiff, false_and, if_false, true_and, and_true, and_self, if_true]
        exact ⟨d1, d2, d3, d4, d5, d6, d7, d8, Or.inl rfl, d10, d11, d12, d13, d14, d15, d16, d17, d18, d19⟩
      · unfold CRsa smo lm sl
        simp only [Nat.reduceEqDiff, false_and, if_false, true_and, and_true, and_self, if_true]
        simp (disch := omega) only [saF_i, maF_i, laF_i, aaF_i, taF_i, zA_sI, zK_sI, zN_sI, zL_sI, zI_ne, zI_nk, zI_eq, true_implies, false_implies, implies_true, not_true_eq_false, not_false_eq_true, and_true, true_and, Option.some.injEq, reduceCtorEq, forall_eq', forall_eq]
        exact ⟨c1, c2, c3, c4, c5, c6, c7, c8, c9, c10, c11, c12, c13, c14, c16, c17, c18, c19, c20, c21, c22, c23⟩
      · simp only [Nat.reduceEqDiff, false_and, if_false, true_and, and_true, and_self, if_true]
        exact fun z => z
      · simp only [Nat.reduceEqDiff, false_and, if_false, true_and, and_true, and_self, if_true]
        exact fun z z' => ⟨z, z'⟩
    · simp (disch := omega) only [h1, h2, h3, h4, zI_ne, R, y1, y2, z, true_implies, false_implies, implies_true, not_true_eq_false, not_false_eq_true, and_true, true_and, Option.some.injEq, reduceCtorEq, forall_eq', forall_eq]
      simp (disch := omega) only [y, n01, n10, true_implies, false_implies, implies_true, not_true_eq_false, not_false_eq_true, and_true, true_and, Option.some.injEq, reduceCtorEq, forall_eq', forall_eq]
      rw [z] at hQ
      refine hQ g _ (hI.sal hρ hi 10 57 0 0 (by decide) (by decide) (by decide) (by decide) _ rfl ?_ ?_ ?_ ?_)
      · unfold RIsa sl
        simp only [Nat.reduceEqDiff, false_and, if_false, true_and, and_true, and_self, if_true]
        exact ⟨d1, d2, d3, d4, d5, d6, d7, d8, Or.inl rfl, d10, d11, d12, d13, d14, d15, d16, d17, d18, d19⟩
      · unfold CRsa smo lm sl
        simp only [Nat.reduceEqDiff, false_and, if_false, true_and, and_true, and_self, if_true]
        simp (disch := omega) only [saF_i, maF_i, laF_i, aaF_i, taF_i, zA_sI, zK_sI, zN_sI, zL_sI, zI_ne, zI_nk, zI_eq, true_implies, false_implies, implies_true, not_true_eq_false, not_false_eq_true, and_true, true_and, Option.some.injEq, reduceCtorEq, forall_eq', forall_eq]
        exact ⟨c1, c2, c3, c4, c5, c6, c7, c8, c9, c10, c11, c12, c13, c14, c16, c17, c18, c19, c20, c21, c22, c23⟩
      · simp only [Nat.reduceEqDiff, false_and, if_false, true_and, and_true, and_self, if_true]
        exact fun z => z
      · simp only [Nat.reduceEqDiff, false_and, if_false, true_and, and_true, and_self, if_true]
        exact fun z z' => ⟨z, z'⟩
    · simp (disch := omega) only [h1, h2, h3, h4, zI_ne, R, y1, y2, z, true_implies, false_implies, implies_true, not_true_eq_false, not_false_eq_true, and_true, true_and, Option.some.injEq, reduceCtorEq, forall_eq', forall_eq]
      simp (disch := omega) only [y, n01, n10, true_implies, false_implies, implies_true, not_true_eq_false, not_false_eq_true, and_true, true_and, Option.some.injEq, reduceCtorEq, forall_eq', forall_eq]
      rw [z] at hQ
      refine hQ g _ (hI.sal hρ hi 10 57 1 1 (by decide) (by decide) (by decide) (by decide) _ rfl ?_ ?_ ?_ ?_)
      · unfold RIsa sl
        simp only [Nat.reduceEqDiff, false_and, if_false, true_and, and_true, and_self, if_true]
        exact ⟨d1, d2, d3, d4, d5, d6, d7, d8, Or.inr rfl, d10, d11, d12, d13, d14, d15, d16, d17, d18, d19⟩
      · unfold CRsa smo lm sl
        simp only [Nat.reduceEqDiff, false_and, if_false, true_and, and_true, and_self, if_true]
        simp (disch := omega) only [saF_i, maF_i, laF_i, aaF_i, taF_i, zA_sI, zK_sI, zN_sI, zL_sI, zI_ne, zI_nk, zI_eq, true_implies, false_implies, implies_true, not_true_eq_false, not_false_eq_true, and_true, true_and, Option.some.injEq, reduceCtorEq, forall_eq', forall_eq]
        exact ⟨c1, c2, c3, c4, c5, c6, c7, c8, c9, c10, c11, c12, c13, c14, c16, c17, c18, c19, c20, c21, c22, c23⟩
      · simp only [Nat.reduceEqDiff, false_and, if_false, true_and, and_true, and_self, if_true]
        exact fun z => z
      · simp only [Nat.reduceEqDiff, false_and, if_false, true_and, and_true, and_self, if_true]
        exact fun z z' => ⟨z, z'⟩
    · simp (disch := omega) only [h1, h2, h3, h4, zI_ne, R, y1, y2, z, true_implies, false_implies, implies_true, not_true_eq_false, not_false_eq_true, and_true, true_and, Option.some.injEq, reduceCtorEq, forall_eq', forall_eq]
      simp (disch := omega) only [y, n01, n10, true_implies, false_implies, implies_true, not_true_eq_false, not_false_eq_true, and_true, true_and, Option.some.injEq, reduceCtorEq, forall_eq', forall_eq]
      rw [z] at hQ
      refine hQ g _ (hI.sal hρ hi 10 57 1 1 (by decide) (by decide) (by decide) (by decide) _ rfl ?_ ?_ ?_ ?_)
      · unfold RIsa sl
        simp only [Nat.reduceEqDiff, false_and, if_false, true_and, and_true, and_self, if_true]
        exact ⟨d1, d2, d3, d4, d5, d6, d7, d8, Or.inr rfl, d10, d11, d12, d13, d14, d15, d16, d17, d18, d19⟩
      · unfold CRsa smo lm sl
        simp only [Nat.reduceEqDiff, false_and, if_false, true_and, and_true, and_self, if_true]
        simp (disch := omega) only [saF_i, maF_i, laF_i, aaF_i, taF_i, zA_sI, zK_sI, zN_sI, zL_sI, zI_ne, zI_nk, zI_eq, true_implies, false_implies, implies_true, not_true_eq_false, not_false_eq_true, and_true, true_and, Option.some.injEq, reduceCtorEq, forall_eq', forall_eq]
        exact ⟨c1, c2, c3, c4, c5, c6, c7, c8, c9, c10, c11, c12, c13, c14, c16, c17, c18, c19, c20, c21, c22, c23⟩
      · simp only [Nat.reduceEqDiff, false_and, if_false, true_and, and_true, and_self, if_true]
        exact fun z => z
      · simp only [Nat.reduceEqDiff, false_and, if_false, true_and, and_true, and_self, if_true]
        exact fun z z' => ⟨z, z'⟩
theorem pr_size (hI : IV g L X t μ) : PRp E l d L X t mX10_size mX11_size [some (.ref 11), some (.int x1), some (.int x2), none, none] [some (.ref 31), some (.int x1), some (.int x2), none] μ := by
  obtain ⟨ρ, hρ⟩ : ∃ ρ, rf μ = ρ := ⟨_, rfl⟩
  have hS := hI.st
  have hr := hI.r hρ
  have hc := hI.c hρ
  have R : ∀ a j, 31 ≤ a → a < 88 → zI μ a j = ρ a j := fun a j h1 h2 => rfz hρ h1 h2
  obtain ⟨s1, s2, s3, s4, s5, s6, s7, s8, s9, s10, s11⟩ := hc.s
  obtain ⟨b1, b2, b3, b4, b5, b6, b7, b8⟩ := hr.s
  have hU : IV g L X (t + 1) μ := hI.up (Nat.le_succ t)
  refine PRp.mk fun K hK => ?_
  rcases ix3 x1 (n := nS ρ) (by have := b3.2; omega) with h | ⟨h, h'⟩ | ⟨i, hi, rfl⟩
  · refine t_X10_size hS ?_
    simp (disch := omega) only [h, true_implies, false_implies, implies_true, not_true_eq_false, not_false_eq_true, and_true, true_and, Option.some.injEq, reduceCtorEq, forall_eq', forall_eq]
    refine hK _ _ hS hI.s0 fun Q hQ => t_X11_size hS ?_
    simp (disch := omega) only [h, R, true_implies, false_implies, implies_true, not_true_eq_false, not_false_eq_true, and_true, true_and, Option.some.injEq, reduceCtorEq, forall_eq', forall_eq]
    exact hQ _ _ hU
  · rw [← b3.1] at h'
    refine t_X10_size hS ?_
    simp (disch := omega) only [h, h', s3, true_implies, false_implies, implies_true, not_true_eq_false, not_false_eq_true, and_true, true_and, Option.some.injEq, reduceCtorEq, forall_eq', forall_eq]
    refine hK _ _ hS hI.s0 fun Q hQ => t_X11_size hS ?_
    simp (disch := omega) only [h, h', R, true_implies, false_implies, implies_true, not_true_eq_false, not_false_eq_true, and_true, true_and, Option.some.injEq, reduceCtorEq, forall_eq', forall_eq]
    exact hQ _ _ hU
  · have b300 := b3.2
    have h1 : ¬ nI i < 0 := nI_pos (by omega)
    have h2 := ix_lt (by omega) hi
    have h3 : vp_in (nI i) 300 := vp_in_nI (by omega) (by decide)
    have h4 : (nI i).toNatClampNeg = i := nI_clamp (by omega)
    rw [← b3.1] at h2
    obtain ⟨c1, c2, c3, c4, c5, c6, c7, c8, c9, c10, c11, c12, c13, c14, c15, c16, c17, c18, c19, c20, c21, c22, c23⟩ := hc.sa hi
    obtain ⟨d1, d2, d3, d4, d5, d6, d7, d8, d9, d10, d11, d12, d13, d14, d15, d16, d17, d18, d19⟩ := hr.sa hi
    by_cases y1 : x2 < 0
    · refine t_X10_size hS ?_
      simp (disch := omega) only [h1, h2, h3, h4, y1, s3, c1, true_implies, false_implies, implies_true, not_true_eq_false, not_false_eq_true, and_true, true_and, Option.some.injEq, reduceCtorEq, forall_eq', forall_eq]
      refine hK _ _ hS hI.s0 fun Q hQ => t_X11_size hS ?_
      simp (disch := omega) only [h1, h2, h3, h4, y1, R, true_implies, false_implies, implies_true, not_true_eq_false, not_false_eq_true, and_true, true_and, Option.some.injEq, reduceCtorEq, forall_eq', forall_eq]
      exact hQ _ _ hU
    by_cases y2 : 2 < x2
    · refine t_X10_size hS ?_
      simp (disch := omega) only [h1, h2, h3, h4, y1, y2, s3, c1, true_implies, false_implies, implies_true, not_true_eq_false, not_false_eq_true, and_true, true_and, Option.some.injEq, reduceCtorEq, forall_eq', forall_eq]
      refine hK _ _ hS hI.s0 fun Q hQ => t_X11_size hS ?_
      simp (disch := omega) only [h1, h2, h3, h4, y1, y2, R, true_implies, false_implies, implies_true, not_true_eq_false, not_false_eq_true, and_true, true_and, Option.some.injEq, reduceCtorEq, forall_eq', forall_eq]
      exact hQ _ _ hU
    by_cases q : ρ 48 i = 2
    · refine t_X10_size hS ?_
      simp (disch := omega) only [h1, h2, h3, h4, s3, c1, c4, c16, c19, q, y1, y2, true_implies, false_implies, implies_true, not_true_eq_false, not_false_eq_true, and_true, true_and, Option.some.injEq, reduceCtorEq, forall_eq', forall_eq]
      refine hK _ _ hS.wI (hI.s0.wi (by omega)) fun Q hQ => t_X11_size hS.wI ?_
      simp (disch := omega) only [h1, h2, h3, h4, zI_ne, R, y1, y2, q, true_implies, false_implies, implies_true, not_true_eq_false, not_false_eq_true, and_true, true_and, Option.some.injEq, reduceCtorEq, forall_eq', forall_eq]
      refine hQ g _ (hI.sal hρ hi 14 62 x2 x2 (by decide) (by decide) (by decide) (by decide) _ rfl ?_ ?_ ?_ ?_)
      · unfold RIsa sl
        simp only [Nat.reduceEqDiff, false_and, if_false, true_and, and_true, and_self, if_true]
        exact ⟨d1, d2, d3, d4, d5, d6, d7, d8, d9, d10, d11, d12, d13, d14, d15, d16, rng_x 2 rfl (by decide) y1 y2, d18, d19⟩
      · unfold CRsa smo lm sl
        simp only [Nat.reduceEqDiff, false_and, if_false, true_and, and_true, and_self, if_true]
        simp (disch := omega) only [saF_i, maF_i, laF_i, aaF_i, taF_i, zA_sI, zK_sI, zN_sI, zL_sI, zI_ne, zI_nk, zI_eq, true_implies, false_implies, implies_true, not_true_eq_false, not_false_eq_true, and_true, true_and, Option.some.injEq, reduceCtorEq, forall_eq', forall_eq]
        exact ⟨c1, c2, c3, c4, c5, c6, c7, c8, c9, c10, c11, c12, c13, c14, c15, c16, c17, c18, c20, c21, c22, c23⟩
      · simp only [Nat.reduceEqDiff, false_and, if_false, true_and, and_true, and_self, if_true]
        exact fun z => z
      · simp only [Nat.reduceEqDiff, false_and, if_false, true_and, and_true, and_self, if_true]
        exact fun z z' => ⟨z, z'⟩
    · refine t_X10_size hS ?_
      simp (disch := omega) only [h1, h2, h3, h4, y1, y2, q, s3, c1, c4, c16, true_implies, false_implies, implies_true, not_true_eq_false, not_false_eq_true, and_true, true_and, Option.some.injEq, reduceCtorEq, forall_eq', forall_eq]
      refine hK _ _ hS hI.s0 fun Q hQ => t_X11_size hS ?_
      simp (disch := omega) only [h1, h2, h3, h4, y1, y2, q, R, true_implies, false_implies, implies_true, not_true_eq_false, not_false_eq_true, and_true, true_and, Option.some.injEq, reduceCtorEq, forall_eq', forall_eq]
      exact hQ _ _ hU
theorem pr_brought (hI : IV g L X t μ) : PRp E l d L X t mX10_brought mX11_brought [some (.ref 11), some (.int x1), some (.int x2), none] [some (.ref 31), some (.int x1), some (.int x2)] μ := by
  obtain ⟨ρ, hρ⟩ : ∃ ρ, rf μ = ρ := ⟨_, rfl⟩
  have hS := hI.st
  have hr := hI.r hρ
  have hc := hI.c hρ
  have R : ∀ a j, 31 ≤ a → a < 88 → zI μ a j = ρ a j := fun a j h1 h2 => rfz hρ h1 h2
  obtain ⟨s1, s2, s3, s4, s5, s6, s7, s8, s9, s10, s11⟩ := hc.s
  obtain ⟨b1, b2, b3, b4, b5, b6, b7, b8⟩ := hr.s
  have hU : IV g L X (t + 1) μ := hI.up (Nat.le_succ t)
  refine PRp.mk fun K hK => ?_
  rcases ix3 x1 (n := nS ρ) (by have := b3.2; omega) with h | ⟨h, h'⟩ | ⟨i, hi, rfl⟩
  · refine t_X10_brought hS ?_
    simp (disch := omega) only [h, true_implies, false_implies, implies_true, not_true_eq_false, not_false_eq_true, and_true, true_and, Option.some.injEq, reduceCtorEq, forall_eq', forall_eq]
    refine hK _ _ hS hI.s0 fun Q hQ => t_X11_brought hS ?_
    simp (disch := omega) only [h, R, true_implies, false_implies, implies_true, not_true_eq_false, not_false_eq_true, and_true, true_and, Option.some.injEq, reduceCtorEq, forall_eq', forall_eq]
    exact hQ _ _ hU
  · rw [← b3.1] at h'
    refine t_X10_brought hS ?_
    simp (disch := omega) only [h, h', s3, true_implies, false_implies, implies_true, not_true_eq_false, not_false_eq_true, and_true, true_and, Option.some.injEq, reduceCtorEq, forall_eq', forall_eq]
    refine hK _ _ hS hI.s0 fun Q hQ => t_X11_brought hS ?_
    simp (disch := omega) only [h, h', R, true_implies, false_implies, implies_true, not_true_eq_false, not_false_eq_true, and_true, true_and, Option.some.injEq, reduceCtorEq, forall_eq', forall_eq]
    exact hQ _ _ hU
  · have b300 := b3.2
    have h1 : ¬ nI i < 0 := nI_pos (by omega)
    have h2 := ix_lt (by omega) hi
    have h3 : vp_in (nI i) 300 := vp_in_nI (by omega) (by decide)
    have h4 : (nI i).toNatClampNeg = i := nI_clamp (by omega)
    rw [← b3.1] at h2
    obtain ⟨c1, c2, c3, c4, c5, c6, c7, c8, c9, c10, c11, c12, c13, c14, c15, c16, c17, c18, c19, c20, c21, c22, c23⟩ := hc.sa hi
    obtain ⟨d1, d2, d3, d4, d5, d6, d7, d8, d9, d10, d11, d12, d13, d14, d15, d16, d17, d18, d19⟩ := hr.sa hi
    by_cases y1 : x2 < 0
    · refine t_X10_brought hS ?_
      simp (disch := omega) only [h1, h2, h3, h4, y1, s3, c1, true_implies, false_implies, implies_true, not_true_eq_false, not_false_eq_true, and_true, true_and, Option.some.injEq, reduceCtorEq, forall_eq', forall_eq]
      refine hK _ _ hS hI.s0 fun Q hQ => t_X11_brought hS ?_
      simp (disch := omega) only [h1, h2, h3, h4, y1, R, true_implies, false_implies, implies_true, not_true_eq_false, not_false_eq_true, and_true, true_and, Option.some.injEq, reduceCtorEq, forall_eq', forall_eq]
      exact hQ _ _ hU
    by_cases y2 : 4 < x2
    · refine t_X10_brought hS ?_
      simp (disch := omega) only [h1, h2, h3, h4, y1, y2, s3, c1, true_implies, false_implies, implies_true, not_true_eq_false, not_false_eq_true, and_true, true_and, Option.some.injEq, reduceCtorEq, forall_eq', forall_eq]
      refine hK _ _ hS hI.s0 fun Q hQ => t_X11_brought hS ?_
      simp (disch := omega) only [h1, h2, h3, h4, y1, y2, R, true_implies, false_implies, implies_true, not_true_eq_false, not_false_eq_true, and_true, true_and, Option.some.injEq, reduceCtorEq, forall_eq', forall_eq]
      exact hQ _ _ hU
    by_cases q : ρ 63 i < 0
    · refine t_X10_brought hS ?_
      simp (disch := omega) only [h1, h2, h3, h4, s3, c1, c4, c20, q, y1, y2, true_implies, false_implies, implies_true, not_true_eq_false, not_false_eq_true, and_true, true_and, Option.some.injEq, reduceCtorEq, forall_eq', forall_eq]
      refine hK _ _ hS.wI (hI.s0.wi (by omega)) fun Q hQ => t_X11_brought hS.wI ?_
      simp (disch := omega) only [h1, h2, h3, h4, zI_ne, R, y1, y2, q, true_implies, false_implies, implies_true, not_true_eq_false, not_false_eq_true, and_true, true_and, Option.some.injEq, reduceCtorEq, forall_eq', forall_eq]
      have rg := rng_x 4 rfl (by decide) y1 y2
      refine hQ g _ (hI.sal hρ hi 15 63 x2 x2 (by decide) (by decide) (by decide) (by decide) _ rfl ?_ ?_ ?_ ?_)
      · unfold RIsa sl
        simp only [Nat.reduceEqDiff, false_and, if_false, true_and, and_true, and_self, if_true]
        exact ⟨d1, d2, d3, d4, d5, d6, d7, d8, d9, d10, d11, d12, d13, d14, d15, d16, d17, ⟨Int.le_trans (by decide) rg.1, rg.2⟩, d19⟩
      · unfold CRsa smo lm sl
        simp only [Nat.reduceEqDiff, false_and, if_false, true_and, and_true, and_self, if_true]
        simp (disch := omega) only [saF_i, maF_i, laF_i, aaF_i, taF_i, zA_sI, zK_sI, zN_sI, zL_sI, zI_ne, zI_nk, zI_eq, true_implies, false_implies, implies_true, not_true_eq_false, not_false_eq_true, and_true, true_and, Option.some.injEq, reduceCtorEq, forall_eq', forall_eq]
        exact ⟨c1, c2, c3, c4, c5, c6, c7, c8, c9, c10, c11, c12, c13, c14, c15, c16, c17, c18, c19, c21, c22, c23⟩
      · simp only [Nat.reduceEqDiff, false_and, if_false, true_and, and_true, and_self, if_true]
        exact fun z => z
      · simp only [Nat.reduceEqDiff, false_and, if_false, true_and, and_true, and_self, if_true]
        exact fun z z' => ⟨z, z'⟩
    · refine t_X10_brought hS ?_
      simp (disch := omega) only [h1, h2, h3, h4, y1, y2, q, s3, c1, c4, c20, true_implies, false_implies, implies_true, not_true_eq_false, not_false_eq_true, and_true, true_and, Option.some.injEq, reduceCtorEq, forall_eq', forall_eq]
      refine hK _ _ hS hI.s0 fun Q hQ => t_X11_brought hS ?_
      simp (disch := omega) only [h1, h2, h3, h4, y1, y2, q, R, true_implies, false_implies, implies_true, not_true_eq_false, not_false_eq_true, and_true, true_and, Option.some.injEq, reduceCtorEq, forall_eq', forall_eq]
      exact hQ _ _ hU
end SimA
