/-! since -/
def nEv (ρ : RV) (i s v : Nat) (n : Nat) : Prop := s ≤ v ∧ v ≤ 3000 ∧ ∀ j, j < n → smo ρ j = lm ρ i → ¬ (s ≤ dyN ρ j ∧ dyN ρ j < v) ∧ ¬ (s ≤ bdN ρ j ∧ bdN ρ j < v)
def snR (ρ : RV) (i p T : Nat) (r : Int32) : Prop := (r = -2 ∧ ∀ d, d ≤ T → beV ρ i p d = 0) ∨ ∃ d, d ≤ T ∧ (∀ e, e < d → beV ρ i p e = 0) ∧ ((beV ρ i p d = -4 ∧ r = -4) ∨ (beV ρ i p d = 1 ∧ r = nI d))
section Since
variable {E : ZE} {l : Launch} {d nc ns : Nat} {g : Gh} {L : Nat} {X : Nat → Int32} {t : Nat} {μ : ZM} {ρ : RV} {K : Option Value → ZM → Prop} {x1 x2 x3 x4 : Int32} {i j k p s T : Nat}
theorem c_next (hS : Stat μ) (hr : RIg g t ρ) (hc : CRg g μ ρ) (hi : i < nL ρ) (hs : s ≤ 3000) (h : ∀ v, nEv ρ i s v (nS ρ) → K (some (.int (nI v))) μ) : AW E l (d + 1) nc ns mX10_nextChange 0 (zargs 6 [.ref 11, .ref (maF μ (lm ρ i)), .int (nI s - 1)]) [] μ K := by
  obtain ⟨s1, s2, s3, s4, s5, s6, s7, s8, s9, s10, s11⟩ := hc.s
  obtain ⟨b1, b2, b3, b4, b5, b6, b7, b8⟩ := hr.s
  have b300 := b3.2
  have lE : ρ 31 22 ≤ nI (nS ρ) := by rw [← b3.1]; exact Int32.le_refl _
  have hrl := hr.l hi
  have km : 11 ≤ maF μ (lm ρ i) := by have := k_ma hc hrl.2.1; omega
  refine t_X10_nextChange hS ?_
  refine lpd (P := fun j => ∀ v, nEv ρ i s v j → AW E l (d + 1) nc ns mX10_nextChange 7 [some (.ref 11), some (.ref (maF μ (lm ρ i))), some (.int (nI s - 1)), some (.int (nI v)), some (.int (nI j)), none] [] μ K) (n := nS ρ) ?_ ?_ 3000 ⟨hs, Nat.le_refl _, fun j hj => by omega⟩
  · intro v hv
    exact t_X10_nextChange_7 hS (c_t (by rw [s3]; exact lE) (h v hv))
  · intro j hj ih v hv
    obtain ⟨v1, v2, v3⟩ := hv
    have l1 : ¬ ρ 31 22 ≤ nI j := by rw [b3.1]; exact nI_ge hj (by omega)
    have l3 : vp_in (nI j) 300 := vp_in_nI (by omega) (by decide)
    have l4 : (nI j).toNatClampNeg = j := nI_clamp (by omega)
    obtain ⟨d1, d2, d3, d4, d5, d6, d7, d8, d9, d10, d11, d12, d13, d14, d15, d16, d17, d18, d19⟩ := hr.sa hj
    obtain ⟨c1, c2, c3, c4, c5, c6, c7, c8, c9, c10, c11, c12, c13, c14, c15, c16, c17, c18, c19, c20, c21, c22, c23⟩ := hc.sa hj
    have ka := k_ma11 hr hc hj
    obtain ⟨u1, u2⟩ := dy_eq hr hj
    obtain ⟨w1, w2, -⟩ := bd_eq (k := 0) hr hj
    have eM : (maF μ (smo ρ j) = maF μ (lm ρ i)) = (smo ρ j = lm ρ i) := propext (ma_eq hr hc (hr.l (hr.sa hj).2.1).2.1 hrl.2.1)
    have le : ∀ a, a ≤ 3000 → (nI a ≤ nI s - 1) = (a < s) := fun a ha => by
      apply propext
      rw [i_le, show (1 : Int32) = nI 1 from rfl, pk_sub_toInt (by omega) (by decide), nI_toInt (by omega)]
      omega
    have le1 := le (dyN ρ j) (by omega)
    have le2 := le (bdN ρ j) w2
    have mn : ∀ a b, a ≤ 3000 → b ≤ 3000 → (if nI a < nI b then nI a else nI b) = nI (if a < b then a else b) := fun a b ha hb => by
      have e := nI_ltI (a := a) (b := b) (by omega) (by omega)
      by_cases c : a < b
      · rw [if_pos c, if_pos (e.mpr c)]
      · rw [if_neg c, if_neg (fun z => c (e.mp z))]
    rw [← nI_1] at ih
    refine t_X10_nextChange_7 hS ?_
    simp (disch := omega) only [s3, l1, l3, l4, c1, c4, c6, c13, c18, ka, km, eM, u1, w1, le1, le2, true_implies, false_implies, implies_true, not_true_eq_false, not_false_eq_true, and_true, true_and, Option.some.injEq, reduceCtorEq, forall_eq', forall_eq]
    have ext : ∀ v', v' ≤ v → s ≤ v' → (smo ρ j = lm ρ i → ¬ (s ≤ dyN ρ j ∧ dyN ρ j < v') ∧ ¬ (s ≤ bdN ρ j ∧ bdN ρ j < v')) → nEv ρ i s v' (j + 1) := fun v' a1 a2 a3 => ⟨a2, by omega, fun q hq hm => by
      by_cases c : q = j
      · rw [c]
        rw [c] at hm
        exact a3 hm
      · have := v3 q (by omega) hm
        omega⟩
    refine ⟨fun z => ih v (ext v (Nat.le_refl _) v1 (fun y => absurd y z)), fun z => ⟨fun y1 => ⟨fun y2 => ?_, fun y2 => ?_⟩, fun y1 => ⟨fun y2 => ?_, fun y2 => ?_⟩⟩⟩
    · exact ih v (ext v (Nat.le_refl _) v1 (fun _ => by omega))
    · rw [mn _ _ w2 v2]
      refine ih _ (ext _ (by split <;> omega) (by split <;> omega) (fun _ => ?_))
      split <;> omega
    · rw [mn _ _ (by omega) v2]
      refine ih _ (ext _ (by split <;> omega) (by split <;> omega) (fun _ => ?_))
      split <;> omega
    · rw [mn _ _ (by omega) v2, mn _ _ w2 (by split <;> omega)]
      refine ih _ (ext _ (by split <;> split <;> omega) (by split <;> split <;> omega) (fun _ => ?_))
      split <;> split <;> omega
theorem c_since37 (hS : Stat μ) (hr : RIg g t ρ) (hc : CRg g μ ρ) (hi : i < nL ρ) (hp : 1 ≤ p ∧ p ≤ 9999) (eT : ρ 31 1 / 24 = nI T) (hT : T ≤ 2999) (h : ∀ r, snR ρ i p T r → K (some (.int r)) μ) : ∀ (f q c : Nat), 3000 ≤ q + f → q ≤ 3000 → c ≤ q → (∀ e, e < q → beV ρ i p e = 0) → AW E l (d + 3) nc ns mX10_since 37 [some (.ref 11), none, some (.int (nI p)), some (.ref (laF μ i)), some (.int (nI q)), some (.int (nI c)), none] [] μ K := by
  obtain ⟨s1, s2, s3, s4, s5, s6, s7, s8, s9, s10, s11⟩ := hc.s
  obtain ⟨v1, v2, v3, v4, v5, v6, v7⟩ := hc.l hi
  have no : ∀ q, T < q → (∀ e, e < q → beV ρ i p e = 0) → K (some (.int (-2))) μ := fun q hq h0 => h _ (Or.inl ⟨rfl, fun d hd => h0 d (by omega)⟩)
  intro f
  induction f with
  | zero =>
    intro q c hf hq hcq h0
    refine t_X10_since_37 hS ⟨fun _ => no q (by omega) h0, fun _ => c_t ?_ (no q (by omega) h0)⟩
    rw [s6, eT, nI_ltI (by omega) (by omega)]
    omega
  | succ f ih =>
    intro q c hf hq hcq h0
    by_cases cT : T < q
    · refine t_X10_since_37 hS ⟨fun _ => no q (by omega) h0, fun _ => c_t ?_ (no q (by omega) h0)⟩
      rw [s6, eT, nI_ltI (by omega) (by omega)]
      exact cT
    · refine t_X10_since_37 hS (c_f (by rw [show (3000 : Int32) = nI 3000 from rfl, nI_leI (by decide) (by omega)]; omega) (c_f (by rw [s6, eT, nI_ltI (by omega) (by omega)]; exact cT) ?_))
      refine c_beyC hS hr hc hi hp (by omega) ⟨_, rfl, hS, ?_⟩
      refine ⟨fun z => ⟨v4, on_some v6 ?_⟩, fun z => ⟨fun y => ?_, fun y => ?_⟩⟩
      · rw [show nI q = nI (q + 1) - 1 from (nI_pred q).symm]
        refine c_next hS hr hc hi (by omega) (fun w hw => ⟨_, rfl, hS, ?_⟩)
        obtain ⟨w1, w2, w3⟩ := hw
        rw [nI_1]
        refine ih w (c + 1) (by omega) w2 (by omega) (fun e he => ?_)
        by_cases ce : e < q
        · exact h0 e ce
        · rw [← z]
          refine beV_cg fun j hj hm => ?_
          have := w3 j hj hm
          omega
      · refine h _ (Or.inr ⟨q, by omega, h0, Or.inr ⟨?_, rfl⟩⟩)
        rcases beV_3 ρ i p q with a | a | a
        · exact absurd a y
        · exact absurd a z
        · exact a
      · exact h _ (Or.inr ⟨q, by omega, h0, Or.inl ⟨y, rfl⟩⟩)
theorem r_since23 (hr : RIg g t ρ) (hi : i < nL ρ) (hp : 1 ≤ p ∧ p ≤ 9999) (eT : ρ 31 1 / 24 = nI T) (hT : T ≤ 2999) {r : Int32} (hres : snR ρ i p T r) : ∀ (f q : Nat) (M : ZM), q + f = T + 1 → Stat M → rf M = ρ → CRw M → (∀ e, e < q → beV ρ i p e = 0) → (∀ M', Stat M' → EqJ M M' → CRw M' → K (some (.int r)) M') → AW E l (d + 4) nc ns mX11_since 23 [some (.ref 31), some (.int (nI i)), some (.int (nI p)), some (.int (nI q)), none] [] M K := by
  intro f
  induction f with
  | zero =>
    intro q M hf hS hρ hw h0 h
    have R : ∀ a j, 31 ≤ a → a < 88 → zI M a j = ρ a j := fun a j h1 h2 => rfz hρ h1 h2
    refine t_X11_since_23 hS (c_t (by rw [R _ _ (by decide) (by decide), eT, nI_ltI (by omega) (by omega)]; omega) ?_)
    rcases hres with ⟨e, -⟩ | ⟨d, h1, h2, h3⟩
    · rw [e] at h
      exact h M hS EqX.rfl hw
    · have := h0 d (by omega)
      rcases h3 with ⟨a, -⟩ | ⟨a, -⟩
      · rw [this] at a
        exact absurd a (by decide)
      · rw [this] at a
        exact absurd a (by decide)
  | succ f ih =>
    intro q M hf hS hρ hw h0 h
    have R : ∀ a j, 31 ≤ a → a < 88 → zI M a j = ρ a j := fun a j h1 h2 => rfz hρ h1 h2
    refine t_X11_since_23 hS (c_f (by rw [R _ _ (by decide) (by decide), eT, nI_ltI (by omega) (by omega)]; omega) ?_)
    refine r_isB hS hr hρ hw hi hp (by omega) (fun M2 hS2 hx2 hw2 => ⟨_, rfl, hS2, ?_⟩)
    have hρ2 : rf M2 = ρ := by rw [rf_x hS hx2 (fun b j z => z.elim)]; exact hρ
    have same : ∀ d, d ≤ T → (∀ e, e < d → beV ρ i p e = 0) → ¬ beV ρ i p d = 0 → ¬ beV ρ i p q = 0 → d = q := fun d hd g1 g2 g3 => by
      rcases Nat.lt_trichotomy d q with z | z | z
      · exact absurd (h0 d z) g2
      · exact z
      · exact absurd (g1 q z) g3
    refine ⟨fun z => ⟨fun y => ?_, fun y => ?_⟩, fun z => ?_⟩
    · have zq : beV ρ i p q = 0 := by
        rcases beV_3 ρ i p q with a | a | a
        · exact absurd a z
        · exact a
        · exact absurd a y
      rw [nI_1]
      refine ih (q + 1) M2 (by omega) hS2 hρ2 hw2 (fun e he => ?_) (fun M' hS' hx' hw' => h M' hS' (hx2.trans hx') hw')
      by_cases c : e = q
      · rw [c]; exact zq
      · exact h0 e (by omega)
    · have h := h M2 hS2 hx2 hw2
      rcases hres with ⟨-, e⟩ | ⟨d, h1, h2, ⟨a, -⟩ | ⟨a, b⟩⟩
      · rw [e q (by omega)] at y
        exact absurd y (by decide)
      · have := same d h1 h2 (by rw [a]; decide) (by rw [y]; decide)
        rw [this, y] at a
        exact absurd a (by decide)
      · have := same d h1 h2 (by rw [a]; decide) (by rw [y]; decide)
        rw [b, this] at h
        exact h
    · have h := h M2 hS2 hx2 hw2
      rcases hres with ⟨-, e⟩ | ⟨d, h1, h2, ⟨a, b⟩ | ⟨a, -⟩⟩
      · rw [e q (by omega)] at z
        exact absurd z (by decide)
      · rw [b] at h
        exact h
      · have := same d h1 h2 (by rw [a]; decide) (by rw [z]; decide)
        rw [this, z] at a
        exact absurd a (by decide)
end Since
section SinceP
variable {E : ZE} {l : Launch} {d : Nat} {g : Gh} {L : Nat} {X : Nat → Int32} {t : Nat} {μ : ZM} {x1 x2 x3 : Int32}
theorem pr_since (hI : IV g L X t μ) : PRp E l d L X t mX10_since mX11_since [some (.ref 11), some (.int x1), some (.int x2), none, none, none, none] [some (.ref 31), some (.int x1), some (.int x2), none, none] μ := by
  obtain ⟨ρ, hρ⟩ : ∃ ρ, rf μ = ρ := ⟨_, rfl⟩
  have hS := hI.st
  have hr := hI.r hρ
  have hc := hI.c hρ
  have R : ∀ a j, 31 ≤ a → a < 88 → zI μ a j = ρ a j := fun a j h1 h2 => rfz hρ h1 h2
  obtain ⟨s1, s2, s3, s4, s5, s6, s7, s8, s9, s10, s11⟩ := hc.s
  obtain ⟨b1, b2, b3, b4, b5, b6, b7, b8⟩ := hr.s
  have hU : IV g L X (t + 1) μ := hI.up (Nat.le_succ t)
  refine PRp.mk fun K hK => ?_
  rcases ix3 x1 (n := nL ρ) (by have := b2.2; omega) with h | ⟨h, h'⟩ | ⟨i, hi, rfl⟩
  · refine t_X10_since hS ?_
    simp (disch := omega) only [h, true_implies, false_implies, implies_true, not_true_eq_false, not_false_eq_true, and_true, true_and, Option.some.injEq, reduceCtorEq, forall_eq', forall_eq]
    refine hK _ _ hS hI.s0 fun Q hQ => t_X11_since hS ?_
    simp (disch := omega) only [h, R, true_implies, false_implies, implies_true, not_true_eq_false, not_false_eq_true, and_true, true_and, Option.some.injEq, reduceCtorEq, forall_eq', forall_eq]
    exact hQ _ _ hU
  · rw [← b2.1] at h'
    refine t_X10_since hS ?_
    simp (disch := omega) only [h, h', s2, true_implies, false_implies, implies_true, not_true_eq_false, not_false_eq_true, and_true, true_and, Option.some.injEq, reduceCtorEq, forall_eq', forall_eq]
    refine hK _ _ hS hI.s0 fun Q hQ => t_X11_since hS ?_
    simp (disch := omega) only [h, h', R, true_implies, false_implies, implies_true, not_true_eq_false, not_false_eq_true, and_true, true_and, Option.some.injEq, reduceCtorEq, forall_eq', forall_eq]
    exact hQ _ _ hU
  · have b60 := b2.2
    have h1 : ¬ nI i < 0 := nI_pos (by omega)
    have h2 := ix_lt (by omega) hi
    have h3 : vp_in (nI i) 60 := vp_in_nI (by omega) (by decide)
    have h4 : (nI i).toNatClampNeg = i := nI_clamp (by omega)
    rw [← b2.1] at h2
    obtain ⟨c1, c2, c3, c4, c5, c6, c7⟩ := hc.l hi
    by_cases y1 : x2 < 1
    · refine t_X10_since hS ?_
      simp (disch := omega) only [h1, h2, h3, h4, y1, s2, c1, true_implies, false_implies, implies_true, not_true_eq_false, not_false_eq_true, and_true, true_and, Option.some.injEq, reduceCtorEq, forall_eq', forall_eq]
      refine hK _ _ hS hI.s0 fun Q hQ => t_X11_since hS ?_
      simp (disch := omega) only [h1, h2, h3, h4, y1, R, true_implies, false_implies, implies_true, not_true_eq_false, not_false_eq_true, and_true, true_and, Option.some.injEq, reduceCtorEq, forall_eq', forall_eq]
      exact hQ _ _ hU
    by_cases y2 : 9999 < x2
    · refine t_X10_since hS ?_
      simp (disch := omega) only [h1, h2, h3, h4, y1, y2, s2, c1, true_implies, false_implies, implies_true, not_true_eq_false, not_false_eq_true, and_true, true_and, Option.some.injEq, reduceCtorEq, forall_eq', forall_eq]
      refine hK _ _ hS hI.s0 fun Q hQ => t_X11_since hS ?_
      simp (disch := omega) only [h1, h2, h3, h4, y1, y2, R, true_implies, false_implies, implies_true, not_true_eq_false, not_false_eq_true, and_true, true_and, Option.some.injEq, reduceCtorEq, forall_eq', forall_eq]
      exact hQ _ _ hU
    have z1 : ¬ x2 < 0 := by
      rw [i_lt] at y1 ⊢
      rw [show (1 : Int32).toInt = 1 from by decide] at y1
      rw [show (0 : Int32).toInt = 0 from by decide]
      omega
    obtain ⟨p, hp, rfl⟩ : ∃ f, f ≤ 9999 ∧ x2 = nI f := nI_of2 (M := 9999) (by decide) z1 (Int32.not_lt.mp y2)
    have hp1 : 1 ≤ p := by
      rw [show (1 : Int32) = nI 1 from rfl, nI_ltI (by omega) (by decide)] at y1
      omega
    obtain ⟨u1, u2⟩ := dv24 b8
    have hmx : tN (ρ 31 1) ≤ 71999 := by
      have a2 := (nn_of b8.1).2.1
      have := b8.2
      omega
    obtain ⟨T, hT⟩ : ∃ n, n = tN (ρ 31 1) / 24 := ⟨_, rfl⟩
    rw [← hT] at u1
    refine t_X10_since hS ?_
    simp (disch := omega) only [h1, h2, h3, h4, s2, c1, c4, c6, y1, y2, true_implies, false_implies, implies_true, not_true_eq_false, not_false_eq_true, and_true, true_and, Option.some.injEq, reduceCtorEq, forall_eq', forall_eq]
    rw [show (-1 : Int32) = nI 0 - 1 from by decide]
    refine c_next hS hr hc hi (by decide) (fun v hv => ⟨_, rfl, hS, ?_⟩)
    obtain ⟨v1, v2, v3⟩ := hv
    refine c_since37 hS hr hc hi ⟨hp1, hp⟩ u1 (by omega) (fun r hres => ?_) 3000 v 0 (by omega) v2 (by omega) (fun e he => beV_0 ⟨hp1, hp⟩ (fun j hj hm => ?_))
    · refine hK _ _ hS hI.s0 fun Q hQ => t_X11_since hS ?_
      simp (disch := omega) only [h1, h2, h3, h4, R, y1, y2, true_implies, false_implies, implies_true, not_true_eq_false, not_false_eq_true, and_true, true_and, Option.some.injEq, reduceCtorEq, forall_eq', forall_eq]
      exact r_since23 hr hi ⟨hp1, hp⟩ u1 (by omega) hres (T + 1) 0 μ (by omega) hS hρ hI.w (fun e he => by omega) (fun M' hS' hx' hw' => hQ g _ (hI.endJ hρ hx' hS' hw'))
    · have := v3 j hj hm
      omega
end SinceP
