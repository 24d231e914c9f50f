/-! what a taking leaves -/
def bdF (ρ : RV) (s a : Nat) : Int32 := if dg (ρ 79 a) 0 = 1 ∧ ¬ 0 ≤ ρ 59 s then ρ 31 1 / 24 else ρ 59 s
def TkR (F : ZM) (ρ : RV) (s a : Nat) (st bo ih pd nt : Int32) : Prop := zI F 48 s = st ∧ zI F 58 s = bo ∧ zI F 59 s = bdF ρ s a ∧ zI F 60 s = ih ∧ zI F 61 s = nI a ∧ (∀ b, 48 ≤ b → b ≤ 64 → b ≠ 48 → b ≠ 58 → b ≠ 59 → b ≠ 60 → b ≠ 61 → zI F b s = ρ b s) ∧ zI F 82 a = 1 ∧ zI F 83 a = pd ∧ zI F 84 a = nt ∧ (∀ b, 74 ≤ b → b ≤ 81 → zI F b a = ρ b a) ∧ (∀ j, j = 1 ∨ j = 3 ∨ j = 18 ∨ j = 22 ∨ j = 60 → zI F 31 j = ρ 31 j)
def TkC (M F : ZM) (ρ : RV) (s a : Nat) (st bo ih pd nt : Int32) : Prop := zI F (saF M s) 11 = st ∧ zI F (saF M s) 12 = dyF bo ∧ zI F (saF M s) 13 = dyF (bdF ρ s a) ∧ zI F (saF M s) 17 = ih ∧ (st = 2 → zA F (saF M s) 18 = some (aaF M a)) ∧ (∀ k, k ≠ 11 → k ≠ 12 → k ≠ 13 → k ≠ 17 → zI F (saF M s) k = zI M (saF M s) k) ∧ (∀ k, k ≠ 18 → zA F (saF M s) k = zA M (saF M s) k)
  ∧ zI F (aaF M a) 13 = 1 ∧ zI F (aaF M a) 14 = pd ∧ zI F (aaF M a) 15 = nt ∧ (∀ k, k ≠ 13 → k ≠ 14 → k ≠ 15 → zI F (aaF M a) k = zI M (aaF M a) k) ∧ (∀ k, zA F (aaF M a) k = zA M (aaF M a) k)
section TakeF
variable {g : Gh} {L : Nat} {X : Nat → Int32} {t : Nat} {M F : ZM} {ρ : RV} {Ps Pa Pl Pm : Nat → Prop} {s a b j : Nat} {st bo ih pd nt : Int32}
theorem W0.no (hc : CRg g M ρ) (h : W0 M ρ Ps Pa Pl Pm b j) (b1 : 31 ≤ b) (b2 : b < 88) : WS ρ b j ∨ (b = 31 ∧ (j = 2 ∨ (72 ≤ j ∧ j ≤ 74))) ∨ (32 ≤ b ∧ b ≤ 41 ∧ b ≠ 36 ∧ b ≠ 37 ∧ Pm j) ∨ (36 ≤ b ∧ b ≤ 37 ∧ Pm (j / 20)) ∨ (b = 47 ∧ Pl j) ∨ (48 ≤ b ∧ b ≤ 64 ∧ b ≠ 49 ∧ Ps j) ∨ (75 ≤ b ∧ b ≤ 84 ∧ b ≠ 79 ∧ Pa j) ∨ b = 85 := by
  rcases h with h | h | h | ⟨i, -, hi, h⟩ | ⟨i, -, hi, h⟩ | ⟨-, i, -, hi, h⟩ | ⟨i, -, hi, h⟩ | h
  · exact Or.inl h
  · omega
  · omega
  · have := k_sa hc hi
    omega
  · have := k_aa hc hi
    omega
  · have := k_la hc hi
    omega
  · have := k_ma hc hi
    omega
  · exact Or.inr h
theorem IV.takeF (hI : IV g L X t M) (rM : rf M = ρ) (ha : a < nA ρ) (hs : s = as_ ρ a) (hw : ρ 82 a = 0) (hS' : Stat F) (hx : EqX M F (W0 M ρ (· = s) (· = a) Pl Pm) (WA0 M ρ (· = s))) (hj : ∀ j, zJ F 86 j = zJ M 86 j) (q : TkR F ρ s a st bo ih pd nt) (p : TkC M F ρ s a st bo ih pd nt) (hst : (st = 2 ∧ bo = ρ 31 1 / 24 ∧ ih = 1) ∨ (st = 0 ∧ bo = ρ 58 s ∧ ih = ρ 60 s)) (rs : RIs (rf F)) (rm : ∀ i, i < nM ρ → Pm i → RIm (rf F) (t + 1) i ∧ CRm F (rf F) i) (rl : ∀ i, i < nL ρ → Pl i → RIl (rf F) i ∧ CRl F (rf F) i) (pm : ∀ i, Pm i → i < nM ρ) (cs : CRs F (rf F)) (cn : CRn F (rf F)) : IV g L X (t + 1) F := by
  have hr := hI.r rM
  have hc := hI.c rM
  obtain ⟨q1, q2, q3, q4, q5, q6, q7, q8, q9, q10, q11⟩ := q
  obtain ⟨p1, p2, p3, p4, p5, p6, p7, p8, p9, p10, p11, p12⟩ := p
  obtain ⟨e1, e2, e3, e4, e5, e6, e7, e8, e9, e10, e11, e12, e13, e14, e15, e16, e17, e18, e19, e20⟩ := hc.a ha
  obtain ⟨f1, f2, f3, f4, f5, f6, f7, f8, f9, f10, f11⟩ := hr.a ha
  have h88 := hI.st.N
  have st1 := hr.w.1 a ha hw
  have b200 := hr.s.2.2.2.1.2
  rw [← hs] at st1 f2 e5 f1
  obtain ⟨c1, c2, c3, c4, c5, c6, c7, c8, c9, c10, c11, c12, c13, c14, c15, c16, c17, c18, c19, c20, c21, c22, c23⟩ := hc.sa f2
  obtain ⟨d1, d2, d3, d4, d5, d6, d7, d8, d9, d10, d11, d12, d13, d14, d15, d16, d17, d18, d19⟩ := hr.sa f2
  have hN := hx.1
  have er : ∀ b j, 31 ≤ b → b < 88 → ¬ W0 M ρ (· = s) (· = a) Pl Pm b j → zI F b j = ρ b j := fun b j b1 b2 hn => by
    rw [hx.2.2.1 b j (by omega) hn]
    exact rfz rM b1 b2
  have eA : ∀ b j, b < 88 → zA F b j = zA M b j := fun b j hb => hx.2.2.2.1 b j (by omega) (fun z => by
    obtain ⟨-, i, rfl, hi, z⟩ := z
    have := k_sa hc hi
    omega)
  have eK : ∀ b, b < zN M → zK F b = zK M b := fun b hb => (hx.2.1 b hb).1
  have fS : ∀ j, saF F j = saF M j := fun j => by unfold saF; rw [eA 14 j (by decide)]
  have fM : ∀ j, maF F j = maF M j := fun j => by unfold maF; rw [eA 12 j (by decide)]
  have fL : ∀ j, laF F j = laF M j := fun j => by unfold laF; rw [eA 13 j (by decide)]
  have fA : ∀ j, aaF F j = aaF M j := fun j => by unfold aaF; rw [eA 15 j (by decide)]
  have e45 : ∀ j, zI F 45 j = ρ 45 j := fun j => er 45 j (by decide) (by decide) (fun z => by
    have := W0.no hc z (by decide) (by decide)
    unfold WS at this
    omega)
  have ta : tN (nI a) = a := nI_clamp (by omega)
  have b8 := hr.s.2.2.2.2.2.2.2
  obtain ⟨u1, u2⟩ := dv24 b8
  have hmx : tN (ρ 31 1) ≤ 71999 := by
    have a2 := (nn_of b8.1).2.1
    have := b8.2
    omega
  obtain ⟨n, hn⟩ : ∃ n, n = tN (ρ 31 1) / 24 := ⟨_, rfl⟩
  rw [← hn] at u1
  have nT : (nI n).toInt = (n : Int) := nI_toInt (by omega)
  have nb : ρ 58 s = -1 := by
    rcases d12 with z | ⟨z, -⟩
    · exact z
    · have : ρ 48 s = 2 := d13.mpr (by rw [i_le, show (0 : Int32).toInt = 0 from by decide]; exact z.1)
      rw [st1] at this
      exact absurd this (by decide)
  have nh : ρ 60 s = 0 := by
    rcases d10 with z | z
    · exact z
    · have := d14 z
      rw [st1] at this
      exact absurd this (by decide)
  have sday : (ρ 55 s / 24).toInt ≤ (nI n).toInt := by
    obtain ⟨v1, v2⟩ := dv24 d7
    have w1 := (nn_of d7.1).2.1
    have w2 := (nn_of b8.1).2.1
    have := d7.2
    rw [v1, nI_toInt (by omega), nT]
    omega
  have nbd : bdF ρ s a = -1 ∨ (rng (bdF ρ s a) 0 2999 ∧ (ρ 55 s / 24).toInt ≤ (bdF ρ s a).toInt ∧ (bdF ρ s a).toInt ≤ (ρ 31 1 / 24).toInt) := by
    unfold bdF
    split
    · rw [u1]
      exact Or.inr ⟨⟨by rw [nT]; omega, by rw [nT]; omega⟩, sday, Int.le_refl _⟩
    · exact d15
  refine IV.fr0 (Ps := (· = s)) (Pa := (· = a)) (Pl := Pl) (Pm := Pm) hI hS' hx hj rM rfl (Nat.le_succ t) rs rm rl (fun i hi z => ?_) (fun i hi z => ?_) ⟨fun j z => by rw [z]; exact f2, fun j z => by rw [z]; exact ha, pm⟩ ?_ cs cn (fun i z _ z2 => ?_)
  · subst z
    constructor
    · unfold RIsa sl nL nA
      simp (disch := omega) only [rf_z, q1, q2, q3, q4, q5, q6, q11]
      have r1 : rng st 0 3 ∧ (st = 2 ↔ 0 ≤ bo) ∧ (ih = 1 → st = 2) ∧ bit ih ∧ (bo = -1 ∨ (rng bo 0 2999 ∧ bo.toInt ≤ (ρ 31 1 / 24).toInt)) := by
        rcases hst with ⟨z1, z2, z3⟩ | ⟨z1, z2, z3⟩
        · rw [z1, z2, z3, u1]
          refine ⟨⟨by decide, by decide⟩, ⟨fun _ => nI_pos' (by omega), fun _ => rfl⟩, fun _ => rfl, Or.inr rfl, Or.inr ⟨⟨by rw [nT]; omega, by rw [nT]; omega⟩, Int.le_refl _⟩⟩
        · rw [z1, z2, z3, nb, nh]
          exact ⟨⟨by decide, by decide⟩, by decide, fun z => absurd z (by decide), Or.inl rfl, Or.inl rfl⟩
      obtain ⟨r1, r2, r3, r4, r5⟩ := r1
      exact ⟨d1, d2, d3, d4, d5, d6, d7, d8, d9, r4, r1, r5, r2, r3, nbd, fun _ => ⟨by rw [ta], by rw [ta]; exact ha⟩, d17, d18, d19⟩
    · unfold CRsa smo lm sl
      simp (disch := omega) only [rf_z, fS, fM, fL, fA, eA, eK, e45, q1, q2, q3, q4, q5, q6, p1, p2, p3, p4, p6, p7, ta, true_implies, false_implies, implies_true, not_true_eq_false, not_false_eq_true, and_true, true_and, Option.some.injEq, reduceCtorEq, forall_eq', forall_eq]
      exact ⟨c1, c2, by omega, c4, c5, c6, c7, c8, c9, c10, c11, c12, c13, c14, c15, c19, c20, c21, p5⟩
  · subst z
    constructor
    · unfold RIa as_ nS
      simp (disch := omega) only [rf_z, q7, q10, q11]
      rw [hs] at f1 f2
      exact ⟨f1, f2, f3, f4, f5, f6, f7, f8, f9, f10, ⟨by decide, by decide⟩⟩
    · unfold CRa as_
      simp (disch := omega) only [rf_z, fS, fA, eA, eK, q7, q8, q9, q10, p8, p9, p10, p11, p12, true_implies, false_implies, implies_true, not_true_eq_false, not_false_eq_true, and_true, true_and, Option.some.injEq, reduceCtorEq, forall_eq', forall_eq]
      rw [hs] at e5
      exact ⟨e1, e2, by omega, e4, e5, e6, e7, e8, e9, e10, e11, e12, e13, e14, e15, e16, e17⟩
  · have e82 : ∀ i, i ≠ a → zI F 82 i = ρ 82 i := fun i hi => er 82 i (by decide) (by decide) (fun z => by
      have := W0.no hc z (by decide) (by decide)
      unfold WS at this
      omega)
    have e74 : ∀ i, zI F 74 i = ρ 74 i := fun i => er 74 i (by decide) (by decide) (fun z => by
      have := W0.no hc z (by decide) (by decide)
      unfold WS at this
      omega)
    have e48 : ∀ i, i ≠ s → zI F 48 i = ρ 48 i := fun i hi => er 48 i (by decide) (by decide) (fun z => by
      have := W0.no hc z (by decide) (by decide)
      unfold WS at this
      omega)
    have eas : ∀ i, as_ (rf F) i = as_ ρ i := fun i => by unfold as_; rw [rf_z (by decide) (by decide), e74]
    have eN : nA (rf F) = nA ρ := by unfold nA; rw [rf_z (by decide) (by decide), q11 60 (by decide)]
    have na : ∀ i, rf F 82 i = 0 → i ≠ a ∧ ρ 82 i = 0 := fun i z => by
      rw [rf_z (by decide) (by decide)] at z
      have hne : i ≠ a := fun y => by rw [y, q7] at z; exact absurd z (by decide)
      exact ⟨hne, by rw [← e82 i hne]; exact z⟩
    obtain ⟨w1, w2⟩ := hr.w
    refine ⟨fun i hi z => ?_, fun i j hi hj z1 z2 e => ?_⟩
    · rw [eN] at hi
      obtain ⟨n1, n2⟩ := na i z
      have : as_ ρ i ≠ s := fun y => n1 (w2 i a hi ha n2 hw (by rw [y, hs]))
      rw [eas, rf_z (by decide) (by decide), e48 _ this]
      exact w1 i hi n2
    · rw [eN] at hi hj
      rw [eas, eas] at e
      exact w2 i j hi hj (na i z1).2 (na j z2).2 e
  · rw [z, st1] at z2
    exact absurd z2 (by decide)
end TakeF
