section TakeG
variable {g : Gh} {L : Nat} {X : Nat → Int32} {t : Nat} {M M2 C : ZM} {ρ : RV} {s i m j : Nat} {v : Int32}
theorem tkF_mend (hI : IV g L X t M) (rM : rf M = ρ) (hi : i < nA ρ) (hs : s = as_ ρ i) (hm : m = smo ρ s) (hw : ρ 82 i = 0) (eC : C = (sI (sI (sI (sI (sI (sI M 17 2 (ρ 31 2 - ρ 34 m)) 17 4 (ρ 31 73 + ρ 34 m)) (maF M m) 10 (ρ 40 m + 1)) (saF M s) 11 0) (aaF M i) 13 1) (saF M s) 13 (dyF (bdF ρ s i)))) (hS2 : Stat M2) (hx2 : EqX C M2 (fun b j => b = 72 ∨ b = 73 ∨ (b = 31 ∧ 76 ≤ j ∧ j ≤ 78)) (fun _ _ => False)) (hj2 : ∀ y, zJ M2 86 y = zJ M 86 y) : IV g L X (t + 1) (sI (sI (sI (sI (sI (sI (sI M2 82 i 1) 61 s (nI i)) 59 s (bdF ρ s i)) 31 2 (ρ 31 2 - ρ 34 m)) 31 73 (ρ 31 73 + ρ 34 m)) 40 m (ρ 40 m + 1)) 48 s 0) := by
  have hr := hI.r rM
  have hc := hI.c rM
  have hS := hI.st
  have h88 := hS.N
  obtain ⟨s1, s2, s3, s4, s5, s6, s7, s8, s9, s10, s11⟩ := hc.s
  obtain ⟨b1, b2, b3, b4, b5, b6, b7, b8⟩ := hr.s
  obtain ⟨e1, e2, e3, e4, e5, e6, e7, e8, e9, e10, e11, e12, e13, e14, e15, e16, e17, e18, e19, e20⟩ := hc.a hi
  obtain ⟨f1, f2, f3, f4, f5, f6, f7, f8, f9, f10, f11⟩ := hr.a hi
  rw [← hs] at f2 e5 f1
  obtain ⟨c1, c2, c3, c4, c5, c6, c7, c8, c9, c10, c11, c12, c13, c14, c15, c16, c17, c18, c19, c20, c21, c22, c23⟩ := hc.sa f2
  obtain ⟨d1, d2, d3, d4, d5, d6, d7, d8, d9, d10, d11, d12, d13, d14, d15, d16, d17, d18, d19⟩ := hr.sa f2
  have lr := hr.l d2
  have hm' : m < nM ρ := by rw [hm]; exact lr.2.1
  obtain ⟨m1, m2, m3, m4, m5, m6, m7, m8, m9, m10, m11, m12⟩ := hc.m hm'
  have m4' := m4
  obtain ⟨p1, p2, p3, p4, p5, p6, p7, p8, p9⟩ := m4
  obtain ⟨r1, r2, r3, r4, r5, r6⟩ := hr.m hm'
  have n1 : saF M s ≠ aaF M i := kne c4 e4 (by decide)
  have n2 : saF M s ≠ maF M m := kne c4 p1 (by decide)
  have n3 : aaF M i ≠ maF M m := kne e4 p1 (by decide)
  have n4 : maF M m + 1 ≠ saF M s := kne p6 c4 (by decide)
  have n5 : maF M m + 2 ≠ saF M s := kne p8 c4 (by decide)
  have n6 : maF M m + 1 ≠ aaF M i := kne p6 e4 (by decide)
  have n7 : maF M m + 2 ≠ aaF M i := kne p8 e4 (by decide)
  have e88s := c2
  have e88a := e2
  have nq1 := n2
  have nq2 := n3
  have e88q := m2
  obtain ⟨tc, co, ca, cv0, cv1, cv2⟩ := tkC_mend (M := M) (S := saF M s) (A := aaF M i) (Q := (maF M m)) (n := 0) (bo := (dyF (ρ 58 s))) (bd := dyF (bdF ρ s i)) (ih := (ρ 60 s)) (pd := (ρ 83 i)) (nt := (ρ 84 i)) (tt := (ρ 31 1 / 24)) (v0 := (ρ 31 2 - ρ 34 m)) (v1 := (ρ 31 73 + ρ 34 m)) (v2 := (ρ 40 m + 1)) n1 e88s e88a nq1 nq2 e88q e19 e20 c17 c22
  have xC : EqX M C (W0 M ρ (· = s) (· = i) (fun _ => False) (· = m)) (WA0 M ρ (· = s)) := by
    rw [eC]
    exact ((((((EqX.rfl.wi (W0.p (Ps := (· = s)) (Pa := (· = i)) (Pl := (fun _ => False)) (Pm := (· = m)) (by decide))).wi (W0.p (Ps := (· = s)) (Pa := (· = i)) (Pl := (fun _ => False)) (Pm := (· = m)) (by decide))).wi (W0.m (Ps := (· = s)) (Pa := (· = i)) (Pl := (fun _ => False)) (Pm := (· = m)) rfl hm' (by decide))).wi (W0.s (Ps := (· = s)) (Pa := (· = i)) (Pl := (fun _ => False)) (Pm := (· = m)) rfl f2)).wi (W0.a (Ps := (· = s)) (Pa := (· = i)) (Pl := (fun _ => False)) (Pm := (· = m)) rfl hi)).wi (W0.s (Ps := (· = s)) (Pa := (· = i)) (Pl := (fun _ => False)) (Pm := (· = m)) rfl f2))
  have zNC : zN C = zN M := by rw [eC]; rfl
  have zKC : ∀ b, zK C b = zK M b ∧ zL C b = zL M b := fun b => by rw [eC]; exact ⟨rfl, rfl⟩
  rw [← eC] at tc co ca cv0 cv1 cv2
  clear eC
  have R2 : ∀ b y, TwR b y → zI M2 b y = ρ b y := by
    intro b y ⟨g1, g2, g3, g4, g5⟩
    rw [hx2.2.2.1 b y (by omega) (by omega), co b y (by omega)]
    exact rfz rM g1 g2
  obtain ⟨tr, ro, rc, rv0, rv1, rv2⟩ := tkR_mend (M2 := M2) (ρ := ρ) (s := s) (i := i) (q := m) (n := 0) (bo := ρ 58 s) (bd := bdF ρ s i) (ih := (ρ 60 s)) (pd := (ρ 83 i)) (nt := (ρ 84 i)) (tt := (ρ 31 1 / 24)) (v0 := (ρ 31 2 - ρ 34 m)) (v1 := (ρ 31 73 + ρ 34 m)) (v2 := (ρ 40 m + 1)) R2 rfl rfl rfl rfl rfl
  have hsF : Stat (sI (sI (sI (sI (sI (sI (sI M2 82 i 1) 61 s (nI i)) 59 s (bdF ρ s i)) 31 2 (ρ 31 2 - ρ 34 m)) 31 73 (ρ 31 73 + ρ 34 m)) 40 m (ρ 40 m + 1)) 48 s 0) := hS2.wI.wI.wI.wI.wI.wI.wI
  have xF : EqX M (sI (sI (sI (sI (sI (sI (sI M2 82 i 1) 61 s (nI i)) 59 s (bdF ρ s i)) 31 2 (ρ 31 2 - ρ 34 m)) 31 73 (ρ 31 73 + ρ 34 m)) 40 m (ρ 40 m + 1)) 48 s 0) (W0 M ρ (· = s) (· = i) (fun _ => False) (· = m)) (WA0 M ρ (· = s)) := ((((((((xC.trans (hx2.mono (fun b j h => Or.inl (by unfold WS; omega)) (fun _ _ h => h.elim))).wi (W0.ra (Ps := (· = s)) (Pa := (· = i)) (Pl := (fun _ => False)) (Pm := (· = m)) (by decide) (by decide) (by decide) rfl)).wi (W0.rs (Ps := (· = s)) (Pa := (· = i)) (Pl := (fun _ => False)) (Pm := (· = m)) (by decide) (by decide) (by decide) rfl)).wi (W0.rs (Ps := (· = s)) (Pa := (· = i)) (Pl := (fun _ => False)) (Pm := (· = m)) (by decide) (by decide) (by decide) rfl)).wi (W0.rp (Ps := (· = s)) (Pa := (· = i)) (Pl := (fun _ => False)) (Pm := (· = m)) (by decide))).wi (W0.rp (Ps := (· = s)) (Pa := (· = i)) (Pl := (fun _ => False)) (Pm := (· = m)) (by decide))).wi (W0.rm (Ps := (· = s)) (Pa := (· = i)) (Pl := (fun _ => False)) (Pm := (· = m)) (by decide) (by decide) (by decide) (by decide) rfl)).wi (W0.rs (Ps := (· = s)) (Pa := (· = i)) (Pl := (fun _ => False)) (Pm := (· = m)) (by decide) (by decide) (by decide) rfl))
  have hjF : ∀ y, zJ (sI (sI (sI (sI (sI (sI (sI M2 82 i 1) 61 s (nI i)) 59 s (bdF ρ s i)) 31 2 (ρ 31 2 - ρ 34 m)) 31 73 (ρ 31 73 + ρ 34 m)) 40 m (ρ 40 m + 1)) 48 s 0) 86 y = zJ M 86 y := fun y => by
    simp only [zJ_sI]
    exact hj2 y
  have AF : ∀ b y, zA (sI (sI (sI (sI (sI (sI (sI M2 82 i 1) 61 s (nI i)) 59 s (bdF ρ s i)) 31 2 (ρ 31 2 - ρ 34 m)) 31 73 (ρ 31 73 + ρ 34 m)) 40 m (ρ 40 m + 1)) 48 s 0) b y = zA M2 b y := fun b y => by simp only [zA_sI]
  have KF : ∀ b, zK (sI (sI (sI (sI (sI (sI (sI M2 82 i 1) 61 s (nI i)) 59 s (bdF ρ s i)) 31 2 (ρ 31 2 - ρ 34 m)) 31 73 (ρ 31 73 + ρ 34 m)) 40 m (ρ 40 m + 1)) 48 s 0) b = zK M2 b ∧ zL (sI (sI (sI (sI (sI (sI (sI M2 82 i 1) 61 s (nI i)) 59 s (bdF ρ s i)) 31 2 (ρ 31 2 - ρ 34 m)) 31 73 (ρ 31 73 + ρ 34 m)) 40 m (ρ 40 m + 1)) 48 s 0) b = zL M2 b := fun b => ⟨rfl, rfl⟩
  obtain ⟨F, eF⟩ : ∃ F, F = (sI (sI (sI (sI (sI (sI (sI M2 82 i 1) 61 s (nI i)) 59 s (bdF ρ s i)) 31 2 (ρ 31 2 - ρ 34 m)) 31 73 (ρ 31 73 + ρ 34 m)) 40 m (ρ 40 m + 1)) 48 s 0) := ⟨_, rfl⟩
  rw [← eF] at tr ro rc hsF xF hjF AF KF rv0 rv1 rv2 ⊢
  clear eF
  have CF : ∀ b y, b < zN M → ¬ (31 ≤ b ∧ b < 88) → zI F b y = zI C b y := fun b y g1 g2 => by rw [rc b y g2, hx2.2.2.1 b y (by omega) (by omega)]
  have A2 : ∀ b y, b < zN M → ¬ (b = saF M s ∧ y = 18) → zA F b y = zA M b y := fun b y g1 g2 => by rw [AF, hx2.2.2.2.1 b y (by omega) (fun z => z), ca b y g2]
  have A3 : ∀ b y, b < zN M → zA F b y = zA C b y := fun b y g1 => by rw [AF, hx2.2.2.2.1 b y (by omega) (fun z => z)]
  have K2 : ∀ b, b < zN M → zK F b = zK M b := fun b g1 => by rw [(KF b).1, (hx2.2.1 b (by omega)).1, (zKC b).1]
  have L2 : ∀ b, b < zN M → zL F b = zL M b := fun b g1 => by rw [(KF b).2, (hx2.2.1 b (by omega)).2, (zKC b).2]
  have ro' : ∀ b y, 31 ≤ b → b < 88 → b ≠ 72 → b ≠ 73 → (b = 31 → y < 76) → ¬ ((b = 82 ∧ y = i) ∨ (b = 61 ∧ y = s) ∨ (b = 59 ∧ y = s) ∨ (b = 31 ∧ y = 2) ∨ (b = 31 ∧ y = 73) ∨ (b = 40 ∧ y = m) ∨ (b = 48 ∧ y = s)) → zI F b y = ρ b y := fun b y a1 a2 a3 a4 a5 => ro b y ⟨a1, a2, a3, a4, a5⟩
  have NF := xF.1
  have qm : ∀ y, maF F y = maF M y := fun y => by
    unfold maF
    rw [A2 12 y (by omega) (by omega)]
  have ql : ∀ y, laF F y = laF M y := fun y => by
    unfold laF
    rw [A2 13 y (by omega) (by omega)]
  have dT : dyF (ρ 31 1 / 24) = (ρ 31 1 / 24) := by
    obtain ⟨u1, u2⟩ := dv24 b8
    unfold dyF
    rw [u1, if_neg]
    rw [i_eq, nI_toInt (by omega), show (-1 : Int32).toInt = -1 from by decide]
    omega
  have tp : TkC M F ρ s i 0 (ρ 58 s) (ρ 60 s) (ρ 83 i) (ρ 84 i) := by
    show TkC2 M F (saF M s) (aaF M i) 0 (dyF (ρ 58 s)) (dyF (bdF ρ s i)) (ρ 60 s) (ρ 83 i) (ρ 84 i)
    exact tc.cg (fun k => CF _ _ (by omega) (by omega)) (fun k => CF _ _ (by omega) (by omega)) (fun k => A3 _ _ (by omega)) (fun k => A3 _ _ (by omega))
  refine IV.takeF (Pl := (fun _ => False)) (Pm := (· = m)) hI rM hi hs hw hsF xF hjF tr tp (Or.inr ⟨rfl, rfl, rfl⟩) ?_ ?_ ?_ ?_ ?_ ?_
  · refine hr.s.cg2 fun y hy => ?_
    simp (disch := omega) only [rf_z, ro', rv0, rv1, rv2]
  · intro q hq z
    subst z
    have lo1 : 0 ≤ (ρ 38 q).toInt ∧ (ρ 38 q).toInt ≤ (t + 1 : Nat) := ⟨r5.1, by have := r5.2; omega⟩
    constructor
    · unfold RIm
      simp (disch := omega) only [rf_z, ro', rv0, rv1, rv2]
      exact ⟨r1, r2, r3, r4, lo1, r6⟩
    · unfold CRm MdlP
      rw [qm]
      simp (disch := omega) only [rf_z, ro', rv0, rv1, rv2, CF, co, cv0, cv1, cv2, A2, K2, L2, true_implies, false_implies, implies_true, not_true_eq_false, not_false_eq_true, and_true, true_and, Option.some.injEq, reduceCtorEq, forall_eq', forall_eq]
      exact ⟨m1, m2, by omega, m4', m5, m6, m7, m8, m9, m10, m12⟩
  · exact fun _ _ z => z.elim
  · exact fun q z => by rw [z]; exact hm'
  · unfold CRs
    simp (disch := omega) only [rf_z, ro', rv0, rv1, rv2, CF, co, cv0, cv1, cv2, s1, s2, s3, s4, s5, s6, s7, s8, s9, s10, s11, true_implies, false_implies, implies_true, not_true_eq_false, not_false_eq_true, and_true, true_and, Option.some.injEq, reduceCtorEq, forall_eq', forall_eq]
  · refine hc.n.cg ?_ ?_ (fun k => ?_) (fun k => ?_) (fun k => ?_) (fun k => ?_)
    · unfold nN
      simp (disch := omega) only [rf_z, ro', rv0, rv1, rv2]
    · unfold tL
      simp (disch := omega) only [rf_z, ro', rv0, rv1, rv2]
    all_goals simp (disch := omega) only [rf_z, ro', rv0, rv1, rv2, CF, co, cv0, cv1, cv2]
theorem tkF_note (hI : IV g L X t M) (rM : rf M = ρ) (hi : i < nA ρ) (hs : s = as_ ρ i) (hm : m = smo ρ s) (hw : ρ 82 i = 0) (hn : nN ρ < 200) (eC : C = (sI (sI (sI (sA (sI (sI (sI (sI (sI (sI M 18 (nN ρ) v) 17 1 (nI (nN ρ + 1))) (aaF M i) 15 (nI (nN ρ))) (aaF M i) 14 v) (saF M s) 11 2) (saF M s) 12 (ρ 31 1 / 24)) (saF M s) 18 (some (aaF M i))) (saF M s) 17 1) (aaF M i) 13 1) (saF M s) 13 (dyF (bdF ρ s i)))) (hS2 : Stat M2) (hx2 : EqX C M2 (fun b j => b = 72 ∨ b = 73 ∨ (b = 31 ∧ 76 ≤ j ∧ j ≤ 78)) (fun _ _ => False)) (hj2 : ∀ y, zJ M2 86 y = zJ M 86 y) : IV g L X (t + 1) (sI (sI (sI (sI (sI (sI (sI (sI (sI (sI M2 82 i 1) 61 s (nI i)) 59 s (bdF ρ s i)) 48 s 2) 58 s (ρ 31 1 / 24)) 60 s 1) 85 (nN ρ) v) 84 i (nI (nN ρ))) 83 i v) 31 74 (nI (nN ρ + 1))) := by
  have hr := hI.r rM
  have hc := hI.c rM
  have hS := hI.st
  have h88 := hS.N
  obtain ⟨s1, s2, s3, s4, s5, s6, s7, s8, s9, s10, s11⟩ := hc.s
  obtain ⟨b1, b2, b3, b4, b5, b6, b7, b8⟩ := hr.s
  obtain ⟨e1, e2, e3, e4, e5, e6, e7, e8, e9, e10, e11, e12, e13, e14, e15, e16, e17, e18, e19, e20⟩ := hc.a hi
  obtain ⟨f1, f2, f3, f4, f5, f6, f7, f8, f9, f10, f11⟩ := hr.a hi
  rw [← hs] at f2 e5 f1
  obtain ⟨c1, c2, c3, c4, c5, c6, c7, c8, c9, c10, c11, c12, c13, c14, c15, c16, c17, c18, c19, c20, c21, c22, c23⟩ := hc.sa f2
  obtain ⟨d1, d2, d3, d4, d5, d6, d7, d8, d9, d10, d11, d12, d13, d14, d15, d16, d17, d18, d19⟩ := hr.sa f2
  have lr := hr.l d2
  have hm' : m < nM ρ := by rw [hm]; exact lr.2.1
  obtain ⟨m1, m2, m3, m4, m5, m6, m7, m8, m9, m10, m11, m12⟩ := hc.m hm'
  have m4' := m4
  obtain ⟨p1, p2, p3, p4, p5, p6, p7, p8, p9⟩ := m4
  obtain ⟨r1, r2, r3, r4, r5, r6⟩ := hr.m hm'
  have n1 : saF M s ≠ aaF M i := kne c4 e4 (by decide)
  have n2 : saF M s ≠ maF M m := kne c4 p1 (by decide)
  have n3 : aaF M i ≠ maF M m := kne e4 p1 (by decide)
  have n4 : maF M m + 1 ≠ saF M s := kne p6 c4 (by decide)
  have n5 : maF M m + 2 ≠ saF M s := kne p8 c4 (by decide)
  have n6 : maF M m + 1 ≠ aaF M i := kne p6 e4 (by decide)
  have n7 : maF M m + 2 ≠ aaF M i := kne p8 e4 (by decide)
  have e88s := c2
  have e88a := e2
  obtain ⟨tc, co, ca, cv0, cv1⟩ := tkC_note (M := M) (S := saF M s) (A := aaF M i) (Q := 0) (n := nN ρ) (bo := (ρ 31 1 / 24)) (bd := dyF (bdF ρ s i)) (ih := 1) (pd := v) (nt := (nI (nN ρ))) (tt := (ρ 31 1 / 24)) (v0 := v) (v1 := (nI (nN ρ + 1))) n1 e88s e88a
  have xC : EqX M C (W0 M ρ (· = s) (· = i) (fun _ => False) (fun _ => False)) (WA0 M ρ (· = s)) := by
    rw [eC]
    exact ((((((((((EqX.rfl.wi (W0.n (Ps := (· = s)) (Pa := (· = i)) (Pl := (fun _ => False)) (Pm := (fun _ => False)))).wi (W0.p (Ps := (· = s)) (Pa := (· = i)) (Pl := (fun _ => False)) (Pm := (fun _ => False)) (by decide))).wi (W0.a (Ps := (· = s)) (Pa := (· = i)) (Pl := (fun _ => False)) (Pm := (fun _ => False)) rfl hi)).wi (W0.a (Ps := (· = s)) (Pa := (· = i)) (Pl := (fun _ => False)) (Pm := (fun _ => False)) rfl hi)).wi (W0.s (Ps := (· = s)) (Pa := (· = i)) (Pl := (fun _ => False)) (Pm := (fun _ => False)) rfl f2)).wi (W0.s (Ps := (· = s)) (Pa := (· = i)) (Pl := (fun _ => False)) (Pm := (fun _ => False)) rfl f2)).wa (Or.inl ⟨by decide, s, rfl, f2, rfl⟩)).wi (W0.s (Ps := (· = s)) (Pa := (· = i)) (Pl := (fun _ => False)) (Pm := (fun _ => False)) rfl f2)).wi (W0.a (Ps := (· = s)) (Pa := (· = i)) (Pl := (fun _ => False)) (Pm := (fun _ => False)) rfl hi)).wi (W0.s (Ps := (· = s)) (Pa := (· = i)) (Pl := (fun _ => False)) (Pm := (fun _ => False)) rfl f2))
  have zNC : zN C = zN M := by rw [eC]; rfl
  have zKC : ∀ b, zK C b = zK M b ∧ zL C b = zL M b := fun b => by rw [eC]; exact ⟨rfl, rfl⟩
  rw [← eC] at tc co ca cv0 cv1
  clear eC
  have R2 : ∀ b y, TwR b y → zI M2 b y = ρ b y := by
    intro b y ⟨g1, g2, g3, g4, g5⟩
    rw [hx2.2.2.1 b y (by omega) (by omega), co b y (by omega)]
    exact rfz rM g1 g2
  obtain ⟨tr, ro, rc, rv0, rv1⟩ := tkR_note (M2 := M2) (ρ := ρ) (s := s) (i := i) (q := 0) (n := nN ρ) (bo := (ρ 31 1 / 24)) (bd := bdF ρ s i) (ih := 1) (pd := v) (nt := (nI (nN ρ))) (tt := (ρ 31 1 / 24)) (v0 := v) (v1 := (nI (nN ρ + 1))) R2 rfl
  have hsF : Stat (sI (sI (sI (sI (sI (sI (sI (sI (sI (sI M2 82 i 1) 61 s (nI i)) 59 s (bdF ρ s i)) 48 s 2) 58 s (ρ 31 1 / 24)) 60 s 1) 85 (nN ρ) v) 84 i (nI (nN ρ))) 83 i v) 31 74 (nI (nN ρ + 1))) := hS2.wI.wI.wI.wI.wI.wI.wI.wI.wI.wI
  have xF : EqX M (sI (sI (sI (sI (sI (sI (sI (sI (sI (sI M2 82 i 1) 61 s (nI i)) 59 s (bdF ρ s i)) 48 s 2) 58 s (ρ 31 1 / 24)) 60 s 1) 85 (nN ρ) v) 84 i (nI (nN ρ))) 83 i v) 31 74 (nI (nN ρ + 1))) (W0 M ρ (· = s) (· = i) (fun _ => False) (fun _ => False)) (WA0 M ρ (· = s)) := (((((((((((xC.trans (hx2.mono (fun b j h => Or.inl (by unfold WS; omega)) (fun _ _ h => h.elim))).wi (W0.ra (Ps := (· = s)) (Pa := (· = i)) (Pl := (fun _ => False)) (Pm := (fun _ => False)) (by decide) (by decide) (by decide) rfl)).wi (W0.rs (Ps := (· = s)) (Pa := (· = i)) (Pl := (fun _ => False)) (Pm := (fun _ => False)) (by decide) (by decide) (by decide) rfl)).wi (W0.rs (Ps := (· = s)) (Pa := (· = i)) (Pl := (fun _ => False)) (Pm := (fun _ => False)) (by decide) (by decide) (by decide) rfl)).wi (W0.rs (Ps := (· = s)) (Pa := (· = i)) (Pl := (fun _ => False)) (Pm := (fun _ => False)) (by decide) (by decide) (by decide) rfl)).wi (W0.rs (Ps := (· = s)) (Pa := (· = i)) (Pl := (fun _ => False)) (Pm := (fun _ => False)) (by decide) (by decide) (by decide) rfl)).wi (W0.rs (Ps := (· = s)) (Pa := (· = i)) (Pl := (fun _ => False)) (Pm := (fun _ => False)) (by decide) (by decide) (by decide) rfl)).wi (W0.rn (Ps := (· = s)) (Pa := (· = i)) (Pl := (fun _ => False)) (Pm := (fun _ => False)))).wi (W0.ra (Ps := (· = s)) (Pa := (· = i)) (Pl := (fun _ => False)) (Pm := (fun _ => False)) (by decide) (by decide) (by decide) rfl)).wi (W0.ra (Ps := (· = s)) (Pa := (· = i)) (Pl := (fun _ => False)) (Pm := (fun _ => False)) (by decide) (by decide) (by decide) rfl)).wi (W0.rp (Ps := (· = s)) (Pa := (· = i)) (Pl := (fun _ => False)) (Pm := (fun _ => False)) (by decide)))
  have hjF : ∀ y, zJ (sI (sI (sI (sI (sI (sI (sI (sI (sI (sI M2 82 i 1) 61 s (nI i)) 59 s (bdF ρ s i)) 48 s 2) 58 s (ρ 31 1 / 24)) 60 s 1) 85 (nN ρ) v) 84 i (nI (nN ρ))) 83 i v) 31 74 (nI (nN ρ + 1))) 86 y = zJ M 86 y := fun y => by
    simp only [zJ_sI]
    exact hj2 y
  have AF : ∀ b y, zA (sI (sI (sI (sI (sI (sI (sI (sI (sI (sI M2 82 i 1) 61 s (nI i)) 59 s (bdF ρ s i)) 48 s 2) 58 s (ρ 31 1 / 24)) 60 s 1) 85 (nN ρ) v) 84 i (nI (nN ρ))) 83 i v) 31 74 (nI (nN ρ + 1))) b y = zA M2 b y := fun b y => by simp only [zA_sI]
  have KF : ∀ b, zK (sI (sI (sI (sI (sI (sI (sI (sI (sI (sI M2 82 i 1) 61 s (nI i)) 59 s (bdF ρ s i)) 48 s 2) 58 s (ρ 31 1 / 24)) 60 s 1) 85 (nN ρ) v) 84 i (nI (nN ρ))) 83 i v) 31 74 (nI (nN ρ + 1))) b = zK M2 b ∧ zL (sI (sI (sI (sI (sI (sI (sI (sI (sI (sI M2 82 i 1) 61 s (nI i)) 59 s (bdF ρ s i)) 48 s 2) 58 s (ρ 31 1 / 24)) 60 s 1) 85 (nN ρ) v) 84 i (nI (nN ρ))) 83 i v) 31 74 (nI (nN ρ + 1))) b = zL M2 b := fun b => ⟨rfl, rfl⟩
  obtain ⟨F, eF⟩ : ∃ F, F = (sI (sI (sI (sI (sI (sI (sI (sI (sI (sI M2 82 i 1) 61 s (nI i)) 59 s (bdF ρ s i)) 48 s 2) 58 s (ρ 31 1 / 24)) 60 s 1) 85 (nN ρ) v) 84 i (nI (nN ρ))) 83 i v) 31 74 (nI (nN ρ + 1))) := ⟨_, rfl⟩
  rw [← eF] at tr ro rc hsF xF hjF AF KF rv0 rv1 ⊢
  clear eF
  have CF : ∀ b y, b < zN M → ¬ (31 ≤ b ∧ b < 88) → zI F b y = zI C b y := fun b y g1 g2 => by rw [rc b y g2, hx2.2.2.1 b y (by omega) (by omega)]
  have A2 : ∀ b y, b < zN M → ¬ (b = saF M s ∧ y = 18) → zA F b y = zA M b y := fun b y g1 g2 => by rw [AF, hx2.2.2.2.1 b y (by omega) (fun z => z), ca b y g2]
  have A3 : ∀ b y, b < zN M → zA F b y = zA C b y := fun b y g1 => by rw [AF, hx2.2.2.2.1 b y (by omega) (fun z => z)]
  have K2 : ∀ b, b < zN M → zK F b = zK M b := fun b g1 => by rw [(KF b).1, (hx2.2.1 b (by omega)).1, (zKC b).1]
  have L2 : ∀ b, b < zN M → zL F b = zL M b := fun b g1 => by rw [(KF b).2, (hx2.2.1 b (by omega)).2, (zKC b).2]
  have ro' : ∀ b y, 31 ≤ b → b < 88 → b ≠ 72 → b ≠ 73 → (b = 31 → y < 76) → ¬ ((b = 82 ∧ y = i) ∨ (b = 61 ∧ y = s) ∨ (b = 59 ∧ y = s) ∨ (b = 48 ∧ y = s) ∨ (b = 58 ∧ y = s) ∨ (b = 60 ∧ y = s) ∨ (b = 85 ∧ y = (nN ρ)) ∨ (b = 84 ∧ y = i) ∨ (b = 83 ∧ y = i) ∨ (b = 31 ∧ y = 74)) → zI F b y = ρ b y := fun b y a1 a2 a3 a4 a5 => ro b y ⟨a1, a2, a3, a4, a5⟩
  have NF := xF.1
  have qm : ∀ y, maF F y = maF M y := fun y => by
    unfold maF
    rw [A2 12 y (by omega) (by omega)]
  have ql : ∀ y, laF F y = laF M y := fun y => by
    unfold laF
    rw [A2 13 y (by omega) (by omega)]
  have dT : dyF (ρ 31 1 / 24) = (ρ 31 1 / 24) := by
    obtain ⟨u1, u2⟩ := dv24 b8
    unfold dyF
    rw [u1, if_neg]
    rw [i_eq, nI_toInt (by omega), show (-1 : Int32).toInt = -1 from by decide]
    omega
  have tp : TkC M F ρ s i 2 (ρ 31 1 / 24) 1 v (nI (nN ρ)) := by
    show TkC2 M F (saF M s) (aaF M i) 2 (dyF (ρ 31 1 / 24)) (dyF (bdF ρ s i)) 1 v (nI (nN ρ))
    rw [dT]
    exact tc.cg (fun k => CF _ _ (by omega) (by omega)) (fun k => CF _ _ (by omega) (by omega)) (fun k => A3 _ _ (by omega)) (fun k => A3 _ _ (by omega))
  refine IV.takeF (Pl := (fun _ => False)) (Pm := (fun _ => False)) hI rM hi hs hw hsF xF hjF tr tp (Or.inl ⟨rfl, rfl, rfl⟩) ?_ ?_ ?_ ?_ ?_ ?_
  · have eN : nN (rf F) = nN ρ + 1 := by
      show tN (rf F 31 74) = _
      rw [rf_z (by decide) (by decide), rv1]
      exact nI_clamp (by omega)
    unfold RIs nM nL nS nA nT tL
    rw [eN]
    simp (disch := omega) only [rf_z, ro', rv0, rv1]
    exact ⟨b1, b2, b3, b4, b5, ⟨rfl, by omega⟩, b7, b8⟩
  · exact fun _ _ z => z.elim
  · exact fun _ _ z => z.elim
  · exact fun _ z => z.elim
  · unfold CRs
    simp (disch := omega) only [rf_z, ro', rv0, rv1, CF, co, cv0, cv1, s1, s2, s3, s4, s5, s6, s7, s8, s9, s10, s11, true_implies, false_implies, implies_true, not_true_eq_false, not_false_eq_true, and_true, true_and, Option.some.injEq, reduceCtorEq, forall_eq', forall_eq]
  · have eN : nN (rf F) = nN ρ + 1 := by
      show tN (rf F 31 74) = _
      rw [rf_z (by decide) (by decide), rv1]
      exact nI_clamp (by omega)
    have eT : tL (rf F) = tL ρ := by
      unfold tL
      simp (disch := omega) only [rf_z, ro', rv0, rv1]
    refine ⟨fun k hk => ?_, fun k hk => ?_⟩
    · rw [eN] at hk
      by_cases z : k = nN ρ
      · rw [z]
        simp (disch := omega) only [rf_z, ro', rv0, rv1, CF, co, cv0, cv1]
      · simp (disch := omega) only [rf_z, ro', rv0, rv1, CF, co, cv0, cv1]
        exact hc.n.1 k (by omega)
    · rw [eT] at hk
      simp (disch := omega) only [rf_z, ro', rv0, rv1, CF, co, cv0, cv1]
      exact hc.n.2 k hk
theorem tkF_lot (hI : IV g L X t M) (rM : rf M = ρ) (hi : i < nA ρ) (hs : s = as_ ρ i) (hm : m = smo ρ s) (hw : ρ 82 i = 0) (hf : fsL ρ m j) (eC : C = (sI (sI (sI (sA (sI (sI (sI M (laF M j) 2 (ρ 47 j - 1)) (saF M s) 11 2) (saF M s) 12 (ρ 31 1 / 24)) (saF M s) 18 (some (aaF M i))) (saF M s) 17 1) (aaF M i) 13 1) (saF M s) 13 (dyF (bdF ρ s i)))) (hS2 : Stat M2) (hx2 : EqX C M2 (fun b j => b = 72 ∨ b = 73 ∨ (b = 31 ∧ 76 ≤ j ∧ j ≤ 78)) (fun _ _ => False)) (hj2 : ∀ y, zJ M2 86 y = zJ M 86 y) : IV g L X (t + 1) (sI (sI (sI (sI (sI (sI (sI M2 82 i 1) 61 s (nI i)) 59 s (bdF ρ s i)) 48 s 2) 58 s (ρ 31 1 / 24)) 60 s 1) 47 j (ρ 47 j - 1)) := by
  have hr := hI.r rM
  have hc := hI.c rM
  have hS := hI.st
  have h88 := hS.N
  obtain ⟨s1, s2, s3, s4, s5, s6, s7, s8, s9, s10, s11⟩ := hc.s
  obtain ⟨b1, b2, b3, b4, b5, b6, b7, b8⟩ := hr.s
  obtain ⟨e1, e2, e3, e4, e5, e6, e7, e8, e9, e10, e11, e12, e13, e14, e15, e16, e17, e18, e19, e20⟩ := hc.a hi
  obtain ⟨f1, f2, f3, f4, f5, f6, f7, f8, f9, f10, f11⟩ := hr.a hi
  rw [← hs] at f2 e5 f1
  obtain ⟨c1, c2, c3, c4, c5, c6, c7, c8, c9, c10, c11, c12, c13, c14, c15, c16, c17, c18, c19, c20, c21, c22, c23⟩ := hc.sa f2
  obtain ⟨d1, d2, d3, d4, d5, d6, d7, d8, d9, d10, d11, d12, d13, d14, d15, d16, d17, d18, d19⟩ := hr.sa f2
  have lr := hr.l d2
  have hm' : m < nM ρ := by rw [hm]; exact lr.2.1
  obtain ⟨m1, m2, m3, m4, m5, m6, m7, m8, m9, m10, m11, m12⟩ := hc.m hm'
  have m4' := m4
  obtain ⟨p1, p2, p3, p4, p5, p6, p7, p8, p9⟩ := m4
  obtain ⟨r1, r2, r3, r4, r5, r6⟩ := hr.m hm'
  have n1 : saF M s ≠ aaF M i := kne c4 e4 (by decide)
  have n2 : saF M s ≠ maF M m := kne c4 p1 (by decide)
  have n3 : aaF M i ≠ maF M m := kne e4 p1 (by decide)
  have n4 : maF M m + 1 ≠ saF M s := kne p6 c4 (by decide)
  have n5 : maF M m + 2 ≠ saF M s := kne p8 c4 (by decide)
  have n6 : maF M m + 1 ≠ aaF M i := kne p6 e4 (by decide)
  have n7 : maF M m + 2 ≠ aaF M i := kne p8 e4 (by decide)
  have e88s := c2
  have e88a := e2
  have hj' : j < nL ρ := hf.1
  obtain ⟨l1, l2, l3, l4, l5, l6, l7⟩ := hc.l hj'
  obtain ⟨k1, k2, k3⟩ := hr.l hj'
  have nq1 : saF M s ≠ laF M j := kne c4 l4 (by decide)
  have nq2 : aaF M i ≠ laF M j := kne e4 l4 (by decide)
  have e88q := l2
  obtain ⟨tc, co, ca, cv0⟩ := tkC_lot (M := M) (S := saF M s) (A := aaF M i) (Q := (laF M j)) (n := 0) (bo := (ρ 31 1 / 24)) (bd := dyF (bdF ρ s i)) (ih := 1) (pd := (ρ 83 i)) (nt := (ρ 84 i)) (tt := (ρ 31 1 / 24)) (v0 := (ρ 47 j - 1)) n1 e88s e88a nq1 nq2 e88q e19 e20
  have xC : EqX M C (W0 M ρ (· = s) (· = i) (· = j) (fun _ => False)) (WA0 M ρ (· = s)) := by
    rw [eC]
    exact (((((((EqX.rfl.wi (W0.l (Ps := (· = s)) (Pa := (· = i)) (Pl := (· = j)) (Pm := (fun _ => False)) rfl hj')).wi (W0.s (Ps := (· = s)) (Pa := (· = i)) (Pl := (· = j)) (Pm := (fun _ => False)) rfl f2)).wi (W0.s (Ps := (· = s)) (Pa := (· = i)) (Pl := (· = j)) (Pm := (fun _ => False)) rfl f2)).wa (Or.inl ⟨by decide, s, rfl, f2, rfl⟩)).wi (W0.s (Ps := (· = s)) (Pa := (· = i)) (Pl := (· = j)) (Pm := (fun _ => False)) rfl f2)).wi (W0.a (Ps := (· = s)) (Pa := (· = i)) (Pl := (· = j)) (Pm := (fun _ => False)) rfl hi)).wi (W0.s (Ps := (· = s)) (Pa := (· = i)) (Pl := (· = j)) (Pm := (fun _ => False)) rfl f2))
  have zNC : zN C = zN M := by rw [eC]; rfl
  have zKC : ∀ b, zK C b = zK M b ∧ zL C b = zL M b := fun b => by rw [eC]; exact ⟨rfl, rfl⟩
  rw [← eC] at tc co ca cv0
  clear eC
  have R2 : ∀ b y, TwR b y → zI M2 b y = ρ b y := by
    intro b y ⟨g1, g2, g3, g4, g5⟩
    rw [hx2.2.2.1 b y (by omega) (by omega), co b y (by omega)]
    exact rfz rM g1 g2
  obtain ⟨tr, ro, rc, rv0⟩ := tkR_lot (M2 := M2) (ρ := ρ) (s := s) (i := i) (q := j) (n := 0) (bo := (ρ 31 1 / 24)) (bd := bdF ρ s i) (ih := 1) (pd := (ρ 83 i)) (nt := (ρ 84 i)) (tt := (ρ 31 1 / 24)) (v0 := (ρ 47 j - 1)) R2 rfl rfl rfl
  have hsF : Stat (sI (sI (sI (sI (sI (sI (sI M2 82 i 1) 61 s (nI i)) 59 s (bdF ρ s i)) 48 s 2) 58 s (ρ 31 1 / 24)) 60 s 1) 47 j (ρ 47 j - 1)) := hS2.wI.wI.wI.wI.wI.wI.wI
  have xF : EqX M (sI (sI (sI (sI (sI (sI (sI M2 82 i 1) 61 s (nI i)) 59 s (bdF ρ s i)) 48 s 2) 58 s (ρ 31 1 / 24)) 60 s 1) 47 j (ρ 47 j - 1)) (W0 M ρ (· = s) (· = i) (· = j) (fun _ => False)) (WA0 M ρ (· = s)) := ((((((((xC.trans (hx2.mono (fun b j h => Or.inl (by unfold WS; omega)) (fun _ _ h => h.elim))).wi (W0.ra (Ps := (· = s)) (Pa := (· = i)) (Pl := (· = j)) (Pm := (fun _ => False)) (by decide) (by decide) (by decide) rfl)).wi (W0.rs (Ps := (· = s)) (Pa := (· = i)) (Pl := (· = j)) (Pm := (fun _ => False)) (by decide) (by decide) (by decide) rfl)).wi (W0.rs (Ps := (· = s)) (Pa := (· = i)) (Pl := (· = j)) (Pm := (fun _ => False)) (by decide) (by decide) (by decide) rfl)).wi (W0.rs (Ps := (· = s)) (Pa := (· = i)) (Pl := (· = j)) (Pm := (fun _ => False)) (by decide) (by decide) (by decide) rfl)).wi (W0.rs (Ps := (· = s)) (Pa := (· = i)) (Pl := (· = j)) (Pm := (fun _ => False)) (by decide) (by decide) (by decide) rfl)).wi (W0.rs (Ps := (· = s)) (Pa := (· = i)) (Pl := (· = j)) (Pm := (fun _ => False)) (by decide) (by decide) (by decide) rfl)).wi (W0.rl (Ps := (· = s)) (Pa := (· = i)) (Pl := (· = j)) (Pm := (fun _ => False)) rfl))
  have hjF : ∀ y, zJ (sI (sI (sI (sI (sI (sI (sI M2 82 i 1) 61 s (nI i)) 59 s (bdF ρ s i)) 48 s 2) 58 s (ρ 31 1 / 24)) 60 s 1) 47 j (ρ 47 j - 1)) 86 y = zJ M 86 y := fun y => by
    simp only [zJ_sI]
    exact hj2 y
  have AF : ∀ b y, zA (sI (sI (sI (sI (sI (sI (sI M2 82 i 1) 61 s (nI i)) 59 s (bdF ρ s i)) 48 s 2) 58 s (ρ 31 1 / 24)) 60 s 1) 47 j (ρ 47 j - 1)) b y = zA M2 b y := fun b y => by simp only [zA_sI]
  have KF : ∀ b, zK (sI (sI (sI (sI (sI (sI (sI M2 82 i 1) 61 s (nI i)) 59 s (bdF ρ s i)) 48 s 2) 58 s (ρ 31 1 / 24)) 60 s 1) 47 j (ρ 47 j - 1)) b = zK M2 b ∧ zL (sI (sI (sI (sI (sI (sI (sI M2 82 i 1) 61 s (nI i)) 59 s (bdF ρ s i)) 48 s 2) 58 s (ρ 31 1 / 24)) 60 s 1) 47 j (ρ 47 j - 1)) b = zL M2 b := fun b => ⟨rfl, rfl⟩
  obtain ⟨F, eF⟩ : ∃ F, F = (sI (sI (sI (sI (sI (sI (sI M2 82 i 1) 61 s (nI i)) 59 s (bdF ρ s i)) 48 s 2) 58 s (ρ 31 1 / 24)) 60 s 1) 47 j (ρ 47 j - 1)) := ⟨_, rfl⟩
  rw [← eF] at tr ro rc hsF xF hjF AF KF rv0 ⊢
  clear eF
  have CF : ∀ b y, b < zN M → ¬ (31 ≤ b ∧ b < 88) → zI F b y = zI C b y := fun b y g1 g2 => by rw [rc b y g2, hx2.2.2.1 b y (by omega) (by omega)]
  have A2 : ∀ b y, b < zN M → ¬ (b = saF M s ∧ y = 18) → zA F b y = zA M b y := fun b y g1 g2 => by rw [AF, hx2.2.2.2.1 b y (by omega) (fun z => z), ca b y g2]
  have A3 : ∀ b y, b < zN M → zA F b y = zA C b y := fun b y g1 => by rw [AF, hx2.2.2.2.1 b y (by omega) (fun z => z)]
  have K2 : ∀ b, b < zN M → zK F b = zK M b := fun b g1 => by rw [(KF b).1, (hx2.2.1 b (by omega)).1, (zKC b).1]
  have L2 : ∀ b, b < zN M → zL F b = zL M b := fun b g1 => by rw [(KF b).2, (hx2.2.1 b (by omega)).2, (zKC b).2]
  have ro' : ∀ b y, 31 ≤ b → b < 88 → b ≠ 72 → b ≠ 73 → (b = 31 → y < 76) → ¬ ((b = 82 ∧ y = i) ∨ (b = 61 ∧ y = s) ∨ (b = 59 ∧ y = s) ∨ (b = 48 ∧ y = s) ∨ (b = 58 ∧ y = s) ∨ (b = 60 ∧ y = s) ∨ (b = 47 ∧ y = j)) → zI F b y = ρ b y := fun b y a1 a2 a3 a4 a5 => ro b y ⟨a1, a2, a3, a4, a5⟩
  have NF := xF.1
  have qm : ∀ y, maF F y = maF M y := fun y => by
    unfold maF
    rw [A2 12 y (by omega) (by omega)]
  have ql : ∀ y, laF F y = laF M y := fun y => by
    unfold laF
    rw [A2 13 y (by omega) (by omega)]
  have dT : dyF (ρ 31 1 / 24) = (ρ 31 1 / 24) := by
    obtain ⟨u1, u2⟩ := dv24 b8
    unfold dyF
    rw [u1, if_neg]
    rw [i_eq, nI_toInt (by omega), show (-1 : Int32).toInt = -1 from by decide]
    omega
  have tp : TkC M F ρ s i 2 (ρ 31 1 / 24) 1 (ρ 83 i) (ρ 84 i) := by
    show TkC2 M F (saF M s) (aaF M i) 2 (dyF (ρ 31 1 / 24)) (dyF (bdF ρ s i)) 1 (ρ 83 i) (ρ 84 i)
    rw [dT]
    exact tc.cg (fun k => CF _ _ (by omega) (by omega)) (fun k => CF _ _ (by omega) (by omega)) (fun k => A3 _ _ (by omega)) (fun k => A3 _ _ (by omega))
  refine IV.takeF (Pl := (· = j)) (Pm := (fun _ => False)) hI rM hi hs hw hsF xF hjF tr tp (Or.inl ⟨rfl, rfl, rfl⟩) ?_ ?_ ?_ ?_ ?_ ?_
  · refine hr.s.cg2 fun y hy => ?_
    simp (disch := omega) only [rf_z, ro', rv0]
  · exact fun _ _ z => z.elim
  · intro q hq z
    subst z
    have lo1 : rng (ρ 47 q - 1) 0 99 := by
      obtain ⟨x1, x2, x3⟩ := rng_of k3 (by decide)
      obtain ⟨w, hw⟩ : ∃ w, w = tN (ρ 47 q) := ⟨_, rfl⟩
      rw [← hw] at x1 x2 x3
      have w0 : w ≠ 0 := fun z => hf.2.1.2 (by rw [x1, z]; rfl)
      rw [x1, show (1 : Int32) = nI 1 from rfl, pk_sub (by omega)]
      exact ⟨by rw [nI_toInt (by omega)]; omega, by rw [nI_toInt (by omega)]; omega⟩
    constructor
    · unfold RIl lm nM
      simp (disch := omega) only [rf_z, ro', rv0]
      exact ⟨k1, k2, lo1⟩
    · unfold CRl lm
      rw [ql, qm]
      simp (disch := omega) only [rf_z, ro', rv0, CF, co, cv0, A2, K2, L2, true_implies, false_implies, implies_true, not_true_eq_false, not_false_eq_true, and_true, true_and, Option.some.injEq, reduceCtorEq, forall_eq', forall_eq]
      exact ⟨l1, l2, by omega, l4, l5, l6⟩
  · exact fun _ z => z.elim
  · unfold CRs
    simp (disch := omega) only [rf_z, ro', rv0, CF, co, cv0, s1, s2, s3, s4, s5, s6, s7, s8, s9, s10, s11, true_implies, false_implies, implies_true, not_true_eq_false, not_false_eq_true, and_true, true_and, Option.some.injEq, reduceCtorEq, forall_eq', forall_eq]
  · refine hc.n.cg ?_ ?_ (fun k => ?_) (fun k => ?_) (fun k => ?_) (fun k => ?_)
    · unfold nN
      simp (disch := omega) only [rf_z, ro', rv0]
    · unfold tL
      simp (disch := omega) only [rf_z, ro', rv0]
    all_goals simp (disch := omega) only [rf_z, ro', rv0, CF, co, cv0]
theorem tkF_loose (hI : IV g L X t M) (rM : rf M = ρ) (hi : i < nA ρ) (hs : s = as_ ρ i) (hm : m = smo ρ s) (hw : ρ 82 i = 0) (hl : ¬ ρ 38 m = 0) (eC : C = (sI (sI (sI (sA (sI (sI (sI M (maF M m) 7 (ρ 38 m - 1)) (saF M s) 11 2) (saF M s) 12 (ρ 31 1 / 24)) (saF M s) 18 (some (aaF M i))) (saF M s) 17 1) (aaF M i) 13 1) (saF M s) 13 (dyF (bdF ρ s i)))) (hS2 : Stat M2) (hx2 : EqX C M2 (fun b j => b = 72 ∨ b = 73 ∨ (b = 31 ∧ 76 ≤ j ∧ j ≤ 78)) (fun _ _ => False)) (hj2 : ∀ y, zJ M2 86 y = zJ M 86 y) : IV g L X (t + 1) (sI (sI (sI (sI (sI (sI (sI M2 82 i 1) 61 s (nI i)) 59 s (bdF ρ s i)) 48 s 2) 58 s (ρ 31 1 / 24)) 60 s 1) 38 m (ρ 38 m - 1)) := by
  have hr := hI.r rM
  have hc := hI.c rM
  have hS := hI.st
  have h88 := hS.N
  obtain ⟨s1, s2, s3, s4, s5, s6, s7, s8, s9, s10, s11⟩ := hc.s
  obtain ⟨b1, b2, b3, b4, b5, b6, b7, b8⟩ := hr.s
  obtain ⟨e1, e2, e3, e4, e5, e6, e7, e8, e9, e10, e11, e12, e13, e14, e15, e16, e17, e18, e19, e20⟩ := hc.a hi
  obtain ⟨f1, f2, f3, f4, f5, f6, f7, f8, f9, f10, f11⟩ := hr.a hi
  rw [← hs] at f2 e5 f1
  obtain ⟨c1, c2, c3, c4, c5, c6, c7, c8, c9, c10, c11, c12, c13, c14, c15, c16, c17, c18, c19, c20, c21, c22, c23⟩ := hc.sa f2
  obtain ⟨d1, d2, d3, d4, d5, d6, d7, d8, d9, d10, d11, d12, d13, d14, d15, d16, d17, d18, d19⟩ := hr.sa f2
  have lr := hr.l d2
  have hm' : m < nM ρ := by rw [hm]; exact lr.2.1
  obtain ⟨m1, m2, m3, m4, m5, m6, m7, m8, m9, m10, m11, m12⟩ := hc.m hm'
  have m4' := m4
  obtain ⟨p1, p2, p3, p4, p5, p6, p7, p8, p9⟩ := m4
  obtain ⟨r1, r2, r3, r4, r5, r6⟩ := hr.m hm'
  have n1 : saF M s ≠ aaF M i := kne c4 e4 (by decide)
  have n2 : saF M s ≠ maF M m := kne c4 p1 (by decide)
  have n3 : aaF M i ≠ maF M m := kne e4 p1 (by decide)
  have n4 : maF M m + 1 ≠ saF M s := kne p6 c4 (by decide)
  have n5 : maF M m + 2 ≠ saF M s := kne p8 c4 (by decide)
  have n6 : maF M m + 1 ≠ aaF M i := kne p6 e4 (by decide)
  have n7 : maF M m + 2 ≠ aaF M i := kne p8 e4 (by decide)
  have e88s := c2
  have e88a := e2
  have nq1 := n2
  have nq2 := n3
  have e88q := m2
  obtain ⟨tc, co, ca, cv0⟩ := tkC_loose (M := M) (S := saF M s) (A := aaF M i) (Q := (maF M m)) (n := 0) (bo := (ρ 31 1 / 24)) (bd := dyF (bdF ρ s i)) (ih := 1) (pd := (ρ 83 i)) (nt := (ρ 84 i)) (tt := (ρ 31 1 / 24)) (v0 := (ρ 38 m - 1)) n1 e88s e88a nq1 nq2 e88q e19 e20
  have xC : EqX M C (W0 M ρ (· = s) (· = i) (fun _ => False) (· = m)) (WA0 M ρ (· = s)) := by
    rw [eC]
    exact (((((((EqX.rfl.wi (W0.m (Ps := (· = s)) (Pa := (· = i)) (Pl := (fun _ => False)) (Pm := (· = m)) rfl hm' (by decide))).wi (W0.s (Ps := (· = s)) (Pa := (· = i)) (Pl := (fun _ => False)) (Pm := (· = m)) rfl f2)).wi (W0.s (Ps := (· = s)) (Pa := (· = i)) (Pl := (fun _ => False)) (Pm := (· = m)) rfl f2)).wa (Or.inl ⟨by decide, s, rfl, f2, rfl⟩)).wi (W0.s (Ps := (· = s)) (Pa := (· = i)) (Pl := (fun _ => False)) (Pm := (· = m)) rfl f2)).wi (W0.a (Ps := (· = s)) (Pa := (· = i)) (Pl := (fun _ => False)) (Pm := (· = m)) rfl hi)).wi (W0.s (Ps := (· = s)) (Pa := (· = i)) (Pl := (fun _ => False)) (Pm := (· = m)) rfl f2))
  have zNC : zN C = zN M := by rw [eC]; rfl
  have zKC : ∀ b, zK C b = zK M b ∧ zL C b = zL M b := fun b => by rw [eC]; exact ⟨rfl, rfl⟩
  rw [← eC] at tc co ca cv0
  clear eC
  have R2 : ∀ b y, TwR b y → zI M2 b y = ρ b y := by
    intro b y ⟨g1, g2, g3, g4, g5⟩
    rw [hx2.2.2.1 b y (by omega) (by omega), co b y (by omega)]
    exact rfz rM g1 g2
  obtain ⟨tr, ro, rc, rv0⟩ := tkR_loose (M2 := M2) (ρ := ρ) (s := s) (i := i) (q := m) (n := 0) (bo := (ρ 31 1 / 24)) (bd := bdF ρ s i) (ih := 1) (pd := (ρ 83 i)) (nt := (ρ 84 i)) (tt := (ρ 31 1 / 24)) (v0 := (ρ 38 m - 1)) R2 rfl rfl rfl
  have hsF : Stat (sI (sI (sI (sI (sI (sI (sI M2 82 i 1) 61 s (nI i)) 59 s (bdF ρ s i)) 48 s 2) 58 s (ρ 31 1 / 24)) 60 s 1) 38 m (ρ 38 m - 1)) := hS2.wI.wI.wI.wI.wI.wI.wI
  have xF : EqX M (sI (sI (sI (sI (sI (sI (sI M2 82 i 1) 61 s (nI i)) 59 s (bdF ρ s i)) 48 s 2) 58 s (ρ 31 1 / 24)) 60 s 1) 38 m (ρ 38 m - 1)) (W0 M ρ (· = s) (· = i) (fun _ => False) (· = m)) (WA0 M ρ (· = s)) := ((((((((xC.trans (hx2.mono (fun b j h => Or.inl (by unfold WS; omega)) (fun _ _ h => h.elim))).wi (W0.ra (Ps := (· = s)) (Pa := (· = i)) (Pl := (fun _ => False)) (Pm := (· = m)) (by decide) (by decide) (by decide) rfl)).wi (W0.rs (Ps := (· = s)) (Pa := (· = i)) (Pl := (fun _ => False)) (Pm := (· = m)) (by decide) (by decide) (by decide) rfl)).wi (W0.rs (Ps := (· = s)) (Pa := (· = i)) (Pl := (fun _ => False)) (Pm := (· = m)) (by decide) (by decide) (by decide) rfl)).wi (W0.rs (Ps := (· = s)) (Pa := (· = i)) (Pl := (fun _ => False)) (Pm := (· = m)) (by decide) (by decide) (by decide) rfl)).wi (W0.rs (Ps := (· = s)) (Pa := (· = i)) (Pl := (fun _ => False)) (Pm := (· = m)) (by decide) (by decide) (by decide) rfl)).wi (W0.rs (Ps := (· = s)) (Pa := (· = i)) (Pl := (fun _ => False)) (Pm := (· = m)) (by decide) (by decide) (by decide) rfl)).wi (W0.rm (Ps := (· = s)) (Pa := (· = i)) (Pl := (fun _ => False)) (Pm := (· = m)) (by decide) (by decide) (by decide) (by decide) rfl))
  have hjF : ∀ y, zJ (sI (sI (sI (sI (sI (sI (sI M2 82 i 1) 61 s (nI i)) 59 s (bdF ρ s i)) 48 s 2) 58 s (ρ 31 1 / 24)) 60 s 1) 38 m (ρ 38 m - 1)) 86 y = zJ M 86 y := fun y => by
    simp only [zJ_sI]
    exact hj2 y
  have AF : ∀ b y, zA (sI (sI (sI (sI (sI (sI (sI M2 82 i 1) 61 s (nI i)) 59 s (bdF ρ s i)) 48 s 2) 58 s (ρ 31 1 / 24)) 60 s 1) 38 m (ρ 38 m - 1)) b y = zA M2 b y := fun b y => by simp only [zA_sI]
  have KF : ∀ b, zK (sI (sI (sI (sI (sI (sI (sI M2 82 i 1) 61 s (nI i)) 59 s (bdF ρ s i)) 48 s 2) 58 s (ρ 31 1 / 24)) 60 s 1) 38 m (ρ 38 m - 1)) b = zK M2 b ∧ zL (sI (sI (sI (sI (sI (sI (sI M2 82 i 1) 61 s (nI i)) 59 s (bdF ρ s i)) 48 s 2) 58 s (ρ 31 1 / 24)) 60 s 1) 38 m (ρ 38 m - 1)) b = zL M2 b := fun b => ⟨rfl, rfl⟩
  obtain ⟨F, eF⟩ : ∃ F, F = (sI (sI (sI (sI (sI (sI (sI M2 82 i 1) 61 s (nI i)) 59 s (bdF ρ s i)) 48 s 2) 58 s (ρ 31 1 / 24)) 60 s 1) 38 m (ρ 38 m - 1)) := ⟨_, rfl⟩
  rw [← eF] at tr ro rc hsF xF hjF AF KF rv0 ⊢
  clear eF
  have CF : ∀ b y, b < zN M → ¬ (31 ≤ b ∧ b < 88) → zI F b y = zI C b y := fun b y g1 g2 => by rw [rc b y g2, hx2.2.2.1 b y (by omega) (by omega)]
  have A2 : ∀ b y, b < zN M → ¬ (b = saF M s ∧ y = 18) → zA F b y = zA M b y := fun b y g1 g2 => by rw [AF, hx2.2.2.2.1 b y (by omega) (fun z => z), ca b y g2]
  have A3 : ∀ b y, b < zN M → zA F b y = zA C b y := fun b y g1 => by rw [AF, hx2.2.2.2.1 b y (by omega) (fun z => z)]
  have K2 : ∀ b, b < zN M → zK F b = zK M b := fun b g1 => by rw [(KF b).1, (hx2.2.1 b (by omega)).1, (zKC b).1]
  have L2 : ∀ b, b < zN M → zL F b = zL M b := fun b g1 => by rw [(KF b).2, (hx2.2.1 b (by omega)).2, (zKC b).2]
  have ro' : ∀ b y, 31 ≤ b → b < 88 → b ≠ 72 → b ≠ 73 → (b = 31 → y < 76) → ¬ ((b = 82 ∧ y = i) ∨ (b = 61 ∧ y = s) ∨ (b = 59 ∧ y = s) ∨ (b = 48 ∧ y = s) ∨ (b = 58 ∧ y = s) ∨ (b = 60 ∧ y = s) ∨ (b = 38 ∧ y = m)) → zI F b y = ρ b y := fun b y a1 a2 a3 a4 a5 => ro b y ⟨a1, a2, a3, a4, a5⟩
  have NF := xF.1
  have qm : ∀ y, maF F y = maF M y := fun y => by
    unfold maF
    rw [A2 12 y (by omega) (by omega)]
  have ql : ∀ y, laF F y = laF M y := fun y => by
    unfold laF
    rw [A2 13 y (by omega) (by omega)]
  have dT : dyF (ρ 31 1 / 24) = (ρ 31 1 / 24) := by
    obtain ⟨u1, u2⟩ := dv24 b8
    unfold dyF
    rw [u1, if_neg]
    rw [i_eq, nI_toInt (by omega), show (-1 : Int32).toInt = -1 from by decide]
    omega
  have tp : TkC M F ρ s i 2 (ρ 31 1 / 24) 1 (ρ 83 i) (ρ 84 i) := by
    show TkC2 M F (saF M s) (aaF M i) 2 (dyF (ρ 31 1 / 24)) (dyF (bdF ρ s i)) 1 (ρ 83 i) (ρ 84 i)
    rw [dT]
    exact tc.cg (fun k => CF _ _ (by omega) (by omega)) (fun k => CF _ _ (by omega) (by omega)) (fun k => A3 _ _ (by omega)) (fun k => A3 _ _ (by omega))
  refine IV.takeF (Pl := (fun _ => False)) (Pm := (· = m)) hI rM hi hs hw hsF xF hjF tr tp (Or.inl ⟨rfl, rfl, rfl⟩) ?_ ?_ ?_ ?_ ?_ ?_
  · refine hr.s.cg2 fun y hy => ?_
    simp (disch := omega) only [rf_z, ro', rv0]
  · intro q hq z
    subst z
    have lo1 : 0 ≤ (ρ 38 q - 1).toInt ∧ (ρ 38 q - 1).toInt ≤ (t + 1 : Nat) := by
      obtain ⟨x1, x2, x3⟩ := nn_of r5.1
      have x4 := r5.2
      obtain ⟨w, hw⟩ : ∃ w, w = tN (ρ 38 q) := ⟨_, rfl⟩
      rw [← hw] at x1 x2 x3
      have w0 : w ≠ 0 := fun z => hl (by rw [x1, z]; rfl)
      rw [x1, show (1 : Int32) = nI 1 from rfl, pk_sub (by omega), nI_toInt (by omega)]
      omega
    constructor
    · unfold RIm
      simp (disch := omega) only [rf_z, ro', rv0]
      exact ⟨r1, r2, r3, r4, lo1, r6⟩
    · unfold CRm MdlP
      rw [qm]
      simp (disch := omega) only [rf_z, ro', rv0, CF, co, cv0, A2, K2, L2, true_implies, false_implies, implies_true, not_true_eq_false, not_false_eq_true, and_true, true_and, Option.some.injEq, reduceCtorEq, forall_eq', forall_eq]
      exact ⟨m1, m2, by omega, m4', m5, m6, m7, m8, m10, m11, m12⟩
  · exact fun _ _ z => z.elim
  · exact fun q z => by rw [z]; exact hm'
  · unfold CRs
    simp (disch := omega) only [rf_z, ro', rv0, CF, co, cv0, s1, s2, s3, s4, s5, s6, s7, s8, s9, s10, s11, true_implies, false_implies, implies_true, not_true_eq_false, not_false_eq_true, and_true, true_and, Option.some.injEq, reduceCtorEq, forall_eq', forall_eq]
  · refine hc.n.cg ?_ ?_ (fun k => ?_) (fun k => ?_) (fun k => ?_) (fun k => ?_)
    · unfold nN
      simp (disch := omega) only [rf_z, ro', rv0]
    · unfold tL
      simp (disch := omega) only [rf_z, ro', rv0]
    all_goals simp (disch := omega) only [rf_z, ro', rv0, CF, co, cv0]
theorem tkF_coins (hI : IV g L X t M) (rM : rf M = ρ) (hi : i < nA ρ) (hs : s = as_ ρ i) (hm : m = smo ρ s) (hw : ρ 82 i = 0) (eC : C = (sI (sI (sI (sA (sI (sI (sI (sI (sI M 17 2 (ρ 31 2 - v)) 17 3 (ρ 31 72 + v)) (aaF M i) 14 v) (saF M s) 11 2) (saF M s) 12 (ρ 31 1 / 24)) (saF M s) 18 (some (aaF M i))) (saF M s) 17 1) (aaF M i) 13 1) (saF M s) 13 (dyF (bdF ρ s i)))) (hS2 : Stat M2) (hx2 : EqX C M2 (fun b j => b = 72 ∨ b = 73 ∨ (b = 31 ∧ 76 ≤ j ∧ j ≤ 78)) (fun _ _ => False)) (hj2 : ∀ y, zJ M2 86 y = zJ M 86 y) : IV g L X (t + 1) (sI (sI (sI (sI (sI (sI (sI (sI (sI M2 82 i 1) 61 s (nI i)) 59 s (bdF ρ s i)) 48 s 2) 58 s (ρ 31 1 / 24)) 60 s 1) 31 2 (ρ 31 2 - v)) 31 72 (ρ 31 72 + v)) 83 i v) := by
  have hr := hI.r rM
  have hc := hI.c rM
  have hS := hI.st
  have h88 := hS.N
  obtain ⟨s1, s2, s3, s4, s5, s6, s7, s8, s9, s10, s11⟩ := hc.s
  obtain ⟨b1, b2, b3, b4, b5, b6, b7, b8⟩ := hr.s
  obtain ⟨e1, e2, e3, e4, e5, e6, e7, e8, e9, e10, e11, e12, e13, e14, e15, e16, e17, e18, e19, e20⟩ := hc.a hi
  obtain ⟨f1, f2, f3, f4, f5, f6, f7, f8, f9, f10, f11⟩ := hr.a hi
  rw [← hs] at f2 e5 f1
  obtain ⟨c1, c2, c3, c4, c5, c6, c7, c8, c9, c10, c11, c12, c13, c14, c15, c16, c17, c18, c19, c20, c21, c22, c23⟩ := hc.sa f2
  obtain ⟨d1, d2, d3, d4, d5, d6, d7, d8, d9, d10, d11, d12, d13, d14, d15, d16, d17, d18, d19⟩ := hr.sa f2
  have lr := hr.l d2
  have hm' : m < nM ρ := by rw [hm]; exact lr.2.1
  obtain ⟨m1, m2, m3, m4, m5, m6, m7, m8, m9, m10, m11, m12⟩ := hc.m hm'
  have m4' := m4
  obtain ⟨p1, p2, p3, p4, p5, p6, p7, p8, p9⟩ := m4
  obtain ⟨r1, r2, r3, r4, r5, r6⟩ := hr.m hm'
  have n1 : saF M s ≠ aaF M i := kne c4 e4 (by decide)
  have n2 : saF M s ≠ maF M m := kne c4 p1 (by decide)
  have n3 : aaF M i ≠ maF M m := kne e4 p1 (by decide)
  have n4 : maF M m + 1 ≠ saF M s := kne p6 c4 (by decide)
  have n5 : maF M m + 2 ≠ saF M s := kne p8 c4 (by decide)
  have n6 : maF M m + 1 ≠ aaF M i := kne p6 e4 (by decide)
  have n7 : maF M m + 2 ≠ aaF M i := kne p8 e4 (by decide)
  have e88s := c2
  have e88a := e2
  obtain ⟨tc, co, ca, cv0, cv1⟩ := tkC_coins (M := M) (S := saF M s) (A := aaF M i) (Q := 0) (n := 0) (bo := (ρ 31 1 / 24)) (bd := dyF (bdF ρ s i)) (ih := 1) (pd := v) (nt := (ρ 84 i)) (tt := (ρ 31 1 / 24)) (v0 := (ρ 31 2 - v)) (v1 := (ρ 31 72 + v)) n1 e88s e88a e20
  have xC : EqX M C (W0 M ρ (· = s) (· = i) (fun _ => False) (fun _ => False)) (WA0 M ρ (· = s)) := by
    rw [eC]
    exact (((((((((EqX.rfl.wi (W0.p (Ps := (· = s)) (Pa := (· = i)) (Pl := (fun _ => False)) (Pm := (fun _ => False)) (by decide))).wi (W0.p (Ps := (· = s)) (Pa := (· = i)) (Pl := (fun _ => False)) (Pm := (fun _ => False)) (by decide))).wi (W0.a (Ps := (· = s)) (Pa := (· = i)) (Pl := (fun _ => False)) (Pm := (fun _ => False)) rfl hi)).wi (W0.s (Ps := (· = s)) (Pa := (· = i)) (Pl := (fun _ => False)) (Pm := (fun _ => False)) rfl f2)).wi (W0.s (Ps := (· = s)) (Pa := (· = i)) (Pl := (fun _ => False)) (Pm := (fun _ => False)) rfl f2)).wa (Or.inl ⟨by decide, s, rfl, f2, rfl⟩)).wi (W0.s (Ps := (· = s)) (Pa := (· = i)) (Pl := (fun _ => False)) (Pm := (fun _ => False)) rfl f2)).wi (W0.a (Ps := (· = s)) (Pa := (· = i)) (Pl := (fun _ => False)) (Pm := (fun _ => False)) rfl hi)).wi (W0.s (Ps := (· = s)) (Pa := (· = i)) (Pl := (fun _ => False)) (Pm := (fun _ => False)) rfl f2))
  have zNC : zN C = zN M := by rw [eC]; rfl
  have zKC : ∀ b, zK C b = zK M b ∧ zL C b = zL M b := fun b => by rw [eC]; exact ⟨rfl, rfl⟩
  rw [← eC] at tc co ca cv0 cv1
  clear eC
  have R2 : ∀ b y, TwR b y → zI M2 b y = ρ b y := by
    intro b y ⟨g1, g2, g3, g4, g5⟩
    rw [hx2.2.2.1 b y (by omega) (by omega), co b y (by omega)]
    exact rfz rM g1 g2
  obtain ⟨tr, ro, rc, rv0, rv1⟩ := tkR_coins (M2 := M2) (ρ := ρ) (s := s) (i := i) (q := 0) (n := 0) (bo := (ρ 31 1 / 24)) (bd := bdF ρ s i) (ih := 1) (pd := v) (nt := (ρ 84 i)) (tt := (ρ 31 1 / 24)) (v0 := (ρ 31 2 - v)) (v1 := (ρ 31 72 + v)) R2 rfl rfl
  have hsF : Stat (sI (sI (sI (sI (sI (sI (sI (sI (sI M2 82 i 1) 61 s (nI i)) 59 s (bdF ρ s i)) 48 s 2) 58 s (ρ 31 1 / 24)) 60 s 1) 31 2 (ρ 31 2 - v)) 31 72 (ρ 31 72 + v)) 83 i v) := hS2.wI.wI.wI.wI.wI.wI.wI.wI.wI
  have xF : EqX M (sI (sI (sI (sI (sI (sI (sI (sI (sI M2 82 i 1) 61 s (nI i)) 59 s (bdF ρ s i)) 48 s 2) 58 s (ρ 31 1 / 24)) 60 s 1) 31 2 (ρ 31 2 - v)) 31 72 (ρ 31 72 + v)) 83 i v) (W0 M ρ (· = s) (· = i) (fun _ => False) (fun _ => False)) (WA0 M ρ (· = s)) := ((((((((((xC.trans (hx2.mono (fun b j h => Or.inl (by unfold WS; omega)) (fun _ _ h => h.elim))).wi (W0.ra (Ps := (· = s)) (Pa := (· = i)) (Pl := (fun _ => False)) (Pm := (fun _ => False)) (by decide) (by decide) (by decide) rfl)).wi (W0.rs (Ps := (· = s)) (Pa := (· = i)) (Pl := (fun _ => False)) (Pm := (fun _ => False)) (by decide) (by decide) (by decide) rfl)).wi (W0.rs (Ps := (· = s)) (Pa := (· = i)) (Pl := (fun _ => False)) (Pm := (fun _ => False)) (by decide) (by decide) (by decide) rfl)).wi (W0.rs (Ps := (· = s)) (Pa := (· = i)) (Pl := (fun _ => False)) (Pm := (fun _ => False)) (by decide) (by decide) (by decide) rfl)).wi (W0.rs (Ps := (· = s)) (Pa := (· = i)) (Pl := (fun _ => False)) (Pm := (fun _ => False)) (by decide) (by decide) (by decide) rfl)).wi (W0.rs (Ps := (· = s)) (Pa := (· = i)) (Pl := (fun _ => False)) (Pm := (fun _ => False)) (by decide) (by decide) (by decide) rfl)).wi (W0.rp (Ps := (· = s)) (Pa := (· = i)) (Pl := (fun _ => False)) (Pm := (fun _ => False)) (by decide))).wi (W0.rp (Ps := (· = s)) (Pa := (· = i)) (Pl := (fun _ => False)) (Pm := (fun _ => False)) (by decide))).wi (W0.ra (Ps := (· = s)) (Pa := (· = i)) (Pl := (fun _ => False)) (Pm := (fun _ => False)) (by decide) (by decide) (by decide) rfl))
  have hjF : ∀ y, zJ (sI (sI (sI (sI (sI (sI (sI (sI (sI M2 82 i 1) 61 s (nI i)) 59 s (bdF ρ s i)) 48 s 2) 58 s (ρ 31 1 / 24)) 60 s 1) 31 2 (ρ 31 2 - v)) 31 72 (ρ 31 72 + v)) 83 i v) 86 y = zJ M 86 y := fun y => by
    simp only [zJ_sI]
    exact hj2 y
  have AF : ∀ b y, zA (sI (sI (sI (sI (sI (sI (sI (sI (sI M2 82 i 1) 61 s (nI i)) 59 s (bdF ρ s i)) 48 s 2) 58 s (ρ 31 1 / 24)) 60 s 1) 31 2 (ρ 31 2 - v)) 31 72 (ρ 31 72 + v)) 83 i v) b y = zA M2 b y := fun b y => by simp only [zA_sI]
  have KF : ∀ b, zK (sI (sI (sI (sI (sI (sI (sI (sI (sI M2 82 i 1) 61 s (nI i)) 59 s (bdF ρ s i)) 48 s 2) 58 s (ρ 31 1 / 24)) 60 s 1) 31 2 (ρ 31 2 - v)) 31 72 (ρ 31 72 + v)) 83 i v) b = zK M2 b ∧ zL (sI (sI (sI (sI (sI (sI (sI (sI (sI M2 82 i 1) 61 s (nI i)) 59 s (bdF ρ s i)) 48 s 2) 58 s (ρ 31 1 / 24)) 60 s 1) 31 2 (ρ 31 2 - v)) 31 72 (ρ 31 72 + v)) 83 i v) b = zL M2 b := fun b => ⟨rfl, rfl⟩
  obtain ⟨F, eF⟩ : ∃ F, F = (sI (sI (sI (sI (sI (sI (sI (sI (sI M2 82 i 1) 61 s (nI i)) 59 s (bdF ρ s i)) 48 s 2) 58 s (ρ 31 1 / 24)) 60 s 1) 31 2 (ρ 31 2 - v)) 31 72 (ρ 31 72 + v)) 83 i v) := ⟨_, rfl⟩
  rw [← eF] at tr ro rc hsF xF hjF AF KF rv0 rv1 ⊢
  clear eF
  have CF : ∀ b y, b < zN M → ¬ (31 ≤ b ∧ b < 88) → zI F b y = zI C b y := fun b y g1 g2 => by rw [rc b y g2, hx2.2.2.1 b y (by omega) (by omega)]
  have A2 : ∀ b y, b < zN M → ¬ (b = saF M s ∧ y = 18) → zA F b y = zA M b y := fun b y g1 g2 => by rw [AF, hx2.2.2.2.1 b y (by omega) (fun z => z), ca b y g2]
  have A3 : ∀ b y, b < zN M → zA F b y = zA C b y := fun b y g1 => by rw [AF, hx2.2.2.2.1 b y (by omega) (fun z => z)]
  have K2 : ∀ b, b < zN M → zK F b = zK M b := fun b g1 => by rw [(KF b).1, (hx2.2.1 b (by omega)).1, (zKC b).1]
  have L2 : ∀ b, b < zN M → zL F b = zL M b := fun b g1 => by rw [(KF b).2, (hx2.2.1 b (by omega)).2, (zKC b).2]
  have ro' : ∀ b y, 31 ≤ b → b < 88 → b ≠ 72 → b ≠ 73 → (b = 31 → y < 76) → ¬ ((b = 82 ∧ y = i) ∨ (b = 61 ∧ y = s) ∨ (b = 59 ∧ y = s) ∨ (b = 48 ∧ y = s) ∨ (b = 58 ∧ y = s) ∨ (b = 60 ∧ y = s) ∨ (b = 31 ∧ y = 2) ∨ (b = 31 ∧ y = 72) ∨ (b = 83 ∧ y = i)) → zI F b y = ρ b y := fun b y a1 a2 a3 a4 a5 => ro b y ⟨a1, a2, a3, a4, a5⟩
  have NF := xF.1
  have qm : ∀ y, maF F y = maF M y := fun y => by
    unfold maF
    rw [A2 12 y (by omega) (by omega)]
  have ql : ∀ y, laF F y = laF M y := fun y => by
    unfold laF
    rw [A2 13 y (by omega) (by omega)]
  have dT : dyF (ρ 31 1 / 24) = (ρ 31 1 / 24) := by
    obtain ⟨u1, u2⟩ := dv24 b8
    unfold dyF
    rw [u1, if_neg]
    rw [i_eq, nI_toInt (by omega), show (-1 : Int32).toInt = -1 from by decide]
    omega
  have tp : TkC M F ρ s i 2 (ρ 31 1 / 24) 1 v (ρ 84 i) := by
    show TkC2 M F (saF M s) (aaF M i) 2 (dyF (ρ 31 1 / 24)) (dyF (bdF ρ s i)) 1 v (ρ 84 i)
    rw [dT]
    exact tc.cg (fun k => CF _ _ (by omega) (by omega)) (fun k => CF _ _ (by omega) (by omega)) (fun k => A3 _ _ (by omega)) (fun k => A3 _ _ (by omega))
  refine IV.takeF (Pl := (fun _ => False)) (Pm := (fun _ => False)) hI rM hi hs hw hsF xF hjF tr tp (Or.inl ⟨rfl, rfl, rfl⟩) ?_ ?_ ?_ ?_ ?_ ?_
  · refine hr.s.cg2 fun y hy => ?_
    simp (disch := omega) only [rf_z, ro', rv0, rv1]
  · exact fun _ _ z => z.elim
  · exact fun _ _ z => z.elim
  · exact fun _ z => z.elim
  · unfold CRs
    simp (disch := omega) only [rf_z, ro', rv0, rv1, CF, co, cv0, cv1, s1, s2, s3, s4, s5, s6, s7, s8, s9, s10, s11, true_implies, false_implies, implies_true, not_true_eq_false, not_false_eq_true, and_true, true_and, Option.some.injEq, reduceCtorEq, forall_eq', forall_eq]
  · refine hc.n.cg ?_ ?_ (fun k => ?_) (fun k => ?_) (fun k => ?_) (fun k => ?_)
    · unfold nN
      simp (disch := omega) only [rf_z, ro', rv0, rv1]
    · unfold tL
      simp (disch := omega) only [rf_z, ro', rv0, rv1]
    all_goals simp (disch := omega) only [rf_z, ro', rv0, rv1, CF, co, cv0, cv1]
end TakeG
