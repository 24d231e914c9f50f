/-! take -/
def coF (ρ : RV) (s o e : Nat) : Int32 := if o = 1 then ρ 34 (smo ρ s) else if o = 2 then ρ 56 s else nI (tN (ρ 56 s) * e / 100)
theorem bd_min {g : Gh} {t : Nat} {ρ : RV} {s : Nat} (hr : RIg g t ρ) (hs : s < nS ρ) : (if ρ 31 1 / 24 < dyF (ρ 59 s) then ρ 31 1 / 24 else dyF (ρ 59 s)) = dyF (if ¬ 0 ≤ ρ 59 s then ρ 31 1 / 24 else ρ 59 s) := by
  obtain ⟨d1, d2, d3, d4, d5, d6, d7, d8, d9, d10, d11, d12, d13, d14, d15, d16, d17, d18, d19⟩ := hr.sa hs
  have b8 := hr.s.2.2.2.2.2.2.2
  obtain ⟨u1, u2⟩ := dv24 b8
  have hmx : tN (ρ 31 1) ≤ 71999 := by
    have a2 := (nn_of b8.1).2.1
    have := b8.2
    omega
  obtain ⟨n, hn⟩ : ∃ n, n = tN (ρ 31 1) / 24 := ⟨_, rfl⟩
  rw [← hn] at u1
  have dn : ∀ n, n < 2 ^ 31 → dyF (nI n) = nI n := fun n hn => by
    unfold dyF
    rw [if_neg]
    rw [i_eq, nI_toInt hn, show (-1 : Int32).toInt = -1 from by decide]
    omega
  rcases d15 with z | ⟨z1, z2, z3⟩
  · rw [z, u1, if_pos (show ¬ (0 : Int32) ≤ -1 by decide), show dyF (-1) = nI 3000 from by decide, if_pos, dn n (by omega)]
    rw [nI_ltI (by omega) (by decide)]
    omega
  · obtain ⟨x1, x2, x3⟩ := rng_of z1 (by decide)
    obtain ⟨q, hq⟩ : ∃ q, q = tN (ρ 59 s) := ⟨_, rfl⟩
    rw [← hq] at x1 x2
    rw [x1, u1, nI_toInt (by omega), nI_toInt (by omega)] at z3
    rw [x1, u1, dn q (by omega), if_neg, if_neg, dn q (by omega)]
    · exact fun y => y (nI_pos' (by omega))
    · rw [nI_ltI (by omega) (by omega)]
      omega
def tkPost (K : Option Value → ZM → Prop) (b : Int32) (A : Nat) (v : Option Value) (C : ZM) : Prop := ∃ r13 : Int32, v = some (.int r13) ∧ Stat C ∧ (0 ≤ r13 → (zK C A = 0) ∧ (¬ (zI (sI C A 13 1) A 5) = 1 → K (some (.int b)) (sI C A 13 1)) ∧ ((zI (sI C A 13 1) A 5) = 1 → (zA (sI C A 13 1) A 0 = none → False) ∧ (∀ b18, zA (sI C A 13 1) A 0 = some b18 → (zK (sI C A 13 1) b18 = 7) ∧ K (some (.int b)) (sI (sI C A 13 1) b18 13 (if ((zI (sI C A 13 1) 11 17) / 24) < (zI (sI C A 13 1) b18 13) then ((zI (sI C A 13 1) 11 17) / 24) else (zI (sI C A 13 1) b18 13)))))) ∧ (¬ 0 ≤ r13 → K (some (.int r13)) C)
section TakeP
variable {E : ZE} {l : Launch} {d nc ns : Nat} {g : Gh} {L : Nat} {X : Nat → Int32} {t : Nat} {M C : ZM} {ρ : RV} {s i m o e : Nat} {b sd w x1 : Int32} {K Q : Option Value → ZM → Prop}
theorem tk_end {A S : Nat} (hr : RIg g t ρ) (hs : s < nS ρ) (hC : Stat C) (k0 : zK C A = 0) (k5 : zI C A 5 = dg (ρ 79 i) 0) (kA : zA C A 0 = some S) (k7 : zK C S = 7) (kh : zI C 11 17 = ρ 31 1) (kb : zI C S 13 = dyF (ρ 59 s)) (n1 : S ≠ A) (h88 : 88 ≤ A) (k : K (some (.int b)) (sI (sI C A 13 1) S 13 (dyF (bdF ρ s i)))) : tkPost K b A (some (.int 1)) C := by
  have e5 : zI (sI C A 13 1) A 5 = dg (ρ 79 i) 0 := by rw [zI_nk (by decide)]; exact k5
  have e13 : zI (sI C A 13 1) S 13 = dyF (ρ 59 s) := by rw [zI_ne n1]; exact kb
  have eh : zI (sI C A 13 1) 11 17 = ρ 31 1 := by rw [zI_ne (by omega)]; exact kh
  refine ⟨1, rfl, hC, fun _ => ⟨k0, fun z => ?_, fun z => ⟨fun y => absurd (kA.symm.trans y) (by simp), fun b18 y => ?_⟩⟩, fun z => absurd (by decide) z⟩
  · rw [e5] at z
    have : bdF ρ s i = ρ 59 s := by unfold bdF; rw [if_neg (fun y => z y.1)]
    rw [this, ← e13, sI_self] at k
    exact k
  · rw [e5] at z
    have y : zA C A 0 = some b18 := y
    rw [kA] at y
    cases y
    refine ⟨k7, ?_⟩
    rw [eh, e13, bd_min hr hs]
    have : bdF ρ s i = if ¬ 0 ≤ ρ 59 s then ρ 31 1 / 24 else ρ 59 s := by
      unfold bdF
      by_cases c : 0 ≤ ρ 59 s
      · rw [if_neg (fun y => y.2 c), if_neg (fun y => y c)]
      · rw [if_pos ⟨z, c⟩, if_pos c]
    rw [this] at k
    exact k
theorem r_take0 (hSC : Stat C) (rC : rf C = ρ) (hr : RIg g t ρ) (hi : i < nA ρ) (hw : ρ 82 i = 0) (hsw : ρ 80 i = 0) (hs : s = as_ ρ i) (hm : m = smo ρ s) (hV : jV g ρ i (ρ 76 i) b sd w) (eb : b = nI (1000 * o + e)) (ho : o < 5) (he : e ≤ 100) (k : ∀ M2, Stat M2 → EqX C M2 (fun b j => b = 72 ∨ b = 73 ∨ (b = 31 ∧ 76 ≤ j ∧ j ≤ 78)) (fun _ _ => False) → (∀ y, zJ M2 86 y = zJ C 86 y) → (∀ a j, 31 ≤ a → a < 88 → a ≠ 72 → a ≠ 73 → (a = 31 → j < 76) → zI M2 a j = ρ a j) → zI M2 31 76 = b → (o = 0 → Q (some (.int (-2))) M2) ∧ (o ≠ 0 → AW E l (d + 4) 0 0 mX11_take 129 [some (.ref 31), some (.int (nI i)), some (.int (nI s)), some (.int (nI m)), some (.int (nI o)), none, none, none] [.int (coF ρ s o e)] M2 Q)) : AW E l (d + 4) 0 0 mX11_take 0 [some (.ref 31), some (.int (nI i)), none, none, none, none, none, none] [] C Q := by
  have R : ∀ a j, 31 ≤ a → a < 88 → zI C a j = ρ a j := fun a j h1 h2 => rfz rC h1 h2
  obtain ⟨b1, b2, b3, b4, b5, b6, b7, b8⟩ := hr.s
  have b200 := b4.2
  have b300 := b3.2
  have b20 := b1.2
  have h1 : ¬ nI i < 0 := nI_pos (by omega)
  have h2 := ix_lt (by omega) hi
  have h3 : vp_in (nI i) 200 := vp_in_nI (by omega) (by decide)
  have h4 : (nI i).toNatClampNeg = i := nI_clamp (by omega)
  rw [← b4.1] at h2
  obtain ⟨f1, f2, f3, f4, f5, f6, f7, f8, f9, f10, f11⟩ := hr.a hi
  rw [← hs] at f1 f2
  have w1 : vp_in (nI s) 300 := vp_in_nI (by omega) (by decide)
  have w2 : (nI s).toNatClampNeg = s := nI_clamp (by omega)
  have w3 := v_sl hr f2
  have lr := hr.l (hr.sa f2).2.1
  have e45 : ρ 45 (ρ 49 s).toNatClampNeg = nI m := by rw [hm]; exact lr.1
  have hm' : m < nM ρ := by rw [hm]; exact lr.2.1
  have v20 : vp_in (nI m) 20 := vp_in_nI (by omega) (by decide)
  have c20 : (nI m).toNatClampNeg = m := nI_clamp (by omega)
  obtain ⟨p1, p2, p3⟩ := rng_of (hr.sa f2).2.2.2.2.2.2.2.1 (by decide)
  obtain ⟨P, eP⟩ : ∃ P, P = tN (ρ 56 s) := ⟨_, rfl⟩
  rw [← eP] at p1 p2
  have a1 : nI (1000 * o + e) / 1000 = nI o := by
    rw [show (1000 : Int32) = nI 1000 from rfl, pk_div (by omega) (by decide) (by decide)]
    congr 1
    omega
  have a2 : nI (1000 * o + e) - nI (1000 * o + e) / 1000 * 1000 = nI e := by
    rw [show (1000 : Int32) = nI 1000 from rfl, pk_rem (by omega) (by decide) (by decide)]
    congr 1
    omega
  rw [a1] at a2
  have hb : P * e ≤ 99999 * 100 := Nat.mul_le_mul (by omega) he
  have key : ((nI P).toInt64 * (nI e).toInt64 / 100).toInt32 = nI (P * e / 100) := by
    rw [nI_l (by omega), nI_l (by omega), lN_mul, show (100 : Int64) = lN 100 from rfl, pk_lDiv (by omega) (by decide) (by decide), lN_i]
  refine t_X11_take hSC ?_
  simp (disch := omega) only [h1, h2, h3, h4, R, hw, hsw, true_implies, false_implies, implies_true, not_true_eq_false, not_false_eq_true, and_true, true_and, Option.some.injEq, reduceCtorEq, forall_eq', forall_eq]
  refine r_findV hSC hr rC hi hV (fun M2 hS2 hx2 hj2 R2 q1 q2 q3 vb vw => ⟨rfl, hS2, ?_⟩)
  obtain ⟨k0, k1⟩ := k M2 hS2 hx2 hj2 R2 q1
  rw [eb] at q1
  simp (disch := omega) only [R2, q1, f1, w1, w2, w3, e45, v20, c20, a1, a2, true_implies, false_implies, implies_true, not_true_eq_false, not_false_eq_true, and_true, true_and, Option.some.injEq, reduceCtorEq, forall_eq', forall_eq]
  unfold coF at k1
  rw [← hm, ← eP] at k1
  have ho' : o = 0 ∨ o = 1 ∨ o = 2 ∨ o = 3 ∨ o = 4 := by omega
  have nz : ∀ (a b : Nat), a < 5 → b < 5 → a ≠ b → ¬ nI a = nI b := fun a b h1 h2 h3 h4 => h3 ((nI_eq (by omega) (by omega)).mp h4)
  rcases ho' with rfl | rfl | rfl | rfl | rfl
  · exact ⟨fun z => absurd rfl z, fun _ => k0 rfl⟩
  · exact ⟨fun _ => ⟨fun z => absurd rfl z, fun _ => k1 (by decide)⟩, fun z => absurd z (by decide)⟩
  · exact ⟨fun _ => ⟨fun _ => ⟨fun z => absurd rfl z, fun _ => k1 (by decide)⟩, fun z => absurd z (by decide)⟩, fun z => absurd z (by decide)⟩
  · refine ⟨fun _ => ⟨fun _ => ⟨fun _ => ?_, fun z => absurd z (by decide)⟩, fun z => absurd z (by decide)⟩, fun z => absurd z (by decide)⟩
    rw [p1, key]
    exact k1 (by decide)
  · refine ⟨fun _ => ⟨fun _ => ⟨fun _ => ?_, fun z => absurd z (by decide)⟩, fun z => absurd z (by decide)⟩, fun z => absurd z (by decide)⟩
    rw [p1, key]
    exact k1 (by decide)
theorem r_take223 {x6 x7 : Int32} {M2 : ZM} (hS2 : Stat M2) (R2 : ∀ a j, 31 ≤ a → a < 88 → a ≠ 72 → a ≠ 73 → (a = 31 → j < 76) → zI M2 a j = ρ a j) (hr : RIg g t ρ) (hi : i < nA ρ) (hs : s < nS ρ) (k : AW E l (d + 4) 0 0 mX11_take 270 [some (.ref 31), some (.int (nI i)), some (.int (nI s)), some (.int (nI m)), some (.int (nI o)), none, some (.int x6), some (.int x7)] [] (sI (sI (sI M2 82 i 1) 61 s (nI i)) 59 s (bdF ρ s i)) Q) : AW E l (d + 4) 0 0 mX11_take 223 [some (.ref 31), some (.int (nI i)), some (.int (nI s)), some (.int (nI m)), some (.int (nI o)), none, some (.int x6), some (.int x7)] [] M2 Q := by
  have b200 := hr.s.2.2.2.1.2
  have b300 := hr.s.2.2.1.2
  have h3 : vp_in (nI i) 200 := vp_in_nI (by omega) (by decide)
  have h4 : (nI i).toNatClampNeg = i := nI_clamp (by omega)
  have w1 : vp_in (nI s) 300 := vp_in_nI (by omega) (by decide)
  have w2 : (nI s).toNatClampNeg = s := nI_clamp (by omega)
  have f7 := (hr.a hi).2.2.2.2.2.2.1
  refine t_X11_take_223 hS2 ⟨h3, w1, h3, ?_⟩
  rw [h4, w2]
  simp (disch := omega) only [zI_ne, R2]
  refine r_dg0 hS2.wI.wI f7 ⟨_, rfl, hS2.wI.wI, fun z => ?_, fun z => ⟨w1, ?_⟩⟩
  · have e1 : bdF ρ s i = zI (sI (sI M2 82 i 1) 61 s (nI i)) 59 s := by
      unfold bdF
      rw [if_neg (fun y => z y.1)]
      simp (disch := omega) only [zI_ne, R2]
    rw [e1, sI_self] at k
    exact k
  · simp (disch := omega) only [zI_ne, R2]
    refine ⟨fun y => ?_, fun y => ⟨w1, ?_⟩⟩
    · have e1 : bdF ρ s i = zI (sI (sI M2 82 i 1) 61 s (nI i)) 59 s := by
        unfold bdF
        rw [if_neg (fun y' => y'.2 y)]
        simp (disch := omega) only [zI_ne, R2]
      rw [e1, sI_self] at k
      exact k
    · have e1 : bdF ρ s i = ρ 31 1 / 24 := by
        unfold bdF
        rw [if_pos ⟨z, y⟩]
      rw [e1] at k
      exact k
end TakeP
