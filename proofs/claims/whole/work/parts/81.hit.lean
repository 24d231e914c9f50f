/-! the limit -/
def fBk (ρ : RV) (x1 : Int32) (i : Nat) : Int32 := if ρ 53 i = x1 ∧ ρ 48 i = 2 then 1 else 0
def fLy (ρ : RV) (x1 : Int32) (i : Nat) : Int32 := if ρ 53 i = x1 ∧ ρ 48 i = 2 ∧ ¬ 30 ≤ ρ 31 1 / 24 - ρ 58 i then 1 else 0
def hmF (ρ : RV) (x1 : Int32) (k : Nat) : Int32 := [sS (fBo ρ x1) (nS ρ), sS (fBk ρ x1) (nS ρ), if sS (fBo ρ x1) (nS ρ) = 0 then 0 else 100 * sS (fBk ρ x1) (nS ρ) / sS (fBo ρ x1) (nS ρ), sS (fSp ρ x1) (nS ρ), sS (fLy ρ x1) (nS ρ)].getD k 0
def htV (g : Gh) (ρ : RV) (x1 : Int32) : Int32 := (exI (hmF ρ x1) g.2 []).headD 0
theorem sS_cnt {p : Nat → Prop} [DecidablePred p] : ∀ n, ∃ c, c ≤ n ∧ sS (fun i => if p i then 1 else 0) n = nI c
  | 0 => ⟨0, Nat.le_refl _, rfl⟩
  | n + 1 => by
    obtain ⟨c, hc, e⟩ := sS_cnt (p := p) n
    by_cases h : p n
    · exact ⟨c + 1, by omega, by unfold sS; rw [e, if_pos h, nI_1]⟩
    · exact ⟨c, by omega, by unfold sS; rw [e, if_neg h, Int32.add_zero]⟩
theorem fBk_eq {g : Gh} {t : Nat} {ρ : RV} (hr : RIg g t ρ) {x1 : Int32} {i : Nat} (hi : i < nS ρ) : fBb ρ x1 0 2999 i = fBk ρ x1 i := by
  obtain ⟨d1, d2, d3, d4, d5, d6, d7, d8, d9, d10, d11, d12, d13, d14, d15, d16, d17, d18, d19⟩ := hr.sa hi
  unfold fBb fBk
  have c : (¬ dyF (ρ 58 i) < 0 ∧ ¬ 2999 < dyF (ρ 58 i)) ↔ ρ 48 i = 2 := by
    rw [d13]
    rcases d12 with z | ⟨z, -⟩
    · rw [z]
      decide
    · obtain ⟨x1, x2, x3⟩ := rng_of z (by decide)
      obtain ⟨b, hb⟩ : ∃ b, b = tN (ρ 58 i) := ⟨_, rfl⟩
      rw [← hb] at x1 x2 x3
      have ed : dyF (nI b) = nI b := by
        unfold dyF
        rw [if_neg]
        rw [i_eq, nI_toInt (by omega), show (-1 : Int32).toInt = -1 from by decide]
        omega
      rw [x1, ed]
      have a1 : ¬ nI b < 0 := nI_pos (by omega)
      have a2 : ¬ (2999 : Int32) < nI b := by rw [show (2999 : Int32) = nI 2999 from rfl, nI_ltI (by decide) (by omega)]; omega
      have a3 : (0 : Int32) ≤ nI b := nI_pos' (by omega)
      exact ⟨fun _ => a3, fun _ => ⟨a1, a2⟩⟩
  by_cases cb : ρ 53 i = x1
  · simp only [cb, true_and, c]
  · simp only [cb, false_and, if_false]
theorem fLy_eq {g : Gh} {t : Nat} {ρ : RV} (hr : RIg g t ρ) {x1 : Int32} {i : Nat} (hi : i < nS ρ) : fBb ρ x1 (ρ 31 1 / 24 - 29) (ρ 31 1 / 24) i = fLy ρ x1 i := by
  obtain ⟨d1, d2, d3, d4, d5, d6, d7, d8, d9, d10, d11, d12, d13, d14, d15, d16, d17, d18, d19⟩ := hr.sa hi
  have b8 := hr.s.2.2.2.2.2.2.2
  obtain ⟨u1, u2⟩ := dv24 b8
  have hmx : tN (ρ 31 1) ≤ 71999 := by
    have a2 := (nn_of b8.1).2.1
    have := b8.2
    omega
  obtain ⟨n, hn⟩ : ∃ n, n = tN (ρ 31 1) / 24 := ⟨_, rfl⟩
  rw [← hn] at u1
  unfold fBb fLy
  have c : (¬ dyF (ρ 58 i) < ρ 31 1 / 24 - 29 ∧ ¬ ρ 31 1 / 24 < dyF (ρ 58 i)) ↔ (ρ 48 i = 2 ∧ ¬ 30 ≤ ρ 31 1 / 24 - ρ 58 i) := by
    rw [d13, u1]
    rcases d12 with z | ⟨z, z2⟩
    · rw [z]
      have n1 : nI n < dyF (-1) := by
        rw [show dyF (-1) = nI 3000 from by decide, nI_ltI (by omega) (by decide)]
        omega
      have n2 : ¬ (0 : Int32) ≤ -1 := by decide
      exact ⟨fun y => absurd n1 y.2, fun y => absurd y.1 n2⟩
    · obtain ⟨x1, x2, x3⟩ := rng_of z (by decide)
      obtain ⟨b, hb⟩ : ∃ b, b = tN (ρ 58 i) := ⟨_, rfl⟩
      rw [← hb] at x1 x2 x3
      rw [u1, x1, nI_toInt (by omega), nI_toInt (by omega)] at z2
      have ed : dyF (nI b) = nI b := by
        unfold dyF
        rw [if_neg]
        rw [i_eq, nI_toInt (by omega), show (-1 : Int32).toInt = -1 from by decide]
        omega
      rw [x1, ed, i_lt, i_lt, i_le, i_le, show (29 : Int32) = nI 29 from rfl, show (30 : Int32) = nI 30 from rfl, show (0 : Int32) = nI 0 from rfl, pk_sub_toInt (by omega) (by omega), pk_sub_toInt (by omega) (by omega), nI_toInt (by omega), nI_toInt (by omega), nI_toInt (by omega), nI_toInt (by omega)]
      omega
  by_cases cb : ρ 53 i = x1
  · simp only [cb, true_and, c]
  · simp only [cb, false_and, if_false]
section HitC
variable {E : ZE} {l : Launch} {d nc ns : Nat} {g : Gh} {L : Nat} {X : Nat → Int32} {t : Nat} {μ : ZM} {ρ : RV} {K : Option Value → ZM → Prop} {x1 : Int32}
theorem c_valueOf {a : Nat} {es : List Itm} (hS : Stat μ) (h13 : zK μ a = 13) (ha : 88 ≤ a) (haN : a < zN μ) (hw : wfE 5 0 es) (hle : es.length ≤ 200) (hL : zL μ a = es.length) (hl : lst (zI μ a) 0 (es.map enC)) (k : ∀ M st, Stat M → MSc μ M st → K (some (.int ((exI (zI μ 27) es []).headD 0))) M) : AW E l (d + 4) nc ns mX3_valueOf 0 (zargs 2 [.ref 26, .ref a]) [] μ K := by
  refine t_X3_valueOf hS ?_
  refine t_X3_run hS ?_
  have hM : MSc μ (sI μ 26 2 0) [] := ⟨EqX.rfl.wi (Or.inl (Or.inl ⟨rfl, rfl⟩)), rfl, fun _ => rfl, by rw [zI_eq]; rfl, trivial⟩
  refine c_runE h13 ha haN hL hle (many := 5) (by decide) es [] 0 0 _ hS.wI hM hw (by simpa using hle) hl (Nat.le_refl _) (by omega) (fun M s' hSM hMM hs' => ?_)
  have ln := exI_len (N := zI μ 27) (st := []) hw
  obtain ⟨v, hv⟩ : ∃ v, exI (zI μ 27) es [] = [v] := by
    match hx : exI (zI μ 27) es [], ln with
    | [v], _ => exact ⟨v, rfl⟩
  rw [hv] at hMM k
  have k13 : zK M a = 13 := (hMM.1.2.1 a haN).1.trans h13
  have kL : zL M a = es.length := (hMM.1.2.1 a haN).2.trans hL
  have g2 : nI es.length ≤ nI (0 + es.length) := by rw [Nat.zero_add]; exact Int32.le_refl _
  obtain ⟨P, Pv⟩ := hMM.pop
  have P1 : zI (sI M 26 2 (nI 1 - 1)) 26 2 = nI 0 := P.hh
  have Pv : zI (sI M 26 2 (nI 1 - 1)) 28 0 = v := Pv
  have h0 : zI M 26 2 = nI 1 := hMM.hh
  have z1 : (0 : Int32) < nI 1 := by decide
  have z2 : vp_in (nI 0) 200 := vp_in_nI (by decide) (by decide)
  have z3 : (nI 0).toNatClampNeg = 0 := nI_clamp (by decide)
  have fin : ∃ r3 : Int32, some (Value.int 0) = some (.int r3) ∧ Stat M ∧ (0 < zI M 26 2 → vp_in (zI (sI M 26 2 (zI M 26 2 - 1)) 26 2) 200 ∧ K (some (.int (zI (sI M 26 2 (zI M 26 2 - 1)) 28 (zI (sI M 26 2 (zI M 26 2 - 1)) 26 2).toNatClampNeg))) (sI M 26 2 (zI M 26 2 - 1))) ∧ (¬ 0 < zI M 26 2 → K (some (.int 0)) M) := by
    refine ⟨0, rfl, hSM, ?_, ?_⟩
    · intro _
      rw [h0, P1, z3, Pv]
      exact ⟨z2, k _ [] hSM.wI P⟩
    · rw [h0]
      exact fun z => absurd z1 z
  exact t_X3_run_9 hSM ⟨k13, fun _ => fin, fun _ => ⟨fun _ => fin, fun q => absurd (by rw [kL]; exact g2) q⟩⟩
theorem c_isHit (hI : IV g L X t μ) (hρ : rf μ = ρ) (lim : ρ 31 49 = 1) (k : ∀ M, Stat M → EqX μ M (fun b _ => 22 ≤ b ∧ b ≤ 29) (fun _ _ => False) → (∀ j, zJ M 86 j = zJ μ 86 j) → K (some (.int (if htV g ρ x1 = 0 then 0 else 1))) M) : AW E l (d + 5) nc ns mX10_isHit 0 (zargs 4 [.ref 11, .int x1]) [] μ K := by
  have hS := hI.st
  have hr := hI.r hρ
  have hc := hI.c hρ
  have hA := hS.N
  obtain ⟨s1, s2, s3, s4, s5, s6, s7, s8, s9, s10, s11⟩ := hc.s
  have b300 := hr.s.2.2.1.2
  have n10 : ¬ (1 : Int32) = 0 := by decide
  obtain ⟨lc, q2, q3, q4, q5, q6, q7, q8⟩ : ∃ lc, zA μ 11 11 = some lc ∧ 88 ≤ lc ∧ lc < zN μ ∧ zK μ lc = 13 ∧ zL μ lc = g.2.length ∧ lst (zI μ lc) 0 (g.2.map enC) ∧ True := by
    rcases hc.lm with z | ⟨-, lc, a1, a2, a3, a4, a5, a6, -⟩
    · rw [lim] at z
      exact absurd z.1 n10
    · exact ⟨lc, a1, a2, a3, a4, a5, a6, trivial⟩
  obtain ⟨w1, w2⟩ : wfE 5 0 g.2 ∧ g.2.length ≤ 200 := by
    rcases hr.lm with z | ⟨-, a1, a2, -⟩
    · rw [lim] at z
      exact absurd z n10
    · exact ⟨a1, a2⟩
  obtain ⟨c, hc300, ec⟩ : ∃ c, c ≤ nS ρ ∧ sS (fBo ρ x1) (nS ρ) = nI c := sS_cnt (p := fun i => ρ 53 i = x1) (nS ρ)
  refine t_X10_isHit hS ⟨fun z => absurd (q2.symm.trans z) (by simp), fun b2 hb2 => ?_⟩
  refine t_X10_boughtBy hS (c_boughtBy4 hS hr hc ⟨_, rfl, hS, ?_⟩)
  refine t_X10_backOfBuyer hS (c_backOf6 hS hr hc ⟨_, rfl, hS, ?_⟩)
  rw [sS_cg (fun j hj => fBk_eq hr hj)]
  have rest : ∀ (sh : Int32), sh = hmF ρ x1 2 → ∀ M, M = sI (sI (sI μ 27 0 (sS (fBo ρ x1) (nS ρ))) 27 1 (sS (fBk ρ x1) (nS ρ))) 27 2 sh → AW E l (d + 4) 0 0 mX10_spentBy 0 (zargs 4 [.ref 11, .int x1]) [] M (fun v μ10 => ∃ r12 : Int32, v = some (.int r12) ∧ Stat μ10 ∧ AW E l (d + 4) 0 0 mX10_backOfBuyer 0 (zargs 7 [.ref 11, .int x1, .int (((zI (sI μ10 27 3 r12) 11 17) / 24) - 29), .int ((zI (sI μ10 27 3 r12) 11 17) / 24)]) [] (sI μ10 27 3 r12) (fun v μ13 => ∃ r15 : Int32, v = some (.int r15) ∧ Stat μ13 ∧ (zA (sI μ13 27 4 r15) 11 11 = none → AW E l (d + 4) 0 0 mX3_valueOf 0 (zargs 2 [.ref 26, .null]) [] (sI μ13 27 4 r15) (fun v μ18 => ∃ r20 : Int32, v = some (.int r20) ∧ Stat μ18 ∧ (r20 = 0 → K (some (.int 0)) μ18) ∧ (¬ r20 = 0 → K (some (.int 1)) μ18))) ∧ (∀ b17, zA (sI μ13 27 4 r15) 11 11 = some b17 → AW E l (d + 4) 0 0 mX3_valueOf 0 (zargs 2 [.ref 26, .ref b17]) [] (sI μ13 27 4 r15) (fun v μ22 => ∃ r24 : Int32, v = some (.int r24) ∧ Stat μ22 ∧ (r24 = 0 → K (some (.int 0)) μ22) ∧ (¬ r24 = 0 → K (some (.int 1)) μ22))))) := by
    intro sh hsh M eM
    have x1' : EqX μ M (fun b _ => b = 27) (fun _ _ => False) := by
      rw [eM]
      repeat' (with_reducible first | exact EqX.rfl | refine EqX.wi ?_ (Or.inl rfl))
    have hSM : Stat M := by rw [eM]; exact hS.wI.wI.wI
    have jM : ∀ j, zJ M 86 j = zJ μ 86 j := fun j => by rw [eM]; rfl
    obtain ⟨I1, r1⟩ := hI.csc hρ (x1'.mono (fun b j h => by omega) (fun _ _ h => h)) jM hSM
    refine t_X10_spentBy hSM (c_spentBy4 hSM (I1.r r1) (I1.c r1) ⟨_, rfl, hSM, ?_⟩)
    have x2' := x1'.wi (a := 27) (k := 3) (x := sS (fSp ρ x1) (nS ρ)) (Or.inl rfl)
    obtain ⟨I2, r2⟩ := hI.csc (M := sI M 27 3 (sS (fSp ρ x1) (nS ρ))) hρ (x2'.mono (fun b j h => by omega) (fun _ _ h => h)) jM hSM.wI
    have e11 : zI M 11 17 = ρ 31 1 := by rw [x1'.2.2.1 _ _ (by omega) (by omega)]; exact s6
    rw [zI_ne (by decide), e11]
    refine t_X10_backOfBuyer hSM.wI (c_backOf6 hSM.wI (I2.r r2) (I2.c r2) ⟨_, rfl, hSM.wI, ?_⟩)
    rw [show _ = sS (fLy ρ x1) (nS ρ) from sS_cg (fun j hj => fLy_eq hr hj)]
    have x3' := x2'.wi (a := 27) (k := 4) (x := sS (fLy ρ x1) (nS ρ)) (Or.inl rfl)
    have eA : zA (sI (sI M 27 3 (sS (fSp ρ x1) (nS ρ))) 27 4 (sS (fLy ρ x1) (nS ρ))) 11 11 = some lc := by rw [x3'.2.2.2.1 11 11 (by omega) (fun z => z)]; exact q2
    refine ⟨fun z => absurd (eA.symm.trans z) (by simp), fun b hb => ?_⟩
    rw [eA] at hb
    cases hb
    refine c_valueOf hSM.wI.wI ((x3'.2.1 lc q4).1.trans q5) q3 (by have := x3'.1; omega) w1 w2 ((x3'.2.1 lc q4).2.trans q6) (lst_cg (fun j _ _ => x3'.2.2.1 lc j q4 (by omega)) q7) (fun M4 st hS4 hM4 => ⟨_, rfl, hS4, ?_⟩)
    have nm : ∀ k, k < 5 → zI (sI (sI M 27 3 (sS (fSp ρ x1) (nS ρ))) 27 4 (sS (fLy ρ x1) (nS ρ))) 27 k = hmF ρ x1 k := by
      intro k hk
      rw [eM, hsh]
      have hk : k = 0 ∨ k = 1 ∨ k = 2 ∨ k = 3 ∨ k = 4 := by omega
      rcases hk with rfl | rfl | rfl | rfl | rfl
      all_goals
        simp (disch := omega) only [zI_nk, zI_eq]
        try rfl
    have ev : exI (zI (sI (sI M 27 3 (sS (fSp ρ x1) (nS ρ))) 27 4 (sS (fLy ρ x1) (nS ρ))) 27) g.2 [] = exI (hmF ρ x1) g.2 [] := exI_cg nm w1
    rw [ev]
    have kk := k M4 hS4 ((x3'.mono (fun b j h => by omega) (fun _ _ h => h)).trans (hM4.1.mono (fun b j h => by omega) (fun _ _ h => h))) (fun j => (hM4.2.2.1 j).trans (jM j))
    unfold htV at kk
    refine ⟨fun z => ?_, fun z => ?_⟩
    · rw [if_pos z] at kk
      exact kk
    · rw [if_neg z] at kk
      exact kk
  have cz : (nI c ≤ 0) = (c = 0) := by rw [show (0 : Int32) = nI 0 from rfl, nI_leI (by omega) (by decide)]; simp
  have cz' : (nI c = 0) = (c = 0) := by rw [show (0 : Int32) = nI 0 from rfl, nI_eq (by omega) (by decide)]
  have h2 : hmF ρ x1 2 = if sS (fBo ρ x1) (nS ρ) = 0 then 0 else 100 * sS (fBk ρ x1) (nS ρ) / sS (fBo ρ x1) (nS ρ) := rfl
  refine ⟨fun z => ?_, fun z => ⟨?_, ?_⟩⟩
  · rw [ec, cz] at z
    refine rest 0 ?_ _ rfl
    rw [h2, if_pos (by rw [ec, cz']; exact z)]
  · rw [ec, cz] at z
    rw [ec, cz']
    exact z
  · rw [ec, cz] at z
    refine rest _ ?_ _ rfl
    rw [h2, if_neg (by rw [ec, cz']; exact z)]
end HitC
