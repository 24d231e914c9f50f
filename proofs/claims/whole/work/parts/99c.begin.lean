/-! the start of the law -/
theorem zI0 {L : Nat} {xs : Nat → Int32} {a j : Nat} (h : 11 ≤ a) : zI (zM0 L xs) a j = 0 := by
  obtain ⟨b, rfl⟩ : ∃ b, a = b + 11 := ⟨a - 11, by omega⟩
  rfl
theorem dn2_ok : (∀ q ∈ rT, (dn2.find? (fun p => p.1 == q.1 && p.2.1 == q.2.1)).map (fun p => p.2.2) = some q.2.2) ∧ (dn2.find? (fun p => p.1 == 11 && p.2.1 == 11)).map (fun p => p.2.2) = none := by decide +kernel
def ro0 : RV := fun _ _ => 0
def gh0 : Gh := (fun _ => [], [])
section Beg
variable {E : ZE} {l : Launch} {d nc ns : Nat} {L : Nat} {xs : Nat → Int32} {K : Option Value → ZM → Prop}
theorem st_b : Stat (zMb L xs) := by
  obtain ⟨h1, h2, h3, h4, h5, h6, h7⟩ := mbb L xs
  refine ⟨fun a ha => by rw [h2, if_pos ha], fun a h0 ha => by rw [h3, if_pos ha, if_neg (by omega)], fun q hq => ?_, by rw [h1]; exact Nat.le_refl _, fun a ha => by rw [h2, if_neg (by omega)]⟩
  rw [h4]
  exact dn2_ok.1 q hq
theorem rf_b : rf (zMb L xs) = ro0 := by
  obtain ⟨h1, h2, h3, h4, h5, h6, h7⟩ := mbb L xs
  funext a j
  unfold rf ro0
  split
  · next c =>
    rw [h6]
    unfold fI2 fI1 up2
    rw [if_neg (by omega), if_neg (by omega), zI0 (by omega)]
  · rfl
theorem n0 : nM ro0 = 0 ∧ nL ro0 = 0 ∧ nS ro0 = 0 ∧ nA ro0 = 0 ∧ nT ro0 = 0 ∧ nN ro0 = 0 ∧ nU ro0 = 0 ∧ tL ro0 = 0 := by
  unfold nM nL nS nA nT nN nU tL ro0
  decide
theorem iv_b : IV gh0 L xs 0 (zMb L xs) := by
  obtain ⟨h1, h2, h3, h4, h5, h6, h7⟩ := mbb L xs
  obtain ⟨m1, m2, m3, m4, m5, m6, m7, m8⟩ := n0
  refine ⟨st_b, ⟨?_, fun j => ?_⟩, ⟨fun j hj => ?_, fun j hj => ?_, fun j hj => ?_, fun j hj => ?_, fun j hj => ?_, fun j hj => ?_⟩, Or.inl ?_, ?_, ?_⟩
  · rw [h3]
    rfl
  · rw [h6]
    rfl
  · rw [h6]
    rfl
  · rw [h6]
    rfl
  · rw [h6]
    rfl
  · rw [h6]
    rfl
  · rw [h6]
    rfl
  · rw [h7]
    rfl
  · rw [h7]
    rfl
  · rw [rf_b]
    refine ⟨?_, fun i hi => by omega, fun i hi => by omega, fun i hi => by omega, fun i hi => by omega, ⟨fun _ _ _ => ⟨rfl, rfl, rfl, rfl⟩, fun _ _ _ => ⟨rfl, rfl, rfl, rfl, rfl⟩, fun _ _ _ => ⟨rfl, rfl⟩⟩, ⟨fun i hi => by omega, fun i j hi => by omega⟩, fun i hi => by omega, Or.inl rfl⟩
    unfold RIs isN rng
    rw [m1, m2, m3, m4, m5, m6, m8]
    unfold ro0
    decide
  · rw [rf_b]
    refine ⟨?_, ⟨fun j hj => by omega, fun j hj => by omega⟩, fun b hb => ?_, fun i hi => by omega, fun i hi => by omega, fun i hi => by omega, fun i hi => by omega, fun i j hi => by omega, fun i hi => by omega, Or.inl ⟨rfl, by rw [h4]; exact dn2_ok.2⟩, ?_, fun _ => 0, fun k hk => by omega, fun k k' hk => by omega, fun j hj => by omega, fun m hm => by omega⟩
    · unfold CRs
      simp only [h6]
      exact ⟨rfl, rfl, rfl, rfl, rfl, rfl, rfl, rfl, rfl, rfl, rfl⟩
    · have e : zI (zMb L xs) 30 b = 2 := by
        rw [h6]
        unfold fI2
        rw [if_pos ⟨rfl, hb⟩]
      rw [e]
      refine ⟨?_, ?_⟩
      · unfold rng
        decide
      · unfold ro0 hoF
        decide
    · rw [m7]
      rfl
theorem fill_s {μ : ZM} {a i : Nat} {x : Int32} : sI (sFill μ a i x) a i x = sFill μ a (i + 1) x := by
  have e : up2 (fun b j => if b = a ∧ j < i then x else zI μ b j) a i x = (fun b j => if b = a ∧ j < i + 1 then x else zI μ b j) := by
    funext b j
    unfold up2
    by_cases c : b = a ∧ j = i
    · rw [if_pos c, if_pos ⟨c.1, by omega⟩]
    · rw [if_neg c]
      show (if b = a ∧ j < i then x else zI μ b j) = _
      by_cases c2 : b = a ∧ j < i
      · rw [if_pos c2, if_pos ⟨c2.1, by omega⟩]
      · rw [if_neg c2, if_neg (by omega)]
  show (μ.1, μ.2.1, μ.2.2.1, up2 (fun b j => if b = a ∧ j < i then x else zI μ b j) a i x, μ.2.2.2.2.1, μ.2.2.2.2.2) = _
  rw [e]
  rfl
theorem fill_0 {μ : ZM} {a : Nat} {x : Int32} : sFill μ a 0 x = μ := by
  have e : (fun b j => if b = a ∧ j < 0 then x else zI μ b j) = zI μ := by
    funext b j
    rw [if_neg (by omega)]
  show (μ.1, μ.2.1, μ.2.2.1, (fun b j => if b = a ∧ j < 0 then x else zI μ b j), μ.2.2.2.2.1, μ.2.2.2.2.2) = _
  rw [e]
  rfl
theorem c_init (k : K none (zMa L xs)) : AW E l (d + 3) nc ns mX10_init 116 [some (.ref 11), some (.int 0)] [] (zMd L xs) K := by
  obtain ⟨h1, h2, h3, h4, h5, h6, h7⟩ := mbd L xs
  have k11 : zK (zMd L xs) 11 = 10 := by rw [h2]; rfl
  have a10 : zA (zMd L xs) 11 10 = some 30 := by rw [h4]; decide +kernel
  have k30 : zK (zMd L xs) 30 = 13 := by rw [h2]; rfl
  have l30 : zL (zMd L xs) 30 = 60 := by rw [h3]; rfl
  suffices h : AW E l (d + 3) nc ns mX10_init 116 [some (.ref 11), some (.int (nI 0))] [] (sFill (zMd L xs) 30 0 2) K by
    rw [fill_0] at h
    exact h
  refine lpd (P := fun i => AW E l (d + 3) nc ns mX10_init 116 [some (.ref 11), some (.int (nI i))] [] (sFill (zMd L xs) 30 i 2) K) (n := 60) ?_ ?_
  · refine t_X10_init_116 ⟨k11, fun z => ?_, fun b hb => ?_⟩
    · rw [show zA (sFill (zMd L xs) 30 60 2) 11 10 = zA (zMd L xs) 11 10 from rfl, a10] at z
      cases z
    · rw [show zA (sFill (zMd L xs) 30 60 2) 11 10 = zA (zMd L xs) 11 10 from rfl, a10] at hb
      cases hb
      refine ⟨k30, ?_⟩
      rw [show zL (sFill (zMd L xs) 30 60 2) 30 = zL (zMd L xs) 30 from rfl, l30]
      exact c_t (Int32.le_refl _) k
  · intro i hi ih
    refine t_X10_init_116 ⟨k11, fun z => ?_, fun b hb => ?_⟩
    · rw [show zA (sFill (zMd L xs) 30 i 2) 11 10 = zA (zMd L xs) 11 10 from rfl, a10] at z
      cases z
    · rw [show zA (sFill (zMd L xs) 30 i 2) 11 10 = zA (zMd L xs) 11 10 from rfl, a10] at hb
      cases hb
      refine ⟨k30, ?_⟩
      rw [show zL (sFill (zMd L xs) 30 i 2) 30 = zL (zMd L xs) 30 from rfl, l30, nI_clamp (by omega), nI_1, fill_s]
      exact c_f (by rw [nI_leI (by decide) (by omega)]; omega) ⟨by decide, vp_in_nI hi (by decide), ih⟩
theorem law_all (hL : L ≤ 3584) : AW E l 2000 600000 7302250 mL_law 0 (zargs 4 [.ref 0]) [] (zM0 L xs) (fun v _ => v = some (.int 1)) := by
  have h7 : AW E l 300 (4 * 512 + 4 + 57) (460 * 512 + 460 + 22711) mL_law 7 (zargs 4 [.ref 0]) [.ref 11] (zMa L xs) (fun v _ => v = some (.int 1)) := t_L_law_7 (d := 295) (law_loop (d := 0) hL 512 0 0 gh0 (zMb L xs) (Nat.zero_le _) (by omega) (by decide) iv_b)
  have hi : AW E l 299 19 2301 mX10_init 0 (zargs mX10_init.2.2.1 [.ref 11]) [] (sNew (zM0 L xs) 10 0) (fun v μ1 => v = none ∧ μ1 = zMa L xs) := t_X10_init (d := 296) (nc := 0) (ns := 0) (c_init ⟨rfl, rfl⟩)
  have h : AW E l 300 (19 + (4 * 512 + 4 + 57) + 1) (2301 + (460 * 512 + 460 + 22711) + 18) mL_law 0 (zargs 4 [.ref 0]) [] (zM0 L xs) (fun v _ => v = some (.int 1)) :=
    aw_new (pc' := 3) (ci := 10) (n := 18) (dt_L_law_0 0 (0, .new 7, 3) rfl) (by decide) rfl cn_ReturnDeskLaw_7 ci_10 cj_10 rfl (aw_stk (st' := [.ref 11]) rfl (aw_dup (pc' := 4) (dt_L_law_0 1 (3, .dup, 1) rfl) rfl rfl (aw_callI (d := 299) (pc' := 7) (nc1 := 19) (ns1 := 2301) (y2 := mX10_init) (As := []) (rest := [.ref 11]) (a := 11) (K1 := fun v μ1 => v = none ∧ μ1 = zMa L xs) (dt_L_law_0 2 (4, .invokespecial 9, 3) rfl) ok_X10_init rfl rfl ln_ReturnDeskLaw_9 im_X10_init pr_X10_init rfl (Nat.le_of_ble_eq_true rfl) (Nat.le_of_ble_eq_true rfl) rfl hi (fun v μ1 e => by rw [e.1, e.2]; exact h7))))
  exact (h.deep (by decide)).more (by decide) (by decide)
end Beg
