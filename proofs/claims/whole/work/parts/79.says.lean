theorem RE.sc {ρ ρ1 : RV} (h : RE ρ ρ1) : SC ρ ρ1 := fun j hj => h 31 j (by decide) (by decide) (by omega)
theorem RIg.re {g : Gh} {t : Nat} {ρ ρ1 : RV} (hr : RIg g t ρ) (h : RE ρ ρ1) : RIg g t ρ1 := by
  obtain ⟨c1, c2, c3, c4, c5, c6, c7, c8⟩ := h.sc.c
  have eh : ρ1 31 1 = ρ 31 1 := h 31 _ (by decide) (by decide) (by omega)
  refine ⟨hr.s.cg h.sc, fun i hi => (hr.m (by omega)).fr (Nat.le_refl _) (fun b b1 b2 _ _ => h b i (by omega) (by omega) (by omega)) (fun b b1 b2 j _ => h b _ (by omega) (by omega) (by omega)), fun i hi => (hr.l (by omega)).fr (fun b b1 b2 => h b i (by omega) (by omega) (by omega)) (by omega), fun i hi => (hr.sa (by omega)).fr (fun b b1 b2 => h b i (by omega) (by omega) (by omega)) (by omega) (by omega) (by rw [eh]; exact Int.le_refl _) (by rw [eh]; exact Int.le_refl _), fun i hi => (hr.a (by omega)).fr (fun b b1 b2 => h b i (by omega) (by omega) (by omega)) (by omega) (by rw [eh]; exact Int.le_refl _), ?_, ?_, fun i hi => (hr.tx (by omega)).fr rfl (h _ _ (by decide) (by decide) (by omega)) (fun j _ => ⟨h _ _ (by decide) (by decide) (by omega), h _ _ (by decide) (by decide) (by omega)⟩), ?_⟩
  · exact hr.f.cg (by omega) (by omega) (by omega) (fun b i hb _ => h b i (by omega) (by omega) (by omega)) (fun b i hb _ => h b i (by omega) (by omega) (by omega)) (fun b i hb _ => h b i (by omega) (by omega) (by omega))
  · exact hr.w.cg c4 (fun i hi => ⟨h _ _ (by decide) (by decide) (by omega), by unfold as_; rw [h _ _ (by decide) (by decide) (by omega)]⟩) (fun i hi q1 q2 => by rw [h _ _ (by decide) (by decide) (by omega)]; exact q2)
  · exact hr.lm.cg (h _ _ (by decide) (by decide) (by omega)) (h _ _ (by decide) (by decide) (by omega)) (fun j _ _ => ⟨h _ _ (by decide) (by decide) (by omega), h _ _ (by decide) (by decide) (by omega)⟩)
theorem RE_x2 {μ M : ZM} {ρ : RV} {Wa : Nat → Nat → Prop} (hS : Stat μ) (h : RE ρ (rf μ)) (hx : EqX μ M (fun b j => b = 72 ∨ b = 73 ∨ (b = 31 ∧ 76 ≤ j)) Wa) : RE ρ (rf M) := by
  intro b j n1 n2 n3
  rw [← h b j n1 n2 n3]
  unfold rf
  split
  · exact hx.2.2.1 b j (by have := hS.N; omega) (by omega)
  · rfl
theorem RE_x {μ M : ZM} {ρ : RV} {Wa : Nat → Nat → Prop} (hS : Stat μ) (h : RE ρ (rf μ)) (hx : EqX μ M (fun b _ => b = 72 ∨ b = 73) Wa) : RE ρ (rf M) := RE_x2 hS h (hx.mono (fun b j h => by omega) (fun _ _ h => h))
/-- what a side says -/
def syV (g : Gh) (ρ : RV) (N : Nat → Int32) (x1 : Int32) (s : Nat) (x3 : Int32) : Int32 := match foT ρ x1 s x3 (nT ρ) with
  | none => 0
  | some i => evT N (g.1 i)
section SaysR
variable {E : ZE} {l : Launch} {d nc ns : Nat} {g : Gh} {L : Nat} {X : Nat → Int32} {t : Nat} {μ : ZM} {ρ : RV} {K : Option Value → ZM → Prop} {s n : Nat} {x1 x3 : Int32}
theorem r_factsOf {pf day : Int32} (hS : Stat μ) (hr : RIg g t ρ) (hR : RE ρ (rf μ)) (hs : s < nS ρ) (k : ∀ M, Stat M → EqX μ M (fun b j => b = 72 ∧ 4 ≤ j ∧ j < 12) (fun _ _ => False) → (∀ j, zJ M 86 j = zJ μ 86 j) → (∀ (d f w o : Int32) k, 4 ≤ k → k < 12 → zI M 72 k = nmF ρ s pf day d f w o k) → K none M) : AW E l (d + 2) nc ns mX11_factsOf 0 (zargs 4 [.ref 31, .int (nI s), .int pf, .int day]) [] μ K := by
  have R : ∀ a j, 31 ≤ a → a < 88 → a ≠ 72 → a ≠ 73 → (a = 31 → j < 76) → zI μ a j = ρ a j := fun a j h1 h2 h3 h4 h5 => by rw [← rf_z h1 h2]; exact hR a j h3 h4 h5
  obtain ⟨b1, b2, b3, b4, b5, b6, b7, b8⟩ := hr.s
  have b300 := b3.2
  have b20 := b1.2
  have w1 : vp_in (nI s) 300 := vp_in_nI (by omega) (by decide)
  have w2 : (nI s).toNatClampNeg = s := nI_clamp (by omega)
  have w3 := v_sl hr hs
  have lr := hr.l (hr.sa hs).2.1
  have e45 : ρ 45 (ρ 49 s).toNatClampNeg = nI (smo ρ s) := lr.1
  have hm : smo ρ s < nM ρ := lr.2.1
  have v20 : vp_in (nI (smo ρ s)) 20 := vp_in_nI (by omega) (by decide)
  have c20 : (nI (smo ρ s)).toNatClampNeg = smo ρ s := nI_clamp (by omega)
  have d9 := (hr.sa hs).2.2.2.2.2.2.2.2.1
  have n10 : ¬ (1 : Int32) = 0 := by decide
  have fin : ∀ (gf : Int32), gf = ρ 57 s → ∀ M1, M1 = sI (sI (sI (sI (sI (sI μ 72 4 pf) 72 5 gf) 72 6 (ρ 32 (smo ρ s))) 72 7 (ρ 56 s)) 72 8 (ρ 50 s)) 72 9 (moF ρ s) → AW E l (d + 1) 0 0 mX11_threes 0 (zargs 4 [.ref 31, .int (nI s)]) [] M1 (fun v μ12 => ∃ r14 : Int32, v = some (.int r14) ∧ Stat μ12 ∧ AW E l (d + 1) 0 0 mX11_times 0 (zargs 5 [.ref 31, .int (nI s), .int day]) [] (sI μ12 72 10 r14) (fun v μ15 => ∃ r17 : Int32, v = some (.int r17) ∧ Stat μ15 ∧ K none (sI μ15 72 11 r17))) := by
    intro gf hgf M1 e1
    have hS1 : Stat M1 := by
      rw [e1]
      repeat' (with_reducible first | exact hS | refine Stat.wI ?_)
    have x1 : EqX μ M1 (fun b j => b = 72 ∧ 4 ≤ j ∧ j < 12) (fun _ _ => False) := by
      rw [e1]
      repeat' (with_reducible first | exact EqX.rfl | refine EqX.wi ?_ (Or.inl ⟨rfl, by decide, by decide⟩))
    have j1 : ∀ j, zJ M1 86 j = zJ μ 86 j := fun j => by rw [e1]; simp only [zJ_sI]
    have R1 := RE_x hS hR (x1.mono (fun b j h => Or.inl h.1) (fun _ _ h => h))
    refine r_threes hS1 (hr.re R1) rfl (by rw [nS_cg R1]; exact hs) ⟨_, rfl, hS1, ?_⟩
    rw [thF_cg R1]
    have x2 := x1.wi (a := 72) (k := 10) (x := thF ρ s) (Or.inl ⟨rfl, by decide, by decide⟩)
    have R2 := RE_x hS hR (x2.mono (fun b j h => Or.inl h.1) (fun _ _ h => h))
    refine r_times hS1.wI (hr.re R2) rfl (by rw [nS_cg R2]; exact hs) ⟨_, rfl, hS1.wI, ?_⟩
    rw [tiF_cg R2]
    refine k _ hS1.wI.wI (x2.wi (Or.inl ⟨rfl, by decide, by decide⟩)) j1 (fun d f w o k k1 k2 => ?_)
    rw [e1, hgf]
    have hk : k = 4 ∨ k = 5 ∨ k = 6 ∨ k = 7 ∨ k = 8 ∨ k = 9 ∨ k = 10 ∨ k = 11 := by omega
    rcases hk with rfl | rfl | rfl | rfl | rfl | rfl | rfl | rfl
    all_goals
      simp (disch := omega) only [zI_nk, zI_eq]
      rfl
  refine t_X11_factsOf hS ?_
  rcases d9 with z | z
  · simp (disch := omega) only [w1, w2, w3, zI_ne, R, e45, v20, c20, z, true_implies, false_implies, implies_true, not_true_eq_false, not_false_eq_true, and_true, true_and, Option.some.injEq, reduceCtorEq, forall_eq', forall_eq]
    exact fin 0 z.symm _ rfl
  · simp (disch := omega) only [w1, w2, w3, zI_ne, R, e45, v20, c20, z, n10, true_implies, false_implies, implies_true, not_true_eq_false, not_false_eq_true, and_true, true_and, Option.some.injEq, reduceCtorEq, forall_eq', forall_eq]
    exact fin 1 z.symm _ rfl
theorem r_works {i : Nat} (hS : Stat μ) (hr : RIg g t ρ) (hR : RE ρ (rf μ)) (hi : i < nT ρ) (k : ∀ M st, Stat M → MSr μ M st → K (some (.int (evT (zI μ 72) (g.1 i)))) M) : AW E l (d + 1) nc ns mX11_works 0 (zargs 7 [.ref 31, .int (nI i)]) [] μ K := by
  have R : ∀ a j, 31 ≤ a → a < 88 → a ≠ 72 → a ≠ 73 → (a = 31 → j < 76) → zI μ a j = ρ a j := fun a j h1 h2 h3 h4 h5 => by rw [← rf_z h1 h2]; exact hR a j h3 h4 h5
  obtain ⟨h1, h2, h3⟩ := hr.tx hi
  have b20 := hr.s.2.2.2.2.1.2
  refine t_X11_works hS ?_
  rw [show (200 : Int32) = nI 200 from rfl, pk_mul]
  refine r_worT hS.N (by omega) (steps := (trL (g.1 i)).length) (by rw [R _ _ (by decide) (by decide) (by decide) (by decide) (by omega)]; exact h2) rfl h1.2.2 (g.1 i) (200 * i) μ hS ⟨EqX.rfl, rfl, fun _ => rfl, trivial⟩ h1.1 ?_ rfl (Nat.le_refl _) k
  exact lst2_cg (fun j _ _ => ⟨R _ _ (by decide) (by decide) (by decide) (by decide) (by omega), R _ _ (by decide) (by decide) (by decide) (by decide) (by omega)⟩) h3
theorem r_sideSays (hS : Stat μ) (hr : RIg g t ρ) (hR : RE ρ (rf μ)) (hs : s < nS ρ) (k : ∀ M st, Stat M → MSr μ M st → K (some (.int (syV g ρ (zI μ 72) x1 s x3))) M) : AW E l (d + 2) nc ns mX11_sideSays 0 (zargs 5 [.ref 31, .int x1, .int (nI s), .int x3]) [] μ K := by
  refine t_X11_sideSays hS ?_
  refine r_forceOn hS (hr.re hR) rfl (by rw [nS_cg hR]; exact hs) ⟨_, rfl, hS, ?_⟩
  rw [foT_cg hR, nT_cg hR]
  unfold syV at k
  have b20 := hr.s.2.2.2.2.1.2
  cases hf : foT ρ x1 s x3 (nT ρ) with
  | none =>
    rw [hf] at k
    have : ¬ (0 : Int32) ≤ foI none := by decide
    simp (disch := omega) only [this, true_implies, false_implies, implies_true, not_true_eq_false, not_false_eq_true, and_true, true_and, Option.some.injEq, reduceCtorEq, forall_eq', forall_eq]
    exact k μ [] hS ⟨EqX.rfl, rfl, fun _ => rfl, trivial⟩
  | some i =>
    rw [hf] at k
    have hi : i < nT ρ := foF_lt hf
    have : (0 : Int32) ≤ foI (some i) := nI_pos' (by omega)
    simp (disch := omega) only [this, true_implies, false_implies, implies_true, not_true_eq_false, not_false_eq_true, and_true, true_and, Option.some.injEq, reduceCtorEq, forall_eq', forall_eq]
    exact r_works hS hr hR hi (fun M st hS' hM => ⟨_, rfl, hS', k M st hS' hM⟩)
theorem c_runText {i : Nat} (hI : IV g L X t μ) (hρ : rf μ = ρ) (hi : i < nT ρ) (k : ∀ M st, Stat M → MSc μ M st → K (some (.int (evT (zI μ 27) (g.1 i)))) M) : AW E l (d + 3) nc ns mX3_run 0 (zargs 5 [.ref 26, .ref (taF μ i + 1)]) [] μ K := by
  obtain ⟨c1, c2, c3, c4, c5, c6, c7, c8, c9, c10, c11, c12, c13⟩ := (hI.c hρ).tx hi
  exact c_run hI.st c10 (by omega) c3 ((hI.r hρ).tx hi).1 c11 c12 k
end SaysR
