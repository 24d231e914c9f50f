/-! texts and the limit: the frame -/
section Fr5
variable {g g' : Gh} {L : Nat} {X : Nat → Int32} {t t' : Nat} {μ μ' : ZM} {ρ ρ' : RV}
def W5 (ρ : RV) (b j : Nat) : Prop := WS ρ b j ∨ (b = 20 ∧ j = 1) ∨ (b = 31 ∧ (j = 41 ∨ j = 42 ∨ j = 49)) ∨ (b = 11 ∧ j = 16) ∨ (66 ≤ b ∧ b ≤ 69 ∧ nT ρ ≤ j) ∨ (70 ≤ b ∧ b ≤ 71 ∧ 200 * nT ρ ≤ j)
def WA5 (ρ : RV) (b j : Nat) : Prop := (b = 11 ∧ j = 11) ∨ (b = 16 ∧ nT ρ ≤ j)
theorem IV.fr5 (hI : IV g L X t μ) (hS' : Stat μ') (hx : EqX μ μ' (W5 ρ) (WA5 ρ)) (h1 : rf μ = ρ) (h2 : rf μ' = ρ') (ht : t ≤ t') (hg : ∀ i, i < nT ρ → g'.1 i = g.1 i) (cT : nT ρ ≤ nT ρ') (rs : RIs ρ') (rt : ∀ i, i < nT ρ' → nT ρ ≤ i → RTx g' ρ' i ∧ CTx g' μ' ρ' i) (rlm : RLm g' ρ') (cs : CRs μ' ρ') (cn : CRn μ' ρ') (cl : CLm g' μ' ρ') (cw : CRw μ') : IV g' L X t' μ' := by
  have hS := hI.st
  have hr := hI.r h1
  have hc := hI.c h1
  have h88 := hS.2.2.2.1
  have hN := hx.1
  have hx' : EqX μ μ' (WI μ ρ (fun _ => False) (fun _ => False) (fun _ => False) (fun _ => False)) (WA μ ρ (fun _ => False) (fun _ => False)) := by
    refine EqX.mono hx (fun b j h => ?_) (fun b j h => ?_)
    · rcases h with h | h | h | h | h | h
      · rcases h with h | h | h | h | h | h
        · exact Or.inl (Or.inl (by omega))
        · exact Or.inl (Or.inl (by omega))
        · exact Or.inl (Or.inl (by omega))
        · exact Or.inl (Or.inl (by omega))
        · exact Or.inr ⟨by omega, by omega, Or.inr (Or.inr (Or.inr (Or.inr (Or.inr (Or.inr (Or.inr (Or.inr (Or.inr (Or.inr (Or.inl (by omega)))))))))))⟩
        · exact Or.inr ⟨by omega, by omega, Or.inr (Or.inr (Or.inr (Or.inr (Or.inr (Or.inr (Or.inr (Or.inr (Or.inr (Or.inl (by omega))))))))))⟩
      · exact Or.inl (Or.inl (by omega))
      · exact Or.inl (Or.inl (by omega))
      · exact Or.inl (Or.inl (by omega))
      · exact Or.inr ⟨by omega, by omega, Or.inr (Or.inr (Or.inr (Or.inr (Or.inr (Or.inr (Or.inr (Or.inr (Or.inl (by omega)))))))))⟩
      · exact Or.inr ⟨by omega, by omega, Or.inr (Or.inr (Or.inr (Or.inr (Or.inr (Or.inr (Or.inr (Or.inr (Or.inr (Or.inl (by omega))))))))))⟩
    · rcases h with h | h
      · exact Or.inl h
      · exact Or.inr (Or.inr (Or.inr (Or.inr (Or.inr (Or.inl h)))))
  have er : ∀ b j, 31 ≤ b → b < 88 → ¬ W5 ρ b j → ρ' b j = ρ b j := fun b j b1 b2 hn => by
    rw [← rfz h2 b1 b2, ← rfz h1 b1 b2]
    exact hx.2.2.1 b j (by omega) hn
  have eI : ∀ b j, b < zN μ → ¬ W5 ρ b j → zI μ' b j = zI μ b j := hx.2.2.1
  have eA : ∀ b j, b < zN μ → ¬ WA5 ρ b j → zA μ' b j = zA μ b j := hx.2.2.2.1
  have sc : ∀ j, j = 1 ∨ j = 3 ∨ j = 14 ∨ j = 18 ∨ j = 22 ∨ j = 60 → ρ' 31 j = ρ 31 j := fun j hj => er 31 j (by decide) (by decide) (by unfold W5 WS; omega)
  have c1 : nM ρ' = nM ρ := by unfold nM; rw [sc _ (by decide)]
  have c2 : nL ρ' = nL ρ := by unfold nL; rw [sc _ (by decide)]
  have c3 : nS ρ' = nS ρ := by unfold nS; rw [sc _ (by decide)]
  have c4 : nA ρ' = nA ρ := by unfold nA; rw [sc _ (by decide)]
  have rw' : ∀ b j, 32 ≤ b → b < 65 → ρ' b j = ρ b j := fun b j b1 b2 => er b j (by omega) (by omega) (by unfold W5 WS; omega)
  have rw2 : ∀ b j, 74 ≤ b → b < 88 → ρ' b j = ρ b j := fun b j b1 b2 => er b j (by omega) (by omega) (by unfold W5 WS; omega)
  have fS : ∀ j, saF μ' j = saF μ j := fun j => by unfold saF; rw [eA 14 j (by omega) (by unfold WA5; omega)]
  have fM : ∀ j, maF μ' j = maF μ j := fun j => by unfold maF; rw [eA 12 j (by omega) (by unfold WA5; omega)]
  have fA : ∀ j, aaF μ' j = aaF μ j := fun j => by unfold aaF; rw [eA 15 j (by omega) (by unfold WA5; omega)]
  have esl : ∀ j, smo ρ' j = smo ρ j := fun j => by unfold smo lm sl; rw [rw' _ _ (by decide) (by decide), rw' _ _ (by decide) (by decide)]
  refine IV.fr hI hS' hx' h1 h2 ht hg (by omega) (by omega) (by omega) (by omega) cT (by rw [sc _ (by decide)]; exact Int.le_refl _) (by rw [sc _ (by decide)]; exact Int.le_refl _) rs
    (fun i hi q => (q (by omega)).elim) (fun i hi q => (q (by omega)).elim) (fun i hi q => (q (by omega)).elim) (fun i hi q => (q (by omega)).elim) rt ?_ ?_ rlm cs cn ?_ ?_ cl ?_ cw
  · exact hr.f.cg (by omega) (by omega) (by omega) (fun b i hb hi => rw' b i (by omega) (by omega)) (fun b i hb hi => rw' b i (by omega) (by omega)) (fun b i hb hi => rw2 b i (by omega) (by omega))
  · exact hr.w.cg c4 (fun i hi => ⟨rw2 _ _ (by decide) (by decide), by unfold as_; rw [rw2 _ _ (by decide) (by decide)]⟩) (fun i hi q1 q2 => by rw [rw' _ _ (by decide) (by decide)]; exact q2)
  · intro j hj
    rw [eI _ _ (by omega) (by unfold W5 WS; omega), rw2 _ _ (by decide) (by decide)]
    exact hc.h j hj
  · intro i j hi hj e
    rw [fA, fA] at e
    exact hc.d i j (by omega) (by omega) e
  · refine hc.u.cg (sc _ (by decide)) (by omega) (by omega) (fun b b1 b2 j => rw' _ _ (by omega) (by omega)) (fun j hj a1 a2 => ?_) (fun j hj => ⟨fS j, eA _ _ (k_sa hc hj).2.2 (by have := (k_sa hc hj).2.1; unfold WA5; omega)⟩) (fun j j1 j2 => by omega) (fun m hm => ?_) (fun m m1 m2 => by omega) (fun j hj => (hr.l (hr.sa hj).2.1).2.1) (by have := hr.s.1.2; omega)
    · rw [rw' _ _ (by decide) (by decide), rw' _ _ (by decide) (by decide), rw2 _ _ (by decide) (by decide), rw' _ _ (by decide) (by decide)]
      exact ⟨a1, a2, esl j, rfl⟩
    · have k := k_ma hc hm
      rw [fM, eA _ _ (by omega) (by unfold WA5; omega), eA _ _ (by omega) (by unfold WA5; omega), eI _ _ (by omega) (by unfold W5 WS; omega)]
      exact ⟨rfl, rfl, rfl⟩
end Fr5
/-! the names in a text, as bits -/
theorem or_and_ne {x y m : Int32} (h : ¬ x &&& m = 0) : ¬ (x ||| y) &&& m = 0 := by
  intro e
  apply h
  have e' := congrArg Int32.toBitVec e
  rw [← Int32.toBitVec_inj]
  have : (x.toBitVec ||| y.toBitVec) &&& m.toBitVec = 0#32 := e'
  show x.toBitVec &&& m.toBitVec = 0#32
  refine BitVec.eq_of_getLsbD_eq (fun i hi => ?_)
  have := congrArg (fun v => BitVec.getLsbD v i) this
  simp only [BitVec.getLsbD_and, BitVec.getLsbD_or, BitVec.getLsbD_zero] at this ⊢
  cases hx : x.toBitVec.getLsbD i <;> cases hm : m.toBitVec.getLsbD i <;> simp_all
theorem or_and_self {x m : Int32} (hm : ¬ m = 0) : ¬ (x ||| m) &&& m = 0 := by
  intro e
  apply hm
  have e' := congrArg Int32.toBitVec e
  rw [← Int32.toBitVec_inj]
  have : (x.toBitVec ||| m.toBitVec) &&& m.toBitVec = 0#32 := e'
  show m.toBitVec = 0#32
  refine BitVec.eq_of_getLsbD_eq (fun i hi => ?_)
  have := congrArg (fun v => BitVec.getLsbD v i) this
  simp only [BitVec.getLsbD_and, BitVec.getLsbD_or, BitVec.getLsbD_zero] at this ⊢
  cases hx : x.toBitVec.getLsbD i <;> cases hm : m.toBitVec.getLsbD i <;> simp_all
theorem bt_k : ∀ k, k < 12 → ¬ ((1 : Int32) <<< (nI k &&& 31)) = 0 ∧ ¬ nI (100000 + k) < 100000 ∧ nI (100000 + k) - 100000 = nI k := by decide +kernel
section Bts
variable {E : ZE} {l : Launch} {d nc ns a0 a5 n : Nat} {μ : ZM} {K : Option Value → ZM → Prop}
def bts (f : Nat → Int32) (i : Nat) (x : Int32) : Prop := ∀ j k, j < i → k < 12 → f j = nI (100000 + k) → ¬ x &&& ((1 : Int32) <<< (nI k &&& 31)) = 0
theorem c_bits (hS : Stat μ) (k0 : zK μ a0 = 9) (k5 : zK μ a5 = 13) (hl : zL μ a5 = n) (hn : n ≤ 400) (k : ∀ x, bts (zI μ a5) n x → K none (sI μ a0 5 x)) : AW E l (d + 1) nc ns mX9_init 37 [some (.ref a0), none, none, none, none, some (.ref a5), some (.int 0), some (.int 0)] [] μ K := by
  suffices h : ∀ x : Int32, bts (zI μ a5) 0 x → AW E l (d + 1) nc ns mX9_init 37 [some (.ref a0), none, none, none, none, some (.ref a5), some (.int x), some (.int (nI 0))] [] μ K from h 0 (fun j k hj => by omega)
  refine lpd (P := fun i => ∀ x : Int32, bts (zI μ a5) i x → AW E l (d + 1) nc ns mX9_init 37 [some (.ref a0), none, none, none, none, some (.ref a5), some (.int x), some (.int (nI i))] [] μ K) (n := n) ?_ ?_
  · intro x hx
    refine t_X9_init_37 hS ⟨k5, ?_⟩
    rw [hl]
    exact c_t (Int32.le_refl _) ⟨k0, k x hx⟩
  · intro i hi ih x hx
    refine t_X9_init_37 hS ⟨k5, ?_⟩
    rw [hl]
    refine c_f (by rw [nI_leI (by omega) (by omega)]; omega) ⟨vp_in_nI hi (by omega), ?_⟩
    rw [nI_clamp (by omega), nI_1]
    refine ⟨fun z => ih _ (fun j k hj hk e => ?_), fun z => ⟨vp_in_nI hi (by omega), ih _ (fun j k hj hk e => ?_)⟩⟩
    · by_cases c : j = i
      · rw [c] at e
        rw [e] at z
        exact absurd z (bt_k k hk).2.1
      · exact or_and_ne (hx j k (by omega) hk e)
    · by_cases c : j = i
      · rw [c] at e
        rw [e, (bt_k k hk).2.2]
        exact or_and_self (bt_k k hk).1
      · exact or_and_ne (hx j k (by omega) hk e)
end Bts
theorem lst_mem {f : Nat → Int32} {v : Int32} : ∀ {l : List Int32} {p : Nat}, lst f p l → v ∈ l → ∃ j, p ≤ j ∧ j < p + l.length ∧ f j = v
  | [], p, _, h => by cases h
  | x :: r, p, ⟨h1, h2⟩, h => by
    rcases List.mem_cons.mp h with e | e
    · exact ⟨p, Nat.le_refl _, by simp only [List.length_cons]; omega, by rw [h1, e]⟩
    · obtain ⟨j, j1, j2, j3⟩ := lst_mem h2 e
      exact ⟨j, by omega, by simp only [List.length_cons]; omega, j3⟩
theorem tcL_mem {v : Int32} {r : Rul} : ∀ {R : List Rul} {p : Nat}, r ∈ R → (∀ q, v ∈ tcR q r) → v ∈ tcL p R
  | [], p, h, _ => by cases h
  | x :: R, p, h, hv => by
    rcases List.mem_cons.mp h with e | e
    · rw [e] at hv
      exact List.mem_append_left _ (hv p)
    · exact List.mem_append_right _ (tcL_mem e hv)
theorem nNm_of {R : List Rul} {f : Nat → Int32} {k : Nat} {x : Int32} (hk : k < 12) (hl : lst f 0 (tcL 0 R)) (hb : bts f (tcL 0 R).length x) (h0 : x &&& ((1 : Int32) <<< (nI k &&& 31)) = 0) : nNm k R := by
  intro r hr
  have e : enC (1, k) = nI (100000 + k) := rfl
  have no : ¬ ∀ q, enC (1, k) ∈ tcR q r := fun hv => by
    obtain ⟨j, j1, j2, j3⟩ := lst_mem hl (tcL_mem hr hv)
    exact hb j k (by omega) hk (by rw [j3, e]) h0
  refine ⟨fun z => no (fun q => ?_), fun z => no (fun q => ?_)⟩
  · unfold tcR
    exact List.mem_append_left _ (List.mem_map_of_mem z)
  · unfold tcR
    exact List.mem_append_right _ (List.mem_append_right _ (List.mem_append_left _ (List.mem_map_of_mem z)))
