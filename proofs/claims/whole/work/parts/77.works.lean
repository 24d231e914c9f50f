theorem dm1 (x : Int32) : x / -1 = -x := by
  rw [i_eq, Int32.toInt_div, show (-1 : Int32).toInt = -1 from by decide, Int.tdiv_neg, Int.tdiv_one, Int32.toInt_neg]
theorem clp_r (v : Int32) : (0 ≤ v → v ≤ 100 → clp v = v) ∧ (0 ≤ v → ¬ v ≤ 100 → clp v = 100) ∧ (¬ 0 ≤ v → clp v = 0) := by
  have e0 : (0 : Int32).toInt = 0 := by decide
  have e1 : (100 : Int32).toInt = 100 := by decide
  refine ⟨fun h1 h2 => ?_, fun h1 h2 => ?_, fun h1 => ?_⟩
  · unfold clp
    rw [i_le] at h1 h2
    by_cases c : v < 100
    · rw [if_pos c]
      by_cases z : 0 < v
      · rw [if_pos z]
      · rw [if_neg z]
        rw [i_lt] at z
        rw [i_eq]
        omega
    · rw [if_neg c, if_pos (by decide)]
      rw [i_lt] at c
      rw [i_eq]
      omega
  · unfold clp
    rw [i_le] at h2
    have c : ¬ v < 100 := by rw [i_lt]; omega
    rw [if_neg c, if_pos (by decide)]
  · unfold clp
    rw [i_le] at h1
    have c : v < 100 := by rw [i_lt]; omega
    have z : ¬ 0 < v := by rw [i_lt]; omega
    rw [if_pos c, if_neg z]
theorem lst2_app {f k : Nat → Int32} : ∀ {l1 l2 : List (Int32 × Int32)} {p : Nat}, lst2 f k p (l1 ++ l2) ↔ lst2 f k p l1 ∧ lst2 f k (p + l1.length) l2
  | [], l2, p => by simp [lst2]
  | x :: r, l2, p => by
    show (f p = x.1 ∧ k p = x.2 ∧ lst2 f k (p + 1) (r ++ l2)) ↔ (f p = x.1 ∧ k p = x.2 ∧ lst2 f k (p + 1) r) ∧ lst2 f k (p + (r.length + 1)) l2
    rw [lst2_app (l1 := r), show p + 1 + r.length = p + (r.length + 1) by omega, and_assoc, and_assoc]
/-- the reference's pile -/
def MSr (μ0 μ : ZM) (st : List Int32) : Prop := EqX μ0 μ (fun b _ => b = 73) (fun _ _ => False) ∧ zN μ = zN μ0 ∧ (∀ j, zJ μ 86 j = zJ μ0 86 j) ∧ stk (zI μ 73) st
section Works
variable {E : ZE} {l : Launch} {d nc ns : Nat} {μ0 μ : ZM} {K : Option Value → ZM → Prop} {st : List Int32} {a v : Int32}
theorem MSr.set (h : MSr μ0 μ st) : MSr μ0 (sI μ 73 st.length v) (v :: st) := by
  obtain ⟨h1, h2, h3, h5⟩ := h
  exact ⟨h1.wi (Or.inl rfl), h2, h3, zI_eq, stk_cg (fun j hj => zI_nk (by omega)) h5⟩
theorem MSr.tl (h : MSr μ0 μ (a :: st)) : MSr μ0 μ st ∧ zI μ 73 st.length = a := ⟨⟨h.1, h.2.1, h.2.2.1, h.2.2.2.2⟩, h.2.2.2.1⟩
theorem MSr.nil (h : MSr μ0 μ st) : MSr μ0 μ [] := ⟨h.1, h.2.1, h.2.2.1, trivial⟩
theorem r_both (hS : Stat μ) {b : Nat} (hb : b < 9) {x y : Int32} (k : K (some (.int (cmb b x y))) μ) : AW E l d nc ns mX11_both 0 (zargs 3 [.int (opR b), .int x, .int y]) [] μ K := by
  refine t_X11_both hS ?_
  have hb : b = 0 ∨ b = 1 ∨ b = 2 ∨ b = 3 ∨ b = 4 ∨ b = 5 ∨ b = 6 ∨ b = 7 ∨ b = 8 := by omega
  have o0 : opR 0 = 10 := rfl
  have o1 : opR 1 = 11 := rfl
  have o2 : opR 2 = 20 := rfl
  have o3 : opR 3 = 21 := rfl
  have o4 : opR 4 = 22 := rfl
  have o5 : opR 5 = 30 := rfl
  have o6 : opR 6 = 31 := rfl
  have o7 : opR 7 = 32 := rfl
  have o8 : opR 8 = 33 := rfl
  unfold cmb at k
  rcases hb with rfl | rfl | rfl | rfl | rfl | rfl | rfl | rfl | rfl
  · simp +decide only [o0, if_true, if_false, true_or, or_true, false_or, or_false, and_false, false_and, and_self, or_self, Int32.add_zero, true_implies, false_implies, implies_true, not_true_eq_false, not_false_eq_true, and_true, true_and, Option.some.injEq, reduceCtorEq, forall_eq', forall_eq] at k ⊢
    by_cases c1 : x = 0 <;> by_cases c2 : y = 0 <;> simp +decide only [c1, c2, if_true, if_false, true_or, or_true, false_or, or_false, and_false, false_and, and_self, or_self, Int32.add_zero, true_implies, false_implies, implies_true, not_true_eq_false, not_false_eq_true, and_true, true_and, Option.some.injEq, reduceCtorEq, forall_eq', forall_eq] at k ⊢ <;> exact k
  · simp +decide only [o1, if_true, if_false, true_or, or_true, false_or, or_false, and_false, false_and, and_self, or_self, Int32.add_zero, true_implies, false_implies, implies_true, not_true_eq_false, not_false_eq_true, and_true, true_and, Option.some.injEq, reduceCtorEq, forall_eq', forall_eq] at k ⊢
    by_cases c1 : x = 0 <;> by_cases c2 : y = 0 <;> simp +decide only [c1, c2, if_true, if_false, true_or, or_true, false_or, or_false, and_false, false_and, and_self, or_self, Int32.add_zero, true_implies, false_implies, implies_true, not_true_eq_false, not_false_eq_true, and_true, true_and, Option.some.injEq, reduceCtorEq, forall_eq', forall_eq] at k ⊢ <;> exact k
  · simp +decide only [o2, if_true, if_false, true_or, or_true, false_or, or_false, and_false, false_and, and_self, or_self, Int32.add_zero, true_implies, false_implies, implies_true, not_true_eq_false, not_false_eq_true, and_true, true_and, Option.some.injEq, reduceCtorEq, forall_eq', forall_eq] at k ⊢
    by_cases c1 : x < y
    · have c2 : ¬ y ≤ x := Int32.not_le.mpr c1
      simp +decide only [c1, c2, if_true, if_false, true_or, or_true, false_or, or_false, and_false, false_and, and_self, or_self, Int32.add_zero, true_implies, false_implies, implies_true, not_true_eq_false, not_false_eq_true, and_true, true_and, Option.some.injEq, reduceCtorEq, forall_eq', forall_eq] at k ⊢
      exact k
    · have c2 : y ≤ x := Int32.not_lt.mp c1
      simp +decide only [c1, c2, if_true, if_false, true_or, or_true, false_or, or_false, and_false, false_and, and_self, or_self, Int32.add_zero, true_implies, false_implies, implies_true, not_true_eq_false, not_false_eq_true, and_true, true_and, Option.some.injEq, reduceCtorEq, forall_eq', forall_eq] at k ⊢
      exact k
  · simp +decide only [o3, if_true, if_false, true_or, or_true, false_or, or_false, and_false, false_and, and_self, or_self, Int32.add_zero, true_implies, false_implies, implies_true, not_true_eq_false, not_false_eq_true, and_true, true_and, Option.some.injEq, reduceCtorEq, forall_eq', forall_eq] at k ⊢
    by_cases c1 : x = y <;> simp +decide only [c1, if_true, if_false, true_or, or_true, false_or, or_false, and_false, false_and, and_self, or_self, Int32.add_zero, true_implies, false_implies, implies_true, not_true_eq_false, not_false_eq_true, and_true, true_and, Option.some.injEq, reduceCtorEq, forall_eq', forall_eq] at k ⊢ <;> exact k
  · simp +decide only [o4, if_true, if_false, true_or, or_true, false_or, or_false, and_false, false_and, and_self, or_self, Int32.add_zero, true_implies, false_implies, implies_true, not_true_eq_false, not_false_eq_true, and_true, true_and, Option.some.injEq, reduceCtorEq, forall_eq', forall_eq] at k ⊢
    by_cases c1 : y < x
    · have c2 : ¬ x ≤ y := Int32.not_le.mpr c1
      simp +decide only [c1, c2, if_true, if_false, true_or, or_true, false_or, or_false, and_false, false_and, and_self, or_self, Int32.add_zero, true_implies, false_implies, implies_true, not_true_eq_false, not_false_eq_true, and_true, true_and, Option.some.injEq, reduceCtorEq, forall_eq', forall_eq] at k ⊢
      exact k
    · have c2 : x ≤ y := Int32.not_lt.mp c1
      simp +decide only [c1, c2, if_true, if_false, true_or, or_true, false_or, or_false, and_false, false_and, and_self, or_self, Int32.add_zero, true_implies, false_implies, implies_true, not_true_eq_false, not_false_eq_true, and_true, true_and, Option.some.injEq, reduceCtorEq, forall_eq', forall_eq] at k ⊢
      exact k
  · simp +decide only [o5, if_true, if_false, true_or, or_true, false_or, or_false, and_false, false_and, and_self, or_self, Int32.add_zero, true_implies, false_implies, implies_true, not_true_eq_false, not_false_eq_true, and_true, true_and, Option.some.injEq, reduceCtorEq, forall_eq', forall_eq] at k ⊢
    exact k
  · simp +decide only [o6, if_true, if_false, true_or, or_true, false_or, or_false, and_false, false_and, and_self, or_self, Int32.add_zero, true_implies, false_implies, implies_true, not_true_eq_false, not_false_eq_true, and_true, true_and, Option.some.injEq, reduceCtorEq, forall_eq', forall_eq] at k ⊢
    exact k
  · simp +decide only [o7, if_true, if_false, true_or, or_true, false_or, or_false, and_false, false_and, and_self, or_self, Int32.add_zero, true_implies, false_implies, implies_true, not_true_eq_false, not_false_eq_true, and_true, true_and, Option.some.injEq, reduceCtorEq, forall_eq', forall_eq] at k ⊢
    exact k
  · simp +decide only [o8, if_true, if_false, true_or, or_true, false_or, or_false, and_false, false_and, and_self, or_self, Int32.add_zero, true_implies, false_implies, implies_true, not_true_eq_false, not_false_eq_true, and_true, true_and, Option.some.injEq, reduceCtorEq, forall_eq', forall_eq] at k ⊢
    by_cases c2 : y = 0
    · simp +decide only [c2, if_true, if_false, true_or, or_true, false_or, or_false, and_false, false_and, and_self, or_self, Int32.add_zero, true_implies, false_implies, implies_true, not_true_eq_false, not_false_eq_true, and_true, true_and, Option.some.injEq, reduceCtorEq, forall_eq', forall_eq] at k ⊢
      exact k
    · by_cases c3 : y = -1
      · simp +decide only [c3, if_true, if_false, true_or, or_true, false_or, or_false, and_false, false_and, and_self, or_self, Int32.add_zero, true_implies, false_implies, implies_true, not_true_eq_false, not_false_eq_true, and_true, true_and, Option.some.injEq, reduceCtorEq, forall_eq', forall_eq, dm1] at k ⊢
        exact k
      · simp +decide only [c2, c3, if_true, if_false, true_or, or_true, false_or, or_false, and_false, false_and, and_self, or_self, Int32.add_zero, true_implies, false_implies, implies_true, not_true_eq_false, not_false_eq_true, and_true, true_and, Option.some.injEq, reduceCtorEq, forall_eq', forall_eq] at k ⊢
        exact k
end Works
section Works2
variable {E : ZE} {l : Launch} {d nc ns : Nat} {μ0 : ZM} {K : Option Value → ZM → Prop} {t e steps base many : Nat} {sk : Int32}
theorem r_worE (hN : 88 ≤ zN μ0) (ht : t < 22) (h69 : zI μ0 69 t = nI steps) (he : e = 200 * t + steps) (hsteps : steps ≤ 200) (hb : base + many ≤ 17) : ∀ (es : List Itm) (st : List Int32) (q : Nat) (μ : ZM), Stat μ → MSr μ0 μ st → wfE many st.length es → st.length + es.length ≤ 200 → lst2 (zI μ0 70) (zI μ0 71) q (es.map (enR base)) → q + es.length ≤ e →
    (∀ (μ' : ZM), Stat μ' → MSr μ0 μ' (exI (fun k => zI μ0 72 (base + k)) es st) → AW E l (d + 1) nc ns mX11_works 11 [some (.ref 31), some (.int (nI t)), some (.int (nI 1)), some (.int sk), some (.int (nI (q + es.length))), none, none] [] μ' K) → AW E l (d + 1) nc ns mX11_works 11 [some (.ref 31), some (.int (nI t)), some (.int (nI st.length)), some (.int sk), some (.int (nI q)), none, none] [] μ K
  | [], st, q, μ, hS, hM, hw, _, _, _, k => by
    have hw : st.length = 1 := hw
    rw [hw]
    exact k μ hS hM
  | i :: r, st, q, μ, hS, hM, hw, hh, hl, hq, k => by
    simp only [List.length_cons] at hh hq k
    have c70 : zI μ 70 q = (enR base i).1 := (hM.1.2.2.1 70 q (by omega) (by omega)).trans hl.1
    have c71 : zI μ 71 q = (enR base i).2 := (hM.1.2.2.1 71 q (by omega) (by omega)).trans hl.2.1
    have c69 : zI μ 69 t = nI steps := (hM.1.2.2.1 69 t (by omega) (by omega)).trans h69
    have n72 : ∀ j, zI μ 72 j = zI μ0 72 j := fun j => hM.1.2.2.1 72 j (by omega) (by omega)
    have v1 : vp_in (nI t) 22 := vp_in_nI ht (by decide)
    have v2 : (nI t).toNatClampNeg = t := nI_clamp (by omega)
    have v3 : 200 * nI t + nI steps = nI e := by rw [show (200 : Int32) = nI 200 from rfl, pk_mul, nI_add, he]
    have v4 : ¬ nI e ≤ nI q := nI_ge (by omega) (by omega)
    have v5 : vp_in (nI q) 4400 := vp_in_nI (by omega) (by decide)
    have v6 : (nI q).toNatClampNeg = q := nI_clamp (by omega)
    have v7 : vp_in (nI st.length) 210 := vp_in_nI (by omega) (by decide)
    have v8 : (nI st.length).toNatClampNeg = st.length := nI_clamp (by omega)
    have k' : ∀ (st' : List Int32) (μ1 : ZM), stp (fun k => zI μ0 72 (base + k)) i st = st' → Stat μ1 → MSr μ0 μ1 st' → wfE many st'.length r → st'.length + r.length ≤ 200 → AW E l (d + 1) nc ns mX11_works 11 [some (.ref 31), some (.int (nI t)), some (.int (nI st'.length)), some (.int sk), some (.int (nI q + 1)), none, none] [] μ1 K := by
      intro st' μ1 e1 hS1 hM1 hw1 hh1
      rw [nI_1]
      refine r_worE hN ht h69 he hsteps hb r st' (q + 1) μ1 hS1 hM1 hw1 hh1 hl.2.2 (by omega) (fun μ' hS' hM' => ?_)
      have := k μ' hS' (by unfold exI; rw [e1]; exact hM')
      rwa [show q + (r.length + 1) = q + 1 + r.length by omega] at this
    refine t_X11_works_11 hS ?_
    obtain ⟨ok, hw⟩ := hw
    rcases hw with ⟨e1, hw⟩ | ⟨e1, hw⟩ | ⟨e1, h3, hw⟩ | ⟨e1, h3, hw⟩
    · have ec : enR base i = (1, nI i.2) := by unfold enR; rw [if_pos e1]
      rw [ec] at c70 c71
      simp +decide only [v1, v2, v3, v4, v5, v6, v7, v8, c69, c70, c71, true_implies, false_implies, implies_true, not_true_eq_false, not_false_eq_true, and_true, true_and, Option.some.injEq, reduceCtorEq, forall_eq', forall_eq]
      rw [nI_1]
      exact k' (nI i.2 :: st) _ (by unfold stp; rw [if_pos e1]) hS.wI hM.set hw (by simp; omega)
    · have hv : i.2 < many := by unfold okI at ok; omega
      have ec : enR base i = (2, nI (base + i.2)) := by unfold enR; rw [if_neg (by omega), if_pos e1]
      rw [ec] at c70 c71
      have t8 : vp_in (nI (base + i.2)) 17 := vp_in_nI (by omega) (by decide)
      have t9 : (nI (base + i.2)).toNatClampNeg = base + i.2 := nI_clamp (by omega)
      simp +decide only [v1, v2, v3, v4, v5, v6, v7, v8, c69, c70, c71, t8, t9, n72, true_implies, false_implies, implies_true, not_true_eq_false, not_false_eq_true, and_true, true_and, Option.some.injEq, reduceCtorEq, forall_eq', forall_eq]
      rw [nI_1]
      exact k' (zI μ0 72 (base + i.2) :: st) _ (by unfold stp; rw [if_neg (by omega), if_pos e1]) hS.wI hM.set hw (by simp; omega)
    · have ec : enR base i = (5, 0) := by unfold enR; rw [if_neg (by omega), if_neg (by omega), if_pos e1]
      rw [ec] at c70 c71
      match st, h3, hM, hw, k', hh with
      | x :: s1, _, hM, hw, k', hh =>
        simp only [List.length_cons] at hh
        obtain ⟨T, Tv⟩ := hM.tl
        have w1 : nI (x :: s1).length - 1 = nI s1.length := nI_pred _
        have w2 : vp_in (nI s1.length) 210 := vp_in_nI (by omega) (by decide)
        have w3 : (nI s1.length).toNatClampNeg = s1.length := nI_clamp (by omega)
        simp +decide only [v1, v2, v3, v4, v5, v6, c69, c70, w1, w2, w3, Tv, true_implies, false_implies, implies_true, not_true_eq_false, not_false_eq_true, and_true, true_and, Option.some.injEq, reduceCtorEq, forall_eq', forall_eq]
        have kk := fun v e => k' (v :: s1) (sI μ 73 s1.length v) e hS.wI T.set hw (by simp; omega)
        refine ⟨fun nz => kk 0 ?_, fun z => kk 1 ?_⟩
        · unfold stp
          rw [if_neg (by omega), if_neg (by omega), if_pos e1]
          show (if x = 0 then (1 : Int32) else 0) :: s1 = _
          rw [if_neg nz]
        · unfold stp
          rw [if_neg (by omega), if_neg (by omega), if_pos e1]
          show (if x = 0 then (1 : Int32) else 0) :: s1 = _
          rw [if_pos z]
    · have hv : i.2 < 9 := by unfold okI at ok; omega
      have ec : enR base i = (opR i.2, 0) := by unfold enR; rw [if_neg (by omega), if_neg (by omega), if_neg (by omega)]
      rw [ec] at c70 c71
      have tt : ¬ opR i.2 = 1 ∧ ¬ opR i.2 = 2 ∧ ¬ opR i.2 = 3 ∧ ¬ opR i.2 = 4 ∧ ¬ opR i.2 = 5 := by
        have hb : i.2 = 0 ∨ i.2 = 1 ∨ i.2 = 2 ∨ i.2 = 3 ∨ i.2 = 4 ∨ i.2 = 5 ∨ i.2 = 6 ∨ i.2 = 7 ∨ i.2 = 8 := by omega
        rcases hb with h | h | h | h | h | h | h | h | h <;> rw [h] <;> decide
      obtain ⟨t1, t2, t3, t4, t5⟩ := tt
      match st, h3, hM, hw, k', hh with
      | y :: x :: s1, _, hM, hw, k', hh =>
        simp only [List.length_cons] at hh
        obtain ⟨T, Tv⟩ := hM.tl
        obtain ⟨U, Uv⟩ := T.tl
        have w1 : nI (y :: x :: s1).length + (-1) = nI (s1.length + 1) := by rw [← Int32.sub_eq_add_neg]; exact nI_pred _
        have w1' : nI (s1.length + 1) - 1 = nI s1.length := nI_pred _
        have w2 : vp_in (nI s1.length) 210 := vp_in_nI (by omega) (by decide)
        have w3 : (nI s1.length).toNatClampNeg = s1.length := nI_clamp (by omega)
        have w4 : vp_in (nI (s1.length + 1)) 210 := vp_in_nI (by omega) (by decide)
        have w5 : (nI (s1.length + 1)).toNatClampNeg = s1.length + 1 := nI_clamp (by omega)
        have Tv : zI μ 73 (s1.length + 1) = y := Tv
        simp only [v1, v2, v3, v4, v5, v6, c69, c70, t1, t2, t3, t4, t5, w1, w1', w2, w3, w4, w5, Tv, Uv, true_implies, false_implies, implies_true, not_true_eq_false, not_false_eq_true, and_true, true_and, Option.some.injEq, reduceCtorEq, forall_eq', forall_eq]
        refine r_both hS hv ⟨_, rfl, hS, ?_⟩
        exact k' (cmb i.2 x y :: s1) _ (by unfold stp; rw [if_neg (by omega), if_neg (by omega), if_neg (by omega)]) hS.wI U.set hw (by simp; omega)
      | [y], h3, _, _, _, _ => exact absurd h3 (by simp)
theorem r_worT (hN : 88 ≤ zN μ0) (ht : t < 20) (h69 : zI μ0 69 t = nI steps) (he : e = 200 * t + steps) (hsteps : steps ≤ 200) : ∀ (R : List Rul) (q : Nat) (μ : ZM), Stat μ → MSr μ0 μ [] → (∀ r ∈ R, okR r) → lst2 (zI μ0 70) (zI μ0 71) q (trL R) → q + (trL R).length = e → 200 * t ≤ q → (∀ μ' st', Stat μ' → MSr μ0 μ' st' → K (some (.int (evT (zI μ0 72) R))) μ') → AW E l (d + 1) nc ns mX11_works 11 [some (.ref 31), some (.int (nI t)), some (.int 0), some (.int 0), some (.int (nI q)), none, none] [] μ K
  | [], q, μ, hS, hM, _, _, hq, hlo, k => by
    have c69 : zI μ 69 t = nI steps := (hM.1.2.2.1 69 t (by omega) (by omega)).trans h69
    have v1 : vp_in (nI t) 22 := vp_in_nI (by omega) (by decide)
    have v2 : (nI t).toNatClampNeg = t := nI_clamp (by omega)
    have v3 : 200 * nI t + nI steps = nI e := by rw [show (200 : Int32) = nI 200 from rfl, pk_mul, nI_add, he]
    have hq : q = e := hq
    have v4 : nI e ≤ nI q := by rw [hq]; exact Int32.le_refl _
    have v5 : ¬ nI t = 20 := by rw [show (20 : Int32) = nI 20 from rfl, nI_eq (by omega) (by omega)]; omega
    refine t_X11_works_11 hS ?_
    simp only [v1, v2, v3, v4, v5, c69, true_implies, false_implies, implies_true, not_true_eq_false, not_false_eq_true, and_true, true_and, Option.some.injEq, reduceCtorEq, forall_eq', forall_eq]
    exact k _ _ hS hM
  | r :: R, q, μ, hS, hM, hok, hl, hq, hlo, k => by
    have okr := hok r (by simp)
    unfold trL at hl hq
    rw [lst2_app] at hl
    obtain ⟨hl1, hl2⟩ := hl
    rw [List.length_append] at hq
    have v1 : vp_in (nI t) 22 := vp_in_nI (by omega) (by decide)
    have v2 : (nI t).toNatClampNeg = t := nI_clamp (by omega)
    have v3 : 200 * nI t + nI steps = nI e := by rw [show (200 : Int32) = nI 200 from rfl, pk_mul, nI_add, he]
    have Nf : (fun k => zI μ0 72 (0 + k)) = zI μ0 72 := by funext k; rw [Nat.zero_add]
    -- the giving: the value lies on the pile
    have gives : ∀ (v : Int32) (sk : Int32) (p : Nat) (μ : ZM), Stat μ → MSr μ0 μ [v] → p < e → zI μ0 70 p = 4 → zI μ0 71 p = nI r.2.1 → ((sk = 0 ∧ 1000 * nI r.2.1 + clp v = evT (zI μ0 72) (r :: R)) ∨ (sk = 1 ∧ evT (zI μ0 72) (r :: R) = evT (zI μ0 72) R ∧ p + 1 = q + (trR r).length)) → AW E l (d + 1) nc ns mX11_works 11 [some (.ref 31), some (.int (nI t)), some (.int (nI 1)), some (.int sk), some (.int (nI p)), none, none] [] μ K := by
      intro v sk p μ hS hM hp h70 h71 hc
      have c70 : zI μ 70 p = 4 := (hM.1.2.2.1 70 p (by omega) (by omega)).trans h70
      have c71 : zI μ 71 p = nI r.2.1 := (hM.1.2.2.1 71 p (by omega) (by omega)).trans h71
      have c69 : zI μ 69 t = nI steps := (hM.1.2.2.1 69 t (by omega) (by omega)).trans h69
      have v4 : ¬ nI e ≤ nI p := nI_ge (by omega) (by omega)
      have v5 : vp_in (nI p) 4400 := vp_in_nI (by omega) (by decide)
      have v6 : (nI p).toNatClampNeg = p := nI_clamp (by omega)
      have c73 : zI μ 73 0 = v := hM.2.2.2.1
      refine t_X11_works_11 hS ?_
      obtain ⟨cl1, cl2, cl3⟩ := clp_r v
      rcases hc with ⟨rfl, ev⟩ | ⟨rfl, ev, hp1⟩
      · rw [← ev] at k
        have kk := k _ _ hS hM
        by_cases z1 : 0 ≤ v
        · by_cases z2 : v ≤ 100
          · rw [cl1 z1 z2] at kk
            simp +decide only [v1, v2, v3, v4, v5, v6, c69, c70, c71, c73, z1, z2, true_implies, false_implies, implies_true, not_true_eq_false, not_false_eq_true, and_true, true_and, Option.some.injEq, reduceCtorEq, forall_eq', forall_eq]
            exact kk
          · rw [cl2 z1 z2] at kk
            simp +decide only [v1, v2, v3, v4, v5, v6, c69, c70, c71, c73, z1, z2, true_implies, false_implies, implies_true, not_true_eq_false, not_false_eq_true, and_true, true_and, Option.some.injEq, reduceCtorEq, forall_eq', forall_eq]
            exact kk
        · rw [cl3 z1] at kk
          simp +decide only [v1, v2, v3, v4, v5, v6, c69, c70, c71, c73, z1, true_implies, false_implies, implies_true, not_true_eq_false, not_false_eq_true, and_true, true_and, Option.some.injEq, reduceCtorEq, forall_eq', forall_eq]
          exact kk
      · rw [ev] at k
        have nx := r_worT hN ht h69 he hsteps R (q + (trR r).length) μ hS hM.nil (fun r hr => hok r (by simp [hr])) hl2 (by omega) (by omega) k
        rw [← hp1, ← nI_1] at nx
        by_cases z1 : 0 ≤ v <;> by_cases z2 : v ≤ 100
        all_goals
          simp +decide only [v1, v2, v3, v4, v5, v6, c69, c70, c71, c73, z1, z2, true_implies, false_implies, implies_true, not_true_eq_false, not_false_eq_true, and_true, true_and, Option.some.injEq, reduceCtorEq, forall_eq', forall_eq]
          exact nx
    -- the out with its E
    have outs : ∀ (sk : Int32) (p : Nat) (μ : ZM), q ≤ p → Stat μ → MSr μ0 μ [] → p + ((if r.2.1 < 3 then [((1 : Int32), if r.2.1 = 0 then (0 : Int32) else 100)] else r.2.2.map (enR 0)) ++ [(4, nI r.2.1)]).length = q + (trR r).length → lst2 (zI μ0 70) (zI μ0 71) p ((if r.2.1 < 3 then [((1 : Int32), if r.2.1 = 0 then (0 : Int32) else 100)] else r.2.2.map (enR 0)) ++ [(4, nI r.2.1)]) → ((sk = 0 ∧ (r.1 = [] ∨ ¬ (exI (zI μ0 72) r.1 []).headD 0 = 0)) ∨ (sk = 1 ∧ ¬ (r.1 = [] ∨ ¬ (exI (zI μ0 72) r.1 []).headD 0 = 0))) → AW E l (d + 1) nc ns mX11_works 11 [some (.ref 31), some (.int (nI t)), some (.int 0), some (.int sk), some (.int (nI p)), none, none] [] μ K := by
      intro sk p μ hqp hS hM hp hl hc
      have hg : ∀ (v : Int32) (w : Nat), giv r.2.1 ((exI (zI μ0 72) r.2.2 []).headD 0) = 1000 * nI r.2.1 + clp v → w + 1 = q + (trR r).length → (sk = 0 ∧ 1000 * nI r.2.1 + clp v = evT (zI μ0 72) (r :: R)) ∨ (sk = 1 ∧ evT (zI μ0 72) (r :: R) = evT (zI μ0 72) R ∧ w + 1 = q + (trR r).length) := by
        intro v w hv hw
        rcases hc with ⟨h1, h2⟩ | ⟨h1, h2⟩
        · refine Or.inl ⟨h1, ?_⟩
          show _ = (if _ then _ else _)
          rw [if_pos h2, hv]
        · refine Or.inr ⟨h1, ?_, hw⟩
          show (if _ then _ else _) = _
          rw [if_neg h2]
      by_cases c3 : r.2.1 < 3
      · rw [if_pos c3] at hl hp
        simp only [List.singleton_append, List.length_cons, List.length_nil] at hl hp
        obtain ⟨x1, x2, x3, x4, -⟩ := hl
        have x1 : zI μ0 70 p = 1 := x1
        have x2 : zI μ0 71 p = if r.2.1 = 0 then (0 : Int32) else 100 := x2
        have c70 : zI μ 70 p = 1 := (hM.1.2.2.1 70 p (by omega) (by omega)).trans x1
        have c71 := (hM.1.2.2.1 71 p (by omega) (by omega)).trans x2
        have c69 : zI μ 69 t = nI steps := (hM.1.2.2.1 69 t (by omega) (by omega)).trans h69
        have v4 : ¬ nI e ≤ nI p := nI_ge (by omega) (by omega)
        have v5 : vp_in (nI p) 4400 := vp_in_nI (by omega) (by decide)
        have v6 : (nI p).toNatClampNeg = p := nI_clamp (by omega)
        have v7 : vp_in (0 : Int32) 210 := vp_in_nI (n := 0) (by decide) (by decide)
        have v8 : (0 : Int32).toNatClampNeg = 0 := by decide
        refine t_X11_works_11 hS ?_
        simp +decide only [v1, v2, v3, v4, v5, v6, v7, v8, c69, c70, c71, true_implies, false_implies, implies_true, not_true_eq_false, not_false_eq_true, and_true, true_and, Option.some.injEq, reduceCtorEq, forall_eq', forall_eq]
        have sM := hM.set (v := if r.2.1 = 0 then (0 : Int32) else 100)
        have nx := gives (if r.2.1 = 0 then (0 : Int32) else 100) sk (p + 1) _ hS.wI sM (by omega) x3 x4 (hg _ (p + 1) ?_ (by omega))
        · rw [← nI_1 p] at nx
          exact nx
        · unfold giv
          rw [if_pos c3]
          have hb : r.2.1 = 0 ∨ r.2.1 = 1 ∨ r.2.1 = 2 := by omega
          rcases hb with h | h | h <;> rw [h] <;> decide
      · rw [if_neg c3] at hl hp
        rw [lst2_app, List.length_map] at hl
        obtain ⟨ha, hb⟩ := hl
        rw [List.length_append, List.length_map] at hp
        simp only [List.length_cons, List.length_nil] at hp
        have wE : wfE 12 0 r.2.2 := by
          rcases okr.2.2 with ⟨o1, o2⟩ | ⟨o1, o2⟩
          · exact absurd o1 c3
          · exact o2
        refine r_worE hN (by omega) h69 he hsteps (base := 0) (many := 12) (by decide) r.2.2 [] p μ hS hM wE (by simp; omega) ha (by omega) (fun μ' hS' hM' => ?_)
        rw [Nf] at hM'
        have ln := exI_len (N := zI μ0 72) (st := []) wE
        obtain ⟨v, hv⟩ : ∃ v, exI (zI μ0 72) r.2.2 [] = [v] := by
          match hx : exI (zI μ0 72) r.2.2 [], ln with
          | [v], _ => exact ⟨v, rfl⟩
        rw [hv] at hM'
        refine gives v sk (p + r.2.2.length) μ' hS' hM' (by omega) hb.1 hb.2.1 (hg v _ ?_ (by omega))
        unfold giv
        rw [if_neg c3, hv]
        rfl
    have htr : (trR r).length = (trR r).length := rfl
    unfold trR at hl1
    by_cases ce : r.1 = []
    · have e0 : r.1.isEmpty = true := by rw [ce]; rfl
      rw [e0] at hl1
      rw [ce] at hl1
      simp only [List.map_nil, if_true, List.nil_append] at hl1
      refine outs 0 q μ (Nat.le_refl _) hS hM ?_ hl1 (Or.inl ⟨rfl, Or.inl ce⟩)
      unfold trR
      rw [e0, ce]
      simp only [List.map_nil, if_true, List.nil_append]
    · have e0 : r.1.isEmpty = false := by
        cases h : r.1 with
        | nil => exact absurd h ce
        | cons => rfl
      have wc : wfE 12 0 r.1 := okr.1.resolve_left ce
      have ltr : (trR r).length = r.1.length + (1 + ((if r.2.1 < 3 then [((1 : Int32), if r.2.1 = 0 then (0 : Int32) else 100)] else r.2.2.map (enR 0)) ++ [(4, nI r.2.1)]).length) := by
        unfold trR
        rw [e0]
        simp only [Bool.false_eq_true, if_false, List.length_append, List.length_map, List.length_singleton]
      rw [e0] at hl1
      simp only [Bool.false_eq_true, if_false] at hl1
      rw [lst2_app, List.length_map] at hl1
      obtain ⟨ha1, ha2⟩ := hl1
      rw [lst2_app] at ha2
      obtain ⟨hb1, hb2⟩ := ha2
      refine r_worE hN (by omega) h69 he hsteps (base := 0) (many := 12) (by decide) r.1 [] q μ hS hM wc (by simp; omega) ha1 (by omega) (fun μ' hS' hM' => ?_)
      rw [Nf] at hM'
      have ln := exI_len (N := zI μ0 72) (st := []) wc
      obtain ⟨v, hv⟩ : ∃ v, exI (zI μ0 72) r.1 [] = [v] := by
        match hx : exI (zI μ0 72) r.1 [], ln with
        | [v], _ => exact ⟨v, rfl⟩
      rw [hv] at hM'
      obtain ⟨p, hp⟩ : ∃ p, p = q + r.1.length := ⟨_, rfl⟩
      rw [← hp] at hb1 hb2 ⊢
      have x1 : zI μ0 70 p = 3 := hb1.1
      have c70 : zI μ' 70 p = 3 := (hM'.1.2.2.1 70 p (by omega) (by omega)).trans x1
      have c69 : zI μ' 69 t = nI steps := (hM'.1.2.2.1 69 t (by omega) (by omega)).trans h69
      have c73 : zI μ' 73 0 = v := hM'.2.2.2.1
      have v4 : ¬ nI e ≤ nI p := nI_ge (by omega) (by omega)
      have v5 : vp_in (nI p) 4400 := vp_in_nI (by omega) (by decide)
      have v6 : (nI p).toNatClampNeg = p := nI_clamp (by omega)
      have hb2 : lst2 (zI μ0 70) (zI μ0 71) (p + 1) _ := hb2
      refine t_X11_works_11 hS' ?_
      simp +decide only [v1, v2, v3, v4, v5, v6, c69, c70, c73, true_implies, false_implies, implies_true, not_true_eq_false, not_false_eq_true, and_true, true_and, Option.some.injEq, reduceCtorEq, forall_eq', forall_eq]
      rw [nI_1]
      refine ⟨fun nz => ?_, fun z => ?_⟩
      · exact outs 0 (p + 1) μ' (by omega) hS' hM'.nil (by omega) hb2 (Or.inl ⟨rfl, Or.inr (by rw [hv]; exact nz)⟩)
      · refine outs 1 (p + 1) μ' (by omega) hS' hM'.nil (by omega) hb2 (Or.inr ⟨rfl, ?_⟩)
        rintro (y | y)
        · exact ce y
        · rw [hv] at y
          exact y z
end Works2
