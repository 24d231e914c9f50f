/-! working a text out -/
def cmb (b : Nat) (x y : Int32) : Int32 := if b = 0 then (if ¬ x = 0 ∨ ¬ y = 0 then 1 else 0) else if b = 1 then (if ¬ x = 0 ∧ ¬ y = 0 then 1 else 0) else if b = 2 then (if x < y then 1 else 0) else if b = 3 then (if x = y then 1 else 0) else if b = 4 then (if y < x then 1 else 0) else if b = 5 then x + y else if b = 6 then x - y else if b = 7 then x * y else (if y = 0 then 0 else x / y)
def stp (N : Nat → Int32) (i : Itm) (st : List Int32) : List Int32 := if i.1 = 0 then nI i.2 :: st else if i.1 = 1 then N i.2 :: st else if i.1 = 2 then (match st with
  | a :: s => (if a = 0 then 1 else 0) :: s
  | [] => []) else (match st with
  | b :: a :: s => cmb i.2 a b :: s
  | s => s)
def exI (N : Nat → Int32) : List Itm → List Int32 → List Int32
  | [], st => st
  | i :: r, st => exI N r (stp N i st)
def stk (f : Nat → Int32) : List Int32 → Prop
  | [] => True
  | a :: s => f s.length = a ∧ stk f s
theorem stk_cg {f f' : Nat → Int32} : ∀ {s : List Int32}, (∀ j, j < s.length → f' j = f j) → stk f s → stk f' s
  | [], _, _ => trivial
  | a :: s, e, h => ⟨(e _ (by simp)).trans h.1, stk_cg (fun j hj => e j (by simp; omega)) h.2⟩
/-- the machine's memory: its stack -/
def MSc (μ0 μ : ZM) (st : List Int32) : Prop := EqX μ0 μ (fun b j => (b = 26 ∧ j = 2) ∨ b = 28) (fun _ _ => False) ∧ zN μ = zN μ0 ∧ (∀ j, zJ μ 86 j = zJ μ0 86 j) ∧ zI μ 26 2 = nI st.length ∧ stk (zI μ 28) st
section Mach
variable {E : ZE} {l : Launch} {d nc ns : Nat} {μ0 μ : ZM} {K : Option Value → ZM → Prop} {st : List Int32} {a v : Int32}
theorem MSc.push (h : MSc μ0 μ st) : MSc μ0 (sI (sI μ 28 st.length v) 26 2 (nI st.length + 1)) (v :: st) := by
  obtain ⟨h1, h2, h3, h4, h5⟩ := h
  refine ⟨(h1.wi (Or.inl (Or.inr rfl))).wi (Or.inl (Or.inl ⟨rfl, rfl⟩)), h2, h3, ?_, ?_, ?_⟩
  · rw [zI_eq, nI_1]
    rfl
  · rw [zI_ne (by decide), zI_eq]
  · refine stk_cg (fun j hj => ?_) h5
    rw [zI_ne (by decide), zI_nk (by omega)]
theorem MSc.pop (h : MSc μ0 μ (a :: st)) : MSc μ0 (sI μ 26 2 (nI (st.length + 1) - 1)) st ∧ zI (sI μ 26 2 (nI (st.length + 1) - 1)) 28 st.length = a := by
  obtain ⟨h1, h2, h3, h4, h5⟩ := h
  refine ⟨⟨h1.wi (Or.inl (Or.inl ⟨rfl, rfl⟩)), h2, h3, ?_, ?_⟩, ?_⟩
  · rw [zI_eq, nI_pred]
  · exact stk_cg (fun j hj => zI_ne (by decide)) h5.2
  · rw [zI_ne (by decide)]
    exact h5.1
theorem MSc.hh (h : MSc μ0 μ st) : zI μ 26 2 = nI st.length := h.2.2.2.1
theorem c_comb (hS : Stat μ) {b : Nat} (hb : b < 9) {x y : Int32} (k : K (some (.int (cmb b x y))) μ) : AW E l (d + 1) nc ns mX3_combined 0 (zargs 3 [.int (opC b), .int x, .int y]) [] μ K := by
  refine t_X3_combined hS ?_
  have hb : b = 0 ∨ b = 1 ∨ b = 2 ∨ b = 3 ∨ b = 4 ∨ b = 5 ∨ b = 6 ∨ b = 7 ∨ b = 8 := by omega
  have o0 : opC 0 = -3 := rfl
  have o1 : opC 1 = -2 := rfl
  have o2 : opC 2 = -60 := rfl
  have o3 : opC 3 = -61 := rfl
  have o4 : opC 4 = -62 := rfl
  have o5 : opC 5 = -43 := rfl
  have o6 : opC 6 = -45 := rfl
  have o7 : opC 7 = -42 := rfl
  have o8 : opC 8 = -47 := rfl
  unfold cmb at k
  rcases hb with rfl | rfl | rfl | rfl | rfl | rfl | rfl | rfl | rfl
  · simp +decide only [o0, if_true, if_false, true_or, or_true, false_or, or_false, and_false, false_and, and_self, or_self, Int32.add_zero, true_implies, false_implies, implies_true, not_true_eq_false, not_false_eq_true, and_true, true_and, Option.some.injEq, reduceCtorEq, forall_eq', forall_eq] at k ⊢
    by_cases c1 : x = 0 <;> by_cases c2 : y = 0 <;> simp +decide only [c1, c2, if_true, if_false, true_or, or_true, false_or, or_false, and_false, false_and, and_self, or_self, Int32.add_zero, true_implies, false_implies, implies_true, not_true_eq_false, not_false_eq_true, and_true, true_and, Option.some.injEq, reduceCtorEq, forall_eq', forall_eq] at k ⊢ <;> exact k
  · simp +decide only [o1, if_true, if_false, true_or, or_true, false_or, or_false, and_false, false_and, and_self, or_self, Int32.add_zero, true_implies, false_implies, implies_true, not_true_eq_false, not_false_eq_true, and_true, true_and, Option.some.injEq, reduceCtorEq, forall_eq', forall_eq] at k ⊢
    by_cases c1 : x = 0 <;> by_cases c2 : y = 0 <;> simp +decide only [c1, c2, if_true, if_false, true_or, or_true, false_or, or_false, and_false, false_and, and_self, or_self, Int32.add_zero, true_implies, false_implies, implies_true, not_true_eq_false, not_false_eq_true, and_true, true_and, Option.some.injEq, reduceCtorEq, forall_eq', forall_eq] at k ⊢ <;> exact k
  · simp +decide only [o2, if_true, if_false, true_or, or_true, false_or, or_false, and_false, false_and, and_self, or_self, Int32.add_zero, true_implies, false_implies, implies_true, not_true_eq_false, not_false_eq_true, and_true, true_and, Option.some.injEq, reduceCtorEq, forall_eq', forall_eq] at k ⊢
    by_cases c1 : x < y
    · have c2 : ¬ y ≤ x := Int32.not_le.mpr c1
      simp +decide only [c1, c2, if_true, if_false, true_or, or_true, false_or, or_false, and_false, false_and, and_self, or_self, Int32.add_zero, true_implies, false_implies, implies_true, not_true_eq_false, not_false_eq_true, and_true, true_and, Option.some.injEq, reduceCtorEq, forall_eq', forall_eq] at k ⊢
      exact k
    · have c2 : y ≤ x := Int32.not_lt.mp c1
      simp +decide only [c1, c2, if_true, if_false, true_or, or_true, false_or, or_false, and_false, false_and, and_self, or_self, Int32.add_zero, true_implies, false_implies, implies_true, not_true_eq_false, not_false_eq_true, and_true, true_and, Option.some.injEq, reduceCtorEq, forall_eq', forall_eq] at k ⊢
      exact k
  · simp +decide only [o3, if_true, if_false, true_or, or_true, false_or, or_false, and_false, false_and, and_self, or_self, Int32.add_zero, true_implies, false_implies, implies_true, not_true_eq_false, not_false_eq_true, and_true, true_and, Option.some.injEq, reduceCtorEq, forall_eq', forall_eq] at k ⊢
    by_cases c1 : x = y <;> simp +decide only [c1, if_true, if_false, true_or, or_true, false_or, or_false, and_false, false_and, and_self, or_self, Int32.add_zero, true_implies, false_implies, implies_true, not_true_eq_false, not_false_eq_true, and_true, true_and, Option.some.injEq, reduceCtorEq, forall_eq', forall_eq] at k ⊢ <;> exact k
  · simp +decide only [o4, if_true, if_false, true_or, or_true, false_or, or_false, and_false, false_and, and_self, or_self, Int32.add_zero, true_implies, false_implies, implies_true, not_true_eq_false, not_false_eq_true, and_true, true_and, Option.some.injEq, reduceCtorEq, forall_eq', forall_eq] at k ⊢
    by_cases c1 : y < x
    · have c2 : ¬ x ≤ y := Int32.not_le.mpr c1
      simp +decide only [c1, c2, if_true, if_false, true_or, or_true, false_or, or_false, and_false, false_and, and_self, or_self, Int32.add_zero, true_implies, false_implies, implies_true, not_true_eq_false, not_false_eq_true, and_true, true_and, Option.some.injEq, reduceCtorEq, forall_eq', forall_eq] at k ⊢
      exact k
    · have c2 : x ≤ y := Int32.not_lt.mp c1
      simp +decide only [c1, c2, if_true, if_false, true_or, or_true, false_or, or_false, and_false, false_and, and_self, or_self, Int32.add_zero, true_implies, false_implies, implies_true, not_true_eq_false, not_false_eq_true, and_true, true_and, Option.some.injEq, reduceCtorEq, forall_eq', forall_eq] at k ⊢
      exact k
  · simp +decide only [o5, if_true, if_false, true_or, or_true, false_or, or_false, and_false, false_and, and_self, or_self, Int32.add_zero, true_implies, false_implies, implies_true, not_true_eq_false, not_false_eq_true, and_true, true_and, Option.some.injEq, reduceCtorEq, forall_eq', forall_eq] at k ⊢
    exact k
  · simp +decide only [o6, if_true, if_false, true_or, or_true, false_or, or_false, and_false, false_and, and_self, or_self, Int32.add_zero, true_implies, false_implies, implies_true, not_true_eq_false, not_false_eq_true, and_true, true_and, Option.some.injEq, reduceCtorEq, forall_eq', forall_eq] at k ⊢
    exact k
  · simp +decide only [o7, if_true, if_false, true_or, or_true, false_or, or_false, and_false, false_and, and_self, or_self, Int32.add_zero, true_implies, false_implies, implies_true, not_true_eq_false, not_false_eq_true, and_true, true_and, Option.some.injEq, reduceCtorEq, forall_eq', forall_eq] at k ⊢
    exact k
  · simp +decide only [o8, if_true, if_false, true_or, or_true, false_or, or_false, and_false, false_and, and_self, or_self, Int32.add_zero, true_implies, false_implies, implies_true, not_true_eq_false, not_false_eq_true, and_true, true_and, Option.some.injEq, reduceCtorEq, forall_eq', forall_eq] at k ⊢
    by_cases c2 : y = 0 <;> simp +decide only [c2, if_true, if_false, true_or, or_true, false_or, or_false, and_false, false_and, and_self, or_self, Int32.add_zero, true_implies, false_implies, implies_true, not_true_eq_false, not_false_eq_true, and_true, true_and, Option.some.injEq, reduceCtorEq, forall_eq', forall_eq] at k ⊢ <;> exact k
theorem c_work1 (hS : Stat μ) (hM : MSc μ0 μ (a :: st)) (hb : st.length < 200) (k : ∀ μ', Stat μ' → MSc μ0 μ' ((if a = 0 then 1 else 0) :: st) → K none μ') : AW E l (d + 2) nc ns mX3_work 0 (zargs 3 [.ref 26, .int (-1)]) [] μ K := by
  have h1 := hM.hh
  obtain ⟨P, Pv⟩ := hM.pop
  have P1 := P.hh
  have c0 : 0 < nI (st.length + 1) := by rw [show (0 : Int32) = nI 0 from rfl]; exact nI_lt (by omega) (by omega)
  have c1 : vp_in (nI st.length) 200 := vp_in_nI hb (by decide)
  have c2 : ¬ (200 : Int32) ≤ nI st.length := by rw [show (200 : Int32) = nI 200 from rfl]; exact nI_ge hb (by omega)
  have c3 : (nI st.length).toNatClampNeg = st.length := nI_clamp (by omega)
  have h1 : zI μ 26 2 = nI (st.length + 1) := h1
  refine t_X3_work hS ?_
  have e9 := nI_pred st.length
  simp (disch := omega) only [h1, c0, P1, c1, c2, c3, Pv, zI_ne, true_implies, false_implies, implies_true, not_true_eq_false, not_false_eq_true, and_true, true_and, Option.some.injEq, reduceCtorEq, forall_eq', forall_eq]
  have P2 := fun v => (P.push (v := v))
  by_cases z : a = 0
  · simp only [z, if_true, if_false, true_or, or_true, false_or, or_false, and_false, false_and, and_self, or_self, Int32.add_zero, true_implies, false_implies, implies_true, not_true_eq_false, not_false_eq_true, and_true, true_and, Option.some.injEq, reduceCtorEq, forall_eq', forall_eq] at k ⊢
    exact k _ hS.wI.wI.wI (P2 1)
  · simp only [z, if_true, if_false, true_or, or_true, false_or, or_false, and_false, false_and, and_self, or_self, Int32.add_zero, true_implies, false_implies, implies_true, not_true_eq_false, not_false_eq_true, and_true, true_and, Option.some.injEq, reduceCtorEq, forall_eq', forall_eq] at k ⊢
    exact k _ hS.wI.wI.wI (P2 0)
theorem c_work2 {b : Nat} {a' : Int32} (hS : Stat μ) (hM : MSc μ0 μ (a' :: a :: st)) (hb : st.length + 1 < 200) (hb9 : b < 9) (k : ∀ μ', Stat μ' → MSc μ0 μ' (cmb b a a' :: st) → K none μ') : AW E l (d + 2) nc ns mX3_work 0 (zargs 3 [.ref 26, .int (opC b)]) [] μ K := by
  have h1 := hM.hh
  obtain ⟨P, Pv⟩ := hM.pop
  have P1 := P.hh
  obtain ⟨Q, Qv⟩ := P.pop
  have Q1 := Q.hh
  have nb : ¬ opC b = -1 := by
    have hb : b = 0 ∨ b = 1 ∨ b = 2 ∨ b = 3 ∨ b = 4 ∨ b = 5 ∨ b = 6 ∨ b = 7 ∨ b = 8 := by omega
    rcases hb with rfl | rfl | rfl | rfl | rfl | rfl | rfl | rfl | rfl <;> decide
  have c0 : 0 < nI (st.length + 1) := by rw [show (0 : Int32) = nI 0 from rfl]; exact nI_lt (by omega) (by omega)
  have c0' : 0 < nI (st.length + 1 + 1) := by rw [show (0 : Int32) = nI 0 from rfl]; exact nI_lt (by omega) (by omega)
  have c1 : vp_in (nI st.length) 200 := vp_in_nI (by omega) (by decide)
  have c1' : vp_in (nI (st.length + 1)) 200 := vp_in_nI (by omega) (by decide)
  have c2 : ¬ (200 : Int32) ≤ nI st.length := by rw [show (200 : Int32) = nI 200 from rfl]; exact nI_ge (by omega) (by omega)
  have c3 : (nI st.length).toNatClampNeg = st.length := nI_clamp (by omega)
  have c3' : (nI (st.length + 1)).toNatClampNeg = st.length + 1 := nI_clamp (by omega)
  simp only [List.length_cons] at h1 P P1 Pv Q Q1 Qv
  refine t_X3_work hS ?_
  simp (disch := omega) only [h1, c0, c0', P1, Q1, c1, c1', c3, c3', Pv, Qv, nb, true_implies, false_implies, implies_true, not_true_eq_false, not_false_eq_true, and_true, true_and, Option.some.injEq, reduceCtorEq, forall_eq', forall_eq]
  refine c_comb hS.wI.wI hb9 ⟨_, rfl, hS.wI.wI, ?_⟩
  simp (disch := omega) only [Q1, c1, c2, c3, zI_ne, true_implies, false_implies, implies_true, not_true_eq_false, not_false_eq_true, and_true, true_and, Option.some.injEq, reduceCtorEq, forall_eq', forall_eq]
  exact k _ hS.wI.wI.wI.wI Q.push
end Mach
