def aiM (μ : ZM) (A S : Nat) (x2 day lo hi x4 sw li : Int32) : ZM := sI (sI (sI (sI (sI (sI (sI (sI (sI (sI (sI (sI (sA (sI (sI μ A 13 0) A 15 (-1)) A 0 (some S)) A 1 x2) A 2 day) A 3 lo) A 4 hi) A 5 (x4 / 100000 - x4 / 100000 / 10 * 10)) A 6 (x4 / 10000 - x4 / 10000 / 10 * 10)) A 7 (x4 / 1000 - x4 / 1000 / 10 * 10)) A 8 (x4 / 100 - x4 / 100 / 10 * 10)) A 9 (x4 / 10 - x4 / 10 / 10 * 10)) A 10 (x4 / 1 - x4 / 1 / 10 * 10)) A 11 sw) A 12 li
def arM (μ : ZM) (n i : Nat) (lo hi x4 sw li cnt : Int32) : ZM := sI (sI (sI (sI (sI (sI (sI (sI μ 77 n lo) 78 n hi) 79 n x4) 80 n sw) 81 n li) 84 n (-1)) 48 i 1) 31 60 cnt
def abF (x : Int32) : Int32 := if 0 ≤ x then x else 0 - x
section AskA
variable {E : ZE} {l : Launch} {d nc ns : Nat} {μ : ZM} {K : Option Value → ZM → Prop} {A S m : Nat} {x2 day x3 x4 x5 x6 sh num w : Int32}
theorem c_ainit (hS : Stat μ) (h0 : zK μ A = 0) (h7 : zK μ S = 7) (hm : zA μ S 1 = some m) (hm4 : zK μ m = 4) (hw : zI μ m 2 = w) (h8 : zI μ S 8 = sh) (h3 : zI μ S 3 = num) (hA : 88 ≤ A) (k : K none (aiM μ A S x2 day (if x2 = 0 then x3 / 1000 else day - sh / 24) (if x2 = 0 then x3 - x3 / 1000 * 1000 else day - sh / 24) x4 (if x5 = num then 0 else 1) (if abF (x6 - w) ≤ w / 50 then 0 else 1))) : AW E l (d + 1) nc ns mX0_init 0 (zargs 8 [.ref A, .ref S, .int x2, .int day, .int x3, .int x4, .int x5, .int x6]) [] μ K := by
  have n1 : S ≠ A := kne h7 h0 (by decide)
  have n2 : m ≠ A := kne hm4 h0 (by decide)
  have o1 : (0 : Int32) = 0 ∨ (0 : Int32) = 1 := Or.inl rfl
  have o2 : (1 : Int32) = 0 ∨ (1 : Int32) = 1 := Or.inr rfl
  unfold aiM at k
  refine t_X0_init hS ?_
  by_cases c1 : x2 = 0 <;> by_cases c2 : x5 = num <;> by_cases c3 : abF (x6 - w) ≤ w / 50
  all_goals
    simp only [c1, c2, c3, if_true, if_false] at k
    unfold abF at c3
    simp (disch := first | omega | (simp only [zN_sI, zN_sJ, zN_sA, zN_sNew]; done) | (simp only [zN_sI, zN_sJ, zN_sA, zN_sNew]; omega)) only [zA_sI, zK_sI, zN_sI, zL_sI, zK_sA, zN_sA, zL_sA, zI_sA, zN_sNew, zI_ne, zI_nk, zI_eq, zA_ne, zA_nk, zA_eq, zI_nn, zA_nn, zK_nn, zL_nn, zI_ne', zA_ne', zK_ne', zL_ne', h0, h7, h8, c1, true_implies, false_implies, implies_true, not_true_eq_false, not_false_eq_true, and_true, true_and, Option.some.injEq, reduceCtorEq, forall_eq', forall_eq]
    refine t_X0_init_49 (by repeat' (with_reducible first | exact hS | exact hA | refine Stat.wI ?_ | refine Stat.wNew ?_ | refine Stat.wAr ?_ (by decide) | refine Stat.wAhi ?_ ?_)) ?_
    simp (disch := first | omega | (simp only [zN_sI, zN_sJ, zN_sA, zN_sNew]; done) | (simp only [zN_sI, zN_sJ, zN_sA, zN_sNew]; omega)) only [zA_sI, zK_sI, zN_sI, zL_sI, zK_sA, zN_sA, zL_sA, zI_sA, zN_sNew, zI_ne, zI_nk, zI_eq, zA_ne, zA_nk, zA_eq, zI_nn, zA_nn, zK_nn, zL_nn, zI_ne', zA_ne', zK_ne', zL_ne', h0, h7, h8, c1, true_implies, false_implies, implies_true, not_true_eq_false, not_false_eq_true, and_true, true_and, Option.some.injEq, reduceCtorEq, forall_eq', forall_eq]
    refine t_X0_init_72 (by repeat' (with_reducible first | exact hS | exact hA | refine Stat.wI ?_ | refine Stat.wNew ?_ | refine Stat.wAr ?_ (by decide) | refine Stat.wAhi ?_ ?_)) ?_
    simp (disch := first | omega | (simp only [zN_sI, zN_sJ, zN_sA, zN_sNew]; done) | (simp only [zN_sI, zN_sJ, zN_sA, zN_sNew]; omega)) only [zA_sI, zK_sI, zN_sI, zL_sI, zK_sA, zN_sA, zL_sA, zI_sA, zN_sNew, zI_ne, zI_nk, zI_eq, zA_ne, zA_nk, zA_eq, zI_nn, zA_nn, zK_nn, zL_nn, zI_ne', zA_ne', zK_ne', zL_ne', h0, h7, h3, c2, true_implies, false_implies, implies_true, not_true_eq_false, not_false_eq_true, and_true, true_and, Option.some.injEq, reduceCtorEq, forall_eq', forall_eq]
    refine t_X0_init_157 (by repeat' (with_reducible first | exact hS | exact hA | refine Stat.wI ?_ | refine Stat.wNew ?_ | refine Stat.wAr ?_ (by decide) | refine Stat.wAhi ?_ ?_)) ?_
    simp (disch := first | omega | (simp only [zN_sI, zN_sJ, zN_sA, zN_sNew]; done) | (simp only [zN_sI, zN_sJ, zN_sA, zN_sNew]; omega)) only [zA_sI, zK_sI, zN_sI, zL_sI, zK_sA, zN_sA, zL_sA, zI_sA, zN_sNew, zI_ne, zI_nk, zI_eq, zA_ne, zA_nk, zA_eq, zI_nn, zA_nn, zK_nn, zL_nn, zI_ne', zA_ne', zK_ne', zL_ne', h0, h7, hm, hm4, hw, c3, true_or, or_true, true_implies, false_implies, implies_true, not_true_eq_false, not_false_eq_true, and_true, true_and, Option.some.injEq, reduceCtorEq, forall_eq', forall_eq]
    exact k
variable {n i lt : Nat} {y0 x8 : Int32}
theorem r_ask179 (hS : Stat μ) (hn : n < 200) (hi : i < 300) (h49 : zI μ 49 i = nI lt) (hl : lt < 60) (h45 : zI μ 45 lt = nI m) (hm : m < 20) (hw : zI μ 33 m = w) (h51 : zI μ 51 i = num) (k : K (some (.int (nI n))) (arM μ n i y0 (if x2 ≤ 0 then x3 - x3 / 1000 * 1000 else x8) x4 (if x5 = num then 0 else 1) (if abF (x6 - w) ≤ w / 50 then 0 else 1) (zI μ 31 60 + 1))) : AW E l (d + 2) nc ns mX11_ask 179 [some (.ref 31), some (.int (nI i)), some (.int x2), some (.int x3), some (.int x4), some (.int x5), some (.int x6), some (.int (nI n)), some (.int x8), none] [.int y0, .int (nI n), .ref 77] μ K := by
  have v1 : vp_in (nI n) 200 := vp_in_nI hn (by decide)
  have v2 : (nI n).toNatClampNeg = n := nI_clamp (by omega)
  have v3 : vp_in (nI i) 300 := vp_in_nI hi (by decide)
  have v4 : (nI i).toNatClampNeg = i := nI_clamp (by omega)
  have v5 : vp_in (nI lt) 60 := vp_in_nI hl (by decide)
  have v6 : (nI lt).toNatClampNeg = lt := nI_clamp (by omega)
  have v7 : vp_in (nI m) 20 := vp_in_nI hm (by decide)
  have v8 : (nI m).toNatClampNeg = m := nI_clamp (by omega)
  have o1 : (0 : Int32) = 0 ∨ (0 : Int32) = 1 := Or.inl rfl
  have o2 : (1 : Int32) = 0 ∨ (1 : Int32) = 1 := Or.inr rfl
  unfold arM at k
  refine t_X11_ask_179 hS ?_
  by_cases c1 : x2 ≤ 0 <;> by_cases c2 : x5 = num <;> by_cases c4 : 0 ≤ x6 - w <;> by_cases c3 : abF (x6 - w) ≤ w / 50
  all_goals
    simp only [c1, c2, c3, if_true, if_false] at k
    unfold abF at c3
    simp only [c4, if_true, if_false, Int32.zero_sub] at c3
    simp (disch := first | omega | (simp only [zN_sI, zN_sJ, zN_sA, zN_sNew]; done) | (simp only [zN_sI, zN_sJ, zN_sA, zN_sNew]; omega)) only [v1, v2, c1, true_implies, false_implies, implies_true, not_true_eq_false, not_false_eq_true, and_true, true_and, Option.some.injEq, reduceCtorEq, forall_eq', forall_eq]
    refine t_X11_ask_200 (by repeat' (with_reducible first | exact hS | exact hA | refine Stat.wI ?_ | refine Stat.wNew ?_ | refine Stat.wAr ?_ (by decide) | refine Stat.wAhi ?_ ?_)) ?_
    simp (disch := first | omega | (simp only [zN_sI, zN_sJ, zN_sA, zN_sNew]; done) | (simp only [zN_sI, zN_sJ, zN_sA, zN_sNew]; omega)) only [v1, v2, v3, v4, zA_sI, zK_sI, zN_sI, zL_sI, zK_sA, zN_sA, zL_sA, zI_sA, zN_sNew, zI_ne, zI_nk, zI_eq, zA_ne, zA_nk, zA_eq, zI_nn, zA_nn, zK_nn, zL_nn, zI_ne', zA_ne', zK_ne', zL_ne', h51, c2, true_implies, false_implies, implies_true, not_true_eq_false, not_false_eq_true, and_true, true_and, Option.some.injEq, reduceCtorEq, forall_eq', forall_eq]
    refine t_X11_ask_232 (by repeat' (with_reducible first | exact hS | exact hA | refine Stat.wI ?_ | refine Stat.wNew ?_ | refine Stat.wAr ?_ (by decide) | refine Stat.wAhi ?_ ?_)) ?_
    simp (disch := first | omega | (simp only [zN_sI, zN_sJ, zN_sA, zN_sNew]; done) | (simp only [zN_sI, zN_sJ, zN_sA, zN_sNew]; omega)) only [v1, v2, v3, v4, v5, v6, v7, v8, zA_sI, zK_sI, zN_sI, zL_sI, zK_sA, zN_sA, zL_sA, zI_sA, zN_sNew, zI_ne, zI_nk, zI_eq, zA_ne, zA_nk, zA_eq, zI_nn, zA_nn, zK_nn, zL_nn, zI_ne', zA_ne', zK_ne', zL_ne', h49, h45, hw, c4, true_or, or_true, true_implies, false_implies, implies_true, not_true_eq_false, not_false_eq_true, and_true, true_and, Option.some.injEq, reduceCtorEq, forall_eq', forall_eq]
    refine t_X11_ask_267 (by repeat' (with_reducible first | exact hS | exact hA | refine Stat.wI ?_ | refine Stat.wNew ?_ | refine Stat.wAr ?_ (by decide) | refine Stat.wAhi ?_ ?_)) ?_
    simp (disch := first | omega | (simp only [zN_sI, zN_sJ, zN_sA, zN_sNew]; done) | (simp only [zN_sI, zN_sJ, zN_sA, zN_sNew]; omega)) only [v1, v2, v3, v4, v5, v6, v7, v8, zA_sI, zK_sI, zN_sI, zL_sI, zK_sA, zN_sA, zL_sA, zI_sA, zN_sNew, zI_ne, zI_nk, zI_eq, zA_ne, zA_nk, zA_eq, zI_nn, zA_nn, zK_nn, zL_nn, zI_ne', zA_ne', zK_ne', zL_ne', h49, h45, hw, c3, true_implies, false_implies, implies_true, not_true_eq_false, not_false_eq_true, and_true, true_and, Option.some.injEq, reduceCtorEq, forall_eq', forall_eq]
    refine t_X11_ask_288 (by repeat' (with_reducible first | exact hS | exact hA | refine Stat.wI ?_ | refine Stat.wNew ?_ | refine Stat.wAr ?_ (by decide) | refine Stat.wAhi ?_ ?_)) ?_
    simp (disch := first | omega | (simp only [zN_sI, zN_sJ, zN_sA, zN_sNew]; done) | (simp only [zN_sI, zN_sJ, zN_sA, zN_sNew]; omega)) only [v1, v2, v3, v4, zA_sI, zK_sI, zN_sI, zL_sI, zK_sA, zN_sA, zL_sA, zI_sA, zN_sNew, zI_ne, zI_nk, zI_eq, zA_ne, zA_nk, zA_eq, zI_nn, zA_nn, zK_nn, zL_nn, zI_ne', zA_ne', zK_ne', zL_ne', true_or, or_true, true_implies, false_implies, implies_true, not_true_eq_false, not_false_eq_true, and_true, true_and, Option.some.injEq, reduceCtorEq, forall_eq', forall_eq]
    exact k
end AskA
