def clp (x : Int32) : Int32 := if (0 : Int32) < (if x < 100 then x else 100) then (if x < 100 then x else 100) else 0
def giv (o : Nat) (e : Int32) : Int32 := if o < 3 then (if o = 0 then 0 else 1000 * nI o + 100) else 1000 * nI o + clp e
def evT (N : Nat → Int32) : List Rul → Int32
  | [] => 0
  | r :: rs => if r.1 = [] ∨ ¬ (exI N r.1 []).headD 0 = 0 then giv r.2.1 ((exI N r.2.2 []).headD 0) else evT N rs
theorem exI_len {N : Nat → Int32} {many : Nat} : ∀ {es : List Itm} {st : List Int32}, wfE many st.length es → (exI N es st).length = 1
  | [], st, h => h
  | i :: r, st, h => by
    unfold exI
    obtain ⟨h1, h2⟩ := h
    rcases h2 with ⟨e, h2⟩ | ⟨e, h2⟩ | ⟨e, h3, h2⟩ | ⟨e, h3, h2⟩
    · exact exI_len (many := many) (by simp only [stp, e, if_true]; exact h2)
    · exact exI_len (many := many) (by simp +decide only [stp, e, if_true, if_false]; exact h2)
    · match st, h3, h2 with
      | a :: s, _, h2 => exact exI_len (many := many) (by simp +decide only [stp, e, if_true, if_false]; exact h2)
    · match st, h3, h2 with
      | b :: a :: s, _, h2 => exact exI_len (many := many) (by simp +decide only [stp, e, if_true, if_false]; exact h2)
      | [b], h3, _ => exact absurd h3 (by simp)
theorem lst_app {f : Nat → Int32} : ∀ {l1 l2 : List Int32} {p : Nat}, lst f p (l1 ++ l2) ↔ lst f p l1 ∧ lst f (p + l1.length) l2
  | [], l2, p => by simp [lst]
  | x :: r, l2, p => by
    show (f p = x ∧ lst f (p + 1) (r ++ l2)) ↔ (f p = x ∧ lst f (p + 1) r) ∧ lst f (p + (r.length + 1)) l2
    rw [lst_app (l1 := r), show p + 1 + r.length = p + (r.length + 1) by omega, and_assoc]
theorem ni_lt {n : Nat} {k : Int32} (hn : n < 2 ^ 31) (hk : k.toInt < 0) : k < nI n ∧ k ≤ nI n := by
  rw [i_lt, i_le, nI_toInt hn]
  omega
section Run
variable {E : ZE} {l : Launch} {d nc ns : Nat} {μ0 : ZM} {K : Option Value → ZM → Prop} {a len many : Nat}
theorem c_runE (h13 : zK μ0 a = 13) (ha : 88 ≤ a) (haN : a < zN μ0) (hL : zL μ0 a = len) (hlen : len ≤ 200) (hm : many ≤ 12) : ∀ (es : List Itm) (st : List Int32) (p s : Nat) (μ : ZM), Stat μ → MSc μ0 μ st → wfE many st.length es → st.length + es.length ≤ 200 → lst (zI μ0 a) p (es.map enC) → s ≤ p → p + es.length ≤ len →
    (∀ (μ' : ZM) (s' : Nat), Stat μ' → MSc μ0 μ' (exI (zI μ0 27) es st) → s' ≤ p + es.length → AW E l (d + 3) nc ns mX3_run 9 [some (.ref 26), some (.ref a), some (.int (nI (p + es.length))), some (.int (nI s')), none] [] μ' K) → AW E l (d + 3) nc ns mX3_run 9 [some (.ref 26), some (.ref a), some (.int (nI p)), some (.int (nI s)), none] [] μ K
  | [], st, p, s, μ, hS, hM, _, _, _, hs, _, k => k μ s hS hM hs
  | i :: r, st, p, s, μ, hS, hM, hw, hh, hl, hs, hp, k => by
    simp only [List.length_cons] at hh hp k
    have cell : zI μ a p = enC i := (hM.1.2.2.1 a p haN (by omega)).trans hl.1
    have k13 : zK μ a = 13 := (hM.1.2.1 a haN).1.trans h13
    have kL : zL μ a = len := (hM.1.2.1 a haN).2.trans hL
    have n27 : ∀ j, zI μ 27 j = zI μ0 27 j := fun j => hM.1.2.2.1 27 j (by omega) (by omega)
    have g1 : ¬ nI len ≤ nI s := nI_ge (by omega) (by omega)
    have g2 : ¬ nI len ≤ nI p := nI_ge (by omega) (by omega)
    have g3 : vp_in (nI p) len := vp_in_nI (by omega) (by omega)
    have g4 : (nI p).toNatClampNeg = p := nI_clamp (by omega)
    have h0 := hM.hh
    have v1 : vp_in (nI st.length) 200 := vp_in_nI (by omega) (by decide)
    have v2 : ¬ (200 : Int32) ≤ nI st.length := by rw [show (200 : Int32) = nI 200 from rfl]; exact nI_ge (by omega) (by omega)
    have v3 : (nI st.length).toNatClampNeg = st.length := nI_clamp (by omega)
    have k' : ∀ (st' : List Int32) (μ1 : ZM), stp (zI μ0 27) i st = st' → Stat μ1 → MSc μ0 μ1 st' → wfE many st'.length r → st'.length + r.length ≤ 200 → AW E l (d + 3) nc ns mX3_run 9 [some (.ref 26), some (.ref a), some (.int (nI p + 1)), some (.int (nI s + 1)), none] [] μ1 K := by
      intro st' μ1 e1 hS1 hM1 hw1 hh1
      rw [nI_1, nI_1]
      refine c_runE h13 ha haN hL hlen hm r st' (p + 1) (s + 1) μ1 hS1 hM1 hw1 hh1 hl.2 (by omega) (by omega) (fun μ' s' hS' hM' hs' => ?_)
      have := k μ' s' hS' (by unfold exI; rw [e1]; exact hM') (by omega)
      rwa [show p + (r.length + 1) = p + 1 + r.length by omega] at this
    refine t_X3_run_9 hS ?_
    obtain ⟨ok, hw⟩ := hw
    have m1 : ((-1000) : Int32) < -1 := by decide
    have m2 : ((-500) : Int32) < -1 := by decide
    have m3 : ¬ (0 : Int32) ≤ -1 := by decide
    rcases hw with ⟨e, hw⟩ | ⟨e, hw⟩ | ⟨e, h3, hw⟩ | ⟨e, h3, hw⟩
    · have hv : i.2 ≤ 99999 := by unfold okI at ok; omega
      have ec : enC i = nI i.2 := by unfold enC; rw [if_pos e]
      have t1 := (ni_lt (n := i.2) (k := -1000) (by omega) (by decide)).1
      have t2 := (ni_lt (n := i.2) (k := -500) (by omega) (by decide)).1
      have t3 : (0 : Int32) ≤ nI i.2 := nI_pos' (by omega)
      have t4 : ¬ (100000 : Int32) ≤ nI i.2 := by rw [show (100000 : Int32) = nI 100000 from rfl]; exact nI_ge (by omega) (by omega)
      rw [ec] at cell
      simp (disch := omega) only [k13, kL, g1, g2, g3, g4, cell, h0, v1, v2, v3, t1, t2, t3, t4, zI_ne, true_implies, false_implies, implies_true, not_true_eq_false, not_false_eq_true, and_true, true_and, Option.some.injEq, reduceCtorEq, forall_eq', forall_eq]
      exact k' (nI i.2 :: st) _ (by unfold stp; rw [if_pos e]) hS.wI.wI hM.push hw (by simp; omega)
    · have hv : i.2 < 12 := by unfold okI at ok; omega
      have ec : enC i = nI (100000 + i.2) := by unfold enC; rw [if_neg (by omega), if_pos e]
      have t1 := (ni_lt (n := 100000 + i.2) (k := -1000) (by omega) (by decide)).1
      have t2 := (ni_lt (n := 100000 + i.2) (k := -500) (by omega) (by decide)).1
      have t3 : (0 : Int32) ≤ nI (100000 + i.2) := nI_pos' (by omega)
      have t4 : (100000 : Int32) ≤ nI (100000 + i.2) := by rw [show (100000 : Int32) = nI 100000 from rfl]; exact nI_le (by omega) (by omega)
      have t5 : nI (100000 + i.2) - 100000 = nI i.2 := by rw [show (100000 : Int32) = nI 100000 from rfl, pk_sub (by omega), Nat.add_sub_cancel_left]
      have t6 : ¬ nI i.2 < 0 := nI_pos (by omega)
      have t7 : ¬ (12 : Int32) ≤ nI i.2 := by rw [show (12 : Int32) = nI 12 from rfl]; exact nI_ge (by omega) (by omega)
      have t8 : vp_in (nI i.2) 12 := vp_in_nI hv (by decide)
      have t9 : (nI i.2).toNatClampNeg = i.2 := nI_clamp (by omega)
      rw [ec] at cell
      simp (disch := omega) only [k13, kL, g1, g2, g3, g4, cell, h0, v1, v2, v3, t1, t2, t3, t4, t5, t6, t7, t8, t9, n27, zI_ne, true_implies, false_implies, implies_true, not_true_eq_false, not_false_eq_true, and_true, true_and, Option.some.injEq, reduceCtorEq, forall_eq', forall_eq]
      exact k' (zI μ0 27 i.2 :: st) _ (by unfold stp; rw [if_neg (by omega), if_pos e]) hS.wI.wI hM.push hw (by simp; omega)
    · have ec : enC i = -1 := by unfold enC; rw [if_neg (by omega), if_neg (by omega), if_pos e]
      rw [ec] at cell
      simp (disch := omega) only [k13, kL, g1, g2, g3, g4, cell, m1, m2, m3, true_implies, false_implies, implies_true, not_true_eq_false, not_false_eq_true, and_true, true_and, Option.some.injEq, reduceCtorEq, forall_eq', forall_eq]
      match st, h3, hM, hw, k', hh with
      | x :: s1, _, hM, hw, k', hh =>
        simp only [List.length_cons] at hh
        exact c_work1 hS hM (by omega) (fun μ1 hS1 hM1 => ⟨rfl, hS1, k' _ μ1 (by unfold stp; rw [if_neg (by omega), if_neg (by omega), if_pos e]) hS1 hM1 hw (by simp; omega)⟩)
    · have hv : i.2 < 9 := by unfold okI at ok; omega
      have ec : enC i = opC i.2 := by unfold enC; rw [if_neg (by omega), if_neg (by omega), if_neg (by omega)]
      rw [ec] at cell
      have tt : ((-1000) : Int32) < opC i.2 ∧ ((-500) : Int32) < opC i.2 ∧ ¬ (0 : Int32) ≤ opC i.2 := by
        have hb : i.2 = 0 ∨ i.2 = 1 ∨ i.2 = 2 ∨ i.2 = 3 ∨ i.2 = 4 ∨ i.2 = 5 ∨ i.2 = 6 ∨ i.2 = 7 ∨ i.2 = 8 := by omega
        rcases hb with h | h | h | h | h | h | h | h | h <;> rw [h] <;> decide
      obtain ⟨t1, t2, t3⟩ := tt
      simp (disch := omega) only [k13, kL, g1, g2, g3, g4, cell, t1, t2, t3, true_implies, false_implies, implies_true, not_true_eq_false, not_false_eq_true, and_true, true_and, Option.some.injEq, reduceCtorEq, forall_eq', forall_eq]
      match st, h3, hM, hw, k', hh with
      | y :: x :: s1, _, hM, hw, k', hh =>
        simp only [List.length_cons] at hh
        exact c_work2 hS hM (by omega) hv (fun μ1 hS1 hM1 => ⟨rfl, hS1, k' _ μ1 (by unfold stp; rw [if_neg (by omega), if_neg (by omega), if_neg (by omega)]) hS1 hM1 hw (by simp; omega)⟩)
      | [y], h3, _, _, _, _ => exact absurd h3 (by simp)
theorem sk_ne {n : Nat} (hn : n < 1000) : ¬ ((-1000) : Int32) < -1000 - nI n ∧ (-1000 : Int32) - (-1000 - nI n) = nI n := co_dec (N := 1000) (P := fun n => ¬ ((-1000) : Int32) < -1000 - nI n ∧ (-1000 : Int32) - (-1000 - nI n) = nI n) (by decide +kernel) hn
theorem gv_ne {n : Nat} (hn : n < 5) : ((-1000) : Int32) < -500 - nI n ∧ ¬ ((-500) : Int32) < -500 - nI n ∧ (-500 : Int32) - (-500 - nI n) = nI n ∧ (((3 : Int32) ≤ nI n) = (3 ≤ n)) ∧ ((nI n = 0) = (n = 0)) := by
  have hb : n = 0 ∨ n = 1 ∨ n = 2 ∨ n = 3 ∨ n = 4 := by omega
  rcases hb with rfl | rfl | rfl | rfl | rfl <;> decide
theorem c_runT (h13 : zK μ0 a = 13) (ha : 88 ≤ a) (haN : a < zN μ0) (hL : zL μ0 a = len) (hlen : len ≤ 200) : ∀ (R : List Rul) (p s : Nat) (μ : ZM), Stat μ → MSc μ0 μ [] → (∀ r ∈ R, okR r) → lst (zI μ0 a) p (tcL p R) → p + (tcL p R).length = len → s ≤ p → (∀ μ' st', Stat μ' → MSc μ0 μ' st' → K (some (.int (evT (zI μ0 27) R))) μ') → AW E l (d + 3) nc ns mX3_run 9 [some (.ref 26), some (.ref a), some (.int (nI p)), some (.int (nI s)), none] [] μ K
  | [], p, s, μ, hS, hM, _, _, hp, hs, k => by
    have k13 : zK μ a = 13 := (hM.1.2.1 a haN).1.trans h13
    have kL : zL μ a = len := (hM.1.2.1 a haN).2.trans hL
    have hp : p = len := hp
    have g2 : nI len ≤ nI p := by rw [hp]; exact Int32.le_refl _
    refine t_X3_run_9 hS ⟨k13, fun _ => k _ _ hS hM, fun _ => ⟨fun _ => k _ _ hS hM, fun q => absurd (by rw [kL]; exact g2) q⟩⟩
  | r :: R, p, s, μ, hS, hM, hok, hl, hp, hs, k => by
    have okr := hok r (by simp)
    unfold tcL at hl hp
    rw [lst_app] at hl
    obtain ⟨hl1, hl2⟩ := hl
    rw [List.length_append] at hp
    -- the giving
    have gives : ∀ (st : List Int32) (q s : Nat) (μ : ZM), Stat μ → MSc μ0 μ st → s ≤ q → q < len → zI μ0 a q = -500 - nI r.2.1 → (3 ≤ r.2.1 → ∃ v, st = [v] ∧ v = (exI (zI μ0 27) r.2.2 []).headD 0) → (r.1 = [] ∨ ¬ (exI (zI μ0 27) r.1 []).headD 0 = 0) → AW E l (d + 3) nc ns mX3_run 9 [some (.ref 26), some (.ref a), some (.int (nI q)), some (.int (nI s)), none] [] μ K := by
      intro st q s μ hS hM hs hq hcell hst hcond
      have cell : zI μ a q = -500 - nI r.2.1 := (hM.1.2.2.1 a q haN (by omega)).trans hcell
      have k13 : zK μ a = 13 := (hM.1.2.1 a haN).1.trans h13
      have kL : zL μ a = len := (hM.1.2.1 a haN).2.trans hL
      have g1 : ¬ nI len ≤ nI s := nI_ge (by omega) (by omega)
      have g2 : ¬ nI len ≤ nI q := nI_ge (by omega) (by omega)
      have g3 : vp_in (nI q) len := vp_in_nI (by omega) (by omega)
      have g4 : (nI q).toNatClampNeg = q := nI_clamp (by omega)
      obtain ⟨t1, t2, t3, t4, t5⟩ := gv_ne okr.2.1
      have h0 := hM.hh
      have ev : evT (zI μ0 27) (r :: R) = giv r.2.1 ((exI (zI μ0 27) r.2.2 []).headD 0) := by
        show (if _ then _ else _) = _
        rw [if_pos hcond]
      rw [ev] at k
      unfold giv at k
      refine t_X3_run_9 hS ?_
      by_cases c3 : 3 ≤ r.2.1
      · obtain ⟨v, e1, e2⟩ := hst c3
        subst e1
        obtain ⟨P, Pv⟩ := hM.pop
        have P1 := P.hh
        have P1 : zI (sI μ 26 2 (nI 1 - 1)) 26 2 = nI 0 := P1
        have Pv : zI (sI μ 26 2 (nI 1 - 1)) 28 0 = v := Pv
        have h0 : zI μ 26 2 = nI 1 := h0
        have z1 : (0 : Int32) < nI 1 := by decide
        have z2 : vp_in (nI 0) 200 := vp_in_nI (by decide) (by decide)
        have z3 : (nI 0).toNatClampNeg = 0 := nI_clamp (by decide)
        have c3' : ¬ r.2.1 < 3 := by omega
        simp only [c3', if_false, ← e2] at k
        simp only [k13, kL, g1, g2, g3, g4, cell, t1, t2, t3, t4, c3, h0, z1, P1, z2, z3, Pv, true_implies, false_implies, implies_true, not_true_eq_false, not_false_eq_true, and_true, true_and, Option.some.injEq, reduceCtorEq, forall_eq', forall_eq]
        exact k _ [] hS.wI P
      · have c3' : r.2.1 < 3 := by omega
        by_cases c0 : r.2.1 = 0
        · simp only [c3', c0, if_true] at k
          rw [c0] at t1 t2 t3 cell
          rw [c0] at t4 t5
          have c3'' : ¬ 3 ≤ 0 := by omega
          simp only [k13, kL, g1, g2, g3, g4, cell, t1, t2, t3, t4, t5, c3'', true_implies, false_implies, implies_true, not_true_eq_false, not_false_eq_true, and_true, true_and, Option.some.injEq, reduceCtorEq, forall_eq', forall_eq]
          exact k _ _ hS hM
        · simp only [c3', c0, if_true, if_false] at k
          simp only [k13, kL, g1, g2, g3, g4, cell, t1, t2, t3, t4, t5, c3, c0, true_implies, false_implies, implies_true, not_true_eq_false, not_false_eq_true, and_true, true_and, Option.some.injEq, reduceCtorEq, forall_eq', forall_eq]
          exact k _ _ hS hM
    -- the giving with its E
    have outs : ∀ (q s : Nat) (μ : ZM), Stat μ → MSc μ0 μ [] → s ≤ q → q + r.2.2.length < len → lst (zI μ0 a) q (r.2.2.map enC ++ [-500 - nI r.2.1]) → (r.1 = [] ∨ ¬ (exI (zI μ0 27) r.1 []).headD 0 = 0) → AW E l (d + 3) nc ns mX3_run 9 [some (.ref 26), some (.ref a), some (.int (nI q)), some (.int (nI s)), none] [] μ K := by
      intro q s μ hS hM hs hq hl hcond
      rw [lst_app, List.length_map] at hl
      obtain ⟨hla, hlb⟩ := hl
      rcases okr.2.2 with ⟨o1, o2⟩ | ⟨o1, o2⟩
      · rw [o2] at hlb hq
        exact gives [] q s μ hS hM hs (by simpa using hq) hlb.1 (fun z => absurd z (by omega)) hcond
      · have hle : r.2.2.length ≤ 200 := by omega
        refine c_runE h13 ha haN hL hlen (Nat.le_refl 12) r.2.2 [] q s μ hS hM o2 (by simpa using hle) hla hs (by omega) (fun μ' s' hS' hM' hs' => ?_)
        have ln := exI_len (N := zI μ0 27) (st := []) o2
        refine gives _ (q + r.2.2.length) s' μ' hS' hM' hs' hq hlb.1 (fun _ => ?_) hcond
        match hx : exI (zI μ0 27) r.2.2 [], ln with
        | [v], _ => exact ⟨v, rfl, rfl⟩
    unfold tcR at hl1 hp hl2
    by_cases ce : r.1 = []
    · rw [ce] at hl1 hp
      have e0 : ([] : List Itm).isEmpty = true := rfl
      simp only [List.map_nil, e0, if_true, List.nil_append, List.length_append, List.length_map, List.length_singleton] at hl1 hp
      exact outs p s μ hS hM hs (by omega) hl1 (Or.inl ce)
    · have e0 : r.1.isEmpty = false := by
        cases h : r.1 with
        | nil => exact absurd h ce
        | cons => rfl
      have wc : wfE 12 0 r.1 := okr.1.resolve_left ce
      rw [e0] at hl1 hp hl2
      simp only [Bool.false_eq_true, if_false, List.length_append, List.length_map, List.length_singleton] at hp hl2
      simp only [Bool.false_eq_true, if_false] at hl1
      rw [lst_app, List.length_map] at hl1
      obtain ⟨ha1, ha2⟩ := hl1
      rw [lst_app] at ha2
      obtain ⟨hb1, hb2⟩ := ha2
      refine c_runE h13 ha haN hL hlen (Nat.le_refl 12) r.1 [] p s μ hS hM wc (by simp; omega) ha1 hs (by omega) (fun μ' s' hS' hM' hs' => ?_)
      have ln := exI_len (N := zI μ0 27) (st := []) wc
      obtain ⟨v, hv⟩ : ∃ v, exI (zI μ0 27) r.1 [] = [v] := by
        match hx : exI (zI μ0 27) r.1 [], ln with
        | [v], _ => exact ⟨v, rfl⟩
      rw [hv] at hM'
      obtain ⟨q, hq⟩ : ∃ q, q = p + r.1.length := ⟨_, rfl⟩
      rw [← hq] at hs' hb1 hb2 ⊢
      have hcell := hb1.1
      have cell : zI μ' a q = -1000 - nI (q + r.2.2.length + 2) := (hM'.1.2.2.1 a q haN (by omega)).trans hcell
      have k13 : zK μ' a = 13 := (hM'.1.2.1 a haN).1.trans h13
      have kL : zL μ' a = len := (hM'.1.2.1 a haN).2.trans hL
      have g1 : ¬ nI len ≤ nI s' := nI_ge (by omega) (by omega)
      have g2 : ¬ nI len ≤ nI q := nI_ge (by omega) (by omega)
      have g3 : vp_in (nI q) len := vp_in_nI (by omega) (by omega)
      have g4 : (nI q).toNatClampNeg = q := nI_clamp (by omega)
      obtain ⟨t1, t2⟩ := sk_ne (n := q + r.2.2.length + 2) (by omega)
      obtain ⟨P, Pv⟩ := hM'.pop
      have P1 : zI (sI μ' 26 2 (nI 1 - 1)) 26 2 = nI 0 := P.hh
      have Pv : zI (sI μ' 26 2 (nI 1 - 1)) 28 0 = v := Pv
      have P : MSc μ0 (sI μ' 26 2 (nI 1 - 1)) [] := P
      have h0 : zI μ' 26 2 = nI 1 := hM'.hh
      have z1 : (0 : Int32) < nI 1 := by decide
      have z2 : vp_in (nI 0) 200 := vp_in_nI (by decide) (by decide)
      have z3 : (nI 0).toNatClampNeg = 0 := nI_clamp (by decide)
      refine t_X3_run_9 hS' ?_
      simp only [k13, kL, g1, g2, g3, g4, cell, t1, t2, h0, z1, P1, z2, z3, Pv, true_implies, false_implies, implies_true, not_true_eq_false, not_false_eq_true, and_true, true_and, Option.some.injEq, reduceCtorEq, forall_eq', forall_eq]
      refine ⟨fun nz => ?_, fun z => ?_⟩
      · rw [nI_1, nI_1]
        exact outs (q + 1) (s' + 1) _ hS'.wI P (by omega) (by omega) hb2 (Or.inr (by rw [hv]; exact nz))
      · rw [nI_1]
        have ev : evT (zI μ0 27) (r :: R) = evT (zI μ0 27) R := by
          show (if _ then _ else _) = _
          rw [if_neg]
          rintro (y | y)
          · exact ce y
          · rw [hv] at y
            exact y z
        rw [ev] at k
        have pe : p + (r.1.length + (1 + (r.2.2.length + 1))) = q + r.2.2.length + 2 := by omega
        rw [pe] at hl2
        have hp : q + r.2.2.length + 2 + (tcL (q + r.2.2.length + 2) R).length = len := by rw [pe] at hp; omega
        exact c_runT h13 ha haN hL hlen R _ (s' + 1) _ hS'.wI P (fun r hr => hok r (by simp [hr])) hl2 (by omega) (by omega) k
theorem c_run {R : List Rul} {μ : ZM} (hS : Stat μ) (h13 : zK μ a = 13) (ha : 88 ≤ a) (haN : a < zN μ) (hok : okT R) (hL : zL μ a = (tcL 0 R).length) (hl : lst (zI μ a) 0 (tcL 0 R)) (k : ∀ μ' st', Stat μ' → MSc μ μ' st' → K (some (.int (evT (zI μ 27) R))) μ') : AW E l (d + 3) nc ns mX3_run 0 (zargs 5 [.ref 26, .ref a]) [] μ K := by
  refine t_X3_run hS ?_
  have hM : MSc μ (sI μ 26 2 0) [] := ⟨EqX.rfl.wi (Or.inl (Or.inl ⟨rfl, rfl⟩)), rfl, fun _ => rfl, by rw [zI_eq]; rfl, trivial⟩
  exact c_runT h13 ha haN hL hok.2.1 R 0 0 _ hS.wI hM hok.1 hl (by omega) (Nat.le_refl _) k
end Run
