/-! rules and texts, as the grammar reads them -/
def rlO (kd : Nat → Int32) (it : Nat → Itm) (F a : Nat) : Bool × Nat × Nat × List Itm := if kd a ≤ 4 then (if kd a < 3 then (true, a + 1, tN (kd a), []) else ((prs kd it F 3 0 (a + 1)).1, (prs kd it F 3 0 (a + 1)).2.1, tN (kd a), (prs kd it F 3 0 (a + 1)).2.2)) else (false, a, 0, [])
def rlR (kd : Nat → Int32) (it : Nat → Itm) (F a : Nat) : Bool × Nat × Rul := if kd a ≤ 4 then ((rlO kd it F a).1, (rlO kd it F a).2.1, [], (rlO kd it F a).2.2) else if (prs kd it F 8 0 a).1 = true ∧ kd (prs kd it F 8 0 a).2.1 = 58 then ((rlO kd it F ((prs kd it F 8 0 a).2.1 + 1)).1, (rlO kd it F ((prs kd it F 8 0 a).2.1 + 1)).2.1, (prs kd it F 8 0 a).2.2, (rlO kd it F ((prs kd it F 8 0 a).2.1 + 1)).2.2) else (false, (prs kd it F 8 0 a).2.1, [], 0, [])
def rlT (kd : Nat → Int32) (it : Nat → Itm) (F : Nat) : Nat → Nat → Bool × Nat × List Rul
  | 0, a => (false, a, [])
  | m + 1, a => if (rlR kd it F a).1 = true then (if kd (rlR kd it F a).2.1 = 59 then ((rlT kd it F m ((rlR kd it F a).2.1 + 1)).1, (rlT kd it F m ((rlR kd it F a).2.1 + 1)).2.1, (rlR kd it F a).2.2 :: (rlT kd it F m ((rlR kd it F a).2.1 + 1)).2.2) else (true, (rlR kd it F a).2.1, [(rlR kd it F a).2.2])) else (false, (rlR kd it F a).2.1, [])
theorem wfx_0 {many : Nat} {l : List Itm} (h : wfx many 1 l) : wfE many 0 l := by
  have := h 0 [] rfl
  rw [List.append_nil] at this
  exact this
theorem wfE_ne {many : Nat} {l : List Itm} (h : wfE many 0 l) : l.isEmpty = false := by
  cases l with
  | nil => exact absurd (show 0 = 1 from h) (by decide)
  | cons a r => rfl
section Rul
variable {kd : Nat → Int32} {it : Nat → Itm} {N many F a : Nat}
theorem kd_o (hk : ∀ a, kd a ≤ 4 → ∃ o, o < 5 ∧ kd a = nI o) (h : kd a ≤ 4) : kd a ≠ 23 ∧ kd a = nI (tN (kd a)) ∧ tN (kd a) < 5 ∧ ((kd a < 3) = (tN (kd a) < 3)) := by
  obtain ⟨o, o1, o2⟩ := hk a h
  rw [o2, tN_n (by omega)]
  refine ⟨fun e => ?_, rfl, o1, ?_⟩
  · have := (nI_eq (by omega) (by decide)).mp (show nI o = nI 23 from e)
    omega
  · rw [show (3 : Int32) = nI 3 from rfl, nI_ltI (by omega) (by decide)]
def okO (many o : Nat) (l : List Itm) : Prop := o < 5 ∧ ((o < 3 ∧ l = []) ∨ (3 ≤ o ∧ wfE many 0 l))
theorem rlO_ok (hN : ∀ a, a ≤ N → kd a ≠ 23 → a < N) (hit : ∀ a, a < N → kd a = 20 ∨ kd a = 21 → okI many (it a) ∧ (it a).1 ≤ 1) (hk : ∀ a, kd a ≤ 4 → ∃ o, o < 5 ∧ kd a = nI o) (ha : a ≤ N) : (rlO kd it F a).2.1 ≤ N ∧ a ≤ (rlO kd it F a).2.1 ∧ ((rlO kd it F a).1 = true → (rlO kd it F a).2.2.2.length + 1 + a ≤ (rlO kd it F a).2.1 ∧ okO many (rlO kd it F a).2.2.1 (rlO kd it F a).2.2.2) := by
  unfold rlO
  split
  · next c =>
    obtain ⟨o1, o2, o3, o4⟩ := kd_o hk c
    have hl := hN a ha o1
    split
    · next c3 =>
      rw [o4] at c3
      exact ⟨hl, Nat.le_succ a, fun _ => ⟨by show 0 + 1 + a ≤ a + 1; omega, o3, Or.inl ⟨c3, rfl⟩⟩⟩
    · next c3 =>
      rw [o4] at c3
      have r := prs_ok hN hit F 3 0 (a + 1) hl
      revert r
      generalize prs kd it F 3 0 (a + 1) = r
      rintro ⟨r1, r2, r3⟩
      refine ⟨r1, by show a ≤ r.2.1; omega, fun z => ?_⟩
      obtain ⟨g1, g2, g3⟩ := r3 z
      have g1 : a + 1 + 1 ≤ r.2.1 := g1
      exact ⟨by show r.2.2.length + 1 + a ≤ r.2.1; omega, o3, Or.inr ⟨by show 3 ≤ tN (kd a); omega, wfx_0 g3⟩⟩
  · exact ⟨ha, Nat.le_refl _, fun z => absurd (show false = true from z) (by decide)⟩
theorem rlR_ok (hN : ∀ a, a ≤ N → kd a ≠ 23 → a < N) (hit : ∀ a, a < N → kd a = 20 ∨ kd a = 21 → okI 12 (it a) ∧ (it a).1 ≤ 1) (hk : ∀ a, kd a ≤ 4 → ∃ o, o < 5 ∧ kd a = nI o) (ha : a ≤ N) : (rlR kd it F a).2.1 ≤ N ∧ a ≤ (rlR kd it F a).2.1 ∧ ((rlR kd it F a).1 = true → (tcR 0 (rlR kd it F a).2.2).length + a ≤ (rlR kd it F a).2.1 ∧ 1 ≤ (tcR 0 (rlR kd it F a).2.2).length ∧ okR (rlR kd it F a).2.2) := by
  have len : ∀ (x : List Itm) (o : Nat) (y : List Itm), x.isEmpty = false → (tcR 0 (x, o, y)).length = x.length + y.length + 2 := by
    intro x o y h
    unfold tcR
    simp only [h, List.length_append, List.length_map, List.length_cons, List.length_nil]
    simp
    omega
  have len0 : ∀ (o : Nat) (y : List Itm), (tcR 0 ([], o, y)).length = y.length + 1 := by
    intro o y
    unfold tcR
    simp
  unfold rlR
  split
  · next c =>
    obtain ⟨r1, r2, r3⟩ := rlO_ok (F := F) hN hit hk ha
    refine ⟨r1, r2, fun z => ?_⟩
    obtain ⟨g1, g2⟩ := r3 z
    show (tcR 0 ([], (rlO kd it F a).2.2.1, (rlO kd it F a).2.2.2)).length + a ≤ _ ∧ 1 ≤ (tcR 0 ([], (rlO kd it F a).2.2.1, (rlO kd it F a).2.2.2)).length ∧ _
    rw [len0]
    exact ⟨by show _ ≤ (rlO kd it F a).2.1; omega, by omega, Or.inl rfl, g2.1, g2.2⟩
  · have r := prs_ok hN hit F 8 0 a ha
    revert r
    generalize prs kd it F 8 0 a = r
    rintro ⟨r1, r2, r3⟩
    split
    · next c =>
      have hl := hN _ r1 (by rw [c.2]; decide)
      obtain ⟨q1, q2, q3⟩ := rlO_ok (F := F) hN hit hk (a := r.2.1 + 1) hl
      refine ⟨q1, by show a ≤ (rlO kd it F (r.2.1 + 1)).2.1; omega, fun z => ?_⟩
      obtain ⟨g1, g2, g3⟩ := r3 c.1
      obtain ⟨p1, p2⟩ := q3 z
      have w := wfx_0 g3
      show (tcR 0 (r.2.2, (rlO kd it F (r.2.1 + 1)).2.2.1, (rlO kd it F (r.2.1 + 1)).2.2.2)).length + a ≤ _ ∧ 1 ≤ (tcR 0 (r.2.2, (rlO kd it F (r.2.1 + 1)).2.2.1, (rlO kd it F (r.2.1 + 1)).2.2.2)).length ∧ _
      rw [len _ _ _ (wfE_ne w)]
      exact ⟨by show _ ≤ (rlO kd it F (r.2.1 + 1)).2.1; omega, by omega, Or.inr w, p2.1, p2.2⟩
    · exact ⟨r1, r2, fun z => absurd (show false = true from z) (by decide)⟩
theorem tcR_len (p q : Nat) (r : Rul) : (tcR p r).length = (tcR q r).length := by
  unfold tcR
  cases h : r.1.isEmpty <;> simp
theorem rlT_ok (hN : ∀ a, a ≤ N → kd a ≠ 23 → a < N) (hit : ∀ a, a < N → kd a = 20 ∨ kd a = 21 → okI 12 (it a) ∧ (it a).1 ≤ 1) (hk : ∀ a, kd a ≤ 4 → ∃ o, o < 5 ∧ kd a = nI o) : ∀ m a p, a ≤ N → (rlT kd it F m a).2.1 ≤ N ∧ ((rlT kd it F m a).1 = true → (tcL p (rlT kd it F m a).2.2).length + a ≤ (rlT kd it F m a).2.1 ∧ ∀ r ∈ (rlT kd it F m a).2.2, okR r) := by
  intro m
  induction m with
  | zero => exact fun a p ha => ⟨ha, fun z => absurd (show false = true from z) (by decide)⟩
  | succ m ih =>
    intro a p ha
    obtain ⟨r1, r2, r3⟩ := rlR_ok (F := F) hN hit hk ha
    unfold rlT
    split
    · next c =>
      obtain ⟨g1, g2, g3⟩ := r3 c
      rw [tcR_len 0 p] at g1
      split
      · next c2 =>
        have hl := hN _ r1 (by rw [c2]; decide)
        obtain ⟨q1, q2⟩ := ih ((rlR kd it F a).2.1 + 1) (p + (tcR p (rlR kd it F a).2.2).length) hl
        refine ⟨q1, fun z => ?_⟩
        obtain ⟨p1, p2⟩ := q2 z
        refine ⟨?_, fun r hr => ?_⟩
        · show (tcR p (rlR kd it F a).2.2 ++ tcL _ _).length + a ≤ _
          rw [List.length_append]
          show _ ≤ (rlT kd it F m ((rlR kd it F a).2.1 + 1)).2.1
          omega
        · rcases List.mem_cons.mp hr with e | e
          · rw [e]
            exact g3
          · exact p2 r e
      · refine ⟨r1, fun _ => ⟨?_, fun r hr => ?_⟩⟩
        · show (tcR p (rlR kd it F a).2.2 ++ []).length + a ≤ (rlR kd it F a).2.1
          rw [List.append_nil]
          exact g1
        · rw [List.mem_singleton.mp hr]
          exact g3
    · exact ⟨r1, fun z => absurd (show false = true from z) (by decide)⟩
end Rul
/-! the desk's rules -/
def CX (μ μ' : ZM) (c c' : Nat) (l : List Int32) : Prop := c' = c + l.length ∧ lst (zI μ' 25) c l ∧ ∀ j, j < c → zI μ' 25 j = zI μ 25 j
section RuC
variable {E : ZE} {l : Launch} {kd ce : Nat → Int32} {it : Nat → Itm} {N many F : Nat} {μ μ' μ2 : ZM} {a c c' c2 d nc ns : Nat} {x : Int32} {K : Option Value → ZM → Prop}
theorem CD.cx {s : List Itm} (h : CD μ μ' c c' s) : CX μ μ' c c' (s.map enC) := ⟨by rw [List.length_map]; exact h.1, h.2.1, h.2.2⟩
theorem CX.app {s t : List Int32} (h : CX μ μ' c c' s) (g : CX μ' μ2 c' c2 t) : CX μ μ2 c c2 (s ++ t) := by
  obtain ⟨h1, h2, h3⟩ := h
  obtain ⟨g1, g2, g3⟩ := g
  refine ⟨by rw [List.length_append]; omega, ?_, fun j hj => (g3 j (by omega)).trans (h3 j hj)⟩
  refine lst_app.mpr ⟨lst_cg (fun j q1 q2 => g3 j (by omega)) h2, ?_⟩
  rw [← h1]
  exact g2
theorem CX.wr (h : CP kd ce N μ a c) (hc : c < 400) : CX μ (wrM μ x) c (c + 1) [x] := ⟨rfl, ⟨(h.wr hc).2.2.1, trivial⟩, (h.wr hc).2.2.2⟩
theorem CX.st (h : CP kd ce N μ a c) (ha : a < N) : CX μ (stM μ) c c [] := ⟨rfl, trivial, fun j _ => (h.step ha).2.2 j⟩
theorem c_out (hN : ∀ a, a ≤ N → kd a ≠ 23 → a < N) (hit : ∀ a, a < N → kd a = 20 ∨ kd a = 21 → okI many (it a) ∧ (it a).1 ≤ 1) (hce : ∀ a, a < N → kd a = 20 ∨ kd a = 21 → enC (it a) = ce a) (hk : ∀ a, kd a ≤ 4 → ∃ o, o < 5 ∧ kd a = nI o) (hF : 2100 ≤ F) (hd : 73 ≤ d + 1) (h5 : CP kd ce N μ a c) (hc : c ≤ a) (k : ∀ μ' c', Fx WP μ μ' → CP kd ce N μ' (rlO kd it F a).2.1 c' → ((rlO kd it F a).1 = true → CX μ μ' c c' ((rlO kd it F a).2.2.2.map enC ++ [-500 - nI (rlO kd it F a).2.2.1])) → K (some (.int (if (rlO kd it F a).1 = true then 1 else 0))) μ') : AW E l (d + 2) nc ns mX6_readOut 0 (zargs 2 [.ref 19]) [] μ K := by
  have n2 := h5.N2
  have aN := h5.aN
  refine t_X6_readOut h5.st ?_
  rw [h5.tk]
  unfold rlO at k
  by_cases z : kd a ≤ 4
  · obtain ⟨o1, o2, o3, o4⟩ := kd_o hk z
    have ha := hN a h5.aN o1
    obtain ⟨s1, s2, s3⟩ := h5.step ha
    rw [if_pos z] at k
    refine c_t z (c_step h5 ha ?_)
    by_cases z3 : kd a < 3
    · rw [if_pos z3] at k
      refine c_t z3 (c_write s1 (fun y => absurd y (by omega)) (fun y μ9 e9 => ?_))
      rw [e9]
      show K (some (.int 1)) (wrM (stM μ) (-500 - kd a))
      obtain ⟨w1, w2, w3⟩ := s1.wr (x := -500 - kd a) y
      refine k _ (c + 1) (s2.trans w2) w1 (fun _ => ?_)
      have := (CX.st h5 ha).app (CX.wr (x := -500 - kd a) s1 y)
      rw [← o2]
      exact this
    · rw [if_neg z3] at k
      refine c_f z3 ((c_rd hN hit hce F).2.2.2.1 0 (a + 1) (d + 1) 0 0 (stM μ) c _ (by omega) (by omega) (by omega) (by omega) s1 (fun μ2 c2 f2 q2 y2 => ⟨_, rfl, q2.st, ?_⟩))
      have pp : PP many N 3 (a + 1) (prs kd it F 3 0 (a + 1)) := prs_ok hN hit F 3 0 (a + 1) ha
      by_cases gd : (prs kd it F 3 0 (a + 1)).1 = true
      · rw [if_pos gd]
        obtain ⟨p1, p2, p3⟩ := pp.2.2 gd
        have pN := pp.1
        have c1 := (y2 gd).1
        refine op1 (fun y => absurd y (by decide)) (fun _ => c_write q2 (fun y => absurd y (by omega)) (fun y => ?_))
        show K (some (.int 1)) (wrM μ2 (-500 - kd a))
        obtain ⟨w1, w2, w3⟩ := q2.wr (x := -500 - kd a) y
        have := k _ (c2 + 1) ((s2.trans f2).trans w2) w1 (fun _ => by
          have := ((CX.st h5 ha).app (y2 gd).cx).app (CX.wr (x := -500 - kd a) q2 y)
          show CX _ _ _ _ ((prs kd it F 3 0 (a + 1)).2.2.map enC ++ [-500 - nI (tN (kd a))])
          rw [← o2]
          exact this)
        have this : K (some (.int (if (prs kd it F 3 0 (a + 1)).1 = true then 1 else 0))) (wrM μ2 (-500 - kd a)) := this
        rw [if_pos gd] at this
        exact this
      · rw [if_neg gd]
        refine op1 (fun _ => ?_) (fun y => absurd rfl y)
        have := k μ2 c2 (s2.trans f2) q2 (fun y => absurd (show (prs kd it F 3 0 (a + 1)).1 = true from y) gd)
        have this : K (some (.int (if (prs kd it F 3 0 (a + 1)).1 = true then 1 else 0))) μ2 := this
        rw [if_neg gd] at this
        exact this
  · rw [if_neg z] at k
    exact c_f z (k μ c Fx.rfl h5 (fun y => absurd (show false = true from y) (by decide)))
end RuC
