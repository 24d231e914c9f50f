/-! the grammar: 0 operand, 1 product, 2 its tail, 3 sum, 4 its tail, 5 test, 6 all, 7 its tail, 8 any, 9 its tail -/
abbrev PRr : Type := Bool × Nat × List Itm
def opN (k : Int32) : Nat := if k = 5 then 0 else if k = 6 then 1 else if k = 60 then 2 else if k = 61 then 3 else if k = 62 then 4 else if k = 43 then 5 else if k = 45 then 6 else if k = 42 then 7 else 8
theorem opN_lt (k : Int32) : opN k < 9 := by
  unfold opN
  repeat' split
  all_goals omega
def isOp (lv : Nat) (k : Int32) : Bool := if lv = 2 then decide (k = 42 ∨ k = 47) else if lv = 4 then decide (k = 43 ∨ k = 45) else if lv = 7 then decide (k = 6) else decide (k = 5)
def hd1 (lv : Nat) : Nat := if lv = 1 then 0 else if lv = 3 then 1 else if lv = 6 then 5 else 6
def isTl (lv : Nat) : Bool := decide (lv = 2 ∨ lv = 4 ∨ lv = 7 ∨ 9 ≤ lv)
def pr0 (kd : Nat → Int32) (it : Nat → Itm) (rec : Nat → Nat → Nat → PRr) (op a : Nat) : PRr := if kd a = 20 ∨ kd a = 21 then (true, a + 1, [it a]) else if kd a = 40 ∧ op < 10 then (if (rec 8 (op + 1) (a + 1)).1 = true ∧ kd (rec 8 (op + 1) (a + 1)).2.1 = 41 then (true, (rec 8 (op + 1) (a + 1)).2.1 + 1, (rec 8 (op + 1) (a + 1)).2.2) else (false, (rec 8 (op + 1) (a + 1)).2.1, [])) else (false, a, [])
def pr5 (kd : Nat → Int32) (rec : Nat → Nat → Nat → PRr) (op a : Nat) : PRr := if kd a = 7 then (if op < 10 then ((rec 5 (op + 1) (a + 1)).1, (rec 5 (op + 1) (a + 1)).2.1, (rec 5 (op + 1) (a + 1)).2.2 ++ [(2, 0)]) else (false, a, [])) else (if (rec 3 op a).1 = true ∧ (kd (rec 3 op a).2.1 = 60 ∨ kd (rec 3 op a).2.1 = 61 ∨ kd (rec 3 op a).2.1 = 62) then ((rec 3 op ((rec 3 op a).2.1 + 1)).1, (rec 3 op ((rec 3 op a).2.1 + 1)).2.1, (rec 3 op a).2.2 ++ ((rec 3 op ((rec 3 op a).2.1 + 1)).2.2 ++ [(3, opN (kd (rec 3 op a).2.1))])) else rec 3 op a)
def prT (kd : Nat → Int32) (rec : Nat → Nat → Nat → PRr) (lv op a : Nat) : PRr := if isOp lv (kd a) = true then (if (rec (hd1 (lv - 1)) op (a + 1)).1 = true then ((rec lv op (rec (hd1 (lv - 1)) op (a + 1)).2.1).1, (rec lv op (rec (hd1 (lv - 1)) op (a + 1)).2.1).2.1, (rec (hd1 (lv - 1)) op (a + 1)).2.2 ++ ((3, opN (kd a)) :: (rec lv op (rec (hd1 (lv - 1)) op (a + 1)).2.1).2.2)) else (false, (rec (hd1 (lv - 1)) op (a + 1)).2.1, [])) else (true, a, [])
def prH (rec : Nat → Nat → Nat → PRr) (lv op a : Nat) : PRr := if (rec (hd1 lv) op a).1 = true then ((rec (lv + 1) op (rec (hd1 lv) op a).2.1).1, (rec (lv + 1) op (rec (hd1 lv) op a).2.1).2.1, (rec (hd1 lv) op a).2.2 ++ (rec (lv + 1) op (rec (hd1 lv) op a).2.1).2.2) else (false, (rec (hd1 lv) op a).2.1, [])
def prS (kd : Nat → Int32) (it : Nat → Itm) (rec : Nat → Nat → Nat → PRr) (lv op a : Nat) : PRr := if lv = 0 then pr0 kd it rec op a else if lv = 5 then pr5 kd rec op a else if isTl lv = true then prT kd rec lv op a else prH rec lv op a
def prs (kd : Nat → Int32) (it : Nat → Itm) : Nat → Nat → Nat → Nat → PRr
  | 0 => fun _ _ a => (false, a, [])
  | n + 1 => prS kd it (prs kd it n)
/-! what comes of it -/
def dlv (lv : Nat) : Nat := if isTl lv = true then 0 else 1
def wfx (many k : Nat) (l : List Itm) : Prop := ∀ h r, wfE many (h + 1) r → wfE many (h + 1 - k) (l ++ r)
theorem wfx_it {many : Nat} {i : Itm} (h : okI many i) (h1 : i.1 ≤ 1) : wfx many 1 [i] := by
  intro x r hr
  refine ⟨h, ?_⟩
  have : i.1 = 0 ∨ i.1 = 1 := by omega
  rcases this with e | e
  · exact Or.inl ⟨e, hr⟩
  · exact Or.inr (Or.inl ⟨e, hr⟩)
theorem wfx_not {many : Nat} {l : List Itm} (h : wfx many 1 l) : wfx many 1 (l ++ [(2, 0)]) := by
  intro x r hr
  rw [List.append_assoc]
  refine h x _ ⟨Or.inr (Or.inr (Or.inl rfl)), Or.inr (Or.inr (Or.inl ⟨rfl, by omega, hr⟩))⟩
theorem wfx_op {many : Nat} {l : List Itm} {b : Nat} (hb : b < 9) (h : wfx many 1 l) (t : List Itm) (ht : wfx many 0 t) : wfx many 0 (l ++ ((3, b) :: t)) := by
  intro x r hr
  rw [List.append_assoc]
  refine h (x + 1) _ ⟨Or.inr (Or.inr (Or.inr ⟨rfl, hb⟩)), Or.inr (Or.inr (Or.inr ⟨rfl, by omega, ?_⟩))⟩
  exact ht x r hr
theorem wfx_app {many : Nat} {l t : List Itm} (h : wfx many 1 l) (ht : wfx many 0 t) : wfx many 1 (l ++ t) := by
  intro x r hr
  rw [List.append_assoc]
  exact h x _ (ht x r hr)
def PP (many N lv a : Nat) (r : PRr) : Prop := r.2.1 ≤ N ∧ a ≤ r.2.1 ∧ (r.1 = true → a + dlv lv ≤ r.2.1 ∧ r.2.2.length ≤ r.2.1 - a ∧ wfx many (dlv lv) r.2.2)
section Prs
variable {kd : Nat → Int32} {it : Nat → Itm} {N many : Nat}
theorem dl_h {lv : Nat} (h : lv = 1 ∨ lv = 3 ∨ lv = 6 ∨ lv = 8) : dlv lv = 1 ∧ dlv (lv + 1) = 0 ∧ dlv (hd1 lv) = 1 := by
  rcases h with rfl | rfl | rfl | rfl <;> decide
theorem dl_t {lv : Nat} (h : isTl lv = true) : dlv lv = 0 ∧ dlv (hd1 (lv - 1)) = 1 := by
  unfold dlv
  rw [if_pos h]
  refine ⟨rfl, ?_⟩
  unfold isTl at h
  rw [decide_eq_true_eq] at h
  rcases h with rfl | rfl | rfl | h
  · decide
  · decide
  · decide
  · have : hd1 (lv - 1) = 6 := by
      unfold hd1
      rw [if_neg (by omega), if_neg (by omega), if_neg (by omega)]
    rw [this]
    decide
theorem isOp_ne {lv : Nat} {k : Int32} (h : isOp lv k = true) : k ≠ 23 := by
  intro e
  rw [e] at h
  unfold isOp at h
  split at h
  · exact absurd h (by decide)
  split at h
  · exact absurd h (by decide)
  split at h
  · exact absurd h (by decide)
  · exact absurd h (by decide)
theorem prs_ok (hN : ∀ a, a ≤ N → kd a ≠ 23 → a < N) (hit : ∀ a, a < N → kd a = 20 ∨ kd a = 21 → okI many (it a) ∧ (it a).1 ≤ 1) : ∀ n lv op a, a ≤ N → PP many N lv a (prs kd it n lv op a) := by
  intro n
  induction n with
  | zero => exact fun lv op a ha => ⟨ha, Nat.le_refl _, fun z => absurd (show false = true from z) (by decide)⟩
  | succ n ih =>
    intro lv op a ha
    show PP many N lv a (prS kd it (prs kd it n) lv op a)
    unfold prS
    split
    · next e =>
      subst e
      unfold pr0
      split
      · next c =>
        have hl := hN a ha (by rcases c with c | c <;> rw [c] <;> decide)
        obtain ⟨i1, i2⟩ := hit a hl c
        exact ⟨hl, Nat.le_succ a, fun _ => ⟨Nat.le_refl _, by simp, wfx_it i1 i2⟩⟩
      · split
        · next c =>
          have hl := hN a ha (by rw [c.1]; decide)
          have r := ih 8 (op + 1) (a + 1) hl
          revert r
          generalize prs kd it n 8 (op + 1) (a + 1) = r
          rintro ⟨r1, r2, r3⟩
          split
          · next c' =>
            obtain ⟨g1, g2, g3⟩ := r3 c'.1
            have g1 : a + 1 + 1 ≤ r.2.1 := g1
            refine ⟨hN _ r1 (by rw [c'.2]; decide), by show a ≤ r.2.1 + 1; omega, fun _ => ⟨by show a + 1 ≤ r.2.1 + 1; omega, by show r.2.2.length ≤ r.2.1 + 1 - a; omega, g3⟩⟩
          · exact ⟨r1, by show a ≤ r.2.1; omega, fun z => absurd (show false = true from z) (by decide)⟩
        · exact ⟨ha, Nat.le_refl _, fun z => absurd (show false = true from z) (by decide)⟩
    · split
      · next e =>
        subst e
        unfold pr5
        split
        · next c =>
          have hl := hN a ha (by rw [c]; decide)
          split
          · have r := ih 5 (op + 1) (a + 1) hl
            revert r
            generalize prs kd it n 5 (op + 1) (a + 1) = r
            rintro ⟨r1, r2, r3⟩
            refine ⟨r1, by show a ≤ r.2.1; omega, fun z => ?_⟩
            obtain ⟨g1, g2, g3⟩ := r3 z
            have g1 : a + 1 + 1 ≤ r.2.1 := g1
            refine ⟨by show a + 1 ≤ r.2.1; omega, ?_, wfx_not g3⟩
            simp only [List.length_append, List.length_cons, List.length_nil]
            omega
          · exact ⟨ha, Nat.le_refl _, fun z => absurd (show false = true from z) (by decide)⟩
        · have r := ih 3 op a ha
          revert r
          generalize prs kd it n 3 op a = r
          intro hr
          split
          · next c =>
            obtain ⟨r1, r2, r3⟩ := hr
            have hl := hN _ r1 (by rcases c.2 with c | c | c <;> rw [c] <;> decide)
            have q := ih 3 op (r.2.1 + 1) hl
            revert q
            generalize prs kd it n 3 op (r.2.1 + 1) = q
            rintro ⟨q1, q2, q3⟩
            refine ⟨q1, by show a ≤ q.2.1; omega, fun z => ?_⟩
            obtain ⟨g1, g2, g3⟩ := r3 c.1
            obtain ⟨g4, g5, g6⟩ := q3 z
            have g1 : a + 1 ≤ r.2.1 := g1
            have g4 : r.2.1 + 1 + 1 ≤ q.2.1 := g4
            refine ⟨by show a + 1 ≤ q.2.1; omega, ?_, wfx_app g3 (wfx_op (opN_lt _) g6 [] (fun x r hr => hr))⟩
            simp only [List.length_append, List.length_cons, List.length_nil]
            omega
          · exact hr
      · split
        · next e =>
          obtain ⟨d1, d2⟩ := dl_t e
          unfold prT
          split
          · next c =>
            have hl := hN a ha (isOp_ne c)
            have r := ih (hd1 (lv - 1)) op (a + 1) hl
            revert r
            generalize prs kd it n (hd1 (lv - 1)) op (a + 1) = r
            rintro ⟨r1, r2, r3⟩
            rw [d2] at r3
            split
            · next c' =>
              obtain ⟨g1, g2, g3⟩ := r3 c'
              have q := ih lv op r.2.1 r1
              revert q
              generalize prs kd it n lv op r.2.1 = q
              rintro ⟨q1, q2, q3⟩
              refine ⟨q1, by show a ≤ q.2.1; omega, fun z => ?_⟩
              obtain ⟨g4, g5, g6⟩ := q3 z
              rw [d1] at g6 ⊢
              refine ⟨by show a + 0 ≤ q.2.1; omega, ?_, wfx_op (opN_lt _) g3 _ g6⟩
              simp only [List.length_append, List.length_cons]
              omega
            · exact ⟨r1, by show a ≤ r.2.1; omega, fun z => absurd (show false = true from z) (by decide)⟩
          · rw [PP, d1]
            exact ⟨ha, Nat.le_refl _, fun _ => ⟨Nat.le_refl _, Nat.zero_le _, fun x r hr => hr⟩⟩
        · next n0 n5 nt =>
          unfold prH
          have r := ih (hd1 lv) op a ha
          revert r
          generalize prs kd it n (hd1 lv) op a = r
          rintro ⟨r1, r2, r3⟩
          split
          · next c =>
            have hv : lv = 1 ∨ lv = 3 ∨ lv = 6 ∨ lv = 8 := by
              unfold isTl at nt
              rw [decide_eq_true_eq] at nt
              omega
            obtain ⟨d1, d2, d3⟩ := dl_h hv
            rw [d3] at r3
            obtain ⟨g1, g2, g3⟩ := r3 c
            have q := ih (lv + 1) op r.2.1 r1
            revert q
            generalize prs kd it n (lv + 1) op r.2.1 = q
            rintro ⟨q1, q2, q3⟩
            rw [d2] at q3
            refine ⟨q1, by show a ≤ q.2.1; omega, fun z => ?_⟩
            obtain ⟨g4, g5, g6⟩ := q3 z
            rw [d1]
            refine ⟨by show a + 1 ≤ q.2.1; omega, ?_, wfx_app g3 g6⟩
            simp only [List.length_append]
            omega
          · exact ⟨r1, r2, fun z => absurd (show false = true from z) (by decide)⟩
end Prs
