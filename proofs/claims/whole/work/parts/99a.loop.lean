/-! the law's loop -/
theorem l7 {L i : Nat} (hL : L ≤ 3584) (hi : i ≤ 4000) : (nI L - 7 < nI i) = (L < i + 7) := by
  rw [i_lt, nI_tI (by omega), Int32.toInt_sub, nI_tI (by omega), show (7 : Int32).toInt = 7 from rfl]
  have : ((L : Int) - 7).bmod (2 ^ 32) = (L : Int) - 7 := by
    apply Int.bmod_eq_of_le <;> omega
  rw [this]
  exact propext ⟨fun h => by omega, fun h => by omega⟩
section Loop
variable {E : ZE} {l : Launch} {d : Nat} {L : Nat} {X : Nat → Int32}
set_option maxRecDepth 4000 in
set_option maxHeartbeats 4000000 in
theorem law_loop (hL : L ≤ 3584) : ∀ n i t g μ, i ≤ L → L < i + 7 * (n + 1) → t + n ≤ 1000 → IV g L X t μ → AW E l (d + 300) (4 * n + 4) (460 * n + 460) mL_law 18 [some (.ref 0), some (.ref 11), some (.ref 31), some (.int (nI i))] [] μ (fun v _ => v = some (.int 1)) := by
  intro n
  induction n with
  | zero =>
    intro i t g μ hi hn ht hI
    refine t_L_law_18 hI.st (c_t ?_ rfl)
    rw [hI.s0.1, l7 hL (by omega)]
    omega
  | succ n ih =>
    intro i t g μ hi hn ht hI
    by_cases c : L < i + 7
    · refine t_L_law_18 hI.st (c_t ?_ rfl)
      rw [hI.s0.1, l7 hL (by omega)]
      exact c
    have nx : ∀ g' μ2, IV g' L X (t + 1) μ2 → AW E l (d + 300) (4 * (n + 1)) (460 * (n + 1)) mL_law 18 [some (.ref 0), some (.ref 11), some (.ref 31), some (.int (nI (i + 7)))] [] μ2 (fun v _ => v = some (.int 1)) := fun g' μ2 h => ih (i + 7) (t + 1) g' μ2 (by omega) (by omega) (by omega) h
    have s1 := hI.s0.1
    have s2 := hI.s0.2
    have e1 : nI i + 1 = nI (i + 1) := nI_add i 1
    have e2 : nI i + 2 = nI (i + 2) := nI_add i 2
    have e3 : nI i + 3 = nI (i + 3) := nI_add i 3
    have e4 : nI i + 4 = nI (i + 4) := nI_add i 4
    have e5 : nI i + 5 = nI (i + 5) := nI_add i 5
    have e6 : nI i + 6 = nI (i + 6) := nI_add i 6
    have e7 : nI i + 7 = nI (i + 7) := nI_add i 7
    have c0 : (nI i).toNatClampNeg = i := nI_clamp (by omega)
    have c1 : (nI (i + 1)).toNatClampNeg = i + 1 := nI_clamp (by omega)
    have c2 : (nI (i + 2)).toNatClampNeg = i + 2 := nI_clamp (by omega)
    have c3 : (nI (i + 3)).toNatClampNeg = i + 3 := nI_clamp (by omega)
    have c4 : (nI (i + 4)).toNatClampNeg = i + 4 := nI_clamp (by omega)
    have c5 : (nI (i + 5)).toNatClampNeg = i + 5 := nI_clamp (by omega)
    have c6 : (nI (i + 6)).toNatClampNeg = i + 6 := nI_clamp (by omega)
    have v0 : vp_in (nI i) L := vp_in_nI (by omega) (by omega)
    have v1 : vp_in (nI (i + 1)) L := vp_in_nI (by omega) (by omega)
    have v2 : vp_in (nI (i + 2)) L := vp_in_nI (by omega) (by omega)
    have v3 : vp_in (nI (i + 3)) L := vp_in_nI (by omega) (by omega)
    have v4 : vp_in (nI (i + 4)) L := vp_in_nI (by omega) (by omega)
    have v5 : vp_in (nI (i + 5)) L := vp_in_nI (by omega) (by omega)
    have v6 : vp_in (nI (i + 6)) L := vp_in_nI (by omega) (by omega)
    refine t_L_law_18 (nc := 4 * (n + 1)) (ns := 460 * (n + 1)) hI.st ?_
    rw [e1, e2, e3, e4, e5, e6, e7, c0, c1, c2, c3, c4, c5, c6, s1]
    refine c_f (by rw [l7 hL (by omega)]; exact c) ⟨v0, ?_⟩
    refine ⟨fun _ => ?_, fun _ => ?_, fun _ => ?_, fun _ => ?_, fun _ => ?_, fun _ => ?_, fun _ => ?_, fun _ => ?_, fun _ => ?_, fun _ => ?_, fun _ => ?_, fun _ => ?_, fun _ => ?_, fun _ => ?_, fun _ => ?_, fun _ => ?_, fun _ => ?_, fun _ => ?_, fun _ => ?_, fun _ => ?_, fun _ => ?_, fun _ => ?_, fun _ => ?_, fun _ => ?_, fun _ => ?_, fun _ => ?_, fun _ => ?_, fun _ => ?_, fun _ => ?_, fun _ => ?_, fun _ => ?_, fun _ => ?_, fun _ => ?_, fun _ => ?_, fun _ => ?_, fun _ => ?_, fun _ => ?_, fun _ => ?_, fun _ => ?_, fun _ => ?_⟩
    · have pr := pr_model (E := E) (l := l) (d := d) (x1 := X (i + 1)) (x2 := X (i + 2)) (x3 := X (i + 3)) hI
      rw [s2, s2, s2]
      refine ⟨v1, v2, v3, AW.mono pr (fun v μ1 h1 => ?_)⟩
      obtain ⟨r, q1, q2, q3, q4⟩ := h1
      refine ⟨r, q1, q2, ?_⟩
      rw [q3.1, q3.2, q3.2, q3.2]
      refine ⟨v1, v2, v3, AW.mono q4 (fun v μ2 h2 => ?_)⟩
      obtain ⟨r1, g', r2⟩ := h2
      exact ⟨r, r1, r2.st, fun _ => nx g' μ2 r2, fun z => absurd rfl z⟩
    · have pr := pr_price (E := E) (l := l) (d := d) (x1 := X (i + 1)) (x2 := X (i + 2)) (x3 := X (i + 3)) hI
      rw [s2, s2, s2]
      refine ⟨v1, v2, v3, AW.mono pr (fun v μ1 h1 => ?_)⟩
      obtain ⟨r, q1, q2, q3, q4⟩ := h1
      refine ⟨r, q1, q2, ?_⟩
      rw [q3.1, q3.2, q3.2, q3.2]
      refine ⟨v1, v2, v3, AW.mono q4 (fun v μ2 h2 => ?_)⟩
      obtain ⟨r1, g', r2⟩ := h2
      exact ⟨r, r1, r2.st, fun _ => nx g' μ2 r2, fun z => absurd rfl z⟩
    · have pr := pr_priceOn (E := E) (l := l) (d := d) (x1 := X (i + 1)) (x2 := X (i + 2)) hI
      rw [s2, s2]
      refine ⟨v1, v2, AW.mono pr (fun v μ1 h1 => ?_)⟩
      obtain ⟨r, q1, q2, q3, q4⟩ := h1
      refine ⟨r, q1, q2, ?_⟩
      rw [q3.1, q3.2, q3.2]
      refine ⟨v1, v2, AW.mono q4 (fun v μ2 h2 => ?_)⟩
      obtain ⟨r1, g', r2⟩ := h2
      exact ⟨r, r1, r2.st, fun _ => nx g' μ2 r2, fun z => absurd rfl z⟩
    · have pr := pr_lot (E := E) (l := l) (d := d) (x1 := X (i + 1)) (x2 := X (i + 2)) (x3 := X (i + 3)) hI
      rw [s2, s2, s2]
      refine ⟨v1, v2, v3, AW.mono pr (fun v μ1 h1 => ?_)⟩
      obtain ⟨r, q1, q2, q3, q4⟩ := h1
      refine ⟨r, q1, q2, ?_⟩
      rw [q3.1, q3.2, q3.2, q3.2]
      refine ⟨v1, v2, v3, AW.mono q4 (fun v μ2 h2 => ?_)⟩
      obtain ⟨r1, g', r2⟩ := h2
      exact ⟨r, r1, r2.st, fun _ => nx g' μ2 r2, fun z => absurd rfl z⟩
    · have pr := pr_hours (E := E) (l := l) (d := d) (x1 := X (i + 1)) hI
      rw [s2]
      refine ⟨v1, AW.mono pr (fun v μ1 h1 => ?_)⟩
      obtain ⟨r, q1, q2, q3, q4⟩ := h1
      refine ⟨r, q1, q2, ?_⟩
      rw [q3.1, q3.2]
      refine ⟨v1, AW.mono q4 (fun v μ2 h2 => ?_)⟩
      obtain ⟨r1, g', r2⟩ := h2
      exact ⟨r, r1, r2.st, fun _ => nx g' μ2 r2, fun z => absurd rfl z⟩
    · have pr := pr_till (E := E) (l := l) (d := d) (x1 := X (i + 1)) hI
      rw [s2]
      refine ⟨v1, AW.mono pr (fun v μ1 h1 => ?_)⟩
      obtain ⟨r, q1, q2, q3, q4⟩ := h1
      refine ⟨r, q1, q2, ?_⟩
      rw [q3.1, q3.2]
      refine ⟨v1, AW.mono q4 (fun v μ2 h2 => ?_)⟩
      obtain ⟨r1, g', r2⟩ := h2
      exact ⟨r, r1, r2.st, fun _ => nx g' μ2 r2, fun z => absurd rfl z⟩
    · have pr := pr_sell (E := E) (l := l) (d := d) (x1 := X (i + 1)) (x2 := X (i + 2)) (x3 := X (i + 3)) (x4 := X (i + 4)) (x5 := X (i + 5)) hI
      rw [s2, s2, s2, s2, s2]
      refine ⟨v1, v2, v3, v4, v5, AW.mono pr (fun v μ1 h1 => ?_)⟩
      obtain ⟨r, q1, q2, q3, q4⟩ := h1
      refine ⟨r, q1, q2, ?_⟩
      rw [q3.1, q3.2, q3.2, q3.2, q3.2, q3.2]
      refine ⟨v1, v2, v3, v4, v5, AW.mono q4 (fun v μ2 h2 => ?_)⟩
      obtain ⟨r1, g', r2⟩ := h2
      exact ⟨r, r1, r2.st, fun _ => nx g' μ2 r2, fun z => absurd rfl z⟩
    · have pr := pr_gift (E := E) (l := l) (d := d) (x1 := X (i + 1)) (x2 := X (i + 2)) hI
      rw [s2, s2]
      refine ⟨v1, v2, AW.mono pr (fun v μ1 h1 => ?_)⟩
      obtain ⟨r, q1, q2, q3, q4⟩ := h1
      refine ⟨r, q1, q2, ?_⟩
      rw [q3.1, q3.2, q3.2]
      refine ⟨v1, v2, AW.mono q4 (fun v μ2 h2 => ?_)⟩
      obtain ⟨r1, g', r2⟩ := h2
      exact ⟨r, r1, r2.st, fun _ => nx g' μ2 r2, fun z => absurd rfl z⟩
    · have pr := pr_ofSale (E := E) (l := l) (d := d) (x1 := X (i + 1)) (x2 := X (i + 2)) hI
      rw [s2, s2]
      refine ⟨v1, v2, AW.mono pr (fun v μ1 h1 => ?_)⟩
      obtain ⟨r, q1, q2, q3, q4⟩ := h1
      refine ⟨r, q1, q2, ?_⟩
      rw [q3.1, q3.2, q3.2]
      refine ⟨v1, v2, AW.mono q4 (fun v μ2 h2 => ?_)⟩
      obtain ⟨r1, g', r2⟩ := h2
      exact ⟨r, r1, r2.st, fun _ => nx g' μ2 r2, fun z => absurd rfl z⟩
    · have pr := pr_join (E := E) (l := l) (d := d) (x1 := X (i + 1)) (x2 := X (i + 2)) (x3 := X (i + 3)) (x4 := X (i + 4)) hI
      rw [s2, s2, s2, s2]
      refine ⟨v1, v2, v3, v4, AW.mono pr (fun v μ1 h1 => ?_)⟩
      obtain ⟨r, q1, q2, q3, q4⟩ := h1
      refine ⟨r, q1, q2, ?_⟩
      rw [q3.1, q3.2, q3.2, q3.2, q3.2]
      refine ⟨v1, v2, v3, v4, AW.mono q4 (fun v μ2 h2 => ?_)⟩
      obtain ⟨r1, g', r2⟩ := h2
      exact ⟨r, r1, r2.st, fun _ => nx g' μ2 r2, fun z => absurd rfl z⟩
    · have pr := pr_keep (E := E) (l := l) (d := d) (x1 := X (i + 1)) hI
      rw [s2]
      refine ⟨v1, AW.mono pr (fun v μ1 h1 => ?_)⟩
      obtain ⟨r, q1, q2, q3, q4⟩ := h1
      refine ⟨r, q1, q2, ?_⟩
      rw [q3.1, q3.2]
      refine ⟨v1, AW.mono q4 (fun v μ2 h2 => ?_)⟩
      obtain ⟨r1, g', r2⟩ := h2
      exact ⟨r, r1, r2.st, fun _ => nx g' μ2 r2, fun z => absurd rfl z⟩
    · have pr := pr_feed (E := E) (l := l) (d := d) (x1 := X (i + 1)) (x2 := X (i + 2)) (x3 := X (i + 3)) (x4 := X (i + 4)) (x5 := X (i + 5)) hI
      rw [s2, s2, s2, s2, s2]
      refine ⟨v1, v2, v3, v4, v5, AW.mono pr (fun v μ1 h1 => ?_)⟩
      obtain ⟨r, q1, q2, q3, q4⟩ := h1
      refine ⟨r, q1, q2, ?_⟩
      rw [q3.1, q3.2, q3.2, q3.2, q3.2, q3.2]
      refine ⟨v1, v2, v3, v4, v5, AW.mono q4 (fun v μ2 h2 => ?_)⟩
      obtain ⟨r1, g', r2⟩ := h2
      exact ⟨r, r1, r2.st, fun _ => nx g' μ2 r2, fun z => absurd rfl z⟩
    · have pr := pr_end (E := E) (l := l) (d := d) (x1 := X (i + 1)) hI
      rw [s2]
      refine ⟨v1, AW.mono pr (fun v μ1 h1 => ?_)⟩
      obtain ⟨r, q1, q2, q3, q4⟩ := h1
      refine ⟨r, q1, q2, ?_⟩
      rw [q3.1, q3.2]
      refine ⟨v1, AW.mono q4 (fun v μ2 h2 => ?_)⟩
      obtain ⟨r1, g', r2⟩ := h2
      exact ⟨r, r1, r2.st, fun _ => nx g' μ2 r2, fun z => absurd rfl z⟩
    · have pr := pr_text (E := E) (l := l) (d := d) (x1 := X (i + 1)) (x2 := X (i + 2)) hI
      rw [s2, s2]
      refine ⟨v1, v2, AW.mono pr (fun v μ1 h1 => ?_)⟩
      obtain ⟨r, q1, q2, q3, q4⟩ := h1
      refine ⟨r, q1, q2, ?_⟩
      rw [q3.1, q3.2, q3.2]
      refine ⟨v1, v2, AW.mono q4 (fun v μ2 h2 => ?_)⟩
      obtain ⟨r1, g', r2⟩ := h2
      exact ⟨r, r1, r2.st, fun _ => nx g' μ2 r2, fun z => absurd rfl z⟩
    · have pr := pr_inForce (E := E) (l := l) (d := d) (x1 := X (i + 1)) (x2 := X (i + 2)) (x3 := X (i + 3)) hI
      rw [s2, s2, s2]
      refine ⟨v1, v2, v3, AW.mono pr (fun v μ1 h1 => ?_)⟩
      obtain ⟨r, q1, q2, q3, q4⟩ := h1
      refine ⟨r, q1, q2, ?_⟩
      rw [q3.1, q3.2, q3.2, q3.2]
      refine ⟨v1, v2, v3, AW.mono q4 (fun v μ2 h2 => ?_)⟩
      obtain ⟨r1, g', r2⟩ := h2
      exact ⟨r, r1, r2.st, fun _ => nx g' μ2 r2, fun z => absurd rfl z⟩
    · have pr := pr_says (E := E) (l := l) (d := d) (x1 := X (i + 1)) (x2 := X (i + 2)) (x3 := X (i + 3)) (x4 := X (i + 4)) hI
      rw [s2, s2, s2, s2]
      refine ⟨v1, v2, v3, v4, AW.mono pr (fun v μ1 h1 => ?_)⟩
      obtain ⟨r, q1, q2, q3, q4⟩ := h1
      refine ⟨r, q1, q2, ?_⟩
      rw [q3.1, q3.2, q3.2, q3.2, q3.2]
      refine ⟨v1, v2, v3, v4, AW.mono q4 (fun v μ2 h2 => ?_)⟩
      obtain ⟨r1, g', r2⟩ := h2
      exact ⟨r, r1, r2.st, fun _ => nx g' μ2 r2, fun z => absurd rfl z⟩
    · have pr := pr_ask (E := E) (l := l) (d := d) (x1 := X (i + 1)) (x2 := X (i + 2)) (x3 := X (i + 3)) (x4 := X (i + 4)) (x5 := X (i + 5)) (x6 := X (i + 6)) hI
      rw [s2, s2, s2, s2, s2, s2]
      refine ⟨v1, v2, v3, v4, v5, v6, AW.mono pr (fun v μ1 h1 => ?_)⟩
      obtain ⟨r, q1, q2, q3, q4⟩ := h1
      refine ⟨r, q1, q2, ?_⟩
      rw [q3.1, q3.2, q3.2, q3.2, q3.2, q3.2, q3.2]
      refine ⟨v1, v2, v3, v4, v5, v6, AW.mono q4 (fun v μ2 h2 => ?_)⟩
      obtain ⟨r1, g', r2⟩ := h2
      exact ⟨r, r1, r2.st, fun _ => nx g' μ2 r2, fun z => absurd rfl z⟩
    · have pr := pr_judged (E := E) (l := l) (d := d) (x1 := X (i + 1)) (x2 := X (i + 2)) (x3 := X (i + 3)) hI
      rw [s2, s2, s2]
      refine ⟨v1, v2, v3, AW.mono pr (fun v μ1 h1 => ?_)⟩
      obtain ⟨r, q1, q2, q3, q4⟩ := h1
      refine ⟨r, q1, q2, ?_⟩
      rw [q3.1, q3.2, q3.2, q3.2]
      refine ⟨v1, v2, v3, AW.mono q4 (fun v μ2 h2 => ?_)⟩
      obtain ⟨r1, g', r2⟩ := h2
      exact ⟨r, r1, r2.st, fun _ => nx g' μ2 r2, fun z => absurd rfl z⟩
    · have pr := pr_ofAsking (E := E) (l := l) (d := d) (x1 := X (i + 1)) (x2 := X (i + 2)) hI
      rw [s2, s2]
      refine ⟨v1, v2, AW.mono pr (fun v μ1 h1 => ?_)⟩
      obtain ⟨r, q1, q2, q3, q4⟩ := h1
      refine ⟨r, q1, q2, ?_⟩
      rw [q3.1, q3.2, q3.2]
      refine ⟨v1, v2, AW.mono q4 (fun v μ2 h2 => ?_)⟩
      obtain ⟨r1, g', r2⟩ := h2
      exact ⟨r, r1, r2.st, fun _ => nx g' μ2 r2, fun z => absurd rfl z⟩
    · have pr := pr_take (E := E) (l := l) (d := d) (x1 := X (i + 1)) (by omega) hI
      rw [s2]
      refine ⟨v1, AW.mono pr (fun v μ1 h1 => ?_)⟩
      obtain ⟨r, q1, q2, q3, q4⟩ := h1
      refine ⟨r, q1, q2, ?_⟩
      rw [q3.1, q3.2]
      refine ⟨v1, AW.mono q4 (fun v μ2 h2 => ?_)⟩
      obtain ⟨r1, g', r2⟩ := h2
      exact ⟨r, r1, r2.st, fun _ => nx g' μ2 r2, fun z => absurd rfl z⟩
    · have pr := pr_leave (E := E) (l := l) (d := d) (x1 := X (i + 1)) hI
      rw [s2]
      refine ⟨v1, AW.mono pr (fun v μ1 h1 => ?_)⟩
      obtain ⟨r, q1, q2, q3, q4⟩ := h1
      refine ⟨r, q1, q2, ?_⟩
      rw [q3.1, q3.2]
      refine ⟨v1, AW.mono q4 (fun v μ2 h2 => ?_)⟩
      obtain ⟨r1, g', r2⟩ := h2
      exact ⟨r, r1, r2.st, fun _ => nx g' μ2 r2, fun z => absurd rfl z⟩
    · have pr := pr_note (E := E) (l := l) (d := d) (x1 := X (i + 1)) hI
      rw [s2]
      refine ⟨v1, AW.mono pr (fun v μ1 h1 => ?_)⟩
      obtain ⟨r, q1, q2, q3, q4⟩ := h1
      refine ⟨r, q1, q2, ?_⟩
      rw [q3.1, q3.2]
      refine ⟨v1, AW.mono q4 (fun v μ2 h2 => ?_)⟩
      obtain ⟨r1, g', r2⟩ := h2
      exact ⟨r, r1, r2.st, fun _ => nx g' μ2 r2, fun z => absurd rfl z⟩
    · have pr := pr_stock (E := E) (l := l) (d := d) (x1 := X (i + 1)) (x2 := X (i + 2)) hI
      rw [s2, s2]
      refine ⟨v1, v2, AW.mono pr (fun v μ1 h1 => ?_)⟩
      obtain ⟨r, q1, q2, q3, q4⟩ := h1
      refine ⟨r, q1, q2, ?_⟩
      rw [q3.1, q3.2, q3.2]
      refine ⟨v1, v2, AW.mono q4 (fun v μ2 h2 => ?_)⟩
      obtain ⟨r1, g', r2⟩ := h2
      exact ⟨r, r1, r2.st, fun _ => nx g' μ2 r2, fun z => absurd rfl z⟩
    · have pr := pr_worth (E := E) (l := l) (d := d) (x1 := X (i + 1)) (x2 := X (i + 2)) hI
      rw [s2, s2]
      refine ⟨v1, v2, AW.mono pr (fun v μ1 h1 => ?_)⟩
      obtain ⟨r, q1, q2, q3, q4⟩ := h1
      refine ⟨r, q1, q2, ?_⟩
      rw [q3.1, q3.2, q3.2]
      refine ⟨v1, v2, AW.mono q4 (fun v μ2 h2 => ?_)⟩
      obtain ⟨r1, g', r2⟩ := h2
      exact ⟨r, r1, r2.st, fun _ => nx g' μ2 r2, fun z => absurd rfl z⟩
    · have pr := pr_sort (E := E) (l := l) (d := d) (x1 := X (i + 1)) hI (by omega)
      rw [s2]
      refine ⟨v1, AW.mono pr (fun v μ1 h1 => ?_)⟩
      obtain ⟨r, q1, q2, q3, q4⟩ := h1
      refine ⟨r, q1, q2, ?_⟩
      rw [q3.1, q3.2]
      refine ⟨v1, AW.mono q4 (fun v μ2 h2 => ?_)⟩
      obtain ⟨r1, g', r2⟩ := h2
      exact ⟨r, r1, r2.st, fun _ => nx g' μ2 r2, fun z => absurd rfl z⟩
    · have pr := pr_sellUsed (E := E) (l := l) (d := d) (x1 := X (i + 1)) hI
      rw [s2]
      refine ⟨v1, AW.mono pr (fun v μ1 h1 => ?_)⟩
      obtain ⟨r, q1, q2, q3, q4⟩ := h1
      refine ⟨r, q1, q2, ?_⟩
      rw [q3.1, q3.2]
      refine ⟨v1, AW.mono q4 (fun v μ2 h2 => ?_)⟩
      obtain ⟨r1, g', r2⟩ := h2
      exact ⟨r, r1, r2.st, fun _ => nx g' μ2 r2, fun z => absurd rfl z⟩
    · have pr := pr_ofLot (E := E) (l := l) (d := d) (x1 := X (i + 1)) (x2 := X (i + 2)) (x3 := X (i + 3)) hI
      rw [s2, s2, s2]
      refine ⟨v1, v2, v3, AW.mono pr (fun v μ1 h1 => ?_)⟩
      obtain ⟨r, q1, q2, q3, q4⟩ := h1
      refine ⟨r, q1, q2, ?_⟩
      rw [q3.1, q3.2, q3.2, q3.2]
      refine ⟨v1, v2, v3, AW.mono q4 (fun v μ2 h2 => ?_)⟩
      obtain ⟨r1, g', r2⟩ := h2
      exact ⟨r, r1, r2.st, fun _ => nx g' μ2 r2, fun z => absurd rfl z⟩
    · have pr := pr_beyond (E := E) (l := l) (d := d) (x1 := X (i + 1)) (x2 := X (i + 2)) (x3 := X (i + 3)) hI
      rw [s2, s2, s2]
      refine ⟨v1, v2, v3, AW.mono pr (fun v μ1 h1 => ?_)⟩
      obtain ⟨r, q1, q2, q3, q4⟩ := h1
      refine ⟨r, q1, q2, ?_⟩
      rw [q3.1, q3.2, q3.2, q3.2]
      refine ⟨v1, v2, v3, AW.mono q4 (fun v μ2 h2 => ?_)⟩
      obtain ⟨r1, g', r2⟩ := h2
      exact ⟨r, r1, r2.st, fun _ => nx g' μ2 r2, fun z => absurd rfl z⟩
    · have pr := pr_since (E := E) (l := l) (d := d) (x1 := X (i + 1)) (x2 := X (i + 2)) hI
      rw [s2, s2]
      refine ⟨v1, v2, AW.mono pr (fun v μ1 h1 => ?_)⟩
      obtain ⟨r, q1, q2, q3, q4⟩ := h1
      refine ⟨r, q1, q2, ?_⟩
      rw [q3.1, q3.2, q3.2]
      refine ⟨v1, v2, AW.mono q4 (fun v μ2 h2 => ?_)⟩
      obtain ⟨r1, g', r2⟩ := h2
      exact ⟨r, r1, r2.st, fun _ => nx g' μ2 r2, fun z => absurd rfl z⟩
    · have pr := pr_honest (E := E) (l := l) (d := d) (x1 := X (i + 1)) (x2 := X (i + 2)) hI
      rw [s2, s2]
      refine ⟨v1, v2, AW.mono pr (fun v μ1 h1 => ?_)⟩
      obtain ⟨r, q1, q2, q3, q4⟩ := h1
      refine ⟨r, q1, q2, ?_⟩
      rw [q3.1, q3.2, q3.2]
      refine ⟨v1, v2, AW.mono q4 (fun v μ2 h2 => ?_)⟩
      obtain ⟨r1, g', r2⟩ := h2
      exact ⟨r, r1, r2.st, fun _ => nx g' μ2 r2, fun z => absurd rfl z⟩
    · have pr := pr_limit (E := E) (l := l) (d := d)  hI
      refine AW.mono pr (fun v μ1 h1 => ?_)
      obtain ⟨r, q1, q2, q3, q4⟩ := h1
      refine ⟨r, q1, q2, ?_⟩
      refine AW.mono q4 (fun v μ2 h2 => ?_)
      obtain ⟨r1, g', r2⟩ := h2
      exact ⟨r, r1, r2.st, fun _ => nx g' μ2 r2, fun z => absurd rfl z⟩
    · have pr := pr_tried (E := E) (l := l) (d := d) (x1 := X (i + 1)) hI
      rw [s2]
      refine ⟨v1, AW.mono pr (fun v μ1 h1 => ?_)⟩
      obtain ⟨r, q1, q2, q3, q4⟩ := h1
      refine ⟨r, q1, q2, ?_⟩
      rw [q3.1, q3.2]
      refine ⟨v1, AW.mono q4 (fun v μ2 h2 => ?_)⟩
      obtain ⟨r1, g', r2⟩ := h2
      exact ⟨r, r1, r2.st, fun _ => nx g' μ2 r2, fun z => absurd rfl z⟩
    · have pr := pr_hits (E := E) (l := l) (d := d) (x1 := X (i + 1)) hI
      rw [s2]
      refine ⟨v1, AW.mono pr (fun v μ1 h1 => ?_)⟩
      obtain ⟨r, q1, q2, q3, q4⟩ := h1
      refine ⟨r, q1, q2, ?_⟩
      rw [q3.1, q3.2]
      refine ⟨v1, AW.mono q4 (fun v μ2 h2 => ?_)⟩
      obtain ⟨r1, g', r2⟩ := h2
      exact ⟨r, r1, r2.st, fun _ => nx g' μ2 r2, fun z => absurd rfl z⟩
    · have pr := pr_size (E := E) (l := l) (d := d) (x1 := X (i + 1)) (x2 := X (i + 2)) hI
      rw [s2, s2]
      refine ⟨v1, v2, AW.mono pr (fun v μ1 h1 => ?_)⟩
      obtain ⟨r, q1, q2, q3, q4⟩ := h1
      refine ⟨r, q1, q2, ?_⟩
      rw [q3.1, q3.2, q3.2]
      refine ⟨v1, v2, AW.mono q4 (fun v μ2 h2 => ?_)⟩
      obtain ⟨r1, g', r2⟩ := h2
      exact ⟨r, r1, r2.st, fun _ => nx g' μ2 r2, fun z => absurd rfl z⟩
    · have pr := pr_shift (E := E) (l := l) (d := d) (x1 := X (i + 1)) hI
      rw [s2]
      refine ⟨v1, AW.mono pr (fun v μ1 h1 => ?_)⟩
      obtain ⟨r, q1, q2, q3, q4⟩ := h1
      refine ⟨r, q1, q2, ?_⟩
      rw [q3.1, q3.2]
      refine ⟨v1, AW.mono q4 (fun v μ2 h2 => ?_)⟩
      obtain ⟨r1, g', r2⟩ := h2
      exact ⟨r, r1, r2.st, fun _ => nx g' μ2 r2, fun z => absurd rfl z⟩
    · have pr := pr_brought (E := E) (l := l) (d := d) (x1 := X (i + 1)) (x2 := X (i + 2)) hI
      rw [s2, s2]
      refine ⟨v1, v2, AW.mono pr (fun v μ1 h1 => ?_)⟩
      obtain ⟨r, q1, q2, q3, q4⟩ := h1
      refine ⟨r, q1, q2, ?_⟩
      rw [q3.1, q3.2, q3.2]
      refine ⟨v1, v2, AW.mono q4 (fun v μ2 h2 => ?_)⟩
      obtain ⟨r1, g', r2⟩ := h2
      exact ⟨r, r1, r2.st, fun _ => nx g' μ2 r2, fun z => absurd rfl z⟩
    · have pr := pr_damage (E := E) (l := l) (d := d) (x1 := X (i + 1)) hI
      rw [s2]
      refine ⟨v1, AW.mono pr (fun v μ1 h1 => ?_)⟩
      obtain ⟨r, q1, q2, q3, q4⟩ := h1
      refine ⟨r, q1, q2, ?_⟩
      rw [q3.1, q3.2]
      refine ⟨v1, AW.mono q4 (fun v μ2 h2 => ?_)⟩
      obtain ⟨r1, g', r2⟩ := h2
      exact ⟨r, r1, r2.st, fun _ => nx g' μ2 r2, fun z => absurd rfl z⟩
    · have pr := pr_carrier (E := E) (l := l) (d := d) (x1 := X (i + 1)) (x2 := X (i + 2)) hI
      rw [s2, s2]
      refine ⟨v1, v2, AW.mono pr (fun v μ1 h1 => ?_)⟩
      obtain ⟨r, q1, q2, q3, q4⟩ := h1
      refine ⟨r, q1, q2, ?_⟩
      rw [q3.1, q3.2, q3.2]
      refine ⟨v1, v2, AW.mono q4 (fun v μ2 h2 => ?_)⟩
      obtain ⟨r1, g', r2⟩ := h2
      exact ⟨r, r1, r2.st, fun _ => nx g' μ2 r2, fun z => absurd rfl z⟩
    · have pr := pr_count (E := E) (l := l) (d := d) (x1 := X (i + 1)) hI
      rw [s2]
      refine ⟨v1, AW.mono pr (fun v μ1 h1 => ?_)⟩
      obtain ⟨r, q1, q2, q3, q4⟩ := h1
      refine ⟨r, q1, q2, ?_⟩
      rw [q3.1, q3.2]
      refine ⟨v1, AW.mono q4 (fun v μ2 h2 => ?_)⟩
      obtain ⟨r1, g', r2⟩ := h2
      exact ⟨r, r1, r2.st, fun _ => nx g' μ2 r2, fun z => absurd rfl z⟩
    · exact (nx g μ (hI.up (Nat.le_succ t))).more (by omega) (by omega)
end Loop
