/-! kinds of a token on both sides -/
theorem wEq_inj {by_ : Nat → Int32} {f t : Nat} {w v : List Int32} (h : wEq by_ f t w) (g : wEq by_ f t v) : w = v := by
  obtain ⟨h1, h2⟩ := h
  obtain ⟨g1, g2⟩ := g
  refine List.ext_getElem (by omega) (fun i a1 a2 => ?_)
  have e1 := h2 i a1
  have e2 := g2 i a2
  rw [e1, List.getD_eq_getElem?_getD, List.getD_eq_getElem?_getD, List.getElem?_eq_getElem a1, List.getElem?_eq_getElem a2] at e2
  exact e2
theorem pIx_some {by_ : Nat → Int32} {f t : Nat} : ∀ {ws : List (List Int32)} {k j : Nat}, pIx by_ f t k ws = some j → k ≤ j ∧ j - k < ws.length ∧ wEq by_ f t (ws.getD (j - k) [])
  | [], k, j, h => by cases h
  | w :: r, k, j, h => by
    unfold pIx at h
    split at h
    · next c =>
      cases h
      rw [Nat.sub_self]
      exact ⟨Nat.le_refl _, by simp, c⟩
    · obtain ⟨h1, h2, h3⟩ := pIx_some h
      refine ⟨by omega, by simp only [List.length_cons]; omega, ?_⟩
      rw [show j - k = (j - (k + 1)) + 1 by omega]
      exact h3
theorem pIx_none {by_ : Nat → Int32} {f t : Nat} : ∀ {ws : List (List Int32)} {k : Nat}, pIx by_ f t k ws = none → ∀ j, j < ws.length → ¬ wEq by_ f t (ws.getD j [])
  | [], k, h, j, hj => absurd hj (Nat.not_lt_zero _)
  | w :: r, k, h, j, hj => by
    unfold pIx at h
    split at h
    · cases h
    · next c =>
      cases j with
      | zero => exact c
      | succ j => exact pIx_none h j (by simpa using hj)
theorem ws_d : ∀ i, i < 8 → ∀ j, j < 8 → wsW.getD i [] = wsW.getD j [] → i = j := by decide +kernel
theorem ns_d1 : (∀ i, i < 12 → ∀ j, j < 12 → wsN.getD i [] = wsN.getD j [] → i = j) ∧ ∀ i, i < 12 → ∀ j, j < 8 → ¬ wsN.getD i [] = wsW.getD j [] := by decide +kernel
theorem ns_d4 : (∀ i, i < 5 → ∀ j, j < 5 → wsL.getD i [] = wsL.getD j [] → i = j) ∧ ∀ i, i < 5 → ∀ j, j < 8 → ¬ wsL.getD i [] = wsW.getD j [] := by decide +kernel
def mny (s : Nat) : Nat := if s = 1 then 12 else 5
def bse (s : Nat) : Nat := if s = 1 then 0 else 12
theorem ns_d {s : Nat} (hs : s = 1 ∨ s = 4) : (wdS s).length = mny s ∧ (∀ i, i < mny s → ∀ j, j < mny s → (wdS s).getD i [] = (wdS s).getD j [] → i = j) ∧ ∀ i, i < mny s → ∀ j, j < 8 → ¬ (wdS s).getD i [] = wsW.getD j [] := by
  rcases hs with rfl | rfl
  · exact ⟨by decide, ns_d1.1, ns_d1.2⟩
  · exact ⟨by decide, ns_d4.1, ns_d4.2⟩
theorem nm_h1 : (∀ i, i < 12 → zNm.getD (0 + i) 0 = lN (hwL (wsN.getD i [])) ∧ okW (wsN.getD i []) = true) ∧ (∀ i, i < 5 → zNm.getD (12 + i) 0 = lN (hwL (wsL.getD i [])) ∧ okW (wsL.getD i []) = true) := by decide +kernel
theorem nm_h {s : Nat} (hs : s = 1 ∨ s = 4) : ∀ i, i < mny s → zNm.getD (bse s + i) 0 = lN (hwL ((wdS s).getD i [])) ∧ okW ((wdS s).getD i []) = true := by
  rcases hs with rfl | rfl
  · exact nm_h1.1
  · exact nm_h1.2
theorem nI_8 : ∀ k, k < 8 → nI k ≠ 20 ∧ nI k ≠ 21 ∧ nI k ≠ 22 ∧ nI k ≠ 23 ∧ ∀ c ∈ zB3, nI k ≠ c := by decide +kernel
section Kds
variable {by_ : Nat → Int32} {L q s : Nat}
theorem kd_lt (hq : q < L) (hl : isLb (by_ q) = true) : kdF s by_ L q = (match pIx by_ q (tE by_ L q) 0 wsW with
  | some k => nI k
  | none => match pIx by_ q (tE by_ L q) 0 (wdS s) with
    | some _ => 21
    | none => 22) := by
  unfold kdF
  rw [if_neg (by omega), if_pos hl]
  rfl
theorem kd_nl (h : ¬ (q < L ∧ isLb (by_ q) = true)) : (∀ k, k < 8 → kdF s by_ L q ≠ nI k) ∧ kdF s by_ L q ≠ 21 := by
  have n8 := nI_8
  unfold kdF
  split
  · exact ⟨fun k hk => fun z => (n8 k hk).2.2.2.1 z.symm, by decide⟩
  · split
    · next c1 c2 => exact absurd ⟨by omega, c2⟩ h
    · split
      · split
        · exact ⟨fun k hk => fun z => (n8 k hk).1 z.symm, by decide⟩
        · exact ⟨fun k hk => fun z => (n8 k hk).2.2.1 z.symm, by decide⟩
      · split
        · next c => exact ⟨fun k hk => fun z => (n8 k hk).2.2.2.2 _ c z.symm, fun z => absurd c (by rw [z]; decide)⟩
        · exact ⟨fun k hk => fun z => (n8 k hk).2.2.1 z.symm, by decide⟩
/-- a word is told alike -/
theorem kd_w {k : Nat} (hk : k < 8) : kdF s by_ L q = nI k ↔ wq by_ L q (wsW.getD k []) := by
  by_cases c : q < L ∧ isLb (by_ q) = true
  · obtain ⟨hq, hl⟩ := c
    rw [kd_lt hq hl]
    have l8 : wsW.length = 8 := by decide
    cases h1 : pIx by_ q (tE by_ L q) 0 wsW with
    | none =>
      have h2 := pIx_none h1
      constructor
      · intro e
        exfalso
        revert e
        show (match pIx by_ q (tE by_ L q) 0 (wdS s) with
          | some _ => (21 : Int32)
          | none => 22) = nI k → False
        split
        · exact fun e => (nI_8 k hk).2.1 e.symm
        · exact fun e => (nI_8 k hk).2.2.1 e.symm
      · exact fun w => absurd w.2.2 (h2 k (by omega))
    | some j =>
      obtain ⟨h2, h3, h4⟩ := pIx_some h1
      rw [Nat.sub_zero] at h3 h4
      show nI j = nI k ↔ _
      rw [nI_eq (by omega) (by omega)]
      constructor
      · intro e
        rw [← e]
        exact ⟨hq, hl, h4⟩
      · exact fun w => ws_d j (by omega) k hk (wEq_inj h4 w.2.2)
  · exact ⟨fun e => absurd e ((kd_nl c).1 k hk), fun w => absurd ⟨w.1, w.2.1⟩ c⟩
/-- what a token gives as an item -/
def itF (s : Nat) (by_ : Nat → Int32) (L q : Nat) : Itm := if isDb (by_ q) = true then (0, nvN by_ q (tE by_ L q - q)) else (1, (pIx by_ q (tE by_ L q) 0 (wdS s)).getD 0)
theorem kd_n (hs : s = 1 ∨ s = 4) : kdF s by_ L q = 21 ↔ ∃ k, k < mny s ∧ (itF s by_ L q) = (1, k) ∧ wq by_ L q ((wdS s).getD k []) := by
  obtain ⟨n1, n2, n3⟩ := ns_d hs
  by_cases c : q < L ∧ isLb (by_ q) = true
  · obtain ⟨hq, hl⟩ := c
    rw [kd_lt hq hl]
    have l8 : wsW.length = 8 := by decide
    have nd : ¬ isDb (by_ q) = true := by
      revert hl
      unfold isLb isDb
      intro hl z
      rw [Bool.and_eq_true, Bool.not_eq_true', Bool.not_eq_true', decide_eq_false_iff_not, decide_eq_false_iff_not, i_lt, i_lt] at hl z
      have h1 : ¬ (by_ q).toInt < 97 := hl.1
      have h2 : ¬ 57 < (by_ q).toInt := z.2
      omega
    unfold itF
    rw [if_neg nd]
    cases h1 : pIx by_ q (tE by_ L q) 0 wsW with
    | some j =>
      obtain ⟨h2, h3, h4⟩ := pIx_some h1
      rw [Nat.sub_zero] at h3 h4
      refine ⟨fun e => absurd e (nI_8 j (by omega)).2.1, fun ⟨k, k1, _, k2⟩ => absurd (wEq_inj k2.2.2 h4) (n3 k k1 j (by omega))⟩
    | none =>
      cases h5 : pIx by_ q (tE by_ L q) 0 (wdS s) with
      | none => exact ⟨fun e => absurd e (show ¬ (22 : Int32) = 21 by decide), fun ⟨k, k1, _, k2⟩ => absurd k2.2.2 (pIx_none h5 k (by omega))⟩
      | some j =>
        obtain ⟨h2, h3, h4⟩ := pIx_some h5
        rw [Nat.sub_zero] at h3 h4
        exact ⟨fun _ => ⟨j, by omega, rfl, hq, hl, h4⟩, fun _ => rfl⟩
  · exact ⟨fun e => absurd e (kd_nl c).2, fun ⟨k, k1, _, k2⟩ => absurd ⟨k2.1, k2.2.1⟩ c⟩
theorem sg_t : ∀ n, n < 256 → ∀ c ∈ zB3, ((if rbF (nI n) ≤ 32 then -1 else rbF (nI n)) = c) = ((if nI n ∈ zB3 then nI n else 22) = c) := by
  have : ∀ n, n < 256 → ∀ c ∈ zB3, decide ((if rbF (nI n) ≤ 32 then -1 else rbF (nI n)) = c) = decide ((if nI n ∈ zB3 then nI n else 22) = c) := by decide +kernel
  intro n hn c hc
  have := this n hn c hc
  simpa using this
theorem sg_x : ∀ c ∈ zB3, (0 : Int32) ≠ c ∧ (23 : Int32) ≠ c ∧ (1 : Int32) ≠ c ∧ (2 : Int32) ≠ c ∧ (-1 : Int32) ≠ c ∧ (20 : Int32) ≠ c ∧ (21 : Int32) ≠ c ∧ (22 : Int32) ≠ c := by decide +kernel
/-- a sign is told alike -/
theorem kd_s (hb : ∀ j, j < L → rng (by_ j) 0 255) {c : Int32} (hc : c ∈ zB3) : tkF by_ L q = c ↔ kdF s by_ L q = c := by
  obtain ⟨x0, x1, x2, x3, x4, x5, x6, x7⟩ := sg_x c hc
  unfold tkF kdF
  split
  · exact ⟨fun z => absurd z x0, fun z => absurd z x1⟩
  · next c1 =>
    split
    · refine ⟨fun z => absurd z x2, fun z => ?_⟩
      exfalso
      revert z
      have l8 : wsW.length = 8 := by decide
      cases h1 : pIx by_ q (tE by_ L q) 0 wsW with
      | some j =>
        have := (pIx_some h1).2.1
        exact fun z => (nI_8 j (by omega)).2.2.2.2 c hc z
      | none =>
        show (match pIx by_ q (tE by_ L q) 0 (wdS s) with
          | some _ => (21 : Int32)
          | none => 22) = c → False
        split
        · exact x6
        · exact x7
    · split
      · split
        · exact ⟨fun z => absurd z x3, fun z => absurd z x5⟩
        · exact ⟨fun z => absurd z x4, fun z => absurd z x7⟩
      · obtain ⟨b, b1, b2⟩ := rng_n (hb q (by omega))
        rw [b2, sg_t b b1 c hc]
theorem rb_m : ∀ n, n < 256 → (if rbF (nI n) ≤ 32 then -1 else rbF (nI n)) ≠ 2 ∧ (if rbF (nI n) ≤ 32 then -1 else rbF (nI n)) ≠ 0 ∧ (if nI n ∈ zB3 then nI n else 22) ≠ 20 ∧ (if nI n ∈ zB3 then nI n else 22) ≠ 23 := by decide +kernel
/-- a number, the end -/
theorem kd_2 (hb : ∀ j, j < L → rng (by_ j) 0 255) : (tkF by_ L q = 2 ↔ kdF s by_ L q = 20) ∧ (tkF by_ L q = 0 ↔ kdF s by_ L q = 23) ∧ (kdF s by_ L q = 23 ↔ L ≤ q) ∧ (kdF s by_ L q = 20 → q < L ∧ isLb (by_ q) = false ∧ isDb (by_ q) = true ∧ tE by_ L q - q ≤ 5) := by
  unfold tkF kdF
  split
  · next c => exact ⟨⟨fun z => absurd z (by decide), fun z => absurd z (by decide)⟩, ⟨fun _ => rfl, fun _ => rfl⟩, ⟨fun _ => c, fun _ => rfl⟩, fun z => absurd z (by decide)⟩
  · next c1 =>
    split
    · have l8 : wsW.length = 8 := by decide
      have key : ∀ x : Int32, x = (match pIx by_ q (tE by_ L q) 0 wsW with
          | some k => nI k
          | none => match pIx by_ q (tE by_ L q) 0 (wdS s) with
            | some _ => 21
            | none => 22) → x ≠ 20 ∧ x ≠ 23 := by
        intro x hx
        rw [hx]
        cases h1 : pIx by_ q (tE by_ L q) 0 wsW with
        | some j =>
          have := (pIx_some h1).2.1
          exact ⟨(nI_8 j (by omega)).1, (nI_8 j (by omega)).2.2.2.1⟩
        | none =>
          show (match pIx by_ q (tE by_ L q) 0 (wdS s) with
            | some _ => (21 : Int32)
            | none => 22) ≠ 20 ∧ (match pIx by_ q (tE by_ L q) 0 (wdS s) with
            | some _ => (21 : Int32)
            | none => 22) ≠ 23
          split <;> decide
      have k2 := key _ rfl
      exact ⟨⟨fun z => absurd z (by decide), fun z => absurd z k2.1⟩, ⟨fun z => absurd z (by decide), fun z => absurd z k2.2⟩, ⟨fun z => absurd z k2.2, fun z => absurd z c1⟩, fun z => absurd z k2.1⟩
    · next c2 =>
      split
      · next c3 =>
        split
        · next c4 => exact ⟨⟨fun _ => rfl, fun _ => rfl⟩, ⟨fun z => absurd z (by decide), fun z => absurd z (by decide)⟩, ⟨fun z => absurd z (by decide), fun z => absurd z c1⟩, fun _ => ⟨by omega, Bool.eq_false_iff.mpr c2, c3, c4⟩⟩
        · exact ⟨⟨fun z => absurd z (by decide), fun z => absurd z (by decide)⟩, ⟨fun z => absurd z (by decide), fun z => absurd z (by decide)⟩, ⟨fun z => absurd z (by decide), fun z => absurd z c1⟩, fun z => absurd z (by decide)⟩
      · obtain ⟨b, b1, b2⟩ := rng_n (hb q (by omega))
        obtain ⟨m1, m2, m3, m4⟩ := rb_m b b1
        rw [b2]
        exact ⟨⟨fun z => absurd z m1, fun z => absurd z m3⟩, ⟨fun z => absurd z m2, fun z => absurd z m4⟩, ⟨fun z => absurd z m4, fun z => absurd z c1⟩, fun z => absurd z m3⟩
theorem nvN_lt (hb : ∀ j, j < L → rng (by_ j) 0 255) : ∀ n, q + n ≤ L → (∀ i, i < n → isDb (by_ (q + i)) = true) → nvN by_ q n < 10 ^ n ∧ nvF by_ q n = nI (nvN by_ q n)
  | 0, _, _ => ⟨(show 0 < 1 by decide), rfl⟩
  | n + 1, h, hd => by
    obtain ⟨i1, i2⟩ := nvN_lt hb n (by omega) (fun i hi => hd i (by omega))
    obtain ⟨b, b1, b2⟩ := rng_n (hb (q + n) (by omega))
    have d := hd n (by omega)
    rw [b2] at d
    have bd := rb_d b b1 d
    have e : nvN by_ q (n + 1) = 10 * nvN by_ q n + (b - 48) := by
      show 10 * nvN by_ q n + (tN (by_ (q + n)) - 48) = _
      rw [b2, show tN (nI b) = b from nI_clamp (by omega)]
    refine ⟨by rw [e, Nat.pow_succ]; omega, ?_⟩
    rw [e]
    show nvF by_ q n * 10 + by_ (q + n) - 48 = _
    rw [i2, b2, show (10 : Int32) = nI 10 from rfl, pk_mul, nI_add, show (48 : Int32) = nI 48 from rfl, nI_sb (by omega)]
    congr 1
    omega
/-- the item of a number or a name -/
theorem it_ok (hb : ∀ j, j < L → rng (by_ j) 0 255) (hs : s = 1 ∨ s = 4) (h : kdF s by_ L q = 20 ∨ kdF s by_ L q = 21) : okI (mny s) (itF s by_ L q) ∧ (itF s by_ L q).1 ≤ 1 ∧ enC (itF s by_ L q) = ceF s by_ L q := by
  rcases h with h | h
  · obtain ⟨hq, c1, c2, c3⟩ := (kd_2 (s := s) hb).2.2.2 h
    have g := tE_gt (by_ := by_) hq
    have te : tE by_ L q = rE isDb by_ L (L - q) q := by unfold tE; rw [if_neg (by rw [c1]; decide), if_pos c2]; rfl
    obtain ⟨n1, n2⟩ := nvN_lt hb (q := q) (tE by_ L q - q) (by omega) (fun i hi => by
      rw [te] at hi
      exact rE_in (L := L) (L - q) q (q + i) (by omega) (by omega))
    have n3 : nvN by_ q (tE by_ L q - q) ≤ 99999 := by
      have := Nat.pow_le_pow_right (show 0 < 10 by decide) c3
      omega
    unfold itF ceF
    rw [if_pos c2, if_neg (by omega), if_neg (by rw [c1]; decide), if_pos c2, n2]
    exact ⟨Or.inl ⟨rfl, n3⟩, Nat.zero_le _, rfl⟩
  · obtain ⟨k, k1, k2, k3⟩ := (kd_n hs).mp h
    have e : ceF s by_ L q = 100000 + oI (pIx by_ q (tE by_ L q) 0 (wdS s)) := by
      have := h
      rw [kd_lt k3.1 k3.2.1] at this
      unfold ceF
      rw [if_neg (by have := k3.1; omega), if_pos k3.2.1]
      have l8 : wsW.length = 8 := by decide
      cases h1 : pIx by_ q (tE by_ L q) 0 wsW with
      | none => rfl
      | some j =>
        rw [h1] at this
        have := (pIx_some h1).2.1
        exact absurd (show nI j = 21 by assumption) (nI_8 j (by omega)).2.1
    rw [e, k2]
    refine ⟨Or.inr (Or.inl ⟨rfl, k1⟩), Nat.le_refl _, ?_⟩
    have k4 : itF s by_ L q = (1, (pIx by_ q (tE by_ L q) 0 (wdS s)).getD 0) := by
      unfold itF
      rw [if_neg]
      intro z
      unfold itF at k2
      rw [if_pos z] at k2
      cases k2
    rw [k4] at k2
    cases h5 : pIx by_ q (tE by_ L q) 0 (wdS s) with
    | none =>
      obtain ⟨n1, n2, n3⟩ := ns_d hs
      exact absurd k3.2.2 (pIx_none h5 k (by omega))
    | some j =>
      rw [h5] at k2
      cases k2
      show nI (100000 + j) = 100000 + nI j
      rw [show (100000 : Int32) = nI 100000 from rfl, nI_add]
end Kds
