/-! names and outs, told by the reference -/
section Nms
variable {E : ZE} {l : Launch} {d nc ns : Nat} {μ : ZM} {K : Option Value → ZM → Prop} {by_ : Nat → Int32} {L q s : Nat}
def soF (s : Nat) : Int32 := if s = 1 then 0 else 1
theorem r_nameL (hS : Stat μ) (hL2 : L ≤ 200) (hb : ∀ j, j < L → rng (by_ j) 0 255) (hB : BT by_ L μ) (hJ : ∀ j, j < 17 → zJ μ 10 j = zNm.getD j 0) (hs : s = 1 ∨ s = 4) (hq : q ≤ L) (hR : RT by_ L μ q) (k1 : kdF s by_ L q = 21 → K (some (.int (nI (bse s + (itF s by_ L q).2)))) μ) (k0 : ¬ kdF s by_ L q = 21 → K (some (.int (-1))) μ) : AW E l (d + 1) nc ns mX11_nameOf 25 [some (.ref 31), none, some (.int (nI (bse s))), some (.int (nI (mny s))), some (.int 0)] [] μ K := by
  obtain ⟨n1, n2, n3⟩ := ns_d hs
  have nh := nm_h hs
  have mb : bse s + mny s ≤ 17 := by rcases hs with rfl | rfl <;> decide
  suffices h : (∀ j, j < 0 → ¬ wq by_ L q ((wdS s).getD j [])) → AW E l (d + 1) nc ns mX11_nameOf 25 [some (.ref 31), none, some (.int (nI (bse s))), some (.int (nI (mny s))), some (.int (nI 0))] [] μ K from h (fun j hj => by omega)
  refine lpd (P := fun i => (∀ j, j < i → ¬ wq by_ L q ((wdS s).getD j [])) → AW E l (d + 1) nc ns mX11_nameOf 25 [some (.ref 31), none, some (.int (nI (bse s))), some (.int (nI (mny s))), some (.int (nI i))] [] μ K) (n := mny s) ?_ ?_
  · intro h
    refine t_X11_nameOf_25 hS (c_t (by rw [nI_leI (by omega) (by omega)]; omega) (k0 (fun z => ?_)))
    obtain ⟨k, k1, _, k2⟩ := (kd_n hs).mp z
    exact h k k1 k2
  · intro i hi ih h
    refine t_X11_nameOf_25 hS (c_f (by rw [nI_leI (by omega) (by omega)]; omega) ?_)
    rw [nI_add, nI_clamp (by omega), hJ _ (by omega), (nh i hi).1]
    refine ⟨vp_in_nI (by omega) (by decide), r_isWord hS hL2 hb hB hq hR (nh i hi).2 (fun z => ⟨_, rfl, hS, c_f (by decide) ?_⟩) (fun z => ⟨_, rfl, hS, c_t rfl ?_⟩)⟩
    · have e : itF s by_ L q = (1, i) ∧ kdF s by_ L q = 21 := by
        have nd : ¬ isDb (by_ q) = true := by
          have hl := z.2.1
          revert hl
          unfold isLb isDb
          intro hl z
          rw [Bool.and_eq_true, Bool.not_eq_true', Bool.not_eq_true', decide_eq_false_iff_not, decide_eq_false_iff_not, i_lt, i_lt] at hl z
          have h1 : ¬ (by_ q).toInt < 97 := hl.1
          have h2 : ¬ 57 < (by_ q).toInt := z.2
          omega
        have e1 : itF s by_ L q = (1, i) := by
          unfold itF
          rw [if_neg nd]
          cases h5 : pIx by_ q (tE by_ L q) 0 (wdS s) with
          | none => exact absurd z.2.2 (pIx_none h5 i (by omega))
          | some j =>
            obtain ⟨h2, h3, h4⟩ := pIx_some h5
            rw [Nat.sub_zero] at h3 h4
            rw [n2 j (by omega) i hi (wEq_inj h4 z.2.2)]
            rfl
        exact ⟨e1, (kd_n hs).mpr ⟨i, hi, e1, z⟩⟩
      have := k1 e.2
      rw [e.1] at this
      exact this
    · rw [nI_1]
      refine ih (fun j hj => ?_)
      by_cases c : j = i
      · rw [c]
        exact z
      · exact h j (by omega)
theorem r_nameOf (hS : Stat μ) (hL2 : L ≤ 200) (hb : ∀ j, j < L → rng (by_ j) 0 255) (hB : BT by_ L μ) (hJ : ∀ j, j < 17 → zJ μ 10 j = zNm.getD j 0) (hs : s = 1 ∨ s = 4) (hq : q ≤ L) (hR : RT by_ L μ q) (k1 : kdF s by_ L q = 21 → K (some (.int (nI (bse s + (itF s by_ L q).2)))) μ) (k0 : ¬ kdF s by_ L q = 21 → K (some (.int (-1))) μ) : AW E l (d + 1) nc ns mX11_nameOf 0 (zargs 5 [.ref 31, .int (soF s)]) [] μ K := by
  have := r_nameL (E := E) (l := l) (d := d) (nc := nc) (ns := ns) hS hL2 hb hB hJ hs hq hR k1 k0
  refine t_X11_nameOf hS ?_
  rcases hs with rfl | rfl
  · exact op1 (fun _ => op1 (fun _ => this) (fun z => absurd rfl z)) (fun z => absurd rfl z)
  · exact op1 (fun z => absurd z (by decide)) (fun z => op1 (fun z => absurd z (by decide)) (fun _ => this))
theorem w_h : ((393 : Int64) = lN (hwL (wsW.getD 0 [])) ∧ (259906 : Int64) = lN (hwL (wsW.getD 1 [])) ∧ (390787 : Int64) = lN (hwL (wsW.getD 2 [])) ∧ (287042 : Int64) = lN (hwL (wsW.getD 3 [])) ∧ (261071320 : Int64) = lN (hwL (wsW.getD 4 []))) ∧ ((423 : Int64) = lN (hwL (wsW.getD 5 [])) ∧ (1111 : Int64) = lN (hwL (wsW.getD 6 [])) ∧ (10631 : Int64) = lN (hwL (wsW.getD 7 []))) ∧ ∀ i, i < 8 → okW (wsW.getD i []) = true := by decide +kernel
/-- a word of the list, by its number -/
theorem r_word (hS : Stat μ) (hL2 : L ≤ 200) (hb : ∀ j, j < L → rng (by_ j) 0 255) (hB : BT by_ L μ) (hq : q ≤ L) (hR : RT by_ L μ q) {k : Nat} {x : Int64} (hk : k < 8) (hx : x = lN (hwL (wsW.getD k []))) (k1 : kdF s by_ L q = nI k → K (some (.int 1)) μ) (k0 : ¬ kdF s by_ L q = nI k → K (some (.int 0)) μ) : AW E l d nc ns mX11_isWord 0 (zargs 6 [.ref 31, .long x]) [] μ K := by
  rw [hx]
  exact r_isWord hS hL2 hb hB hq hR (w_h.2.2 k hk) (fun z => k1 ((kd_w hk).mpr z)) (fun z => k0 (fun y => z ((kd_w hk).mp y)))
theorem r_outOf (hS : Stat μ) (hL2 : L ≤ 200) (hb : ∀ j, j < L → rng (by_ j) 0 255) (hB : BT by_ L μ) (hq : q ≤ L) (hR : RT by_ L μ q) (k1 : ∀ o, o < 5 → kdF s by_ L q = nI o → K (some (.int (nI o))) μ) (k0 : (∀ o, o < 5 → ¬ kdF s by_ L q = nI o) → K (some (.int (-1))) μ) : AW E l (d + 1) nc ns mX11_outOf 0 (zargs 1 [.ref 31]) [] μ K := by
  obtain ⟨w0, w1, w2, w3, w4⟩ := w_h.1
  refine t_X11_outOf hS ?_
  refine r_word (s := s) hS hL2 hb hB hq hR (by decide) w0 (fun z => ⟨_, rfl, hS, c_f (by decide) (k1 0 (by decide) z)⟩) (fun z0 => ⟨_, rfl, hS, c_t rfl ?_⟩)
  refine r_word (s := s) hS hL2 hb hB hq hR (by decide) w1 (fun z => ⟨_, rfl, hS, c_f (by decide) (k1 1 (by decide) z)⟩) (fun z1 => ⟨_, rfl, hS, c_t rfl ?_⟩)
  refine r_word (s := s) hS hL2 hb hB hq hR (by decide) w2 (fun z => ⟨_, rfl, hS, c_f (by decide) (k1 2 (by decide) z)⟩) (fun z2 => ⟨_, rfl, hS, c_t rfl ?_⟩)
  refine r_word (s := s) hS hL2 hb hB hq hR (by decide) w3 (fun z => ⟨_, rfl, hS, c_f (by decide) (k1 3 (by decide) z)⟩) (fun z3 => ⟨_, rfl, hS, c_t rfl ?_⟩)
  refine r_word (s := s) hS hL2 hb hB hq hR (by decide) w4 (fun z => ⟨_, rfl, hS, c_f (by decide) (k1 4 (by decide) z)⟩) (fun z4 => ⟨_, rfl, hS, c_t rfl ?_⟩)
  refine k0 (fun o ho => ?_)
  have : o = 0 ∨ o = 1 ∨ o = 2 ∨ o = 3 ∨ o = 4 := by omega
  rcases this with rfl | rfl | rfl | rfl | rfl
  · exact z0
  · exact z1
  · exact z2
  · exact z3
  · exact z4
end Nms
