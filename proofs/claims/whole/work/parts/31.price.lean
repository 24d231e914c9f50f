/-! a Model object at a with n prices: its own cells -/
def MdlP (μ : ZM) (a n : Nat) : Prop := zK μ a = 4 ∧ zI μ a 6 = nI n ∧ n ≤ 20 ∧ zA μ a 4 = some (a + 1) ∧ zA μ a 5 = some (a + 2) ∧ zK μ (a + 1) = 13 ∧ zL μ (a + 1) = 20 ∧ zK μ (a + 2) = 13 ∧ zL μ (a + 2) = 20
def laP (PD : Nat → Int32) (o : Option Nat) : Int32 := match o with
  | none => -1
  | some b => PD b
def foP (PI : Nat → Int32) (o : Option Nat) : Int32 := match o with
  | none => 0
  | some b => PI b
section PriceFor
variable {E : ZE} {l : Launch} {d nc ns : Nat} {μ : ZM} {K : Option Value → ZM → Prop} {a n : Nat} {day : Int32}
theorem c_priceFor_loop (hS : Stat μ) (hm : MdlP μ a n) (h0 : ∀ j, j < n → 0 ≤ zI μ (a + 1) j) (k : K (some (.int (prF day (zI μ (a + 1)) (zI μ (a + 2)) n))) μ) :
    ∀ (r j : Nat), j + r = n → AW E l d nc ns mX4_priceFor 7 [some (.ref a), some (.int day), some (.int (laP (zI μ (a + 1)) (bP day (zI μ (a + 1)) j))), some (.int (foP (zI μ (a + 2)) (bP day (zI μ (a + 1)) j))), some (.int (nI j))] [] μ K := by
  obtain ⟨m1, m2, m3, m4, m5, m6, m7, m8, m9⟩ := hm
  intro r
  induction r with
  | zero =>
    intro j hj
    have hj : j = n := by omega
    subst hj
    refine t_X4_priceFor_7 hS ⟨m1, fun _ => ?_, fun q => ?_⟩
    · unfold prF at k
      unfold foP
      exact k
    · rw [m2] at q
      exact absurd (nI_le (Nat.le_refl _) (by omega)) q
  | succ r ih =>
    intro j hj
    have e1 : (nI j).toNatClampNeg = j := nI_clamp (by omega)
    have nx := ih (j + 1) (by omega)
    rw [show nI (j + 1) = nI j + 1 from (nI_1 _).symm] at nx
    have hin : vp_in (nI j) 20 := vp_in_nI (by omega) (by omega)
    refine t_X4_priceFor_7 hS ⟨m1, fun q => ?_, fun _ => ⟨fun q => (by rw [m4] at q; cases q), fun b hb => ?_⟩⟩
    · exfalso
      rw [m2, nI_leI (by omega) (by omega)] at q
      omega
    · rw [m4] at hb
      cases hb
      rw [m7, e1]
      simp only [bP] at nx
      refine ⟨m6, hin, fun q => ?_, fun q => ⟨hin, fun z => ?_, fun z => ⟨hin, fun q => (by rw [m5] at q; cases q), fun b hb => ?_⟩⟩⟩
      · have q' : ¬ zI μ (a + 1) j ≤ day := by rw [Int32.not_le]; exact q
        cases hb : bP day (zI μ (a + 1)) j with
        | none => rw [hb] at nx; simpa [q'] using nx
        | some b => rw [hb] at nx; simpa [q'] using nx
      · have q' : zI μ (a + 1) j ≤ day := Int32.not_lt.mp q
        cases hb : bP day (zI μ (a + 1)) j with
        | none =>
          rw [hb] at z
          have z : zI μ (a + 1) j < -1 := z
          have := h0 j (by omega)
          rw [i_lt] at z
          rw [i_le] at this
          have e3 : (-1 : Int32).toInt = -1 := by decide
          have e4 : (0 : Int32).toInt = 0 := by decide
          omega
        | some b =>
          rw [hb] at nx z
          have z' : ¬ zI μ (a + 1) b ≤ zI μ (a + 1) j := by rw [Int32.not_le]; exact z
          simpa [q', z'] using nx
      · rw [m5] at hb
        cases hb
        have q' : zI μ (a + 1) j ≤ day := Int32.not_lt.mp q
        refine ⟨m8, by rw [m9]; exact hin, ?_⟩
        cases hb : bP day (zI μ (a + 1)) j with
        | none => rw [hb] at nx; simpa [q', laP, foP] using nx
        | some b =>
          rw [hb] at nx z
          have z' : zI μ (a + 1) b ≤ zI μ (a + 1) j := Int32.not_lt.mp z
          simpa [q', z', laP, foP] using nx
theorem c_priceFor (hS : Stat μ) (hm : MdlP μ a n) (h0 : ∀ j, j < n → 0 ≤ zI μ (a + 1) j) (k : K (some (.int (prF day (zI μ (a + 1)) (zI μ (a + 2)) n))) μ) : AW E l d nc ns mX4_priceFor 0 (zargs 5 [.ref a, .int day]) [] μ K := by
  refine t_X4_priceFor hS ?_
  exact c_priceFor_loop hS hm h0 k n 0 (by omega)
end PriceFor
