/-! what a run of writes leaves as it was -/
def EqX (μ μ' : ZM) (Wi Wa : Nat → Nat → Prop) : Prop := zN μ ≤ zN μ' ∧ (∀ b, b < zN μ → zK μ' b = zK μ b ∧ zL μ' b = zL μ b) ∧ (∀ b j, b < zN μ → ¬ Wi b j → zI μ' b j = zI μ b j) ∧ (∀ b j, b < zN μ → ¬ Wa b j → zA μ' b j = zA μ b j) ∧ (∀ b j, b < zN μ → b ≠ 86 → zJ μ' b j = zJ μ b j)
section EqX
variable {μ μ' μ2 : ZM} {Wi Wa : Nat → Nat → Prop} {a k c n : Nat}
theorem EqX.rfl : EqX μ μ Wi Wa := ⟨Nat.le_refl _, fun _ _ => ⟨_root_.rfl, _root_.rfl⟩, fun _ _ _ _ => _root_.rfl, fun _ _ _ _ => _root_.rfl, fun _ _ _ _ => _root_.rfl⟩
theorem EqX.wi {x : Int32} (h : EqX μ μ' Wi Wa) (hw : Wi a k ∨ zN μ ≤ a) : EqX μ (sI μ' a k x) Wi Wa := by
  refine ⟨h.1, h.2.1, fun b j hb hn => ?_, h.2.2.2⟩
  rw [zI_sI, if_neg, h.2.2.1 b j hb hn]
  rintro ⟨rfl, rfl⟩
  rcases hw with hw | hw
  · exact hn hw
  · omega
theorem EqX.wa {o : Option Nat} (h : EqX μ μ' Wi Wa) (hw : Wa a k ∨ zN μ ≤ a) : EqX μ (sA μ' a k o) Wi Wa := by
  refine ⟨h.1, h.2.1, h.2.2.1, fun b j hb hn => ?_, h.2.2.2.2⟩
  rw [zA_sA, if_neg, h.2.2.2.1 b j hb hn]
  rintro ⟨rfl, rfl⟩
  rcases hw with hw | hw
  · exact hn hw
  · omega
theorem EqX.wj {x : Int64} (h : EqX μ μ' Wi Wa) : EqX μ (sJ μ' 86 k x) Wi Wa := by
  refine ⟨h.1, h.2.1, h.2.2.1, h.2.2.2.1, fun b j hb hn => ?_⟩
  rw [zJ_sJ, if_neg (fun z => hn z.1), h.2.2.2.2 b j hb hn]
theorem EqX.wn (h : EqX μ μ' Wi Wa) : EqX μ (sNew μ' c n) Wi Wa := by
  have hN := h.1
  refine ⟨by rw [zN_sNew]; omega, fun b hb => ?_, fun b j hb hn => ?_, fun b j hb hn => ?_, fun b j hb hn => ?_⟩
  · rw [zK_sNew, zL_sNew, if_neg (by omega), if_neg (by omega)]
    exact h.2.1 b hb
  · rw [zI_sNew, if_neg (by omega)]
    exact h.2.2.1 b j hb hn
  · rw [zA_sNew, if_neg (by omega)]
    exact h.2.2.2.1 b j hb hn
  · rw [zJ_sNew, if_neg (by omega)]
    exact h.2.2.2.2 b j hb hn
theorem zI_sCpy {s sp d dp m b j : Nat} : zI (sCpy μ s sp d dp m) b j = if b = d ∧ dp ≤ j ∧ j < dp + m then zI μ s (sp + (j - dp)) else zI μ b j := _root_.rfl
theorem EqX.wc {s sp d dp m : Nat} (h : EqX μ μ' Wi Wa) (hw : zN μ ≤ d) : EqX μ (sCpy μ' s sp d dp m) Wi Wa := by
  refine ⟨h.1, h.2.1, fun b j hb hn => ?_, h.2.2.2⟩
  rw [zI_sCpy, if_neg (by omega), h.2.2.1 b j hb hn]
theorem EqX.mono {Wi' Wa' : Nat → Nat → Prop} (h : EqX μ μ' Wi Wa) (h1 : ∀ b j, Wi b j → Wi' b j) (h2 : ∀ b j, Wa b j → Wa' b j) : EqX μ μ' Wi' Wa' := ⟨h.1, h.2.1, fun b j hb hn => h.2.2.1 b j hb (fun z => hn (h1 b j z)), fun b j hb hn => h.2.2.2.1 b j hb (fun z => hn (h2 b j z)), h.2.2.2.2⟩
theorem EqX.trans (h : EqX μ μ' Wi Wa) (h' : EqX μ' μ2 Wi Wa) : EqX μ μ2 Wi Wa := by
  have hN := h.1
  have hN' := h'.1
  refine ⟨by omega, fun b hb => ?_, fun b j hb hn => ?_, fun b j hb hn => ?_, fun b j hb hn => ?_⟩
  · have e1 := h'.2.1 b (by omega)
    have e2 := h.2.1 b hb
    exact ⟨e1.1.trans e2.1, e1.2.trans e2.2⟩
  · rw [h'.2.2.1 b j (by omega) hn, h.2.2.1 b j hb hn]
  · rw [h'.2.2.2.1 b j (by omega) hn, h.2.2.2.1 b j hb hn]
  · rw [h'.2.2.2.2 b j (by omega) hn, h.2.2.2.2 b j hb hn]
end EqX
/-! the cells that a call may write: rows of its own, new rows, what is no row -/
def WIo (μ : ZM) (ρ : RV) (Ps Pa Pl Pm : Nat → Prop) (b j : Nat) : Prop := (11 ≤ b ∧ b ≤ 31) ∨ (∃ i, Ps i ∧ i < nS ρ ∧ b = saF μ i) ∨ (∃ i, Pa i ∧ i < nA ρ ∧ b = aaF μ i) ∨ (j = 2 ∧ ∃ i, Pl i ∧ i < nL ρ ∧ b = laF μ i) ∨ (∃ i, Pm i ∧ i < nM ρ ∧ (b = maF μ i ∨ b = maF μ i + 1 ∨ b = maF μ i + 2))
def WIr (ρ : RV) (Ps Pa Pl Pm : Nat → Prop) (b j : Nat) : Prop := 32 ≤ b ∧ b ≤ 87 ∧ ((b ≤ 41 ∧ b ≠ 36 ∧ b ≠ 37 ∧ (Pm j ∨ nM ρ ≤ j)) ∨ (36 ≤ b ∧ b ≤ 37 ∧ (Pm (j / 20) ∨ nM ρ ≤ j / 20)) ∨ (42 ≤ b ∧ b ≤ 44) ∨ (45 ≤ b ∧ b ≤ 47 ∧ nL ρ ≤ j) ∨ (b = 47 ∧ Pl j) ∨ (48 ≤ b ∧ b ≤ 64 ∧ nS ρ ≤ j) ∨ (48 ≤ b ∧ b ≤ 64 ∧ b ≠ 49 ∧ Ps j)
  ∨ b = 65 ∨ (66 ≤ b ∧ b ≤ 69 ∧ nT ρ ≤ j) ∨ (70 ≤ b ∧ b ≤ 71 ∧ 200 * nT ρ ≤ j) ∨ (72 ≤ b ∧ b ≤ 73) ∨ (74 ≤ b ∧ b ≤ 84 ∧ nA ρ ≤ j) ∨ (75 ≤ b ∧ b ≤ 84 ∧ b ≠ 79 ∧ Pa j) ∨ b = 85 ∨ b = 87)
def WI (μ : ZM) (ρ : RV) (Ps Pa Pl Pm : Nat → Prop) (b j : Nat) : Prop := WIo μ ρ Ps Pa Pl Pm b j ∨ WIr ρ Ps Pa Pl Pm b j
def WA (μ : ZM) (ρ : RV) (Ps Pm : Nat → Prop) (b j : Nat) : Prop := (b = 11 ∧ j = 11) ∨ (b = 12 ∧ nM ρ ≤ j) ∨ (b = 13 ∧ nL ρ ≤ j) ∨ (b = 14 ∧ nS ρ ≤ j) ∨ (b = 15 ∧ nA ρ ≤ j) ∨ (b = 16 ∧ nT ρ ≤ j) ∨ (∃ i, Ps i ∧ i < nS ρ ∧ b = saF μ i) ∨ (∃ i, Pm i ∧ i < nM ρ ∧ b = maF μ i)
theorem kne {μ : ZM} {a b c c' : Nat} (h1 : zK μ a = c) (h2 : zK μ b = c') (h : c ≠ c') : a ≠ b := by
  rintro rfl
  exact h (h1.symm.trans h2)
section Inj
variable {g : Gh} {t : Nat} {μ : ZM} {ρ : RV} {i j : Nat}
theorem sa_inj (hr : RIg g t ρ) (hc : CRg g μ ρ) (hi : i < nS ρ) (hj : j < nS ρ) (e : saF μ i = saF μ j) : i = j := by
  obtain ⟨-, -, -, -, x, -⟩ := hc.sa hi
  obtain ⟨-, -, -, -, y, -⟩ := hc.sa hj
  have b := hr.s.2.2.1.2
  rw [e, y] at x
  exact ((nI_eq (by omega) (by omega)).mp x).symm
theorem la_inj (hr : RIg g t ρ) (hc : CRg g μ ρ) (hi : i < nL ρ) (hj : j < nL ρ) (e : laF μ i = laF μ j) : i = j := by
  obtain ⟨-, -, -, -, x, -⟩ := hc.l hi
  obtain ⟨-, -, -, -, y, -⟩ := hc.l hj
  have b := hr.s.2.1.2
  rw [e, y] at x
  exact ((nI_eq (by omega) (by omega)).mp x).symm
theorem ma_inj (hr : RIg g t ρ) (hc : CRg g μ ρ) (hi : i < nM ρ) (hj : j < nM ρ) (e : maF μ i = maF μ j) : i = j := by
  obtain ⟨-, -, -, -, x, -⟩ := hc.m hi
  obtain ⟨-, -, -, -, y, -⟩ := hc.m hj
  have b := hr.s.1.2
  rw [e, y] at x
  exact ((nI_eq (by omega) (by omega)).mp x).symm
theorem sa_eq (hr : RIg g t ρ) (hc : CRg g μ ρ) (hi : i < nS ρ) (hj : j < nS ρ) : saF μ i = saF μ j ↔ i = j := ⟨sa_inj hr hc hi hj, fun e => by rw [e]⟩
theorem la_eq (hr : RIg g t ρ) (hc : CRg g μ ρ) (hi : i < nL ρ) (hj : j < nL ρ) : laF μ i = laF μ j ↔ i = j := ⟨la_inj hr hc hi hj, fun e => by rw [e]⟩
theorem ma_eq (hr : RIg g t ρ) (hc : CRg g μ ρ) (hi : i < nM ρ) (hj : j < nM ρ) : maF μ i = maF μ j ↔ i = j := ⟨ma_inj hr hc hi hj, fun e => by rw [e]⟩
end Inj
section Kinds
variable {g : Gh} {t : Nat} {μ : ZM} {ρ : RV} {i j : Nat}
theorem k_sa (hc : CRg g μ ρ) (hi : i < nS ρ) : zK μ (saF μ i) = 7 ∧ 88 ≤ saF μ i ∧ saF μ i < zN μ := ⟨(hc.sa hi).2.2.2.1, (hc.sa hi).2.1, (hc.sa hi).2.2.1⟩
theorem k_la (hc : CRg g μ ρ) (hi : i < nL ρ) : zK μ (laF μ i) = 2 ∧ 88 ≤ laF μ i ∧ laF μ i < zN μ := ⟨(hc.l hi).2.2.2.1, (hc.l hi).2.1, (hc.l hi).2.2.1⟩
theorem k_aa (hc : CRg g μ ρ) (hi : i < nA ρ) : zK μ (aaF μ i) = 0 ∧ 88 ≤ aaF μ i ∧ aaF μ i < zN μ := ⟨(hc.a hi).2.2.2.1, (hc.a hi).2.1, (hc.a hi).2.2.1⟩
theorem k_ta (hc : CRg g μ ρ) (hi : i < nT ρ) : zK μ (taF μ i) = 9 ∧ zK μ (taF μ i + 1) = 13 ∧ 88 ≤ taF μ i ∧ taF μ i + 1 < zN μ := ⟨(hc.tx hi).2.2.2.1, (hc.tx hi).2.2.2.2.2.2.2.2.2.1, (hc.tx hi).2.1, (hc.tx hi).2.2.1⟩
theorem k_ma (hc : CRg g μ ρ) (hi : i < nM ρ) : zK μ (maF μ i) = 4 ∧ zK μ (maF μ i + 1) = 13 ∧ zK μ (maF μ i + 2) = 13 ∧ 88 ≤ maF μ i ∧ maF μ i + 2 < zN μ := by
  obtain ⟨h1, h2, h3, h4, -⟩ := hc.m hi
  exact ⟨h4.1, h4.2.2.2.2.2.1, h4.2.2.2.2.2.2.2.1, h2, h3⟩
end Kinds
