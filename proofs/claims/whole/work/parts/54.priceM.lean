/-- the price of a model on a day -/
def prR (ρ : RV) (m : Nat) (day : Int32) : Int32 := prF day (fun j => ρ 36 (20 * m + j)) (fun j => ρ 37 (20 * m + j)) (tN (ρ 35 m))
theorem prR_rng {g : Gh} {t m : Nat} {ρ : RV} {day : Int32} (hr : RIg g t ρ) (hm : m < nM ρ) : rng (prR ρ m day) 0 99999 := by
  obtain ⟨r1, r2, r3, r4, r5, r6⟩ := hr.m hm
  unfold prR prF
  cases hb : bP day (fun j => ρ 36 (20 * m + j)) (tN (ρ 35 m)) with
  | none => exact (⟨by decide, by decide⟩ : rng 0 0 99999)
  | some b => exact (r6 b (bP_lt hb)).2
section PriceM
variable {E : ZE} {l : Launch} {d nc ns : Nat} {g : Gh} {t : Nat} {μ : ZM} {ρ : RV} {K : Option Value → ZM → Prop} {m : Nat} {day : Int32}
theorem c_priceM (hS : Stat μ) (hr : RIg g t ρ) (hm : m < nM ρ) (hc : CRm μ ρ m) (k : K (some (.int (prR ρ m day))) μ) : AW E l d nc ns mX4_priceFor 0 (zargs 5 [.ref (maF μ m), .int day]) [] μ K := by
  obtain ⟨m1, m2, m3, m4, m5, m6, m7, m8, m9, m10, m11, m12⟩ := hc
  obtain ⟨r1, r2, r3, r4, r5, r6⟩ := hr.m hm
  refine c_priceFor hS m4 (fun j hj => by rw [(m12 j hj).1, i_le]; exact (r6 j hj).1.1) ?_
  unfold prR at k
  rw [prF_cg (fun j hj => (m12 j hj).1) (fun j hj => (m12 j hj).2)]
  exact k
theorem r_priceM (hS : Stat μ) (hr : RIg g t ρ) (hm : m < nM ρ) (R35 : zI μ 35 m = ρ 35 m) (R36 : ∀ j, zI μ 36 j = ρ 36 j) (R37 : ∀ j, zI μ 37 j = ρ 37 j) (k : K (some (.int (prR ρ m day))) μ) : AW E l d nc ns mX11_priceAt 0 (zargs 5 [.ref 31, .int (nI m), .int day]) [] μ K := by
  obtain ⟨r1, r2, r3, r4, r5, r6⟩ := hr.m hm
  refine c_priceAt hS (by have := hr.s.1.2; omega) r1.2 (R35.trans r1.1) ?_
  unfold prR at k
  simp only [R36, R37]
  exact k
theorem SM.refl (b : Nat) : SM μ μ b := ⟨rfl, rfl, fun _ => rfl, fun _ => rfl⟩
theorem SM.wi {μ' : ZM} {a b k : Nat} {x : Int32} (h : SM μ μ' b) (hn : b ≠ a) : SM μ (sI μ' a k x) b := ⟨h.1, h.2.1, fun j => by rw [zI_ne hn]; exact h.2.2.1 j, h.2.2.2⟩
theorem SM.wa {μ' : ZM} {a b k : Nat} {x : Option Nat} (h : SM μ μ' b) (hn : b ≠ a) : SM μ (sA μ' a k x) b := ⟨h.1, h.2.1, h.2.2.1, fun j => by rw [zA_ne hn]; exact h.2.2.2 j⟩
theorem SM.wn {μ' : ZM} {b c n : Nat} (h : SM μ μ' b) (hn : b ≠ zN μ') : SM μ (sNew μ' c n) b := ⟨by rw [zK_nn hn]; exact h.1, by rw [zL_nn hn]; exact h.2.1, fun j => by rw [zI_nn hn]; exact h.2.2.1 j, fun j => by rw [zA_nn hn]; exact h.2.2.2 j⟩
end PriceM
theorem dvn {x : Int32} {hi : Nat} (h : rng x 0 hi) (n : Nat) {y : Int32} (hy : y = nI n) (h0 : 0 < n) (hn : n < 2 ^ 31) : x / y = nI (tN x / n) ∧ x - x / y * y = nI (tN x % n) ∧ tN x ≤ hi ∧ tN x < 2 ^ 31 := by
  subst hy
  obtain ⟨e1, e2, e3⟩ := nn_of (x := x) h.1
  have h2 := h.2
  have a1 := pk_div e3 h0 hn
  have a2 := pk_rem e3 h0 hn
  rw [← e1] at a1 a2
  exact ⟨a1, a2, by omega, e3⟩
theorem rng_nI {n : Nat} {hi : Int} (h : (n : Int) ≤ hi) (hb : n < 2 ^ 31) : rng (nI n) 0 hi := by
  unfold rng
  rw [nI_toInt hb]
  omega
