/-! indices -/
theorem ix3 (x : Int32) {n : Nat} (hn : n < 2 ^ 30) : x < 0 ∨ (¬ x < 0 ∧ nI n - 1 < x) ∨ ∃ j, j < n ∧ x = nI j := by
  rcases pk_ix x (n := n) (by omega) with h | h | ⟨j, hj, e⟩
  · exact Or.inl h
  · by_cases c : x < 0
    · exact Or.inl c
    · refine Or.inr (Or.inl ⟨c, ?_⟩)
      rw [i_lt, show (1 : Int32) = nI 1 from rfl, pk_sub_toInt hn (by decide)]
      rw [i_le, nI_toInt (by omega)] at h
      omega
  · exact Or.inr (Or.inr ⟨j, hj, e⟩)
theorem ix_lt {n j : Nat} (hn : n < 2 ^ 30) (hj : j < n) : ¬ (nI n - 1 < nI j) := by
  rw [i_lt, show (1 : Int32) = nI 1 from rfl, pk_sub_toInt hn (by decide), nI_toInt (by omega)]
  omega
/-! sums -/
def sS (f : Nat → Int32) : Nat → Int32
  | 0 => 0
  | n + 1 => sS f n + f n
theorem sS_cg {f f' : Nat → Int32} : ∀ {n : Nat}, (∀ j, j < n → f j = f' j) → sS f n = sS f' n
  | 0, _ => rfl
  | n + 1, h => by
    unfold sS
    rw [sS_cg (fun j hj => h j (by omega)), h n (by omega)]
theorem lpd {P : Nat → Prop} {n : Nat} (h0 : P n) (hs : ∀ j, j < n → P (j + 1) → P j) : P 0 := by
  have : ∀ r j, j + r = n → P j := by
    intro r
    induction r with
    | zero =>
      intro j hj
      have : j = n := by omega
      rw [this]
      exact h0
    | succ r ih =>
      intro j hj
      exact hs j (by omega) (ih (j + 1) (by omega))
  exact this n 0 (by omega)
/-! a call of the desk and then the same call of the reference -/
section Pair
variable {E : ZE} {l : Launch} {d : Nat} {g g' : Gh} {L : Nat} {X : Nat → Int32} {t t' : Nat} {mc mr : MTH} {ac ar : List (Option Value)} {μ : ZM}
def PRp (E : ZE) (l : Launch) (d : Nat) (L : Nat) (X : Nat → Int32) (t : Nat) (mc mr : MTH) (ac ar : List (Option Value)) (μ : ZM) : Prop :=
  AW E l (d + 299) 4 460 mc 0 ac [] μ (fun v μ1 => ∃ r : Int32, v = some (.int r) ∧ Stat μ1 ∧ S0 L X μ1 ∧ AW E l (d + 299) 0 0 mr 0 ar [] μ1 (fun w μ2 => w = some (.int r) ∧ ∃ g', IV g' L X (t + 1) μ2))
theorem PRp.mk (h : ∀ K : Option Value → ZM → Prop, (∀ (r : Int32) (μ1 : ZM), Stat μ1 → S0 L X μ1 → (∀ Q : Option Value → ZM → Prop, (∀ (g' : Gh) (μ2 : ZM), IV g' L X (t + 1) μ2 → Q (some (.int r)) μ2) → AW E l (d + 299) 0 0 mr 0 ar [] μ1 Q) → K (some (.int r)) μ1) → AW E l (d + 299) 4 460 mc 0 ac [] μ K) : PRp E l d L X t mc mr ac ar μ :=
  h _ (fun r μ1 h1 h2 h3 => ⟨r, rfl, h1, h2, h3 _ (fun g' μ2 hv => ⟨rfl, g', hv⟩)⟩)
theorem IV.up (hI : IV g L X t μ) (ht : t ≤ t') : IV g L X t' μ := IV.scr hI rfl EqX.rfl hI.st hI.w ht
end Pair
