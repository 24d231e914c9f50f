/-! a new piece -/
theorem sI_self {μ : ZM} {a k : Nat} : sI μ a k (zI μ a k) = μ := by
  unfold sI zI
  have : up2 μ.2.2.2.1 a k (μ.2.2.2.1 a k) = μ.2.2.2.1 := by
    funext b j
    unfold up2
    split
    · next h => rw [h.1, h.2]
    · rfl
  rw [this]
def nwL (ρ : RV) (m j : Nat) : Prop := ρ 45 j = nI m ∧ ¬ ρ 47 j = 0
def fsL (ρ : RV) (m j : Nat) : Prop := j < nL ρ ∧ nwL ρ m j ∧ ∀ i, i < j → ¬ nwL ρ m i
def noL (ρ : RV) (m : Nat) : Prop := ∀ i, i < nL ρ → ¬ nwL ρ m i
theorem sLe {g : Gh} {t : Nat} {ρ : RV} {m : Nat} (hr : RIg g t ρ) : ∀ n, n ≤ nL ρ → ∃ c, c ≤ 99 * n ∧ sS (fLe ρ (nI m)) n = nI c ∧ (c = 0 ↔ ∀ i, i < n → ¬ nwL ρ m i)
  | 0, _ => ⟨0, by omega, rfl, fun _ i hi => by omega, fun _ => rfl⟩
  | n + 1, hn => by
    obtain ⟨c, h1, h2, h3⟩ := sLe (m := m) hr n (by omega)
    obtain ⟨d1, d2, d3⟩ := hr.l (i := n) (by omega)
    obtain ⟨x1, x2, x3⟩ := rng_of d3 (by decide)
    have b60 := hr.s.2.1.2
    unfold sS
    by_cases c1 : ρ 45 n = nI m
    · refine ⟨c + tN (ρ 47 n), by omega, ?_, ?_⟩
      · have ef : fLe ρ (nI m) n = nI (tN (ρ 47 n)) := by unfold fLe; rw [if_pos c1]; exact x1
        rw [ef, h2, nI_add]
      · constructor
        · intro z i hi
          by_cases q : i = n
          · subst q
            intro y
            apply y.2
            rw [x1, show tN (ρ 47 i) = 0 by omega]
            rfl
          · exact h3.mp (by omega) i (by omega)
        · intro z
          have z1 := h3.mpr (fun i hi => z i (by omega))
          have z2 := z n (by omega)
          have z3 : ρ 47 n = 0 := Classical.byContradiction fun y => z2 ⟨c1, y⟩
          have : tN (ρ 47 n) = 0 := by rw [z3]; rfl
          omega
    · refine ⟨c, by omega, ?_, ?_⟩
      · have ef : fLe ρ (nI m) n = 0 := by unfold fLe; rw [if_neg c1]
        rw [ef, h2, Int32.add_zero]
      · constructor
        · intro z i hi
          by_cases q : i = n
          · subst q
            exact fun y => c1 y.1
          · exact h3.mp z i (by omega)
        · exact fun z => h3.mpr (fun i hi => z i (by omega))
theorem nw_dec {g : Gh} {t : Nat} {ρ : RV} {m : Nat} (hr : RIg g t ρ) (ht : t ≤ 100000) (hm : m < nM ρ) : (ρ 38 m + sS (fLe ρ (nI m)) (nL ρ) = 0) ↔ (noL ρ m ∧ ρ 38 m = 0) := by
  obtain ⟨c, h1, h2, h3⟩ := sLe (m := m) hr (nL ρ) (Nat.le_refl _)
  have b60 := hr.s.2.1.2
  obtain ⟨x1, x2, x3⟩ := rng_of (hr.m hm).2.2.2.2.1 (by decide)
  obtain ⟨q, hq⟩ : ∃ q, q = tN (ρ 38 m) := ⟨_, rfl⟩
  rw [← hq] at x1 x2
  rw [h2, x1, nI_add, show (0 : Int32) = nI 0 from rfl, nI_eq (by omega) (by decide), nI_eq (by omega) (by decide)]
  unfold noL
  rw [← h3]
  omega
section Piece
variable {E : ZE} {l : Launch} {d nc ns : Nat} {g : Gh} {t : Nat} {μ : ZM} {ρ : RV} {K : Option Value → ZM → Prop} {m : Nat}
theorem c_takeNew (hS : Stat μ) (hr : RIg g t ρ) (hc : CRg g μ ρ) (hm : m < nM ρ) (k1 : ∀ j, fsL ρ m j → K (some (.int 1)) (sI μ (laF μ j) 2 (ρ 47 j - 1))) (k2 : noL ρ m → ¬ ρ 38 m = 0 → K (some (.int 1)) (sI μ (maF μ m) 7 (ρ 38 m - 1))) (k3 : noL ρ m → ρ 38 m = 0 → K (some (.int 0)) μ) : AW E l d nc ns mX10_takeNewPiece 0 (zargs 3 [.ref 11, .ref (maF μ m)]) [] μ K := by
  obtain ⟨s1, s2, s3, s4, s5, s6, s7, s8, s9, s10, s11⟩ := hc.s
  obtain ⟨b1, b2, b3, b4, b5, b6, b7, b8⟩ := hr.s
  have b60 := b2.2
  have lE : ρ 31 18 ≤ nI (nL ρ) := by rw [← b2.1]; exact Int32.le_refl _
  have k := k_ma hc hm
  have e9 : zI μ (maF μ m) 7 = ρ 38 m := (hc.m hm).2.2.2.2.2.2.2.2.1
  obtain ⟨x1, x2, x3⟩ := rng_of (hr.m hm).2.2.2.2.1 (by decide)
  have pos : 0 < ρ 38 m ↔ ¬ ρ 38 m = 0 := by
    rw [i_lt, i_eq, show (0 : Int32).toInt = 0 from by decide]
    have := (hr.m hm).2.2.2.2.1.1
    omega
  refine t_X10_takeNewPiece hS ?_
  refine lpd (P := fun j => (∀ i, i < j → ¬ nwL ρ m i) → AW E l d nc ns mX10_takeNewPiece 2 [some (.ref 11), some (.ref (maF μ m)), some (.int (nI j))] [] μ K) (n := nL ρ) ?_ ?_ (fun i hi => by omega)
  · intro hn
    refine t_X10_takeNewPiece_2 hS (c_t (by rw [s2]; exact lE) ⟨k.1, ?_⟩)
    rw [e9, pos]
    exact ⟨fun z => k2 hn z, fun z => k3 hn (Classical.byContradiction z)⟩
  · intro j hj ih hn
    have l1 : ¬ ρ 31 18 ≤ nI j := by rw [b2.1]; exact nI_ge hj (by omega)
    have l3 : vp_in (nI j) 60 := vp_in_nI (by omega) (by decide)
    have l4 : (nI j).toNatClampNeg = j := nI_clamp (by omega)
    obtain ⟨d1, d2, d3⟩ := hr.l hj
    obtain ⟨c1, c2, c3, c4, c5, c6, c7⟩ := hc.l hj
    rw [← nI_1] at ih
    have mm : lm ρ j < nM ρ := d2
    have kj := k_ma hc mm
    refine t_X10_takeNewPiece_2 hS (c_f (by rw [s2]; exact l1) ⟨l3, ?_⟩)
    rw [l4]
    refine on_some c1 ⟨c4, on_some c6 ⟨by omega, by omega, fun z => ?_, fun z => ⟨l3, ?_⟩⟩⟩
    · have z' : ¬ lm ρ j = m := fun y => z (by rw [y])
      refine ih (fun i hi => ?_)
      by_cases q : i = j
      · subst q
        intro y
        apply z'
        have := y.1
        rw [d1, nI_eq (by have := hr.s.1.2; omega) (by have := hr.s.1.2; omega)] at this
        exact this
      · exact hn i (by omega)
    · have z' : lm ρ j = m := ma_inj hr hc mm hm z
      rw [c7]
      have pz : ρ 47 j ≤ 0 ↔ ρ 47 j = 0 := by
        rw [i_le, i_eq, show (0 : Int32).toInt = 0 from by decide]
        have := d3.1
        omega
      rw [pz]
      refine ⟨fun y => ih (fun i hi => ?_), fun y => ⟨l3, k1 j ⟨hj, ⟨by rw [d1, z'], y⟩, hn⟩⟩⟩
      by_cases q : i = j
      · subst q
        exact fun y' => y'.2 y
      · exact hn i (by omega)
theorem r_giveNew (hS : Stat μ) (hr : RIg g t ρ) (hN : zI μ 31 18 = ρ 31 18) (h45 : ∀ j, zI μ 45 j = ρ 45 j) (h47 : ∀ j, zI μ 47 j = ρ 47 j) (h38 : zI μ 38 m = ρ 38 m) (hm : m < nM ρ) (k1 : ∀ j, fsL ρ m j → K none (sI μ 47 j (ρ 47 j - 1))) (k2 : noL ρ m → K none (sI μ 38 m (ρ 38 m - 1))) : AW E l d nc ns mX11_giveNew 0 (zargs 3 [.ref 31, .int (nI m)]) [] μ K := by
  obtain ⟨b1, b2, b3, b4, b5, b6, b7, b8⟩ := hr.s
  have b60 := b2.2
  have b20 := b1.2
  have lE : ρ 31 18 ≤ nI (nL ρ) := by rw [← b2.1]; exact Int32.le_refl _
  have v20 : vp_in (nI m) 20 := vp_in_nI (by omega) (by decide)
  have c20 : (nI m).toNatClampNeg = m := nI_clamp (by omega)
  refine t_X11_giveNew hS ?_
  refine lpd (P := fun j => (∀ i, i < j → ¬ nwL ρ m i) → AW E l d nc ns mX11_giveNew 2 [some (.ref 31), some (.int (nI m)), some (.int (nI j))] [] μ K) (n := nL ρ) ?_ ?_ (fun i hi => by omega)
  · intro hn
    refine t_X11_giveNew_2 hS (c_t (by rw [hN]; exact lE) ⟨v20, v20, ?_⟩)
    rw [c20, h38]
    exact k2 hn
  · intro j hj ih hn
    have l1 : ¬ ρ 31 18 ≤ nI j := by rw [b2.1]; exact nI_ge hj (by omega)
    have l3 : vp_in (nI j) 60 := vp_in_nI (by omega) (by decide)
    have l4 : (nI j).toNatClampNeg = j := nI_clamp (by omega)
    rw [← nI_1] at ih
    refine t_X11_giveNew_2 hS (c_f (by rw [hN]; exact l1) ⟨l3, ?_⟩)
    rw [l4, h45, h47]
    refine ⟨fun z => ih (fun i hi => ?_), fun z => ⟨l3, fun y => ⟨l3, l3, k1 j ⟨hj, ⟨z, y⟩, hn⟩⟩, fun y => ih (fun i hi => ?_)⟩⟩
    · by_cases q : i = j
      · subst q
        exact fun y => z y.1
      · exact hn i (by omega)
    · by_cases q : i = j
      · subst q
        exact fun y' => y'.2 y
      · exact hn i (by omega)
end Piece
