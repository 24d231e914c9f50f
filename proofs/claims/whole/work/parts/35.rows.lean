def SM (μ μ' : ZM) (b : Nat) : Prop := zK μ' b = zK μ b ∧ zL μ' b = zL μ b ∧ (∀ j, zI μ' b j = zI μ b j) ∧ (∀ j, zA μ' b j = zA μ b j)
/-! rows as they were -/
section RowsFr
variable {g g' : Gh} {t t' : Nat} {μ μ' : ZM} {ρ ρ' : RV} {i : Nat}
theorem RIm.fr (h : RIm ρ t i) (ht : t ≤ t') (row : ∀ b, 32 ≤ b → b ≤ 41 → b ≠ 36 → b ≠ 37 → ρ' b i = ρ b i) (rowp : ∀ b, 36 ≤ b → b ≤ 37 → ∀ j, j < 20 → ρ' b (20 * i + j) = ρ b (20 * i + j)) : RIm ρ' t' i := by
  unfold RIm at h ⊢
  obtain ⟨h1, h2, h3, h4, h5, h6⟩ := h
  have e35 := row 35 (by decide) (by decide) (by decide) (by decide)
  rw [e35, row 32 (by decide) (by decide) (by decide) (by decide), row 33 (by decide) (by decide) (by decide) (by decide), row 34 (by decide) (by decide) (by decide) (by decide), row 38 (by decide) (by decide) (by decide) (by decide)]
  refine ⟨h1, h2, h3, h4, ⟨h5.1, by have := h5.2; omega⟩, fun j hj => ?_⟩
  have hb := h1.2
  rw [rowp 36 (by decide) (by decide) j (by omega), rowp 37 (by decide) (by decide) j (by omega)]
  exact h6 j hj
theorem RIl.fr (h : RIl ρ i) (row : ∀ b, 45 ≤ b → b ≤ 47 → ρ' b i = ρ b i) (hM : nM ρ ≤ nM ρ') : RIl ρ' i := by
  unfold RIl lm at h ⊢
  rw [row 45 (by decide) (by decide), row 47 (by decide) (by decide)]
  exact ⟨h.1, by have := h.2.1; omega, h.2.2⟩
theorem RIsa.fr (h : RIsa ρ i) (row : ∀ b, 48 ≤ b → b ≤ 64 → ρ' b i = ρ b i) (hL : nL ρ ≤ nL ρ') (hA : nA ρ ≤ nA ρ') (hh : (ρ 31 1).toInt ≤ (ρ' 31 1).toInt) (hd : (ρ 31 1 / 24).toInt ≤ (ρ' 31 1 / 24).toInt) : RIsa ρ' i := by
  unfold RIsa sl at h ⊢
  obtain ⟨h1, h2, h3, h4, h5, h6, h7, h8, h9, h10, h11, h12, h13, h14, h15, h16, h17, h18, h19⟩ := h
  rw [row 49 (by decide) (by decide), row 50 (by decide) (by decide), row 54 (by decide) (by decide), row 52 (by decide) (by decide), row 53 (by decide) (by decide), row 55 (by decide) (by decide), row 56 (by decide) (by decide), row 57 (by decide) (by decide), row 60 (by decide) (by decide), row 48 (by decide) (by decide), row 58 (by decide) (by decide), row 59 (by decide) (by decide), row 61 (by decide) (by decide), row 62 (by decide) (by decide), row 63 (by decide) (by decide), row 64 (by decide) (by decide)]
  exact ⟨h1, by omega, h3, h4, h5, h6, ⟨h7.1, by have := h7.2; omega⟩, h8, h9, h10, h11, h12.imp (fun z => z) (fun z => ⟨z.1, Int.le_trans z.2 hd⟩), h13, h14, h15.imp (fun z => z) (fun z => ⟨z.1, z.2.1, Int.le_trans z.2.2 hd⟩), fun q => ⟨(h16 q).1, by have := (h16 q).2; omega⟩, h17, h18, h19⟩
theorem RIa.fr (h : RIa ρ i) (row : ∀ b, 74 ≤ b → b ≤ 84 → ρ' b i = ρ b i) (hS : nS ρ ≤ nS ρ') (hh : (ρ 31 1 / 24).toInt ≤ (ρ' 31 1 / 24).toInt) : RIa ρ' i := by
  unfold RIa as_ at h ⊢
  obtain ⟨h1, h2, h3, h4, h5, h6, h7, h8, h9, h10, h11⟩ := h
  rw [row 74 (by decide) (by decide), row 75 (by decide) (by decide), row 76 (by decide) (by decide), row 77 (by decide) (by decide), row 78 (by decide) (by decide), row 79 (by decide) (by decide), row 80 (by decide) (by decide), row 81 (by decide) (by decide), row 82 (by decide) (by decide)]
  exact ⟨h1, by omega, h3, ⟨h4.1, by have := h4.2; omega⟩, h5, h6, h7, h8, h9, h10, h11⟩
theorem lst_cg {f f' : Nat → Int32} : ∀ {l : List Int32} {p : Nat}, (∀ j, p ≤ j → j < p + l.length → f' j = f j) → lst f p l → lst f' p l
  | [], _, _, _ => trivial
  | x :: r, p, e, h => ⟨(e p (Nat.le_refl _) (by simp)).trans h.1, lst_cg (fun j h1 h2 => e j (by omega) (by simp at h2 ⊢; omega)) h.2⟩
theorem lst2_cg {f f' k k' : Nat → Int32} : ∀ {l : List (Int32 × Int32)} {p : Nat}, (∀ j, p ≤ j → j < p + l.length → f' j = f j ∧ k' j = k j) → lst2 f k p l → lst2 f' k' p l
  | [], _, _, _ => trivial
  | x :: r, p, e, h => ⟨(e p (Nat.le_refl _) (by simp)).1.trans h.1, (e p (Nat.le_refl _) (by simp)).2.trans h.2.1, lst2_cg (fun j h1 h2 => e j (by omega) (by simp at h2 ⊢; omega)) h.2.2⟩
theorem RTx.fr (h : RTx g ρ i) (hg : g'.1 i = g.1 i) (e69 : ρ' 69 i = ρ 69 i) (row : ∀ j, j < 200 → ρ' 70 (200 * i + j) = ρ 70 (200 * i + j) ∧ ρ' 71 (200 * i + j) = ρ 71 (200 * i + j)) : RTx g' ρ' i := by
  unfold RTx at h ⊢
  rw [hg, e69]
  refine ⟨h.1, h.2.1, lst2_cg (fun j h1 h2 => ?_) h.2.2⟩
  have hl := h.1.2.2
  have := row (j - 200 * i) (by omega)
  rw [show 200 * i + (j - 200 * i) = j by omega] at this
  exact this
theorem CRm.fr (h : CRm μ ρ i) (hN : zN μ ≤ zN μ') (e0 : zA μ' 12 i = zA μ 12 i) (s0 : SM μ μ' (maF μ i)) (s1 : SM μ μ' (maF μ i + 1)) (s2 : SM μ μ' (maF μ i + 2)) (row : ∀ b, 32 ≤ b → b ≤ 41 → b ≠ 36 → b ≠ 37 → ρ' b i = ρ b i) (rowp : ∀ b, 36 ≤ b → b ≤ 37 → ∀ j, j < 20 → ρ' b (20 * i + j) = ρ b (20 * i + j)) : CRm μ' ρ' i := by
  have ea : maF μ' i = maF μ i := by unfold maF; rw [e0]
  unfold CRm MdlP at h ⊢
  obtain ⟨h1, h2, h3, ⟨m1, m2, m3, m4, m5, m6, m7, m8, m9⟩, h5, h6, h7, h8, h9, h10, h11, h12⟩ := h
  rw [ea, e0, row 35 (by decide) (by decide) (by decide) (by decide), row 32 (by decide) (by decide) (by decide) (by decide), row 33 (by decide) (by decide) (by decide) (by decide), row 34 (by decide) (by decide) (by decide) (by decide), row 38 (by decide) (by decide) (by decide) (by decide), row 39 (by decide) (by decide) (by decide) (by decide), row 40 (by decide) (by decide) (by decide) (by decide)]
  simp only [s0.1, s0.2.2.1, s0.2.2.2, s1.1, s1.2.1, s1.2.2.1, s2.1, s2.2.1, s2.2.2.1]
  refine ⟨h1, h2, by omega, ⟨m1, m2, m3, m4, m5, m6, m7, m8, m9⟩, h5, h6, h7, h8, h9, h10, h11, fun j hj => ?_⟩
  rw [rowp 36 (by decide) (by decide) j (by omega), rowp 37 (by decide) (by decide) j (by omega)]
  exact h12 j hj
theorem CRl.fr (h : CRl μ ρ i) (hN : zN μ ≤ zN μ') (e0 : zA μ' 13 i = zA μ 13 i) (s0 : SM μ μ' (laF μ i)) (row : ∀ b, 45 ≤ b → b ≤ 47 → ρ' b i = ρ b i) (em : maF μ' (lm ρ i) = maF μ (lm ρ i)) : CRl μ' ρ' i := by
  have ea : laF μ' i = laF μ i := by unfold laF; rw [e0]
  have el : lm ρ' i = lm ρ i := by unfold lm; rw [row 45 (by decide) (by decide)]
  unfold CRl at h ⊢
  obtain ⟨h1, h2, h3, h4, h5, h6, h7⟩ := h
  rw [ea, e0, el, em, row 47 (by decide) (by decide)]
  simp only [s0.1, s0.2.2.1, s0.2.2.2]
  exact ⟨h1, h2, by omega, h4, h5, h6, h7⟩
theorem CRsa.fr (h : CRsa μ ρ i) (hN : zN μ ≤ zN μ') (e0 : zA μ' 14 i = zA μ 14 i) (s0 : SM μ μ' (saF μ i)) (row : ∀ b, 48 ≤ b → b ≤ 64 → ρ' b i = ρ b i) (em : maF μ' (smo ρ i) = maF μ (smo ρ i)) (el : laF μ' (sl ρ i) = laF μ (sl ρ i)) (es : smo ρ' i = smo ρ i) (ek : ρ 48 i = 2 → aaF μ' (tN (ρ 61 i)) = aaF μ (tN (ρ 61 i))) : CRsa μ' ρ' i := by
  have ea : saF μ' i = saF μ i := by unfold saF; rw [e0]
  have e1 : sl ρ' i = sl ρ i := by unfold sl; rw [row 49 (by decide) (by decide)]
  unfold CRsa at h ⊢
  obtain ⟨h1, h2, h3, h4, h5, h6, h7, h8, h9, h10, h11, h12, h13, h14, h15, h16, h17, h18, h19, h20, h21, h22, h23⟩ := h
  rw [ea, e0, e1, es, em, el, row 50 (by decide) (by decide), row 51 (by decide) (by decide), row 54 (by decide) (by decide), row 52 (by decide) (by decide), row 53 (by decide) (by decide), row 55 (by decide) (by decide), row 56 (by decide) (by decide), row 57 (by decide) (by decide), row 60 (by decide) (by decide), row 48 (by decide) (by decide), row 58 (by decide) (by decide), row 59 (by decide) (by decide), row 61 (by decide) (by decide), row 62 (by decide) (by decide), row 63 (by decide) (by decide), row 64 (by decide) (by decide)]
  simp only [s0.1, s0.2.2.1, s0.2.2.2]
  exact ⟨h1, h2, by omega, h4, h5, h6, h7, h8, h9, h10, h11, h12, h13, h14, h15, h16, h17, h18, h19, h20, h21, h22, fun q => by rw [ek q]; exact h23 q⟩
theorem CRa.fr (h : CRa μ ρ i) (hN : zN μ ≤ zN μ') (e0 : zA μ' 15 i = zA μ 15 i) (s0 : SM μ μ' (aaF μ i)) (row : ∀ b, 74 ≤ b → b ≤ 84 → ρ' b i = ρ b i) (es : saF μ' (as_ ρ i) = saF μ (as_ ρ i)) : CRa μ' ρ' i := by
  have ea : aaF μ' i = aaF μ i := by unfold aaF; rw [e0]
  have e1 : as_ ρ' i = as_ ρ i := by unfold as_; rw [row 74 (by decide) (by decide)]
  unfold CRa at h ⊢
  obtain ⟨h1, h2, h3, h4, h5, h6, h7, h8, h9, h10, h11, h12, h13, h14, h15, h16, h17, h18, h19, h20⟩ := h
  rw [ea, e0, e1, es, row 75 (by decide) (by decide), row 76 (by decide) (by decide), row 77 (by decide) (by decide), row 78 (by decide) (by decide), row 79 (by decide) (by decide), row 80 (by decide) (by decide), row 81 (by decide) (by decide), row 82 (by decide) (by decide), row 83 (by decide) (by decide), row 84 (by decide) (by decide)]
  simp only [s0.1, s0.2.2.1, s0.2.2.2]
  exact ⟨h1, h2, by omega, h4, h5, h6, h7, h8, h9, h10, h11, h12, h13, h14, h15, h16, h17, h18, h19, h20⟩
theorem CTx.fr (h : CTx g μ ρ i) (hg : g'.1 i = g.1 i) (hN : zN μ ≤ zN μ') (e0 : zA μ' 16 i = zA μ 16 i) (s0 : SM μ μ' (taF μ i)) (s1 : SM μ μ' (taF μ i + 1)) (row : ∀ b, 66 ≤ b → b ≤ 69 → ρ' b i = ρ b i) : CTx g' μ' ρ' i := by
  have ea : taF μ' i = taF μ i := by unfold taF; rw [e0]
  unfold CTx at h ⊢
  obtain ⟨h1, h2, h3, h4, h5, h6, h7, h8, h9, h10, h11, h12, h13⟩ := h
  rw [ea, e0, hg, row 66 (by decide) (by decide), row 67 (by decide) (by decide), row 68 (by decide) (by decide)]
  simp only [s0.1, s0.2.2.1, s0.2.2.2, s1.1, s1.2.1]
  exact ⟨h1, h2, by omega, h4, h5, h6, h7, h8, h9, h10, h11, lst_cg (fun j _ _ => s1.2.2.1 j) h12, h13⟩
end RowsFr
