/-! the reference's tokens -/
def rbF (x : Int32) : Int32 := x.toInt8.toInt32
theorem rb_l : ∀ n, n < 256 → isLb (rbF (nI n)) = isLb (nI n) ∧ isDb (rbF (nI n)) = isDb (nI n) ∧ isSb (rbF (nI n)) = isSb (nI n) ∧ ((isLb (nI n) = true ∨ isDb (nI n) = true) → rbF (nI n) = nI n) := by decide +kernel
theorem rb_d : ∀ n, n < 256 → isDb (nI n) = true → 48 ≤ n ∧ n ≤ 57 := by decide +kernel
theorem rb_w : ∀ n, n < 256 → isLb (nI n) = true → 97 ≤ n ∧ n ≤ 122 := by decide +kernel
def nvN (by_ : Nat → Int32) (q : Nat) : Nat → Nat
  | 0 => 0
  | n + 1 => 10 * nvN by_ q n + (tN (by_ (q + n)) - 48)
def tkF (by_ : Nat → Int32) (L q : Nat) : Int32 := if L ≤ q then 0 else if isLb (by_ q) = true then 1 else if isDb (by_ q) = true then (if tE by_ L q - q ≤ 5 then 2 else -1) else (if rbF (by_ q) ≤ 32 then -1 else rbF (by_ q))
def eE (by_ : Nat → Int32) (L q : Nat) : Nat := if q < L then tE by_ L q else L
def RT (by_ : Nat → Int32) (L : Nat) (μ : ZM) (q : Nat) : Prop := zI μ 31 50 = nI q ∧ zI μ 31 51 = nI (eE by_ L q) ∧ zI μ 31 52 = tkF by_ L q ∧ (q < L → isLb (by_ q) = false → isDb (by_ q) = true → tE by_ L q - q ≤ 5 → zI μ 31 53 = nI (nvN by_ q (tE by_ L q - q)))
def BT (by_ : Nat → Int32) (L : Nat) (μ : ZM) : Prop := zI μ 31 41 = nI L ∧ ∀ j, j < L → zI μ 65 j = rbF (by_ j)
def WN (b j : Nat) : Prop := b = 31 ∧ 50 ≤ j ∧ j ≤ 53
def RN (μ0 μ : ZM) (q t : Nat) : Prop := Fx WN μ0 μ ∧ zI μ 31 50 = nI q ∧ zI μ 31 51 = nI t
theorem BT.fx {by_ : Nat → Int32} {L : Nat} {μ μ' : ZM} {W : Nat → Nat → Prop} (h : BT by_ L μ) (f : Fx W μ μ') (h1 : ¬ W 31 41) (h2 : ∀ j, ¬ W 65 j) : BT by_ L μ' := ⟨(f.i h1).trans h.1, fun j hj => (f.i (h2 j)).trans (h.2 j hj)⟩
theorem RN.to {μ0 μ : ZM} {q t : Nat} {x : Int32} (h : RN μ0 μ q t) {t' : Nat} (e : x = nI t') : RN μ0 (sI μ 31 51 x) q t' := ⟨h.1.wi ⟨rfl, by decide, by decide⟩, by rw [zI_nk (by decide)]; exact h.2.1, by rw [zI_eq, e]⟩
theorem RN.v {μ0 μ : ZM} {q t : Nat} {x : Int32} (h : RN μ0 μ q t) : RN μ0 (sI μ 31 53 x) q t := ⟨h.1.wi ⟨rfl, by decide, by decide⟩, by rw [zI_nk (by decide)]; exact h.2.1, by rw [zI_nk (by decide)]; exact h.2.2⟩
/-- a letter or a digit, with the guards between -/
theorem lt_treeG {b : Int32} {G O D T : Prop} (hg : G) (hl : isLb b = true → T) (hd : isLb b = false → isDb b = true → D) (ho : isLb b = false → isDb b = false → O) : (b < 97 → G ∧ (b < 48 → O) ∧ (¬ b < 48 → (57 < b → O) ∧ (¬ 57 < b → D))) ∧ (¬ b < 97 → (122 < b → G ∧ (b < 48 → O) ∧ (¬ b < 48 → (57 < b → O) ∧ (¬ 57 < b → D))) ∧ (¬ 122 < b → T)) := by
  obtain ⟨t1, t2⟩ := lt_tree hl hd ho
  exact ⟨fun z => ⟨hg, t1 z⟩, fun z => ⟨fun y => ⟨hg, (t2 z).1 y⟩, (t2 z).2⟩⟩
section Nxt
variable {E : ZE} {l : Launch} {d nc ns : Nat} {μ0 μ : ZM} {K : Option Value → ZM → Prop} {by_ : Nat → Int32} {L q : Nat}
theorem r_nx86 (hS0 : Stat μ0) (hL2 : L ≤ 200) (hb : ∀ j, j < L → rng (by_ j) 0 255) (hB : BT by_ L μ0) : ∀ n t μ, t + n = L → RN μ0 μ q t → (∀ μ', RN μ0 μ' q (rE isLb by_ L n t) → K none (sI μ' 31 52 1)) → AW E l (d + 2) nc ns mX11_next 86 [some (.ref 31)] [] μ K := by
  intro n
  induction n with
  | zero =>
    intro t μ ht h k
    have hB' := hB.fx h.1 (by unfold WN; omega) (by unfold WN; omega)
    refine t_X11_next_86 (h.1.st hS0) (c_t ?_ (k μ h))
    rw [hB'.1, h.2.2, nI_leI (by omega) (by omega)]
    omega
  | succ n ih =>
    intro t μ ht h k
    have hB' := hB.fx h.1 (by unfold WN; omega) (by unfold WN; omega)
    obtain ⟨b, b1, b2⟩ := rng_n (hb t (by omega))
    have e := hB'.2 t (by omega)
    have rl := (rb_l b b1).1
    rw [← b2, ← e] at rl
    refine t_X11_next_86 (h.1.st hS0) ?_
    rw [hB'.1, h.2.2, nI_clamp (by omega), nI_1]
    unfold rE at k
    rw [← rl] at k
    refine c_f (by rw [nI_leI (by omega) (by omega)]; omega) ⟨vp_in_nI (by omega) (by decide), fun z => ?_, fun z => ⟨fun y => ?_, fun y => ?_⟩⟩
    · rw [if_neg (by simp [isLb, z])] at k
      exact k μ h
    · rw [if_neg (by simp [isLb, y])] at k
      exact k μ h
    · rw [if_pos (by simp [isLb, z, y])] at k
      exact ih (t + 1) _ (by omega) (h.to rfl) k
theorem r_nx151 (hS0 : Stat μ0) (hL2 : L ≤ 200) (hb : ∀ j, j < L → rng (by_ j) 0 255) (hB : BT by_ L μ0) : ∀ n t μ, t + n = L → q ≤ t → RN μ0 μ q t → (t - q ≤ 6 → zI μ 31 53 = nI (nvN by_ q (t - q))) → (∀ μ', RN μ0 μ' q (rE isDb by_ L n t) → (rE isDb by_ L n t - q ≤ 6 → zI μ' 31 53 = nI (nvN by_ q (rE isDb by_ L n t - q))) → AW E l (d + 2) nc ns mX11_next 235 [some (.ref 31)] [] μ' K) → AW E l (d + 2) nc ns mX11_next 151 [some (.ref 31)] [] μ K := by
  intro n
  induction n with
  | zero =>
    intro t μ ht hq h hv k
    have hB' := hB.fx h.1 (by unfold WN; omega) (by unfold WN; omega)
    refine t_X11_next_151 (h.1.st hS0) (c_t ?_ (k μ h hv))
    rw [hB'.1, h.2.2, nI_leI (by omega) (by omega)]
    omega
  | succ n ih =>
    intro t μ ht hq h hv k
    have hB' := hB.fx h.1 (by unfold WN; omega) (by unfold WN; omega)
    obtain ⟨b, b1, b2⟩ := rng_n (hb t (by omega))
    have e := hB'.2 t (by omega)
    have rl := (rb_l b b1).2.1
    have rl2 := (rb_l b b1).2.2.2
    rw [← b2] at rl2
    rw [← b2, ← e] at rl
    refine t_X11_next_151 (h.1.st hS0) ?_
    rw [hB'.1, h.2.2, h.2.1, nI_clamp (by omega), nI_sb hq]
    unfold rE at k
    rw [← rl] at k
    refine c_f (by rw [nI_leI (by omega) (by omega)]; omega) ⟨vp_in_nI (by omega) (by decide), fun z => ?_, fun z => ⟨fun y => ?_, fun y => ?_⟩⟩
    · rw [if_neg (by simp [isDb, z])] at k
      exact k μ h hv
    · rw [if_neg (by simp [isDb, y])] at k
      exact k μ h hv
    · have dg : isDb (zI μ 65 t) = true := by simp [isDb, z, y]
      rw [if_pos dg] at k
      rw [rl] at dg
      rw [show (6 : Int32) = nI 6 from rfl, nI_leI (by decide) (by omega)]
      refine ⟨fun w => ?_, fun w => ⟨vp_in_nI (by omega) (by decide), ?_⟩⟩
      · refine t_X11_next_219 (h.1.st hS0) ?_
        rw [zI_nk (by decide), h.2.2, nI_1]
        exact ih (t + 1) _ (by omega) (by omega) (h.v.to rfl) (fun w' => absurd w' (by omega)) k
      · refine t_X11_next_219 (h.1.st hS0) ?_
        rw [zI_nk (by decide), h.2.2, nI_1]
        refine ih (t + 1) _ (by omega) (by omega) (h.v.to rfl) (fun w' => ?_) k
        rw [zI_nk (by decide), zI_eq, hv (by omega), e, rl2 (Or.inr dg), show t + 1 - q = (t - q) + 1 by omega]
        rw [show nvN by_ q ((t - q) + 1) = 10 * nvN by_ q (t - q) + (tN (by_ (q + (t - q))) - 48) from rfl, show q + (t - q) = t by omega]
        rw [b2] at dg ⊢
        have bd := rb_d b b1 dg
        have tb : tN (nI b) = b := nI_clamp (by omega)
        rw [tb, show (10 : Int32) = nI 10 from rfl, pk_mul, nI_add, show (48 : Int32) = nI 48 from rfl, nI_sb (by omega)]
        congr 1
        omega
theorem r_next (hS0 : Stat μ0) (hL2 : L ≤ 200) (hb : ∀ j, j < L → rng (by_ j) 0 255) (hB : BT by_ L μ0) {p : Nat} (hp : p ≤ L) (ht : zI μ0 31 51 = nI p) (k : ∀ μ', Fx WN μ0 μ' → RT by_ L μ' (skF by_ L p) → K none μ') : AW E l (d + 2) nc ns mX11_next 0 (zargs 1 [.ref 31]) [] μ0 K := by
  refine t_X11_next hS0 ?_
  rw [ht]
  suffices h : ∀ n q μ, q + n = L → skF by_ L q = skF by_ L p → Fx WN μ0 μ → zI μ 31 50 = nI q → AW E l (d + 2) nc ns mX11_next 8 [some (.ref 31)] [] μ K from h (L - p) p _ (by omega) rfl (Fx.rfl.wi ⟨rfl, by decide, by decide⟩) zI_eq
  have fin : ∀ q μ, q ≤ L → skF by_ L p = q → Fx WN μ0 μ → zI μ 31 50 = nI q → AW E l (d + 2) nc ns mX11_next 46 [some (.ref 31)] [] μ K := by
    intro q μ hq hs f h50
    have h : RN μ0 (sI μ 31 51 (zI μ 31 50)) q q := ⟨f.wi ⟨rfl, by decide, by decide⟩, by rw [zI_nk (by decide)]; exact h50, by rw [zI_eq]; exact h50⟩
    refine t_X11_next_46 (f.st hS0) ?_
    revert h
    generalize sI μ 31 51 (zI μ 31 50) = M1
    intro h
    have hB' := hB.fx h.1 (by unfold WN; omega) (by unfold WN; omega)
    rw [h.2.1, h.2.2, hB'.1, nI_1, nI_eq (by omega) (by omega), nI_clamp (by omega)]
    rw [hs] at k
    have h2 : RN μ0 (sI M1 31 51 (nI (q + 1))) q (q + 1) := h.to rfl
    refine op1 (fun z => ?_) (fun z => ⟨vp_in_nI (by omega) (by decide), ?_⟩)
    · refine k _ (h.1.wi ⟨rfl, by decide, by decide⟩) ⟨by rw [zI_nk (by decide)]; exact h.2.1, ?_, ?_, fun y => by omega⟩
      · rw [zI_nk (by decide), h.2.2]
        unfold eE
        rw [if_neg (by omega), z]
      · rw [zI_eq]
        unfold tkF
        rw [if_pos (by omega)]
    · have hq' : q < L := by omega
      obtain ⟨b, b1, b2⟩ := rng_n (hb q hq')
      have e := hB'.2 q hq'
      obtain ⟨rl, rd, -, -⟩ := rb_l b b1
      rw [← b2, ← e] at rl rd
      have e65 : zI (sI M1 31 51 (nI (q + 1))) 65 q = zI M1 65 q := zI_ne (by decide)
      rw [zI_nk (by decide), h.2.1, nI_clamp (by omega), e65]
      refine lt_treeG (vp_in_nI (by omega) (by decide)) (fun hl => ?_) (fun hl hd => ?_) (fun hl hd => ?_)
      · have te : tE by_ L q = rE isLb by_ L (L - q) q := by unfold tE; rw [if_pos (by rw [← rl]; exact hl)]; rfl
        refine r_nx86 hS0 hL2 hb hB (L - q) q M1 (by omega) h (fun μ' h' => ?_)
        rw [← te] at h'
        refine k _ (h'.1.wi ⟨rfl, by decide, by decide⟩) ⟨by rw [zI_nk (by decide)]; exact h'.2.1, ?_, ?_, fun _ y => by rw [← rl, hl] at y; cases y⟩
        · rw [zI_nk (by decide), h'.2.2]
          unfold eE
          rw [if_pos hq']
        · rw [zI_eq]
          unfold tkF
          rw [if_neg (by omega), if_pos (by rw [← rl]; exact hl)]
      · have te : tE by_ L q = rE isDb by_ L (L - q) q := by unfold tE; rw [if_neg (by rw [← rl, hl]; decide), if_pos (by rw [← rd]; exact hd)]; rfl
        have tg := tE_gt (by_ := by_) hq'
        refine r_nx151 hS0 hL2 hb hB (L - q) q _ (by omega) (Nat.le_refl _) h.v (fun _ => ?_) (fun μ' h' hv => ?_)
        · rw [zI_eq, Nat.sub_self]
          rfl
        · rw [← te] at h' hv
          refine t_X11_next_235 (h'.1.st hS0) ?_
          rw [h'.2.1, h'.2.2, nI_sb (by omega), show (5 : Int32) = nI 5 from rfl, nI_leI (by omega) (by decide)]
          have base : ∀ x : Int32, x = tkF by_ L q → K none (sI μ' 31 52 x) := fun x hx => k _ (h'.1.wi ⟨rfl, by decide, by decide⟩) ⟨by rw [zI_nk (by decide)]; exact h'.2.1, by rw [zI_nk (by decide), h'.2.2]; unfold eE; rw [if_pos hq'], by rw [zI_eq]; exact hx, fun _ _ _ w => by rw [zI_nk (by decide)]; exact hv (by omega)⟩
          refine ⟨fun w => base _ ?_, fun w => base _ ?_⟩
          · unfold tkF
            rw [if_neg (by omega), if_neg (by rw [← rl, hl]; decide), if_pos (by rw [← rd]; exact hd), if_pos w]
          · unfold tkF
            rw [if_neg (by omega), if_neg (by rw [← rl, hl]; decide), if_pos (by rw [← rd]; exact hd), if_neg w]
      · have te : tE by_ L q = q + 1 := by unfold tE; rw [if_neg (by rw [← rl, hl]; decide), if_neg (by rw [← rd, hd]; decide)]
        have base : ∀ x : Int32, x = tkF by_ L q → K none (sI (sI M1 31 51 (nI (q + 1))) 31 52 x) := fun x hx => k _ (h2.1.wi ⟨rfl, by decide, by decide⟩) ⟨by rw [zI_nk (by decide)]; exact h2.2.1, by rw [zI_nk (by decide), h2.2.2]; unfold eE; rw [if_pos hq', te], by rw [zI_eq]; exact hx, fun _ _ y => by rw [← rd, hd] at y; cases y⟩
        have tk : tkF by_ L q = if zI M1 65 q ≤ 32 then -1 else zI M1 65 q := by
          unfold tkF
          rw [if_neg (by omega), if_neg (by rw [← rl, hl]; decide), if_neg (by rw [← rd, hd]; decide), e]
        refine ⟨vp_in_nI (by omega) (by decide), fun w => base _ ?_, fun w => ⟨vp_in_nI (by omega) (by decide), fun μ9 e9 => ?_⟩⟩
        · rw [tk, if_pos w]
        · rw [e9]
          refine base _ ?_
          rw [tk, if_neg w]
  intro n
  induction n with
  | zero =>
    intro q μ hq hs f h50
    have hB' := hB.fx f (by unfold WN; omega) (by unfold WN; omega)
    refine t_X11_next_8 (f.st hS0) (c_t ?_ (fin q μ (by omega) (by rw [← hs, skF_L (by omega)]) f h50))
    rw [hB'.1, h50, nI_leI (by omega) (by omega)]
    omega
  | succ n ih =>
    intro q μ hq hs f h50
    have hB' := hB.fx f (by unfold WN; omega) (by unfold WN; omega)
    obtain ⟨b, b1, b2⟩ := rng_n (hb q (by omega))
    have e := hB'.2 q (by omega)
    have rs := (rb_l b b1).2.2.1
    rw [← b2, ← e] at rs
    refine t_X11_next_8 (f.st hS0) ?_
    rw [hB'.1, h50, nI_clamp (by omega), nI_1]
    refine c_f (by rw [nI_leI (by omega) (by omega)]; omega) ⟨vp_in_nI (by omega) (by decide), fun z => ?_, fun z => ?_⟩
    · exact fin q μ (by omega) (by rw [← hs, skF_no (by rw [← rs]; unfold isSb; rw [decide_eq_false_iff_not]; exact z)]) f h50
    · exact ih (q + 1) _ (by omega) (by rw [← hs, skF_sp (by omega) (by rw [← rs]; unfold isSb; rw [decide_eq_true_eq]; exact z)]) (f.wi ⟨rfl, by decide, by decide⟩) zI_eq
end Nxt
