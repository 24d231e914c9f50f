/-! memories that differ in some cells alone -/
def Fx (W : Nat → Nat → Prop) (μ μ' : ZM) : Prop := zN μ' = zN μ ∧ (∀ b, zK μ' b = zK μ b) ∧ (∀ b, zL μ' b = zL μ b) ∧ (∀ b j, zA μ' b j = zA μ b j) ∧ (∀ b j, zJ μ' b j = zJ μ b j) ∧ ∀ b j, ¬ W b j → zI μ' b j = zI μ b j
section FxS
variable {W W' : Nat → Nat → Prop} {μ μ' μ2 : ZM} {a k : Nat} {x : Int32}
theorem Fx.rfl : Fx W μ μ := ⟨_root_.rfl, fun _ => _root_.rfl, fun _ => _root_.rfl, fun _ _ => _root_.rfl, fun _ _ => _root_.rfl, fun _ _ _ => _root_.rfl⟩
theorem Fx.wi (h : Fx W μ μ') (hw : W a k) : Fx W μ (sI μ' a k x) := ⟨h.1, h.2.1, h.2.2.1, h.2.2.2.1, h.2.2.2.2.1, fun b j hn => by
  rw [zI_sI, if_neg (fun z => hn (by rw [z.1, z.2]; exact hw))]
  exact h.2.2.2.2.2 b j hn⟩
theorem Fx.trans (h : Fx W μ μ') (g : Fx W μ' μ2) : Fx W μ μ2 := ⟨g.1.trans h.1, fun b => (g.2.1 b).trans (h.2.1 b), fun b => (g.2.2.1 b).trans (h.2.2.1 b), fun b j => (g.2.2.2.1 b j).trans (h.2.2.2.1 b j), fun b j => (g.2.2.2.2.1 b j).trans (h.2.2.2.2.1 b j), fun b j hn => (g.2.2.2.2.2 b j hn).trans (h.2.2.2.2.2 b j hn)⟩
theorem Fx.mono (h : Fx W μ μ') (hw : ∀ b j, W b j → W' b j) : Fx W' μ μ' := ⟨h.1, h.2.1, h.2.2.1, h.2.2.2.1, h.2.2.2.2.1, fun b j hn => h.2.2.2.2.2 b j (fun z => hn (hw b j z))⟩
theorem Fx.i (h : Fx W μ μ') {b j : Nat} (hn : ¬ W b j) : zI μ' b j = zI μ b j := h.2.2.2.2.2 b j hn
theorem Fx.st (h : Fx W μ μ') (hS : Stat μ) : Stat μ' := by
  obtain ⟨s1, s2, s3, s4, s5⟩ := hS
  refine ⟨fun a ha => (h.2.1 a).trans (s1 a ha), fun a h1 h2 => (h.2.2.1 a).trans (s2 a h1 h2), fun q hq => (h.2.2.2.1 _ _).trans (s3 q hq), by rw [h.1]; exact s4, fun a ha => (h.2.1 a).trans (s5 a (by rw [← h.1]; exact ha))⟩
theorem Fx.cst (h : Fx W μ μ') (hw : ∀ b j, W b j → 11 ≤ b) (hc : CST μ) : CST μ' := by
  obtain ⟨c1, c2, c3, c4, c5, c6⟩ := hc
  refine ⟨fun j hj => (h.i (fun z => ?_)).trans (c1 j hj), fun j hj => (h.i (fun z => ?_)).trans (c2 j hj), fun j hj => (h.i (fun z => ?_)).trans (c3 j hj), fun j hj => (h.i (fun z => ?_)).trans (c4 j hj), fun j hj => (h.i (fun z => ?_)).trans (c5 j hj), fun j hj => (h.2.2.2.2.1 _ _).trans (c6 j hj)⟩
  all_goals
    have := hw _ _ z
    omega
theorem Fx.s0 {L : Nat} {X : Nat → Int32} (h : Fx W μ μ') (hw : ∀ b j, W b j → 11 ≤ b) (hs : S0 L X μ) : S0 L X μ' := ⟨(h.2.2.1 0).trans hs.1, fun j => (h.i (fun z => by have := hw _ _ z; omega)).trans (hs.2 j)⟩
theorem Fx.eqx (h : Fx W μ μ') : EqX μ μ' W (fun _ _ => False) := ⟨by rw [h.1]; exact Nat.le_refl _, fun b _ => ⟨h.2.1 b, h.2.2.1 b⟩, fun b j _ hn => h.i hn, fun b j _ _ => h.2.2.2.1 b j, fun b j _ _ => h.2.2.2.2.1 b j⟩
end FxS
theorem nI_sb {a b : Nat} (h : b ≤ a) : nI a - nI b = nI (a - b) := by
  have : nI a = nI (a - b) + nI b := by rw [nI_add]; congr 1; omega
  rw [this, Int32.add_sub_cancel]
/-! one token more -/
def addM (μ : ZM) (c : Nat) (k p e : Int32) : ZM := sI (sI (sI (sI μ 22 c k) 23 c p) 24 c e) 20 5 (nI (c + 1))
theorem c_add {A : Prop} (P : ZM → Prop) {μ : ZM} {c : Nat} {k p e : Int32} (hc : zI μ 20 5 = nI c) (h : c < 201) (kk : P (addM μ c k p e)) : (201 ≤ zI μ 20 5 → A) ∧ (¬ 201 ≤ zI μ 20 5 → (vp_in (zI μ 20 5) 201) ∧ (vp_in (zI (sI μ 22 (zI μ 20 5).toNatClampNeg k) 20 5) 201) ∧ (vp_in (zI (sI (sI μ 22 (zI μ 20 5).toNatClampNeg k) 23 (zI (sI μ 22 (zI μ 20 5).toNatClampNeg k) 20 5).toNatClampNeg p) 20 5) 201) ∧ ∀ μ', μ' = (sI (sI (sI μ 22 (zI μ 20 5).toNatClampNeg k) 23 (zI (sI μ 22 (zI μ 20 5).toNatClampNeg k) 20 5).toNatClampNeg p) 24 (zI (sI (sI μ 22 (zI μ 20 5).toNatClampNeg k) 23 (zI (sI μ 22 (zI μ 20 5).toNatClampNeg k) 20 5).toNatClampNeg p) 20 5).toNatClampNeg e) → P (sI μ' 20 5 (zI μ' 20 5 + 1))) := by
  have r1 : zI (sI μ 22 c k) 20 5 = nI c := by rw [zI_ne (by decide)]; exact hc
  have r2 : zI (sI (sI μ 22 c k) 23 c p) 20 5 = nI c := by rw [zI_ne (by decide)]; exact r1
  have r3 : zI (sI (sI (sI μ 22 c k) 23 c p) 24 c e) 20 5 = nI c := by rw [zI_ne (by decide)]; exact r2
  rw [hc, nI_clamp (by omega), r1, nI_clamp (by omega), r2, nI_clamp (by omega)]
  refine c_f (by rw [show (201 : Int32) = nI 201 from rfl, nI_leI (by decide) (by omega)]; omega) ⟨vp_in_nI h (by decide), vp_in_nI h (by decide), vp_in_nI h (by decide), fun μ' e' => ?_⟩
  rw [e', r3, nI_1]
  exact kk
def WT (b j : Nat) : Prop := (b = 20 ∧ j = 5) ∨ (22 ≤ b ∧ b ≤ 24)
def TBa (s : Nat) (by_ : Nat → Int32) (L : Nat) (μ : ZM) (a : Nat) : Prop := zI μ 22 a = kdF s by_ L (plF by_ L a) ∧ zI μ 23 a = nI (plF by_ L a) ∧ zI μ 24 a = ceF s by_ L (plF by_ L a)
def SPs (s : Nat) (by_ : Nat → Int32) (L : Nat) (μ0 μ : ZM) (c q : Nat) : Prop := Fx WT μ0 μ ∧ zI μ 20 5 = nI c ∧ (∀ a, a < c → TBa s by_ L μ a ∧ plF by_ L a < L) ∧ skF by_ L q = plF by_ L c ∧ q ≤ L ∧ c ≤ q
theorem Fx.add {μ0 μ : ZM} {c : Nat} {k p e : Int32} (h : Fx WT μ0 μ) : Fx WT μ0 (addM μ c k p e) := (((h.wi (Or.inr ⟨by decide, by decide⟩)).wi (Or.inr ⟨by decide, by decide⟩)).wi (Or.inr ⟨by decide, by decide⟩)).wi (Or.inl ⟨_root_.rfl, _root_.rfl⟩)
theorem addM_o {s L : Nat} {by_ : Nat → Int32} {μ : ZM} {c a : Nat} {k p e : Int32} (h : TBa s by_ L μ a) (hn : a ≠ c) : TBa s by_ L (addM μ c k p e) a := by
  unfold addM TBa
  obtain ⟨h1, h2, h3⟩ := h
  refine ⟨?_, ?_, ?_⟩
  · rw [zI_ne (by decide), zI_ne (by decide), zI_ne (by decide), zI_nk hn]
    exact h1
  · rw [zI_ne (by decide), zI_ne (by decide), zI_nk hn, zI_ne (by decide)]
    exact h2
  · rw [zI_ne (by decide), zI_nk hn, zI_ne (by decide), zI_ne (by decide)]
    exact h3
theorem addM_n {s L : Nat} {by_ : Nat → Int32} {μ : ZM} {c : Nat} {q : Nat} (e : plF by_ L c = q) : TBa s by_ L (addM μ c (kdF s by_ L q) (nI q) (ceF s by_ L q)) c := by
  unfold addM TBa
  rw [e]
  refine ⟨?_, ?_, ?_⟩
  · rw [zI_ne (by decide), zI_ne (by decide), zI_ne (by decide), zI_eq]
  · rw [zI_ne (by decide), zI_ne (by decide), zI_eq]
  · rw [zI_ne (by decide), zI_eq]
theorem SPs.add {s L : Nat} {by_ : Nat → Int32} {μ0 μ : ZM} {c q : Nat} (h : SPs s by_ L μ0 μ c q) (hq : q < L) (hns : isSb (by_ q) = false) : SPs s by_ L μ0 (addM μ c (kdF s by_ L q) (nI q) (ceF s by_ L q)) (c + 1) (tE by_ L q) := by
  obtain ⟨h1, h2, h3, h4, h5, h6⟩ := h
  have e : plF by_ L c = q := by rw [← h4, skF_no hns]
  have g := tE_gt (by_ := by_) hq
  refine ⟨h1.add, zI_eq, fun a ha => ?_, ?_, g.2, by omega⟩
  · by_cases c' : a = c
    · rw [c']
      exact ⟨addM_n e, by omega⟩
    · exact ⟨addM_o (h3 a (by omega)).1 c', (h3 a (by omega)).2⟩
  · rw [plF_s (by omega), e]
theorem pIx_lt {by_ : Nat → Int32} {f t : Nat} : ∀ {ws : List (List Int32)} {k j : Nat}, pIx by_ f t k ws = some j → k ≤ j ∧ j < k + ws.length
  | [], k, j, h => by cases h
  | w :: r, k, j, h => by
    unfold pIx at h
    split at h
    · cases h
      simp only [List.length_cons]
      omega
    · have := pIx_lt h
      simp only [List.length_cons]
      omega
theorem lt_tree {b : Int32} {O D T : Prop} (hl : isLb b = true → T) (hd : isLb b = false → isDb b = true → D) (ho : isLb b = false → isDb b = false → O) : (b < 97 → (b < 48 → O) ∧ (¬ b < 48 → (57 < b → O) ∧ (¬ 57 < b → D))) ∧ (¬ b < 97 → (122 < b → (b < 48 → O) ∧ (¬ b < 48 → (57 < b → O) ∧ (¬ 57 < b → D))) ∧ (¬ 122 < b → T)) := by
  refine ⟨fun h1 => ⟨fun h2 => ho (by simp [isLb, h1]) (by simp [isDb, h2]), fun h2 => ⟨fun h3 => ho (by simp [isLb, h1]) (by simp [isDb, h3]), fun h3 => hd (by simp [isLb, h1]) (by simp [isDb, h2, h3])⟩⟩, fun h1 => ⟨fun h2 => ⟨fun h3 => ho (by simp [isLb, h2]) (by simp [isDb, h3]), fun h3 => ⟨fun h4 => ho (by simp [isLb, h2]) (by simp [isDb, h4]), fun h4 => hd (by simp [isLb, h2]) (by simp [isDb, h3, h4])⟩⟩, fun h2 => hl (by simp [isLb, h1, h2])⟩⟩
theorem ld_s {b : Int32} : (isLb b = true → isSb b = false) ∧ (isDb b = true → isSb b = false) := by
  unfold isLb isDb isSb
  refine ⟨fun h => ?_, fun h => ?_⟩
  · rw [decide_eq_false_iff_not]
    intro z
    rw [z] at h
    exact absurd h (by decide)
  · rw [decide_eq_false_iff_not]
    intro z
    rw [z] at h
    exact absurd h (by decide)
section Spl
variable {E : ZE} {l : Launch} {d nc ns : Nat} {M M0 : ZM} {K : Option Value → ZM → Prop} {s q c L : Nat}
theorem c_addWord (hS : Stat M) (hc : CST M) (hs : s = 1 ∨ s = 4) (hL : zI M 20 1 = nI L) (hL2 : L ≤ 200) (hq : q < L) (hl : isLb (zI M 21 q) = true) (h5 : zI M 20 5 = nI c) (h6 : c < 201) (k : K none (addM M c (kdF s (zI M 21) L q) (nI q) (ceF s (zI M 21) L q))) : AW E l (d + 6) nc ns mX8_addWord 0 (zargs 6 [.ref 20, .int (nI q), .int (nI (rN isLb (zI M 21) L q)), .ref s]) [] M K := by
  have te : tE (zI M 21) L q = rN isLb (zI M 21) L q := by unfold tE; rw [if_pos hl]
  have g := tE_gt (by_ := zI M 21) hq
  have hw : sAt (sB s) 0 (wdS s) := by rcases hs with rfl | rfl; exact ws_ok.1; exact ws_ok.2.2
  have hsl : (wdS s).length < 1000 := by rcases hs with rfl | rfl <;> decide
  unfold kdF ceF at k
  rw [if_neg (by omega), if_pos hl, if_neg (by omega), if_pos hl, te] at k
  rw [te] at g
  refine t_X8_addWord hS (c_place hS hc (by decide) (by decide) hL hL2 (by omega) g.2 (ws := wdS 2) (by decide) ws_ok.2.1 ⟨_, rfl, hS, c_place hS hc (by omega) (by omega) hL hL2 (by omega) g.2 hsl hw ⟨_, rfl, hS, ?_⟩⟩)
  rw [show wsW = wdS 2 from rfl] at k
  cases h1 : pIx (zI M 21) q (rN isLb (zI M 21) L q) 0 (wdS 2) with
  | none =>
    rw [h1] at k
    cases h2 : pIx (zI M 21) q (rN isLb (zI M 21) L q) 0 (wdS s) with
    | none =>
      rw [h2] at k
      exact c_t (show (-1 : Int32) < 0 by decide) (c_t (show (-1 : Int32) < 0 by decide) (c_add (fun m => K none m) h5 h6 k))
    | some j =>
      rw [h2] at k
      have := pIx_lt h2
      exact c_t (show (-1 : Int32) < 0 by decide) (c_f (nI_pos (by omega)) (c_add (fun m => K none m) h5 h6 k))
  | some j =>
    rw [h1] at k
    have := pIx_lt h1
    have e : (wdS 2).length = 8 := by decide
    exact c_f (nI_pos (by omega)) (c_add (fun m => K none m) h5 h6 k)
theorem c_addNumber (hS : Stat M) (hL : zI M 20 1 = nI L) (hL2 : L ≤ 200) (hq : q < L) (hl : isLb (zI M 21 q) = false) (hd : isDb (zI M 21 q) = true) (h5 : zI M 20 5 = nI c) (h6 : c < 201) (k : K none (addM M c (kdF s (zI M 21) L q) (nI q) (ceF s (zI M 21) L q))) : AW E l (d + 1) nc ns mX8_addNumber 0 (zargs 5 [.ref 20, .int (nI q), .int (nI (rN isDb (zI M 21) L q))]) [] M K := by
  have te : tE (zI M 21) L q = rN isDb (zI M 21) L q := by unfold tE; rw [if_neg (by rw [hl]; decide), if_pos hd]
  have g := tE_gt (by_ := zI M 21) hq
  rw [te] at g
  have kk : kdF s (zI M 21) L q = (if rN isDb (zI M 21) L q - q ≤ 5 then 20 else 22) := by
    unfold kdF
    rw [if_neg (by omega), if_neg (by rw [hl]; decide), if_pos hd, te]
  have kc : ceF s (zI M 21) L q = nvF (zI M 21) q (rN isDb (zI M 21) L q - q) := by
    unfold ceF
    rw [if_neg (by omega), if_neg (by rw [hl]; decide), if_pos hd, te]
  rw [kk, kc] at k
  clear kk kc te
  revert k g
  generalize rN isDb (zI M 21) L q = t
  intro k g
  refine t_X8_addNumber hS ?_
  suffices h : AW E l (d + 1) nc ns mX8_addNumber 5 [some (.ref 20), some (.int (nI q)), some (.int (nI t)), some (.int (nvF (zI M 21) q 0)), some (.int (nI (q + 0)))] [] M K from h
  refine lpd (P := fun i => AW E l (d + 1) nc ns mX8_addNumber 5 [some (.ref 20), some (.int (nI q)), some (.int (nI t)), some (.int (nvF (zI M 21) q i)), some (.int (nI (q + i)))] [] M K) (n := t - q) ?_ ?_
  · refine t_X8_addNumber_5 hS (c_t (by rw [nI_leI (by omega) (by omega)]; omega) ?_)
    rw [nI_sb (by omega), show (5 : Int32) = nI 5 from rfl, nI_ltI (by decide) (by omega)]
    refine ⟨fun z => ?_, fun z => ?_⟩
    · rw [if_neg (by omega)] at k
      exact c_add (fun m => K none m) h5 h6 k
    · rw [if_pos (by omega)] at k
      exact c_add (fun m => K none m) h5 h6 k
  · intro i hi ih
    refine t_X8_addNumber_5 hS (c_f (by rw [nI_leI (by omega) (by omega)]; omega) (c_f (nI_pos (by omega)) (c_f (by rw [hL, nI_leI (by omega) (by omega)]; omega) (c_f (by rw [show (200 : Int32) = nI 200 from rfl, nI_leI (by decide) (by omega)]; omega) ⟨vp_in_nI (by omega) (by decide), ?_⟩))))
    rw [nI_clamp (by omega), nI_1]
    exact ih
theorem c_splG (hS0 : Stat M0) (hc0 : CST M0) (hs : s = 1 ∨ s = 4) (hL : zI M0 20 1 = nI L) (hL2 : L ≤ 200) (hb : ∀ j, j < L → rng (zI M0 21 j) 0 255) (k : ∀ N μ', SPs s (zI M0 21) L M0 μ' N L → K none (addM μ' N 23 (nI L) 0)) : ∀ n x3 q c M, L - q ≤ n → x3 ≤ q → SPs s (zI M0 21) L M0 M c q → AW E l (d + 7) nc ns mX8_split 9 [some (.ref 20), some (.ref s), some (.int (nI q)), some (.int (nI x3)), none, none] [] M K := by
  intro n
  induction n with
  | zero =>
    intro x3 q c M hn h3 h
    have hS := h.1.st hS0
    have e1 : zI M 20 1 = nI L := (h.1.i (by unfold WT; omega)).trans hL
    have hq : q = L := by have := h.2.2.2.2.1; omega
    have hcq := h.2.2.2.2.2
    rw [hq] at h hcq h3 ⊢
    have fin : AW E l (d + 7) nc ns mX8_split 127 [some (.ref 20), none, none, none, none, none] [] M K := by
      refine t_X8_split_127 hS ?_
      rw [e1]
      exact c_add (fun m => K none m) h.2.1 (by omega) (k c M h)
    exact t_X8_split_9 hS ⟨fun _ => fin, fun _ => c_t (by rw [e1, nI_leI (by omega) (by omega)]; omega) fin⟩
  | succ n ih =>
    intro x3 q c M hn h3 h
    by_cases hq : q < L
    · have hS := h.1.st hS0
      have hc := h.1.cst (fun b j z => by unfold WT at z; omega) hc0
      have e1 : zI M 20 1 = nI L := (h.1.i (by unfold WT; omega)).trans hL
      have e21 : zI M 21 = zI M0 21 := funext fun j => h.1.i (by unfold WT; omega)
      have h5 := h.2.1
      have hcq := h.2.2.2.2.2
      have hnl : ¬ zI M 20 1 ≤ nI q := by rw [e1, nI_leI (by omega) (by omega)]; omega
      refine t_X8_split_9 hS (c_f (by rw [show (200 : Int32) = nI 200 from rfl, nI_leI (by decide) (by omega)]; omega) (c_f hnl (c_f (nI_pos (by omega)) (c_f hnl (c_f (by rw [show (200 : Int32) = nI 200 from rfl, nI_leI (by decide) (by omega)]; omega) ⟨vp_in_nI (by omega) (by decide), ?_⟩)))))
      rw [nI_clamp (by omega), nI_1]
      refine lt_tree (fun hl => ?_) (fun hl hd => ?_) (fun hl hd => ?_)
      · have te : tE (zI M 21) L q = rN isLb (zI M 21) L q := by unfold tE; rw [if_pos hl]
        have g := tE_gt (by_ := zI M 21) hq
        refine c_eow hS e1 hL2 (by omega) ⟨_, rfl, hS, c_addWord hS hc hs e1 hL2 hq hl h5 (by omega) ⟨rfl, ?_, ?_⟩⟩
        · exact hS
        · rw [← te]
          refine t_X8_split_118 (by exact hS) ?_
          rw [nI_1]
          rw [e21] at hl g ⊢
          exact ih (x3 + 1) _ (c + 1) _ (by omega) (by omega) (h.add hq (ld_s.1 hl))
      · have te : tE (zI M 21) L q = rN isDb (zI M 21) L q := by unfold tE; rw [if_neg (by rw [hl]; decide), if_pos hd]
        have g := tE_gt (by_ := zI M 21) hq
        refine c_eon hS e1 hL2 (by omega) ⟨_, rfl, hS, c_addNumber (s := s) hS e1 hL2 hq hl hd h5 (by omega) ⟨rfl, ?_, ?_⟩⟩
        · exact hS
        · rw [← te]
          refine t_X8_split_118 (by exact hS) ?_
          rw [nI_1]
          rw [e21] at hd g ⊢
          exact ih (x3 + 1) _ (c + 1) _ (by omega) (by omega) (h.add hq (ld_s.2 hd))
      · have te : tE (zI M0 21) L q = q + 1 := by unfold tE; rw [← e21, if_neg (by rw [hl]; decide), if_neg (by rw [hd]; decide)]
        refine ⟨fun z => ?_, fun z => ?_⟩
        · refine t_X8_split_118 hS ?_
          rw [nI_1]
          have sp : isSb (zI M0 21 q) = true := by unfold isSb; rw [← e21, z]; decide
          exact ih (x3 + 1) (q + 1) c _ (by omega) (by omega) ⟨h.1, h.2.1, h.2.2.1, (skF_sp hq sp).trans h.2.2.2.1, by omega, by omega⟩
        · obtain ⟨b, hb1, hb2⟩ := rng_n (hb q hq)
          have sp : isSb (zI M0 21 q) = false := by unfold isSb; rw [← e21, decide_eq_false_iff_not]; exact z
          have ad := h.add hq sp
          rw [te] at ad
          have kc : ceF s (zI M0 21) L q = 0 := by unfold ceF; rw [if_neg (by omega), if_neg (by rw [← e21, hl]; decide), if_neg (by rw [← e21, hd]; decide)]
          have kk : kdF s (zI M0 21) L q = if zI M0 21 q ∈ zB3 then zI M0 21 q else 22 := by unfold kdF; rw [if_neg (by omega), if_neg (by rw [← e21, hl]; decide), if_neg (by rw [← e21, hd]; decide)]
          rw [kk, kc] at ad
          have go : AW E l (d + 7) nc ns mX8_split 113 [some (.ref 20), some (.ref s), some (.int (nI q)), some (.int (nI x3)), none, some (.int (nI (q + 1)))] [.int (if zI M0 21 q ∈ zB3 then zI M0 21 q else 22), .ref 20] M K := by
            refine t_X8_split_113 hS (c_add (fun m => AW E l (d + 7) nc ns mX8_split 118 [some (.ref 20), some (.ref s), none, some (.int (nI x3)), none, some (.int (nI (q + 1)))] [] m K) h5 (by omega) ?_)
            refine t_X8_split_118 (by exact hS) ?_
            rw [nI_1]
            exact ih (x3 + 1) (q + 1) (c + 1) _ (by omega) (by omega) ad
          rw [e21, hb2, sg_c b hb1]
          rw [hb2] at go
          refine c_idx hS hc hb1 (fun r hr => ⟨r, rfl, hS, fun y => ?_, fun y => ?_⟩)
          · rw [if_neg (hr.mp y)] at go
            exact go
          · rw [if_pos (Decidable.not_not.mp (fun w => y (hr.mpr w)))] at go
            exact go
    · have hq' : L - q ≤ n := by omega
      exact ih x3 q c M hq' h3 h
/-- the tape in tokens -/
def TB (s : Nat) (by_ : Nat → Int32) (L : Nat) (μ : ZM) (N : Nat) : Prop := zI μ 20 5 = nI (N + 1) ∧ N ≤ L ∧ plF by_ L N = L ∧ (∀ a, a < N → plF by_ L a < L) ∧ ∀ a, a ≤ N → TBa s by_ L μ a
theorem c_split (hS0 : Stat M0) (hc0 : CST M0) (hs : s = 1 ∨ s = 4) (hL : zI M0 20 1 = nI L) (hL2 : L ≤ 200) (hb : ∀ j, j < L → rng (zI M0 21 j) 0 255) (k : ∀ N μ', Stat μ' → Fx WT M0 μ' → TB s (zI M0 21) L μ' N → K none μ') : AW E l (d + 7) nc ns mX8_split 0 (zargs 6 [.ref 20, .ref s]) [] M0 K := by
  refine t_X8_split hS0 ?_
  refine c_splG hS0 hc0 hs hL hL2 hb (fun N μ' h => ?_) L 0 0 0 _ (by omega) (by omega) ⟨Fx.rfl.wi (Or.inl ⟨rfl, rfl⟩), zI_eq, fun a ha => by omega, rfl, by omega, by omega⟩
  obtain ⟨h1, h2, h3, h4, h5, h6⟩ := h
  rw [skF_L (Nat.le_refl _)] at h4
  refine k N _ (h1.add.st hS0) h1.add ⟨zI_eq, h6, h4.symm, fun a ha => (h3 a ha).2, fun a ha => ?_⟩
  by_cases c' : a = N
  · rw [c']
    have := addM_n (s := s) (μ := μ') h4.symm
    unfold kdF ceF at this
    rw [if_pos (Nat.le_refl _), if_pos (Nat.le_refl _)] at this
    exact this
  · exact addM_o (h3 a (by omega)).1 c'
end Spl
