/-! words and their numbers -/
def hwF (f : Nat → Nat) : Nat → Nat
  | 0 => 0
  | n + 1 => 27 * hwF f n + f n
theorem hwF_inj {f g : Nat → Nat} : ∀ {n m : Nat}, (∀ i, i < n → 1 ≤ f i ∧ f i ≤ 26) → (∀ i, i < m → 1 ≤ g i ∧ g i ≤ 26) → hwF f n = hwF g m → n = m ∧ ∀ i, i < n → f i = g i
  | 0, 0, _, _, _ => ⟨rfl, fun i hi => by omega⟩
  | 0, m + 1, _, h2, e => by
    have := h2 m (by omega)
    have e : 0 = 27 * hwF g m + g m := e
    omega
  | n + 1, 0, h1, _, e => by
    have := h1 n (by omega)
    have e : 27 * hwF f n + f n = 0 := e
    omega
  | n + 1, m + 1, h1, h2, e => by
    have e : 27 * hwF f n + f n = 27 * hwF g m + g m := e
    have a1 := h1 n (by omega)
    have a2 := h2 m (by omega)
    obtain ⟨r1, r2⟩ := hwF_inj (n := n) (m := m) (fun i hi => h1 i (by omega)) (fun i hi => h2 i (by omega)) (by omega)
    refine ⟨by omega, fun i hi => ?_⟩
    by_cases c : i = n
    · rw [c]
      have : f n = g m := by omega
      rw [this, r1]
    · exact r2 i (by omega)
theorem hwF_lt {f : Nat → Nat} : ∀ {n : Nat}, (∀ i, i < n → f i ≤ 26) → hwF f n < 27 ^ n
  | 0, _ => by decide
  | n + 1, h => by
    have a1 := h n (by omega)
    have := hwF_lt (n := n) (fun i hi => h i (by omega))
    show 27 * hwF f n + f n < 27 ^ (n + 1)
    rw [Nat.pow_succ]
    omega
theorem hwF_12 {f : Nat → Nat} {n : Nat} (h : ∀ i, i < n → f i ≤ 26) (hn : n ≤ 12) : hwF f n < 2 ^ 62 := Nat.lt_of_lt_of_le (hwF_lt h) (Nat.le_trans (Nat.pow_le_pow_right (by decide) hn) (by decide))
theorem lN_inj {a b : Nat} (ha : a < 2 ^ 63) (hb : b < 2 ^ 63) : lN a = lN b ↔ a = b := by
  refine ⟨fun h => ?_, fun h => by rw [h]⟩
  have := congrArg Int64.toInt h
  unfold lN at this
  rw [lg_ofNat_toInt ha, lg_ofNat_toInt hb] at this
  omega
/-- a word's number -/
def wd1 (w : List Int32) (i : Nat) : Nat := tN (w.getD i 0) - 96
def hwL (w : List Int32) : Nat := hwF (wd1 w) w.length
def okW (w : List Int32) : Bool := decide (w.length ≤ 12) && w.all (fun x => decide (97 ≤ x) && decide (x ≤ 122))
theorem okW_i {w : List Int32} (h : okW w = true) : w.length ≤ 12 ∧ ∀ i, i < w.length → ∃ n, 97 ≤ n ∧ n ≤ 122 ∧ w.getD i 0 = nI n := by
  unfold okW at h
  rw [Bool.and_eq_true, decide_eq_true_eq, List.all_eq_true] at h
  refine ⟨h.1, fun i hi => ?_⟩
  have := h.2 _ (getD_mem hi)
  rw [Bool.and_eq_true, decide_eq_true_eq, decide_eq_true_eq] at this
  obtain ⟨t1, t2⟩ := this
  rw [i_le] at t1 t2
  have t1 : (97 : Int) ≤ (w.getD i 0).toInt := t1
  have t2 : (w.getD i 0).toInt ≤ (122 : Int) := t2
  obtain ⟨n, n1, n2⟩ := rng_n (x := w.getD i 0) ⟨by omega, by omega⟩
  rw [n2, nI_tI (by omega)] at t1 t2
  exact ⟨n, by omega, by omega, n2⟩
/-- the token at q is this word -/
def wq (by_ : Nat → Int32) (L q : Nat) (w : List Int32) : Prop := q < L ∧ isLb (by_ q) = true ∧ wEq by_ q (tE by_ L q) w
section Wrd
variable {E : ZE} {l : Launch} {d nc ns : Nat} {μ : ZM} {K : Option Value → ZM → Prop} {by_ : Nat → Int32} {L q : Nat}
theorem tE_in (hq : q < L) (hl : isLb (by_ q) = true) {j : Nat} (h1 : q ≤ j) (h2 : j < tE by_ L q) : isLb (by_ j) = true := by
  unfold tE at h2
  rw [if_pos hl] at h2
  exact rE_in _ _ j h1 h2
theorem r_isWord (hS : Stat μ) (hL2 : L ≤ 200) (hb : ∀ j, j < L → rng (by_ j) 0 255) (hB : BT by_ L μ) (hq : q ≤ L) (hR : RT by_ L μ q) {w : List Int32} (hw : okW w = true) (k1 : wq by_ L q w → K (some (.int 1)) μ) (k0 : ¬ wq by_ L q w → K (some (.int 0)) μ) : AW E l d nc ns mX11_isWord 0 (zargs 6 [.ref 31, .long (lN (hwL w))]) [] μ K := by
  obtain ⟨w1, w2⟩ := okW_i hw
  obtain ⟨r1, r2, r3, -⟩ := hR
  refine t_X11_isWord hS ?_
  rw [r3]
  by_cases c : q < L ∧ isLb (by_ q) = true
  · obtain ⟨hq', hl⟩ := c
    have g := tE_gt (by_ := by_) hq'
    have tk : tkF by_ L q = 1 := by unfold tkF; rw [if_neg (by omega), if_pos hl]
    have ee : eE by_ L q = tE by_ L q := by unfold eE; rw [if_pos hq']
    rw [ee] at r2
    rw [tk, r1, r2, nI_sb (by omega), show (12 : Int32) = nI 12 from rfl, nI_leI (by omega) (by decide)]
    refine op1 (fun _ => ⟨fun z => ?_, fun z => k0 (fun y => ?_)⟩) (fun z => absurd rfl z)
    · have ft : ∀ i, i < tE by_ L q - q → ∃ n, 97 ≤ n ∧ n ≤ 122 ∧ by_ (q + i) = nI n := fun i hi => by
        obtain ⟨n, n1, n2⟩ := rng_n (hb (q + i) (by omega))
        have := tE_in hq' hl (j := q + i) (by omega) (by omega)
        rw [n2] at this
        exact ⟨n, (rb_w n n1 this).1, (rb_w n n1 this).2, n2⟩
      suffices h : AW E l d nc ns mX11_isWord 32 [some (.ref 31), some (.long (lN (hwL w))), none, some (.long (lN (hwF (fun i => tN (by_ (q + i)) - 96) 0))), none, some (.int (nI (q + 0)))] [] μ K from h
      refine lpd (P := fun i => AW E l d nc ns mX11_isWord 32 [some (.ref 31), some (.long (lN (hwL w))), none, some (.long (lN (hwF (fun i => tN (by_ (q + i)) - 96) i))), none, some (.int (nI (q + i)))] [] μ K) (n := tE by_ L q - q) ?_ ?_
      · refine t_X11_isWord_32 hS (c_t (by rw [r2, nI_leI (by omega) (by omega)]; omega) ?_)
        have f1 : ∀ i, i < tE by_ L q - q → 1 ≤ tN (by_ (q + i)) - 96 ∧ tN (by_ (q + i)) - 96 ≤ 26 := fun i hi => by
          obtain ⟨n, n1, n2, n3⟩ := ft i hi
          rw [n3, show tN (nI n) = n from nI_clamp (by omega)]
          omega
        have f2 : ∀ i, i < w.length → 1 ≤ wd1 w i ∧ wd1 w i ≤ 26 := fun i hi => by
          obtain ⟨n, n1, n2, n3⟩ := w2 i hi
          unfold wd1
          rw [n3, show tN (nI n) = n from nI_clamp (by omega)]
          omega
        rw [lg_cmp_eq, lN_inj (Nat.lt_trans (hwF_12 (fun i hi => (f1 i hi).2) z) (by decide)) (Nat.lt_trans (hwF_12 (fun i hi => (f2 i hi).2) w1) (by decide))]
        refine op1 (fun e => k1 ⟨hq', hl, ?_⟩) (fun e => k0 (fun y => e ?_))
        · obtain ⟨e1, e2⟩ := hwF_inj f1 f2 e
          refine ⟨by omega, fun i hi => ?_⟩
          have e3 := e2 i (by omega)
          obtain ⟨n, n1, n2, n3⟩ := ft i (by omega)
          obtain ⟨m, m1, m2, m3⟩ := w2 i hi
          unfold wd1 at e3
          rw [n3, m3, show tN (nI n) = n from nI_clamp (by omega), show tN (nI m) = m from nI_clamp (by omega)] at e3
          rw [n3, m3]
          congr 1
          omega
        · obtain ⟨y1, y2⟩ := y.2.2
          unfold hwL
          rw [show tE by_ L q - q = w.length by omega]
          have cg : ∀ n, n ≤ w.length → hwF (fun i => tN (by_ (q + i)) - 96) n = hwF (wd1 w) n := by
            intro n
            induction n with
            | zero => exact fun _ => rfl
            | succ n ih =>
              intro hn
              show 27 * hwF _ n + (tN (by_ (q + n)) - 96) = 27 * hwF (wd1 w) n + wd1 w n
              rw [ih (by omega), y2 n (by omega)]
              rfl
          exact cg _ (Nat.le_refl _)
      · intro i hi ih
        obtain ⟨n, n1, n2, n3⟩ := ft i hi
        have e := hB.2 (q + i) (by omega)
        have rl := (rb_l n (by omega)).2.2.2
        have ll := tE_in hq' hl (j := q + i) (by omega) (by omega)
        rw [n3] at ll
        rw [n3, rl (Or.inl ll)] at e
        refine t_X11_isWord_32 hS (c_f (by rw [r2, nI_leI (by omega) (by omega)]; omega) ⟨vp_in_nI (by omega) (by decide), ?_⟩)
        rw [nI_clamp (by omega), e, nI_l (by omega), nI_1, show (27 : Int64) = lN 27 from rfl, lN_mul, lN_add, show (96 : Int64) = lN 96 from rfl, lN_sub (by omega)]
        have : 27 * hwF (fun i => tN (by_ (q + i)) - 96) i + n - 96 = hwF (fun i => tN (by_ (q + i)) - 96) (i + 1) := by
          show _ = 27 * hwF (fun i => tN (by_ (q + i)) - 96) i + (tN (by_ (q + i)) - 96)
          rw [n3, show tN (nI n) = n from nI_clamp (by omega)]
          omega
        rw [this]
        exact ih
    · have := y.2.2.1
      omega
  · have tk : ¬ tkF by_ L q = 1 := by
      unfold tkF
      split
      · decide
      · next c1 =>
        split
        · next c2 => exact absurd ⟨by omega, c2⟩ c
        · split
          · split <;> decide
          · split
            · decide
            · next c4 =>
              intro e
              rw [e] at c4
              exact c4 (by decide)
    refine op1 (fun z => absurd z tk) (fun _ => k0 (fun y => c ⟨y.1, y.2.1⟩))
end Wrd
