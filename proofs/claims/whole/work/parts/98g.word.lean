/-! words and their numbers -/
def hwF (f : Nat → Nat) : Nat → Nat
  | 0 => 0
  | n + 1 => 27 * hwF f n + f n
theorem hwF_s {f : Nat → Nat} {n : Nat} : hwF f (n + 1) = 27 * hwF f n + f n := rfl
theorem hwF_inj {f g : Nat → Nat} : ∀ {n m : Nat}, (∀ i, i < n → 1 ≤ f i ∧ f i ≤ 26) → (∀ i, i < m → 1 ≤ g i ∧ g i ≤ 26) → hwF f n = hwF g m → n = m ∧ ∀ i, i < n → f i = g i
  | 0, 0, _, _, _ => ⟨rfl, fun i hi => by omega⟩
  | 0, m + 1, _, h2, e => by
    have := h2 m (by omega)
    have e : 0 = 27 * hwF g m + g m := e
    omega
  | n + 1, 0, h1, _, e => by
    have := h1 n (by omega)
    have e : 27 * hwF f n + f n = 0 := e
    omega
  | n + 1, m + 1, h1, h2, e => by
    have e : 27 * hwF f n + f n = 27 * hwF g m + g m := e
    have a1 := h1 n (by omega)
    have a2 := h2 m (by omega)
    obtain ⟨r1, r2⟩ := hwF_inj (n := n) (m := m) (fun i hi => h1 i (by omega)) (fun i hi => h2 i (by omega)) (by omega)
    refine ⟨by omega, fun i hi => ?_⟩
    by_cases c : i = n
    · rw [c]
      have : f n = g m := by omega
      rw [this, r1]
    · exact r2 i (by omega)
theorem hwF_lt {f : Nat → Nat} : ∀ {n : Nat}, (∀ i, i < n → f i ≤ 26) → hwF f n < 27 ^ n
  | 0, _ => (show 0 < 1 by decide)
  | n + 1, h => by
    have a1 := h n (by omega)
    have := hwF_lt (n := n) (fun i hi => h i (by omega))
    show 27 * hwF f n + f n < 27 ^ (n + 1)
    rw [Nat.pow_succ]
    omega
theorem hwF_12 {f : Nat → Nat} {n : Nat} (h : ∀ i, i < n → f i ≤ 26) (hn : n ≤ 12) : hwF f n < 2 ^ 62 := Nat.lt_of_lt_of_le (hwF_lt h) (Nat.le_trans (Nat.pow_le_pow_right (by decide) hn) (by decide))
theorem p6263 : (2 : Nat) ^ 62 < 2 ^ 63 := by decide
theorem l27 : (27 : Int64) = lN 27 := rfl
theorem l96 : (96 : Int64) = lN 96 := rfl
theorem lN_inj {a b : Nat} (ha : a < 2 ^ 63) (hb : b < 2 ^ 63) : lN a = lN b ↔ a = b := by
  refine ⟨fun h => ?_, fun h => by rw [h]⟩
  have := congrArg Int64.toInt h
  unfold lN at this
  rw [lg_ofNat_toInt ha, lg_ofNat_toInt hb] at this
  omega
/-- a word's number -/
def wd1 (w : List Int32) (i : Nat) : Nat := tN (w.getD i 0) - 96
def hwL (w : List Int32) : Nat := hwF (wd1 w) w.length
def okW (w : List Int32) : Bool := decide (w.length ≤ 12) && w.all (fun x => decide (97 ≤ x) && decide (x ≤ 122))
theorem okW_i {w : List Int32} (h : okW w = true) : w.length ≤ 12 ∧ ∀ i, i < w.length → ∃ n, 97 ≤ n ∧ n ≤ 122 ∧ w.getD i 0 = nI n := by
  unfold okW at h
  rw [Bool.and_eq_true, decide_eq_true_eq, List.all_eq_true] at h
  refine ⟨h.1, fun i hi => ?_⟩
  have := h.2 _ (getD_mem hi)
  rw [Bool.and_eq_true, decide_eq_true_eq, decide_eq_true_eq] at this
  obtain ⟨t1, t2⟩ := this
  rw [i_le] at t1 t2
  have t1 : (97 : Int) ≤ (w.getD i 0).toInt := t1
  have t2 : (w.getD i 0).toInt ≤ (122 : Int) := t2
  obtain ⟨n, n1, n2⟩ := rng_n (x := w.getD i 0) ⟨by omega, by omega⟩
  rw [n2, nI_tI (by omega)] at t1 t2
  exact ⟨n, by omega, by omega, n2⟩
/-- the token at q is this word -/
def wq (by_ : Nat → Int32) (L q : Nat) (w : List Int32) : Prop := q < L ∧ isLb (by_ q) = true ∧ wEq by_ q (tE by_ L q) w
def bw (by_ : Nat → Int32) (q i : Nat) : Nat := tN (by_ (q + i)) - 96
theorem tN_n {n : Nat} (h : n < 2 ^ 31) : tN (nI n) = n := nI_clamp h
theorem cmp_w {f g : Nat → Nat} {n m : Nat} (f1 : ∀ i, i < n → 1 ≤ f i ∧ f i ≤ 26) (f2 : ∀ i, i < m → 1 ≤ g i ∧ g i ≤ 26) (hn : n ≤ 12) (hm : m ≤ 12) : lg_cmp (lN (hwF f n)) (lN (hwF g m)) = 0 ↔ hwF f n = hwF g m := by
  have h1 := hwF_12 (fun i hi => (f1 i hi).2) hn
  have h2 := hwF_12 (fun i hi => (f2 i hi).2) hm
  rw [lg_cmp_eq, lN_inj (Nat.lt_trans h1 p6263) (Nat.lt_trans h2 p6263)]
theorem bw_v {by_ : Nat → Int32} {q i n : Nat} (h : by_ (q + i) = nI n) (hn : n < 2 ^ 31) : bw by_ q i = n - 96 := by
  unfold bw
  rw [h, tN_n hn]
theorem wd_v {w : List Int32} {i n : Nat} (h : w.getD i 0 = nI n) (hn : n < 2 ^ 31) : wd1 w i = n - 96 := by
  unfold wd1
  rw [h, tN_n hn]
theorem bw_wd {by_ : Nat → Int32} {q i : Nat} {w : List Int32} (h : by_ (q + i) = w.getD i 0) : bw by_ q i = wd1 w i := by
  unfold bw wd1
  rw [h]
theorem hwF_cg {f g : Nat → Nat} : ∀ {n : Nat}, (∀ i, i < n → f i = g i) → hwF f n = hwF g n
  | 0, _ => rfl
  | n + 1, h => by rw [hwF_s, hwF_s, h n (by omega), hwF_cg (n := n) (fun i hi => h i (by omega))]
section Wrd
variable {E : ZE} {l : Launch} {d nc ns : Nat} {μ : ZM} {K : Option Value → ZM → Prop} {by_ : Nat → Int32} {L q : Nat}
theorem tE_in (hq : q < L) (hl : isLb (by_ q) = true) {j : Nat} (h1 : q ≤ j) (h2 : j < tE by_ L q) : isLb (by_ j) = true := by
  unfold tE at h2
  rw [if_pos hl] at h2
  exact rE_in _ _ j h1 h2
theorem r_isWord (hS : Stat μ) (hL2 : L ≤ 200) (hb : ∀ j, j < L → rng (by_ j) 0 255) (hB : BT by_ L μ) (hq : q ≤ L) (hR : RT by_ L μ q) {w : List Int32} (hw : okW w = true) (k1 : wq by_ L q w → K (some (.int 1)) μ) (k0 : ¬ wq by_ L q w → K (some (.int 0)) μ) : AW E l d nc ns mX11_isWord 0 (zargs 6 [.ref 31, .long (lN (hwL w))]) [] μ K := by
  obtain ⟨w1, w2⟩ := okW_i hw
  obtain ⟨r1, r2, r3, -⟩ := hR
  refine t_X11_isWord hS ?_
  rw [r3]
  by_cases c : q < L ∧ isLb (by_ q) = true
  · obtain ⟨hq', hl⟩ := c
    have g := tE_gt (by_ := by_) hq'
    have tk : tkF by_ L q = 1 := by unfold tkF; rw [if_neg (by omega), if_pos hl]
    have ee : eE by_ L q = tE by_ L q := by unfold eE; rw [if_pos hq']
    rw [ee] at r2
    rw [tk, r1, r2, nI_sb (by omega), show (12 : Int32) = nI 12 from rfl, nI_leI (by omega) (by decide)]
    refine op1 (fun _ => ⟨fun z => ?_, fun z => k0 (fun y => ?_)⟩) (fun z => absurd rfl z)
    · have ft : ∀ i, i < tE by_ L q - q → ∃ n, 97 ≤ n ∧ n ≤ 122 ∧ by_ (q + i) = nI n := fun i hi => by
        obtain ⟨n, n1, n2⟩ := rng_n (hb (q + i) (by omega))
        have := tE_in hq' hl (j := q + i) (by omega) (by omega)
        rw [n2] at this
        exact ⟨n, (rb_w n n1 this).1, (rb_w n n1 this).2, n2⟩
      have z0 : (0 : Int64) = lN (hwF (bw by_ q) 0) := by
        have : hwF (bw by_ q) 0 = 0 := rfl
        rw [this]
        rfl
      rw [z0, show nI q = nI (q + 0) by rw [Nat.add_zero]]
      refine lpd (P := fun i => AW E l d nc ns mX11_isWord 32 [some (.ref 31), some (.long (lN (hwL w))), none, some (.long (lN (hwF (bw by_ q) i))), none, some (.int (nI (q + i)))] [] μ K) (n := tE by_ L q - q) ?_ ?_
      · refine t_X11_isWord_32 hS (c_t (by rw [r2, nI_leI (by omega) (by omega)]; omega) ?_)
        have f1 : ∀ i, i < tE by_ L q - q → 1 ≤ bw by_ q i ∧ bw by_ q i ≤ 26 := fun i hi => by
          obtain ⟨n, n1, n2, n3⟩ := ft i hi
          rw [bw_v n3 (by omega)]
          omega
        have f2 : ∀ i, i < w.length → 1 ≤ wd1 w i ∧ wd1 w i ≤ 26 := fun i hi => by
          obtain ⟨n, n1, n2, n3⟩ := w2 i hi
          rw [wd_v n3 (by omega)]
          omega
        unfold hwL
        rw [cmp_w f1 f2 z w1]
        refine op1 (fun e => k1 ⟨hq', hl, ?_⟩) (fun e => k0 (fun y => e ?_))
        · obtain ⟨e1, e2⟩ := hwF_inj f1 f2 e
          refine ⟨by omega, fun i hi => ?_⟩
          have e3 := e2 i (by omega)
          obtain ⟨n, n1, n2, n3⟩ := ft i (by omega)
          obtain ⟨m, m1, m2, m3⟩ := w2 i hi
          rw [bw_v n3 (by omega), wd_v m3 (by omega)] at e3
          have e4 : n = m := by omega
          rw [n3, m3, e4]
        · obtain ⟨y1, y2⟩ := y.2.2
          rw [show tE by_ L q - q = w.length by omega]
          exact hwF_cg (fun i hi => bw_wd (y2 i hi))
      · intro i hi ih
        obtain ⟨n, n1, n2, n3⟩ := ft i hi
        have e := hB.2 (q + i) (by omega)
        have rl := (rb_l n (by omega)).2.2.2
        have ll := tE_in hq' hl (j := q + i) (by omega) (by omega)
        rw [n3] at ll
        rw [n3, rl (Or.inl ll)] at e
        refine t_X11_isWord_32 hS (c_f (by rw [r2, nI_leI (by omega) (by omega)]; omega) ⟨vp_in_nI (by omega) (by decide), ?_⟩)
        rw [nI_clamp (by omega), e, nI_l (by omega), nI_1, l27, lN_mul, lN_add, l96, lN_sub (by omega)]
        have : 27 * hwF (bw by_ q) i + n - 96 = hwF (bw by_ q) (i + 1) := by
          rw [hwF_s]
          unfold bw
          rw [n3, tN_n (by omega)]
          omega
        rw [this]
        exact ih
    · have := y.2.2.1
      omega
  · have tk : ¬ tkF by_ L q = 1 := by
      unfold tkF
      split
      · decide
      · next c1 =>
        split
        · next c2 => exact absurd ⟨by omega, c2⟩ c
        · split
          · split <;> decide
          · split
            · decide
            · next c4 =>
              intro e
              rw [e] at c4
              exact c4 (by decide)
    refine op1 (fun z => absurd z tk) (fun _ => k0 (fun y => c ⟨y.1, y.2.1⟩))
end Wrd
