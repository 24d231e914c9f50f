/-! reading what was written -/
section Mem
variable {μ : ZM} {a k b j : Nat} {x : Int32} {y : Int64} {o : Option Nat} {c n : Nat}
theorem zI_sI : zI (sI μ a k x) b j = if b = a ∧ j = k then x else zI μ b j := rfl
theorem zI_sJ : zI (sJ μ a k y) b j = zI μ b j := rfl
theorem zI_sA : zI (sA μ a k o) b j = zI μ b j := rfl
theorem zI_sNew : zI (sNew μ c n) b j = if b = zN μ then 0 else zI μ b j := rfl
theorem zJ_sI : zJ (sI μ a k x) b j = zJ μ b j := rfl
theorem zJ_sJ : zJ (sJ μ a k y) b j = if b = a ∧ j = k then y else zJ μ b j := rfl
theorem zJ_sA : zJ (sA μ a k o) b j = zJ μ b j := rfl
theorem zJ_sNew : zJ (sNew μ c n) b j = if b = zN μ then 0 else zJ μ b j := rfl
theorem zA_sI : zA (sI μ a k x) b j = zA μ b j := rfl
theorem zA_sJ : zA (sJ μ a k y) b j = zA μ b j := rfl
theorem zA_sA : zA (sA μ a k o) b j = if b = a ∧ j = k then o else zA μ b j := rfl
theorem zA_sNew : zA (sNew μ c n) b j = if b = zN μ then none else zA μ b j := rfl
theorem zK_sI : zK (sI μ a k x) b = zK μ b := rfl
theorem zK_sJ : zK (sJ μ a k y) b = zK μ b := rfl
theorem zK_sA : zK (sA μ a k o) b = zK μ b := rfl
theorem zK_sNew : zK (sNew μ c n) b = if b = zN μ then c else zK μ b := rfl
theorem zL_sI : zL (sI μ a k x) b = zL μ b := rfl
theorem zL_sJ : zL (sJ μ a k y) b = zL μ b := rfl
theorem zL_sA : zL (sA μ a k o) b = zL μ b := rfl
theorem zL_sNew : zL (sNew μ c n) b = if b = zN μ then n else zL μ b := rfl
theorem zN_sI : zN (sI μ a k x) = zN μ := rfl
theorem zN_sJ : zN (sJ μ a k y) = zN μ := rfl
theorem zN_sA : zN (sA μ a k o) = zN μ := rfl
theorem zN_sNew : zN (sNew μ c n) = zN μ + 1 := rfl
end Mem
/-! small numbers -/
theorem nI_tI {n : Nat} (h : n < 2 ^ 31) : (nI n).toInt = (n : Int) := nI_toInt h
theorem i_lt {a b : Int32} : a < b ↔ a.toInt < b.toInt := Int32.lt_iff_toInt_lt
theorem i_le {a b : Int32} : a ≤ b ↔ a.toInt ≤ b.toInt := Int32.le_iff_toInt_le
theorem i_eq {a b : Int32} : a = b ↔ a.toInt = b.toInt := Int32.toInt_inj.symm
/-- the price that counts on a day: the latest day not behind it, of several the one told last -/
def bP (day : Int32) (PD : Nat → Int32) : Nat → Option Nat
  | 0 => none
  | n + 1 => match bP day PD n with
    | none => if PD n ≤ day then some n else none
    | some b => if PD n ≤ day ∧ PD b ≤ PD n then some n else some b
def prF (day : Int32) (PD PI : Nat → Int32) (n : Nat) : Int32 := match bP day PD n with
  | none => 0
  | some b => PI b
theorem bP_lt {day : Int32} {PD : Nat → Int32} : ∀ {n b : Nat}, bP day PD n = some b → b < n
  | 0, b, h => by simp [bP] at h
  | n + 1, b, h => by
    simp only [bP] at h
    split at h
    next => split at h <;> simp at h; omega
    next c hc =>
      have := bP_lt hc
      split at h <;> simp at h <;> omega
def bPi (m : Nat) (o : Option Nat) : Int32 := match o with
  | none => -1
  | some b => nI (20 * m + b)
section PriceAt
variable {E : ZE} {l : Launch} {d nc ns : Nat} {μ : ZM} {K : Option Value → ZM → Prop} {m n : Nat} {day : Int32}
theorem c_priceAt_loop (hS : Stat μ) (hm : m < 20) (hn : n ≤ 20) (hc : zI μ 35 m = nI n) (k : K (some (.int (prF day (fun j => zI μ 36 (20 * m + j)) (fun j => zI μ 37 (20 * m + j)) n))) μ) :
    ∀ (r j : Nat), j + r = n → AW E l d nc ns mX11_priceAt 8 [some (.ref 31), some (.int (nI m)), some (.int day), some (.int (bPi m (bP day (fun j => zI μ 36 (20 * m + j)) j))), some (.int (nI (20 * m + j)))] [] μ K := by
  intro r
  induction r with
  | zero =>
    intro j hj
    have hj : j = n := by omega
    subst hj
    refine t_X11_priceAt_8 hS ⟨vp_in_nI hm (by omega), fun _ => ?_, fun q => ?_⟩
    · show (0 ≤ bPi m (bP day _ j) → _) ∧ _
      unfold prF at k
      cases hb : bP day (fun j => zI μ 36 (20 * m + j)) j with
      | none =>
        rw [hb] at k
        exact ⟨fun q => absurd q (show ¬ (0 : Int32) ≤ -1 by decide), fun _ => k⟩
      | some b =>
        rw [hb] at k
        have hlt := bP_lt hb
        show (0 ≤ nI (20 * m + b) → _) ∧ _
        refine ⟨fun _ => ⟨vp_in_nI (by omega) (by omega), ?_⟩, fun q => absurd (nI_pos' (by omega)) q⟩
        show K (some (.int (zI μ 37 (nI (20 * m + b)).toNatClampNeg))) μ
        rw [nI_clamp (by omega)]
        exact k
    · exfalso
      apply q
      rw [nI_clamp (by omega), hc, show (20 : Int32) = nI 20 from rfl, pk_mul, nI_add]
      exact nI_le (Nat.le_refl _) (by omega)
  | succ r ih =>
    intro j hj
    have e1 : (nI (20 * m + j)).toNatClampNeg = 20 * m + j := nI_clamp (by omega)
    have nx := ih (j + 1) (by omega)
    rw [show nI (20 * m + (j + 1)) = nI (20 * m + j) + 1 from (nI_1 _).symm] at nx
    refine t_X11_priceAt_8 hS ⟨vp_in_nI hm (by omega), fun q => ?_, fun _ => ⟨vp_in_nI (by omega) (by omega), ?_⟩⟩
    · exfalso
      rw [nI_clamp (by omega), hc, show (20 : Int32) = nI 20 from rfl, pk_mul, nI_add, nI_leI (by omega) (by omega)] at q
      omega
    · rw [e1]
      simp only [bP] at nx
      refine ⟨fun q => ?_, fun q => ?_⟩
      · have q' : ¬ zI μ 36 (20 * m + j) ≤ day := by rw [Int32.not_le]; exact q
        cases hb : bP day (fun j => zI μ 36 (20 * m + j)) j with
        | none => rw [hb] at nx; simpa [q'] using nx
        | some b => rw [hb] at nx; simpa [q'] using nx
      · have q' : zI μ 36 (20 * m + j) ≤ day := Int32.not_lt.mp q
        cases hb : bP day (fun j => zI μ 36 (20 * m + j)) j with
        | none =>
          rw [hb] at nx
          simp only [q', if_true] at nx
          exact ⟨fun _ => nx, fun z => absurd (show (-1 : Int32) < 0 by decide) z⟩
        | some b =>
          rw [hb] at nx
          have hlt := bP_lt hb
          have e2 : (bPi m (some b)).toNatClampNeg = 20 * m + b := nI_clamp (by omega)
          refine ⟨fun z => absurd z (nI_pos (by omega)), fun _ => ⟨vp_in_nI (by omega) (by omega), vp_in_nI (by omega) (by omega), ?_⟩⟩
          rw [e2]
          refine ⟨fun z => ?_, fun z => ?_⟩
          · have z' : ¬ zI μ 36 (20 * m + b) ≤ zI μ 36 (20 * m + j) := by rw [Int32.not_le]; exact z
            simpa [q', z', bPi] using nx
          · have z' : zI μ 36 (20 * m + b) ≤ zI μ 36 (20 * m + j) := Int32.not_lt.mp z
            simpa [q', z', bPi] using nx
theorem c_priceAt (hS : Stat μ) (hm : m < 20) (hn : n ≤ 20) (hc : zI μ 35 m = nI n) (k : K (some (.int (prF day (fun j => zI μ 36 (20 * m + j)) (fun j => zI μ 37 (20 * m + j)) n))) μ) : AW E l d nc ns mX11_priceAt 0 (zargs 5 [.ref 31, .int (nI m), .int day]) [] μ K := by
  refine t_X11_priceAt hS ?_
  have := c_priceAt_loop (E := E) (l := l) (d := d) (nc := nc) (ns := ns) hS hm hn hc k n 0 (by omega)
  rw [show (20 : Int32) = nI 20 from rfl, pk_mul]
  exact this
end PriceAt
