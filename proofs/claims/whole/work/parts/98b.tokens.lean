/-! the tape's tokens -/
def isLb (x : Int32) : Bool := !decide (x < 97) && !decide (122 < x)
def isDb (x : Int32) : Bool := !decide (x < 48) && !decide (57 < x)
def isSb (x : Int32) : Bool := decide (x = 32)
def rE (p : Int32 → Bool) (by_ : Nat → Int32) (L : Nat) : Nat → Nat → Nat
  | 0, q => q
  | n + 1, q => if p (by_ q) then rE p by_ L n (q + 1) else q
def rN (p : Int32 → Bool) (by_ : Nat → Int32) (L q : Nat) : Nat := rE p by_ L (L - q) q
theorem rE_le {p : Int32 → Bool} {by_ : Nat → Int32} {L : Nat} : ∀ n q, q ≤ rE p by_ L n q ∧ rE p by_ L n q ≤ q + n
  | 0, q => ⟨Nat.le_refl _, Nat.le_refl _⟩
  | n + 1, q => by
    unfold rE
    split
    · have := rE_le (p := p) (by_ := by_) (L := L) n (q + 1)
      omega
    · omega
theorem rE_in {p : Int32 → Bool} {by_ : Nat → Int32} {L : Nat} : ∀ n q j, q ≤ j → j < rE p by_ L n q → p (by_ j) = true
  | 0, q, j, h1, h2 => by
    unfold rE at h2
    omega
  | n + 1, q, j, h1, h2 => by
    unfold rE at h2
    split at h2
    · next c =>
      by_cases e : j = q
      · rw [e]; exact c
      · exact rE_in n (q + 1) j (by omega) h2
    · omega
theorem rE_out {p : Int32 → Bool} {by_ : Nat → Int32} {L : Nat} : ∀ n q, rE p by_ L n q < q + n → p (by_ (rE p by_ L n q)) = false
  | 0, q, h => by
    unfold rE at h
    omega
  | n + 1, q, h => by
    unfold rE at h ⊢
    split
    · next c =>
      rw [if_pos c] at h
      exact rE_out n (q + 1) (by omega)
    · next c => exact Bool.eq_false_iff.mpr c
theorem rN_le {p : Int32 → Bool} {by_ : Nat → Int32} {L q : Nat} (h : q ≤ L) : q ≤ rN p by_ L q ∧ rN p by_ L q ≤ L := by
  have := rE_le (p := p) (by_ := by_) (L := L) (L - q) q
  unfold rN
  omega
theorem rN_gt {p : Int32 → Bool} {by_ : Nat → Int32} {L q : Nat} (h : q < L) (hp : p (by_ q) = true) : q < rN p by_ L q := by
  unfold rN
  rw [show L - q = (L - q - 1) + 1 by omega]
  unfold rE
  rw [if_pos hp]
  have := rE_le (p := p) (by_ := by_) (L := L) (L - q - 1) (q + 1)
  omega
/-- the end of the token at a place -/
def tE (by_ : Nat → Int32) (L q : Nat) : Nat := if isLb (by_ q) then rN isLb by_ L q else if isDb (by_ q) then rN isDb by_ L q else q + 1
theorem tE_gt {by_ : Nat → Int32} {L q : Nat} (h : q < L) : q < tE by_ L q ∧ tE by_ L q ≤ L := by
  unfold tE
  split
  · next c => exact ⟨rN_gt h c, (rN_le (by omega)).2⟩
  · split
    · next c => exact ⟨rN_gt h c, (rN_le (by omega)).2⟩
    · omega
/-- spaces passed over, and the places of the tokens -/
def skF (by_ : Nat → Int32) (L q : Nat) : Nat := rN isSb by_ L q
def plF (by_ : Nat → Int32) (L : Nat) : Nat → Nat
  | 0 => skF by_ L 0
  | a + 1 => if plF by_ L a < L then skF by_ L (tE by_ L (plF by_ L a)) else L
theorem skF_sp {by_ : Nat → Int32} {L q : Nat} (h : q < L) (hp : isSb (by_ q) = true) : skF by_ L (q + 1) = skF by_ L q := by
  unfold skF rN
  rw [show L - q = (L - (q + 1)) + 1 by omega]
  conv => rhs; unfold rE
  rw [if_pos hp]
theorem skF_no {by_ : Nat → Int32} {L q : Nat} (hp : isSb (by_ q) = false) : skF by_ L q = q := by
  unfold skF rN
  cases L - q with
  | zero => rfl
  | succ n =>
    unfold rE
    rw [if_neg (by rw [hp]; decide)]
theorem skF_L {by_ : Nat → Int32} {L q : Nat} (h : L ≤ q) : skF by_ L q = q := by
  unfold skF rN
  rw [show L - q = 0 by omega]
  rfl
theorem skF_ns {by_ : Nat → Int32} {L q : Nat} (h : skF by_ L q < L) : isSb (by_ (skF by_ L q)) = false := by
  unfold skF rN at h ⊢
  by_cases c : q < L
  · exact rE_out _ _ (by omega)
  · rw [show L - q = 0 by omega] at h
    exact absurd h (by show ¬ q < L; exact c)
theorem plF_le {by_ : Nat → Int32} {L : Nat} : ∀ a, plF by_ L a ≤ L
  | 0 => (rN_le (Nat.zero_le _)).2
  | a + 1 => by
    unfold plF
    split
    · next c => exact (rN_le (tE_gt c).2).2
    · exact Nat.le_refl _
theorem plF_gt {by_ : Nat → Int32} {L a : Nat} (h : plF by_ L a < L) : plF by_ L a < plF by_ L (a + 1) := by
  conv => rhs; unfold plF
  rw [if_pos h]
  have h1 := tE_gt (by_ := by_) h
  have h2 := (rN_le (p := isSb) (by_ := by_) h1.2).1
  unfold skF
  omega
theorem plF_s {by_ : Nat → Int32} {L a : Nat} (h : plF by_ L a < L) : plF by_ L (a + 1) = skF by_ L (tE by_ L (plF by_ L a)) := by
  conv => lhs; unfold plF
  rw [if_pos h]
/-- a number's value -/
def nvF (by_ : Nat → Int32) (q : Nat) : Nat → Int32
  | 0 => 0
  | n + 1 => nvF by_ q n * 10 + by_ (q + n) - 48
def kdF (a : Nat) (by_ : Nat → Int32) (L q : Nat) : Int32 := if L ≤ q then 23 else if isLb (by_ q) then (match pIx by_ q (tE by_ L q) 0 wsW with
  | some k => nI k
  | none => match pIx by_ q (tE by_ L q) 0 (wdS a) with
    | some _ => 21
    | none => 22) else if isDb (by_ q) then (if tE by_ L q - q ≤ 5 then 20 else 22) else if by_ q ∈ zB3 then by_ q else 22
def ceF (a : Nat) (by_ : Nat → Int32) (L q : Nat) : Int32 := if L ≤ q then 0 else if isLb (by_ q) then (match pIx by_ q (tE by_ L q) 0 wsW with
  | some _ => 0
  | none => 100000 + oI (pIx by_ q (tE by_ L q) 0 (wdS a))) else if isDb (by_ q) then nvF by_ q (tE by_ L q - q) else 0
section Tok
variable {E : ZE} {l : Launch} {d nc ns : Nat} {M : ZM} {K : Option Value → ZM → Prop} {a q L : Nat}
theorem c_eow (hS : Stat M) (hL : zI M 20 1 = nI L) (hL2 : L ≤ 200) (hq : q ≤ L) (k : K (some (.int (nI (rN isLb (zI M 21) L q)))) M) : AW E l (d + 1) nc ns mX8_endOfWord 0 (zargs 3 [.ref 20, .int (nI q)]) [] M K := by
  refine t_X8_endOfWord hS ?_
  have : ∀ n q, q + n = L → K (some (.int (nI (rE isLb (zI M 21) L n q)))) M → AW E l (d + 1) nc ns mX8_endOfWord 2 [some (.ref 20), none, some (.int (nI q))] [] M K := by
    intro n
    induction n with
    | zero =>
      intro q hq k
      refine t_X8_endOfWord_2 hS (c_t ?_ k)
      rw [hL, nI_leI (by omega) (by omega)]
      omega
    | succ n ih =>
      intro q hq k
      have c1 : ¬ zI M 20 1 ≤ nI q := by rw [hL, nI_leI (by omega) (by omega)]; omega
      refine t_X8_endOfWord_2 hS (c_f c1 (c_f (nI_pos (by omega)) (c_f c1 (c_f (by rw [show (200 : Int32) = nI 200 from rfl, nI_leI (by decide) (by omega)]; omega) ⟨vp_in_nI (by omega) (by decide), ?_⟩))))
      rw [nI_clamp (by omega)]
      unfold rE isLb at k
      refine ⟨fun z => ?_, fun z => ⟨fun y => ?_, fun y => ?_⟩⟩
      · rw [if_neg (by simp [z])] at k
        exact k
      · rw [if_neg (by simp [y])] at k
        exact k
      · rw [if_pos (by simp [z, y])] at k
        rw [nI_1]
        exact ih (q + 1) (by omega) k
  exact this (L - q) q (by omega) k
theorem c_eon (hS : Stat M) (hL : zI M 20 1 = nI L) (hL2 : L ≤ 200) (hq : q ≤ L) (k : K (some (.int (nI (rN isDb (zI M 21) L q)))) M) : AW E l (d + 1) nc ns mX8_endOfNumber 0 (zargs 3 [.ref 20, .int (nI q)]) [] M K := by
  refine t_X8_endOfNumber hS ?_
  have : ∀ n q, q + n = L → K (some (.int (nI (rE isDb (zI M 21) L n q)))) M → AW E l (d + 1) nc ns mX8_endOfNumber 2 [some (.ref 20), none, some (.int (nI q))] [] M K := by
    intro n
    induction n with
    | zero =>
      intro q hq k
      refine t_X8_endOfNumber_2 hS (c_t ?_ k)
      rw [hL, nI_leI (by omega) (by omega)]
      omega
    | succ n ih =>
      intro q hq k
      have c1 : ¬ zI M 20 1 ≤ nI q := by rw [hL, nI_leI (by omega) (by omega)]; omega
      refine t_X8_endOfNumber_2 hS (c_f c1 (c_f (nI_pos (by omega)) (c_f c1 (c_f (by rw [show (200 : Int32) = nI 200 from rfl, nI_leI (by decide) (by omega)]; omega) ⟨vp_in_nI (by omega) (by decide), ?_⟩))))
      rw [nI_clamp (by omega)]
      unfold rE isDb at k
      refine ⟨fun z => ?_, fun z => ⟨fun y => ?_, fun y => ?_⟩⟩
      · rw [if_neg (by simp [z])] at k
        exact k
      · rw [if_neg (by simp [y])] at k
        exact k
      · rw [if_pos (by simp [z, y])] at k
        rw [nI_1]
        exact ih (q + 1) (by omega) k
  exact this (L - q) q (by omega) k
end Tok
/-! which sign -/
theorem rng_n {x : Int32} (h : rng x 0 255) : ∃ n, n < 256 ∧ x = nI n := by
  obtain ⟨h1, h2⟩ := h
  obtain ⟨n, hn, e⟩ := nI_of (x := x) (by rw [i_lt]; show ¬ x.toInt < 0; omega)
  rw [e, nI_tI hn] at h2
  exact ⟨n, by omega, e⟩
theorem sg_b : ∀ n, n < 256 → ∀ j, j < 11 → ((zB3.getD j 0 = (nI n).toInt8.toInt32) = (zB3.getD j 0 = nI n)) := by
  have : ∀ n, n < 256 → ∀ j, j < 11 → (decide (zB3.getD j 0 = (nI n).toInt8.toInt32) = decide (zB3.getD j 0 = nI n)) := by decide +kernel
  intro n hn j hj
  have := this n hn j hj
  simpa using this
theorem sg_c : ∀ n, n < 256 → ((nI n).toUInt32 % 65536).toInt32 = nI n := by decide +kernel
section Sgn
variable {E : ZE} {l : Launch} {d nc ns : Nat} {M : ZM} {K : Option Value → ZM → Prop} {n : Nat}
theorem c_idx (hS : Stat M) (hc : CST M) (hn : n < 256) (k : ∀ r : Int32, (r < 0 ↔ ¬ nI n ∈ zB3) → K (some (.int r)) M) : AW E l (d + 6) nc ns mJ0_indexOf_0f7a4 0 (zargs 2 [.ref 3, .int (nI n)]) [] M K := by
  obtain ⟨k1, k2, k3, k4⟩ := st_s hS (a := 3) (by decide) (by decide)
  have k4 : zL M 7 = 11 := k4
  have z11 : zB3.length = 11 := by decide
  refine t_J0_indexOf_0f7a4 hS ⟨k1, ?_⟩
  refine t_J0_indexOf_7cf53 hS ⟨k1, fun b hb => ?_⟩
  rw [k2] at hb
  cases hb
  refine c_length hS (a := 3) (by decide) (by decide) ⟨_, rfl, hS, ?_⟩
  refine t_J1_indexOf_4cfef hS (c_f (nI_pos (by omega)) (c_f (by rw [show (255 : Int32) = nI 255 from rfl, nI_ltI (by decide) (by omega)]; omega) ⟨k3, c_t ?_ ?_⟩))
  · rw [show (if (0 : Int32) < 0 then (0 : Int32) else 0) = 0 from rfl]
    rw [show zL M (3 + 4) = 11 from k4]
    show (0 : Int32) < (if nI 11 < nI 11 then nI 11 else nI 11)
    decide
  · rw [show zL M (3 + 4) = 11 from k4]
    show AW E l (d + 3) 0 0 mJ1_indexOfChar_4cfef 0 (zargs 6 [.ref 7, .int (nI n), .int 0, .int (nI 11)]) [] M _
    refine t_J1_indexOfChar_4cfef hS ?_
    suffices h : (∀ j, j < 0 → ¬ zB3.getD j 0 = nI n) → AW E l (d + 3) 0 0 mJ1_indexOfChar_4cfef 7 [some (.ref 7), none, none, some (.int (nI 11)), some (.int (nI n).toInt8.toInt32), some (.int (nI 0))] [] M (fun v μ5 => ∃ r7 : Int32, v = some (.int r7) ∧ Stat μ5 ∧ (∃ r9 : Int32, some (Value.int r7) = some (.int r9) ∧ Stat μ5 ∧ (∃ r4 : Int32, some (Value.int r9) = some (.int r4) ∧ Stat μ5 ∧ K (some (.int r4)) μ5))) from h (fun j hj => by omega)
    refine lpd (P := fun i => (∀ j, j < i → ¬ zB3.getD j 0 = nI n) → AW E l (d + 3) 0 0 mJ1_indexOfChar_4cfef 7 [some (.ref 7), none, none, some (.int (nI 11)), some (.int (nI n).toInt8.toInt32), some (.int (nI i))] [] M (fun v μ5 => ∃ r7 : Int32, v = some (.int r7) ∧ Stat μ5 ∧ (∃ r9 : Int32, some (Value.int r7) = some (.int r9) ∧ Stat μ5 ∧ (∃ r4 : Int32, some (Value.int r9) = some (.int r4) ∧ Stat μ5 ∧ K (some (.int r4)) μ5)))) (n := 11) ?_ ?_
    · intro h
      refine t_J1_indexOfChar_4cfef_7 hS (c_t (by decide) ⟨_, rfl, hS, _, rfl, hS, _, rfl, hS, k _ ⟨fun _ z => ?_, fun _ => by decide⟩⟩)
      obtain ⟨j, hj, e⟩ := List.getElem_of_mem z
      refine h j (by omega) ?_
      rw [List.getD_eq_getElem?_getD, List.getElem?_eq_getElem hj]
      exact e
    · intro i hi ih h
      refine t_J1_indexOfChar_4cfef_7 hS (c_f (by rw [nI_leI (by decide) (by omega)]; omega) ⟨k3, by rw [show zL M 7 = 11 from k4]; exact vp_in_nI hi (by decide), ?_⟩)
      rw [nI_clamp (by omega), hc.2.2.1 i hi]
      refine ⟨fun z => ?_, fun z => ⟨_, rfl, hS, _, rfl, hS, _, rfl, hS, k _ ⟨fun y => absurd y (nI_pos (by omega)), fun y => absurd ?_ y⟩⟩⟩
      · rw [nI_1]
        refine ih (fun j hj => ?_)
        by_cases c : j = i
        · rw [c]
          rw [sg_b n hn i hi] at z
          exact z
        · exact h j (by omega)
      · rw [sg_b n hn i hi] at z
        rw [← z]
        exact getD_mem (by omega)
end Sgn
