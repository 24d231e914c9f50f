/-! what the reference's cells say: counts -/
abbrev RV : Type := Nat → Nat → Int32
def tN (x : Int32) : Nat := x.toNatClampNeg
def nM (ρ : RV) : Nat := tN (ρ 31 3)
def nL (ρ : RV) : Nat := tN (ρ 31 18)
def nS (ρ : RV) : Nat := tN (ρ 31 22)
def nA (ρ : RV) : Nat := tN (ρ 31 60)
def nT (ρ : RV) : Nat := tN (ρ 31 42)
def nN (ρ : RV) : Nat := tN (ρ 31 74)
def nU (ρ : RV) : Nat := tN (ρ 31 14)
def tL (ρ : RV) : Nat := tN (ρ 31 41)
def lm (ρ : RV) (i : Nat) : Nat := tN (ρ 45 i)
def sl (ρ : RV) (i : Nat) : Nat := tN (ρ 49 i)
def smo (ρ : RV) (i : Nat) : Nat := lm ρ (sl ρ i)
def as_ (ρ : RV) (i : Nat) : Nat := tN (ρ 74 i)
/-! the desk's objects -/
def maF (μ : ZM) (i : Nat) : Nat := (zA μ 12 i).getD 0
def laF (μ : ZM) (i : Nat) : Nat := (zA μ 13 i).getD 0
def saF (μ : ZM) (i : Nat) : Nat := (zA μ 14 i).getD 0
def aaF (μ : ZM) (i : Nat) : Nat := (zA μ 15 i).getD 0
def taF (μ : ZM) (i : Nat) : Nat := (zA μ 16 i).getD 0
def isN (x : Int32) (n b : Nat) : Prop := x = nI n ∧ n ≤ b
def rng (x : Int32) (lo hi : Int) : Prop := lo ≤ x.toInt ∧ x.toInt ≤ hi
/-- the digit at a place (0 the first of six) -/
def dg (v : Int32) (k : Nat) : Int32 := nI (tN v / 10 ^ (5 - k) % 10)
/-- the reference's own bounds -/
def RIs (ρ : RV) : Prop := isN (ρ 31 3) (nM ρ) 20 ∧ isN (ρ 31 18) (nL ρ) 60 ∧ isN (ρ 31 22) (nS ρ) 300 ∧ isN (ρ 31 60) (nA ρ) 200 ∧ isN (ρ 31 42) (nT ρ) 20 ∧ isN (ρ 31 74) (nN ρ) 200 ∧ isN (ρ 31 41) (tL ρ) 200 ∧ rng (ρ 31 1) 0 71999
def RIm (ρ : RV) (t i : Nat) : Prop := isN (ρ 35 i) (tN (ρ 35 i)) 20 ∧ rng (ρ 32 i) 0 9 ∧ rng (ρ 33 i) 1 99999 ∧ rng (ρ 34 i) 0 9999 ∧ rng (ρ 38 i) 0 t ∧ ∀ j, j < tN (ρ 35 i) → rng (ρ 36 (20 * i + j)) 0 2999 ∧ rng (ρ 37 (20 * i + j)) 0 99999
def RIl (ρ : RV) (i : Nat) : Prop := ρ 45 i = nI (lm ρ i) ∧ lm ρ i < nM ρ ∧ rng (ρ 47 i) 0 99
def bit (x : Int32) : Prop := x = 0 ∨ x = 1
def RIsa (ρ : RV) (i : Nat) : Prop := ρ 49 i = nI (sl ρ i) ∧ sl ρ i < nL ρ ∧ rng (ρ 50 i) 0 20 ∧ rng (ρ 54 i) 0 999 ∧ rng (ρ 52 i) 0 9999 ∧ rng (ρ 53 i) 0 60 ∧ rng (ρ 55 i) 0 (ρ 31 1).toInt ∧ rng (ρ 56 i) 0 99999 ∧ bit (ρ 57 i) ∧ bit (ρ 60 i) ∧ rng (ρ 48 i) 0 3
  ∧ (ρ 58 i = -1 ∨ (rng (ρ 58 i) 0 2999 ∧ (ρ 58 i).toInt ≤ (ρ 31 1 / 24).toInt)) ∧ (ρ 48 i = 2 ↔ 0 ≤ ρ 58 i) ∧ (ρ 60 i = 1 → ρ 48 i = 2) ∧ (ρ 59 i = -1 ∨ (rng (ρ 59 i) 0 2999 ∧ (ρ 55 i / 24).toInt ≤ (ρ 59 i).toInt ∧ (ρ 59 i).toInt ≤ (ρ 31 1 / 24).toInt)) ∧ (ρ 48 i = 2 → ρ 61 i = nI (tN (ρ 61 i)) ∧ tN (ρ 61 i) < nA ρ) ∧ rng (ρ 62 i) 0 2 ∧ rng (ρ 63 i) (-1) 4 ∧ rng (ρ 64 i) 0 2
def RIa (ρ : RV) (i : Nat) : Prop := ρ 74 i = nI (as_ ρ i) ∧ as_ ρ i < nS ρ ∧ rng (ρ 75 i) 0 2 ∧ rng (ρ 76 i) 0 (ρ 31 1 / 24).toInt ∧ rng (ρ 77 i) 0 2999 ∧ rng (ρ 78 i) (ρ 77 i).toInt ((ρ 77 i).toInt + 60) ∧ rng (ρ 79 i) 0 119911
  ∧ (dg (ρ 79 i) 0 ≤ dg (ρ 79 i) 1 ∧ dg (ρ 79 i) 1 ≤ 1 ∧ dg (ρ 79 i) 2 ≤ dg (ρ 79 i) 3 ∧ dg (ρ 79 i) 4 ≤ dg (ρ 79 i) 5 ∧ dg (ρ 79 i) 5 ≤ 1) ∧ bit (ρ 80 i) ∧ bit (ρ 81 i) ∧ rng (ρ 82 i) 0 2
/-- the desk's cells say what the reference's do -/
def CRs (μ : ZM) (ρ : RV) : Prop := zI μ 11 12 = ρ 31 3 ∧ zI μ 11 13 = ρ 31 18 ∧ zI μ 11 14 = ρ 31 22 ∧ zI μ 11 15 = ρ 31 60 ∧ zI μ 11 16 = ρ 31 42 ∧ zI μ 11 17 = ρ 31 1
  ∧ zI μ 17 1 = ρ 31 74 ∧ zI μ 17 2 = ρ 31 2 ∧ zI μ 17 3 = ρ 31 72 ∧ zI μ 17 4 = ρ 31 73 ∧ zI μ 20 1 = ρ 31 41
def CRn (μ : ZM) (ρ : RV) : Prop := (∀ j, j < nN ρ → zI μ 18 j = ρ 85 j) ∧ (∀ j, j < tL ρ → rng (zI μ 21 j) 0 255 ∧ ρ 65 j = (zI μ 21 j).toInt8.toInt32)
def hoF (x : Int32) : Int32 := if x = 2 then 0 else x + 1
def CRh (μ : ZM) (ρ : RV) : Prop := ∀ b, b < 60 → rng (zI μ 30 b) 0 2 ∧ ρ 87 b = hoF (zI μ 30 b)
def CRm (μ : ZM) (ρ : RV) (i : Nat) : Prop := zA μ 12 i = some (maF μ i) ∧ 88 ≤ maF μ i ∧ maF μ i + 2 < zN μ ∧ MdlP μ (maF μ i) (tN (ρ 35 i)) ∧ zI μ (maF μ i) 0 = nI i ∧ zI μ (maF μ i) 1 = ρ 32 i ∧ zI μ (maF μ i) 2 = ρ 33 i ∧ zI μ (maF μ i) 3 = ρ 34 i
  ∧ zI μ (maF μ i) 7 = ρ 38 i ∧ zI μ (maF μ i) 9 = ρ 39 i ∧ zI μ (maF μ i) 10 = ρ 40 i ∧ ∀ j, j < tN (ρ 35 i) → zI μ (maF μ i + 1) j = ρ 36 (20 * i + j) ∧ zI μ (maF μ i + 2) j = ρ 37 (20 * i + j)
def CRl (μ : ZM) (ρ : RV) (i : Nat) : Prop := zA μ 13 i = some (laF μ i) ∧ 88 ≤ laF μ i ∧ laF μ i < zN μ ∧ zK μ (laF μ i) = 2 ∧ zI μ (laF μ i) 0 = nI i ∧ zA μ (laF μ i) 1 = some (maF μ (lm ρ i)) ∧ zI μ (laF μ i) 2 = ρ 47 i
def dyF (x : Int32) : Int32 := if x = -1 then 3000 else x
def daF (x : Int32) : Int32 := if x = 0 then -1 else if x = 1 then 1 else 0
def CRsa (μ : ZM) (ρ : RV) (i : Nat) : Prop := zA μ 14 i = some (saF μ i) ∧ 88 ≤ saF μ i ∧ saF μ i < zN μ ∧ zK μ (saF μ i) = 7 ∧ zI μ (saF μ i) 0 = nI i ∧ zA μ (saF μ i) 1 = some (maF μ (smo ρ i)) ∧ zA μ (saF μ i) 2 = some (laF μ (sl ρ i))
  ∧ zI μ (saF μ i) 3 = ρ 51 i ∧ zI μ (saF μ i) 4 = ρ 50 i ∧ zI μ (saF μ i) 5 = ρ 54 i ∧ zI μ (saF μ i) 6 = ρ 52 i ∧ zI μ (saF μ i) 7 = ρ 53 i ∧ zI μ (saF μ i) 8 = ρ 55 i ∧ zI μ (saF μ i) 9 = ρ 56 i
  ∧ zI μ (saF μ i) 10 = ρ 57 i ∧ zI μ (saF μ i) 11 = ρ 48 i ∧ zI μ (saF μ i) 12 = dyF (ρ 58 i) ∧ zI μ (saF μ i) 13 = dyF (ρ 59 i) ∧ zI μ (saF μ i) 14 = ρ 62 i ∧ zI μ (saF μ i) 15 = ρ 63 i ∧ zI μ (saF μ i) 16 = daF (ρ 64 i) ∧ zI μ (saF μ i) 17 = ρ 60 i
  ∧ (ρ 48 i = 2 → zA μ (saF μ i) 18 = some (aaF μ (tN (ρ 61 i))))
def CRa (μ : ZM) (ρ : RV) (i : Nat) : Prop := zA μ 15 i = some (aaF μ i) ∧ 88 ≤ aaF μ i ∧ aaF μ i < zN μ ∧ zK μ (aaF μ i) = 0 ∧ zA μ (aaF μ i) 0 = some (saF μ (as_ ρ i)) ∧ zI μ (aaF μ i) 1 = ρ 75 i ∧ zI μ (aaF μ i) 2 = ρ 76 i ∧ zI μ (aaF μ i) 3 = ρ 77 i ∧ zI μ (aaF μ i) 4 = ρ 78 i
  ∧ zI μ (aaF μ i) 5 = dg (ρ 79 i) 0 ∧ zI μ (aaF μ i) 6 = dg (ρ 79 i) 1 ∧ zI μ (aaF μ i) 7 = dg (ρ 79 i) 2 ∧ zI μ (aaF μ i) 8 = dg (ρ 79 i) 3 ∧ zI μ (aaF μ i) 9 = dg (ρ 79 i) 4 ∧ zI μ (aaF μ i) 10 = dg (ρ 79 i) 5
  ∧ zI μ (aaF μ i) 11 = ρ 80 i ∧ zI μ (aaF μ i) 12 = ρ 81 i ∧ zI μ (aaF μ i) 13 = ρ 82 i ∧ zI μ (aaF μ i) 14 = ρ 83 i ∧ zI μ (aaF μ i) 15 = ρ 84 i
/-- askings lie apart -/
def CRd (μ : ZM) (ρ : RV) : Prop := ∀ i j, i < nA ρ → j < nA ρ → aaF μ i = aaF μ j → i = j
