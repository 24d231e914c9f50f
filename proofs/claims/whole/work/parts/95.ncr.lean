/-! ways to choose -/
theorem ncr_0 (n : Nat) : ncr n 0 = 1 := by cases n <;> rfl
theorem ncr_s (n k : Nat) : ncr (n + 1) (k + 1) = ncr n k + ncr n (k + 1) := rfl
theorem ncr_gt : ∀ {n k : Nat}, n < k → ncr n k = 0
  | 0, 0, h => by omega
  | 0, _ + 1, _ => rfl
  | n + 1, 0, h => by omega
  | n + 1, k + 1, h => by rw [ncr_s, ncr_gt (by omega), ncr_gt (by omega)]
theorem ncr_nn : ∀ n, ncr n n = 1
  | 0 => rfl
  | n + 1 => by rw [ncr_s, ncr_nn n, ncr_gt (by omega)]
theorem ncr_id : ∀ n k, ncr n (k + 1) * (k + 1) + ncr n k * k = ncr n k * n
  | 0, 0 => rfl
  | 0, k + 1 => by
    have : ncr 0 (k + 1 + 1) = 0 := rfl
    have h2 : ncr 0 (k + 1) = 0 := rfl
    rw [this, h2]
    simp
  | n + 1, 0 => by
    have ih := ncr_id n 0
    rw [ncr_s, ncr_0, ncr_0]
    rw [ncr_0] at ih
    omega
  | n + 1, k + 1 => by
    have h1 := ncr_id n k
    have h2 := ncr_id n (k + 1)
    rw [ncr_s n (k + 1), ncr_s n k]
    obtain ⟨a, ea⟩ : ∃ a, a = ncr n k := ⟨_, rfl⟩
    obtain ⟨b, eb⟩ : ∃ b, b = ncr n (k + 1) := ⟨_, rfl⟩
    obtain ⟨c, ec⟩ : ∃ c, c = ncr n (k + 1 + 1) := ⟨_, rfl⟩
    rw [← ea, ← eb] at h1
    rw [← eb, ← ec] at h2
    rw [← ea, ← eb, ← ec]
    simp only [Nat.mul_add, Nat.add_mul, Nat.mul_one, Nat.one_mul] at h1 h2 ⊢
    omega
theorem ncr_mono {n : Nat} : ∀ {m k : Nat}, n ≤ m → ncr n k ≤ ncr m k
  | 0, k, h => by
    have : n = 0 := by omega
    rw [this]
    exact Nat.le_refl _
  | m + 1, 0, h => by rw [ncr_0, ncr_0]; exact Nat.le_refl _
  | m + 1, k + 1, h => by
    by_cases c : n = m + 1
    · rw [c]; exact Nat.le_refl _
    · have := ncr_mono (n := n) (m := m) (k := k + 1) (by omega)
      rw [ncr_s]
      omega
def pr2 : List Nat → List Nat
  | a :: b :: r => (a + b) :: pr2 (b :: r)
  | [a] => [a]
  | [] => []
def prw : Nat → List Nat
  | 0 => [1]
  | n + 1 => 1 :: pr2 (prw n)
theorem pr2_get : ∀ (l : List Nat) (k : Nat), (pr2 l).getD k 0 = l.getD k 0 + l.getD (k + 1) 0
  | a :: b :: r, 0 => rfl
  | a :: b :: r, k + 1 => by
    show (pr2 (b :: r)).getD k 0 = (b :: r).getD k 0 + (b :: r).getD (k + 1) 0
    exact pr2_get (b :: r) k
  | [a], 0 => rfl
  | [a], k + 1 => by
    show ([] : List Nat).getD k 0 = ([] : List Nat).getD k 0 + ([] : List Nat).getD (k + 1) 0
    simp
  | [], k => by simp [pr2]
theorem prw_get : ∀ (n k : Nat), (prw n).getD k 0 = ncr n k
  | 0, 0 => rfl
  | 0, k + 1 => by
    show ([] : List Nat).getD k 0 = 0
    simp
  | n + 1, 0 => by rw [ncr_0]; rfl
  | n + 1, k + 1 => by
    show (pr2 (prw n)).getD k 0 = _
    rw [pr2_get, prw_get n k, prw_get n (k + 1), ncr_s]
theorem prw_60 : ∀ x ∈ prw 60, x ≤ 118264581564861424 := by decide +kernel
theorem getD_le {B : Nat} : ∀ {l : List Nat} (k : Nat), (∀ x ∈ l, x ≤ B) → l.getD k 0 ≤ B
  | [], k, _ => by simp
  | a :: r, 0, h => h a (by simp)
  | a :: r, k + 1, h => getD_le (l := r) k (fun x hx => h x (by simp [hx]))
theorem ncr_le {n k : Nat} (h : n ≤ 60) : ncr n k ≤ 118264581564861424 := by
  refine Nat.le_trans (ncr_mono h) ?_
  rw [← prw_get]
  exact getD_le k prw_60
/-- sums of a row -/
def sN (f : Nat → Nat) : Nat → Nat
  | 0 => 0
  | n + 1 => sN f n + f n
theorem sN_ncr (a : Nat) : ∀ m, sN (ncr (a + 1)) (m + 1) = sN (ncr a) m + sN (ncr a) (m + 1)
  | 0 => by
    show 0 + ncr (a + 1) 0 = 0 + (0 + ncr a 0)
    rw [ncr_0, ncr_0]
  | m + 1 => by
    show sN (ncr (a + 1)) (m + 1) + ncr (a + 1) (m + 1) = _
    rw [sN_ncr a m, ncr_s]
    show _ = (sN (ncr a) m + ncr a m) + (sN (ncr a) (m + 1) + ncr a (m + 1))
    omega
theorem sN_le : ∀ a m, sN (ncr a) m ≤ 2 ^ a
  | a, 0 => Nat.zero_le _
  | 0, m + 1 => by
    have : ∀ m, sN (ncr 0) (m + 1) = 1 := by
      intro m
      induction m with
      | zero => rfl
      | succ m ih =>
        show sN (ncr 0) (m + 1) + ncr 0 (m + 1) = 1
        rw [ih, ncr_gt (by omega)]
    rw [this]
    exact Nat.le_refl _
  | a + 1, m + 1 => by
    rw [sN_ncr, Nat.pow_succ]
    have := sN_le a m
    have := sN_le a (m + 1)
    omega
theorem ncr_pow (n k : Nat) : ncr n k ≤ 2 ^ n := by
  have h := sN_le n (k + 1)
  have e : sN (ncr n) (k + 1) = sN (ncr n) k + ncr n k := rfl
  omega
/-- deals with i or more -/
def mS (A B n : Nat) : Nat → Nat → Nat
  | _, 0 => 0
  | i, c + 1 => ncr B i * ncr A (n - i) + mS A B n (i + 1) c
theorem mS_le {A B n : Nat} : ∀ c i, mS A B n i c + 2 ^ A * sN (ncr B) i ≤ 2 ^ A * sN (ncr B) (i + c)
  | 0, i => by
    show 0 + _ ≤ _
    rw [Nat.zero_add]
    exact Nat.le_refl _
  | c + 1, i => by
    have ih := mS_le (A := A) (B := B) (n := n) c (i + 1)
    have e : sN (ncr B) (i + 1) = sN (ncr B) i + ncr B i := rfl
    rw [e, Nat.mul_add, show i + 1 + c = i + (c + 1) by omega] at ih
    have h1 : ncr B i * ncr A (n - i) ≤ 2 ^ A * ncr B i := by
      rw [Nat.mul_comm]
      exact Nat.mul_le_mul_right _ (ncr_pow _ _)
    show ncr B i * ncr A (n - i) + mS A B n (i + 1) c + _ ≤ _
    omega
theorem mS_b {A B n i c : Nat} (h : A + B ≤ 60) : mS A B n i c ≤ 2 ^ 60 := by
  have h1 := mS_le (A := A) (B := B) (n := n) c i
  have h2 : 2 ^ A * sN (ncr B) (i + c) ≤ 2 ^ A * 2 ^ B := Nat.mul_le_mul_left _ (sN_le _ _)
  rw [← Nat.pow_add] at h2
  have h3 : 2 ^ (A + B) ≤ 2 ^ 60 := Nat.pow_le_pow_right (by decide) h
  omega
theorem mS_0 {A B n : Nat} : ∀ c i, B < i → mS A B n i c = 0
  | 0, i, h => rfl
  | c + 1, i, h => by
    show ncr B i * ncr A (n - i) + mS A B n (i + 1) c = 0
    rw [ncr_gt h, mS_0 c (i + 1) (by omega)]
    simp
/-- both ways to hold deals against p of 10000 -/
theorem bey_eq {x W p : Nat} (hp : p ≤ 9999) : (x < W / 10000 * p + (W % 10000 * p + 9999) / 10000) ↔ (x < W / 10000 * p ∨ (x - W / 10000 * p < 10000 ∧ 10000 * (x - W / 10000 * p) < W % 10000 * p)) := by
  have h : W % 10000 * p ≤ 9999 * 9999 := Nat.mul_le_mul (by omega) hp
  obtain ⟨q, hq⟩ : ∃ q, q = W / 10000 * p := ⟨_, rfl⟩
  obtain ⟨r, hr⟩ : ∃ r, r = W % 10000 * p := ⟨_, rfl⟩
  rw [← hq, ← hr]
  rw [← hr] at h
  omega
