/-! the constant part of the memory: the two objects, their arrays and helpers -/
def kT : List Nat := [13, 21, 21, 21, 21, 12, 12, 12, 12, 13, 14, 10, 18, 17, 19, 16, 20, 5, 13, 6, 8, 13, 13, 13, 13, 13, 3, 13, 13, 1, 13, 11, 13, 13, 13, 13, 13, 13, 13, 13, 13, 13, 13, 13, 15, 13, 13, 13, 13, 13, 13, 13, 13, 13, 13, 13, 13, 15, 13, 13, 15, 13, 13, 13, 13, 12, 13, 13, 13, 13, 13, 13, 13, 13, 13, 13, 13, 13, 13, 13, 15, 15, 13, 13, 13, 13, 14, 13]
def lT : List Nat := [0, 0, 0, 0, 0, 68, 35, 11, 30, 5, 17, 0, 20, 60, 300, 200, 20, 0, 200, 0, 0, 200, 201, 201, 201, 400, 0, 12, 200, 0, 60, 0, 20, 20, 20, 20, 400, 400, 20, 20, 20, 20, 300, 300, 300, 60, 60, 60, 300, 300, 300, 300, 300, 300, 300, 300, 300, 300, 300, 300, 300, 300, 300, 300, 300, 200, 20, 20, 20, 22, 4400, 4400, 17, 210, 200, 200, 200, 200, 200, 200, 200, 200, 200, 200, 200, 200, 3721, 60]
def rT : List (Nat × Nat × Nat) := [(1, 0, 5), (2, 0, 6), (3, 0, 7), (4, 0, 8), (11, 0, 12), (11, 1, 13), (11, 2, 14), (11, 3, 15), (11, 4, 16), (11, 5, 17), (11, 6, 19), (11, 7, 20), (11, 8, 26), (11, 9, 29), (11, 10, 30), (17, 0, 18), (19, 0, 20), (19, 1, 25), (20, 0, 21), (20, 2, 22), (20, 3, 23), (20, 4, 24), (26, 0, 27), (26, 1, 28), (31, 4, 32), (31, 5, 33), (31, 6, 34), (31, 7, 35), (31, 8, 36), (31, 9, 37), (31, 10, 38), (31, 11, 39), (31, 12, 40), (31, 13, 41), (31, 15, 42), (31, 16, 43), (31, 17, 44), (31, 19, 45), (31, 20, 46), (31, 21, 47), (31, 23, 48), (31, 24, 49), (31, 25, 50), (31, 26, 51), (31, 27, 52), (31, 28, 53), (31, 29, 54), (31, 30, 55), (31, 31, 56), (31, 32, 57), (31, 33, 58), (31, 34, 59), (31, 35, 60), (31, 36, 61), (31, 37, 62), (31, 38, 63), (31, 39, 64), (31, 40, 65), (31, 43, 66), (31, 44, 67), (31, 45, 68), (31, 46, 69), (31, 47, 70), (31, 48, 71), (31, 58, 72), (31, 59, 73), (31, 61, 74), (31, 62, 75), (31, 63, 76), (31, 64, 77), (31, 65, 78), (31, 66, 79), (31, 67, 80), (31, 68, 81), (31, 69, 82), (31, 70, 83), (31, 71, 84), (31, 75, 85), (31, 79, 86), (31, 80, 87)]
def Stat (μ : ZM) : Prop := (∀ a, a < 88 → zK μ a = kT.getD a 99) ∧ (∀ a, 1 ≤ a → a < 88 → zL μ a = lT.getD a 0) ∧ (∀ q ∈ rT, zA μ q.1 q.2.1 = some q.2.2) ∧ 88 ≤ zN μ ∧ (∀ a, zN μ ≤ a → zK μ a = 99)
section StatS
variable {μ : ZM}
theorem Stat.wI {a k : Nat} {x : Int32} (h : Stat μ) : Stat (sI μ a k x) := h
theorem Stat.wJ {a k : Nat} {x : Int64} (h : Stat μ) : Stat (sJ μ a k x) := h
theorem Stat.wCpy {a b c d e : Nat} (h : Stat μ) : Stat (sCpy μ a b c d e) := h
theorem Stat.wA {a k : Nat} {x : Option Nat} (h : Stat μ) (hn : ∀ q ∈ rT, ¬ (q.1 = a ∧ q.2.1 = k)) : Stat (sA μ a k x) := by
  refine ⟨h.1, h.2.1, fun q hq => ?_, h.2.2.2⟩
  show up2 _ a k x q.1 q.2.1 = _
  unfold up2
  rw [if_neg (hn q hq)]
  exact h.2.2.1 q hq
theorem Stat.wAr {a k : Nat} {x : Option Nat} (h : Stat μ) (hn : ∀ q ∈ rT, ¬ q.1 = a) : Stat (sA μ a k x) := h.wA (fun q hq z => hn q hq z.1)
theorem Stat.wAd {a k c : Nat} {x : Option Nat} (h : Stat μ) (hk : zK μ a = c) (hc : ∀ q ∈ rT, q.1 < 88 ∧ ¬ kT.getD q.1 99 = c) : Stat (sA μ a k x) := by
  refine h.wAr (fun q hq e => (hc q hq).2 ?_)
  rw [← hk, ← e]
  exact (h.1 q.1 (hc q hq).1).symm
theorem zK_new (μ : ZM) (k n : Nat) : zK (sNew μ k n) (zN μ) = k := if_pos rfl
theorem zK_keep {a c k n : Nat} (h : Stat μ) (ha : zK μ a = c) (hc : c ≠ 99) : zK (sNew μ k n) a = c := by
  show (if a = μ.1 then k else zK μ a) = c
  rw [if_neg, ha]
  intro e
  exact hc (by rw [← ha]; exact h.2.2.2.2 a (Nat.le_of_eq e.symm))
theorem Stat.wNew {k n : Nat} (h : Stat μ) : Stat (sNew μ k n) := by
  have hN := h.2.2.2.1
  have e : ∀ a, a < 88 → ¬ a = μ.1 := fun a ha q => by
    have : zN μ = a := q.symm
    omega
  refine ⟨fun a ha => ?_, fun a h1 ha => ?_, fun q hq => ?_, ?_, fun a ha => ?_⟩
  · show (if a = μ.1 then k else zK μ a) = _
    rw [if_neg (e a ha)]; exact h.1 a ha
  · show (if a = μ.1 then n else zL μ a) = _
    rw [if_neg (e a ha)]; exact h.2.1 a h1 ha
  · show (if q.1 = μ.1 then none else zA μ q.1 q.2.1) = _
    have : ∀ q ∈ rT, q.1 < 88 := by decide
    rw [if_neg (e _ (this q hq))]; exact h.2.2.1 q hq
  · show 88 ≤ zN μ + 1
    omega
  · have ha : zN μ + 1 ≤ a := ha
    show (if a = μ.1 then k else zK μ a) = _
    have : ¬ a = μ.1 := fun q => by have : a = zN μ := q; omega
    rw [if_neg this]; exact h.2.2.2.2 a (by omega)
theorem sk_0 (h : Stat μ) : zK μ 0 = 13 := h.1 0 (by decide)
theorem sk_1 (h : Stat μ) : zK μ 1 = 21 := h.1 1 (by decide)
theorem sk_2 (h : Stat μ) : zK μ 2 = 21 := h.1 2 (by decide)
theorem sk_3 (h : Stat μ) : zK μ 3 = 21 := h.1 3 (by decide)
theorem sk_4 (h : Stat μ) : zK μ 4 = 21 := h.1 4 (by decide)
theorem sk_5 (h : Stat μ) : zK μ 5 = 12 := h.1 5 (by decide)
theorem sl_5 (h : Stat μ) : zL μ 5 = 68 := h.2.1 5 (by decide) (by decide)
theorem sk_6 (h : Stat μ) : zK μ 6 = 12 := h.1 6 (by decide)
theorem sl_6 (h : Stat μ) : zL μ 6 = 35 := h.2.1 6 (by decide) (by decide)
theorem sk_7 (h : Stat μ) : zK μ 7 = 12 := h.1 7 (by decide)
theorem sl_7 (h : Stat μ) : zL μ 7 = 11 := h.2.1 7 (by decide) (by decide)
theorem sk_8 (h : Stat μ) : zK μ 8 = 12 := h.1 8 (by decide)
theorem sl_8 (h : Stat μ) : zL μ 8 = 30 := h.2.1 8 (by decide) (by decide)
theorem sk_9 (h : Stat μ) : zK μ 9 = 13 := h.1 9 (by decide)
theorem sl_9 (h : Stat μ) : zL μ 9 = 5 := h.2.1 9 (by decide) (by decide)
theorem sk_10 (h : Stat μ) : zK μ 10 = 14 := h.1 10 (by decide)
theorem sl_10 (h : Stat μ) : zL μ 10 = 17 := h.2.1 10 (by decide) (by decide)
theorem sk_11 (h : Stat μ) : zK μ 11 = 10 := h.1 11 (by decide)
theorem sk_12 (h : Stat μ) : zK μ 12 = 18 := h.1 12 (by decide)
theorem sl_12 (h : Stat μ) : zL μ 12 = 20 := h.2.1 12 (by decide) (by decide)
theorem sk_13 (h : Stat μ) : zK μ 13 = 17 := h.1 13 (by decide)
theorem sl_13 (h : Stat μ) : zL μ 13 = 60 := h.2.1 13 (by decide) (by decide)
theorem sk_14 (h : Stat μ) : zK μ 14 = 19 := h.1 14 (by decide)
theorem sl_14 (h : Stat μ) : zL μ 14 = 300 := h.2.1 14 (by decide) (by decide)
theorem sk_15 (h : Stat μ) : zK μ 15 = 16 := h.1 15 (by decide)
theorem sl_15 (h : Stat μ) : zL μ 15 = 200 := h.2.1 15 (by decide) (by decide)
theorem sk_16 (h : Stat μ) : zK μ 16 = 20 := h.1 16 (by decide)
theorem sl_16 (h : Stat μ) : zL μ 16 = 20 := h.2.1 16 (by decide) (by decide)
theorem sk_17 (h : Stat μ) : zK μ 17 = 5 := h.1 17 (by decide)
theorem sk_18 (h : Stat μ) : zK μ 18 = 13 := h.1 18 (by decide)
theorem sl_18 (h : Stat μ) : zL μ 18 = 200 := h.2.1 18 (by decide) (by decide)
theorem sk_19 (h : Stat μ) : zK μ 19 = 6 := h.1 19 (by decide)
theorem sk_20 (h : Stat μ) : zK μ 20 = 8 := h.1 20 (by decide)
theorem sk_21 (h : Stat μ) : zK μ 21 = 13 := h.1 21 (by decide)
theorem sl_21 (h : Stat μ) : zL μ 21 = 200 := h.2.1 21 (by decide) (by decide)
theorem sk_22 (h : Stat μ) : zK μ 22 = 13 := h.1 22 (by decide)
theorem sl_22 (h : Stat μ) : zL μ 22 = 201 := h.2.1 22 (by decide) (by decide)
theorem sk_23 (h : Stat μ) : zK μ 23 = 13 := h.1 23 (by decide)
theorem sl_23 (h : Stat μ) : zL μ 23 = 201 := h.2.1 23 (by decide) (by decide)
theorem sk_24 (h : Stat μ) : zK μ 24 = 13 := h.1 24 (by decide)
theorem sl_24 (h : Stat μ) : zL μ 24 = 201 := h.2.1 24 (by decide) (by decide)
theorem sk_25 (h : Stat μ) : zK μ 25 = 13 := h.1 25 (by decide)
theorem sl_25 (h : Stat μ) : zL μ 25 = 400 := h.2.1 25 (by decide) (by decide)
theorem sk_26 (h : Stat μ) : zK μ 26 = 3 := h.1 26 (by decide)
theorem sk_27 (h : Stat μ) : zK μ 27 = 13 := h.1 27 (by decide)
theorem sl_27 (h : Stat μ) : zL μ 27 = 12 := h.2.1 27 (by decide) (by decide)
theorem sk_28 (h : Stat μ) : zK μ 28 = 13 := h.1 28 (by decide)
theorem sl_28 (h : Stat μ) : zL μ 28 = 200 := h.2.1 28 (by decide) (by decide)
theorem sk_29 (h : Stat μ) : zK μ 29 = 1 := h.1 29 (by decide)
theorem sk_30 (h : Stat μ) : zK μ 30 = 13 := h.1 30 (by decide)
theorem sl_30 (h : Stat μ) : zL μ 30 = 60 := h.2.1 30 (by decide) (by decide)
theorem sk_31 (h : Stat μ) : zK μ 31 = 11 := h.1 31 (by decide)
theorem sk_32 (h : Stat μ) : zK μ 32 = 13 := h.1 32 (by decide)
theorem sl_32 (h : Stat μ) : zL μ 32 = 20 := h.2.1 32 (by decide) (by decide)
theorem sk_33 (h : Stat μ) : zK μ 33 = 13 := h.1 33 (by decide)
theorem sl_33 (h : Stat μ) : zL μ 33 = 20 := h.2.1 33 (by decide) (by decide)
theorem sk_34 (h : Stat μ) : zK μ 34 = 13 := h.1 34 (by decide)
theorem sl_34 (h : Stat μ) : zL μ 34 = 20 := h.2.1 34 (by decide) (by decide)
theorem sk_35 (h : Stat μ) : zK μ 35 = 13 := h.1 35 (by decide)
theorem sl_35 (h : Stat μ) : zL μ 35 = 20 := h.2.1 35 (by decide) (by decide)
theorem sk_36 (h : Stat μ) : zK μ 36 = 13 := h.1 36 (by decide)
theorem sl_36 (h : Stat μ) : zL μ 36 = 400 := h.2.1 36 (by decide) (by decide)
theorem sk_37 (h : Stat μ) : zK μ 37 = 13 := h.1 37 (by decide)
theorem sl_37 (h : Stat μ) : zL μ 37 = 400 := h.2.1 37 (by decide) (by decide)
theorem sk_38 (h : Stat μ) : zK μ 38 = 13 := h.1 38 (by decide)
theorem sl_38 (h : Stat μ) : zL μ 38 = 20 := h.2.1 38 (by decide) (by decide)
theorem sk_39 (h : Stat μ) : zK μ 39 = 13 := h.1 39 (by decide)
theorem sl_39 (h : Stat μ) : zL μ 39 = 20 := h.2.1 39 (by decide) (by decide)
theorem sk_40 (h : Stat μ) : zK μ 40 = 13 := h.1 40 (by decide)
theorem sl_40 (h : Stat μ) : zL μ 40 = 20 := h.2.1 40 (by decide) (by decide)
theorem sk_41 (h : Stat μ) : zK μ 41 = 13 := h.1 41 (by decide)
theorem sl_41 (h : Stat μ) : zL μ 41 = 20 := h.2.1 41 (by decide) (by decide)
theorem sk_42 (h : Stat μ) : zK μ 42 = 13 := h.1 42 (by decide)
theorem sl_42 (h : Stat μ) : zL μ 42 = 300 := h.2.1 42 (by decide) (by decide)
theorem sk_43 (h : Stat μ) : zK μ 43 = 13 := h.1 43 (by decide)
theorem sl_43 (h : Stat μ) : zL μ 43 = 300 := h.2.1 43 (by decide) (by decide)
theorem sk_44 (h : Stat μ) : zK μ 44 = 15 := h.1 44 (by decide)
theorem sl_44 (h : Stat μ) : zL μ 44 = 300 := h.2.1 44 (by decide) (by decide)
theorem sk_45 (h : Stat μ) : zK μ 45 = 13 := h.1 45 (by decide)
theorem sl_45 (h : Stat μ) : zL μ 45 = 60 := h.2.1 45 (by decide) (by decide)
theorem sk_46 (h : Stat μ) : zK μ 46 = 13 := h.1 46 (by decide)
theorem sl_46 (h : Stat μ) : zL μ 46 = 60 := h.2.1 46 (by decide) (by decide)
theorem sk_47 (h : Stat μ) : zK μ 47 = 13 := h.1 47 (by decide)
theorem sl_47 (h : Stat μ) : zL μ 47 = 60 := h.2.1 47 (by decide) (by decide)
theorem sk_48 (h : Stat μ) : zK μ 48 = 13 := h.1 48 (by decide)
theorem sl_48 (h : Stat μ) : zL μ 48 = 300 := h.2.1 48 (by decide) (by decide)
theorem sk_49 (h : Stat μ) : zK μ 49 = 13 := h.1 49 (by decide)
theorem sl_49 (h : Stat μ) : zL μ 49 = 300 := h.2.1 49 (by decide) (by decide)
theorem sk_50 (h : Stat μ) : zK μ 50 = 13 := h.1 50 (by decide)
theorem sl_50 (h : Stat μ) : zL μ 50 = 300 := h.2.1 50 (by decide) (by decide)
theorem sk_51 (h : Stat μ) : zK μ 51 = 13 := h.1 51 (by decide)
theorem sl_51 (h : Stat μ) : zL μ 51 = 300 := h.2.1 51 (by decide) (by decide)
theorem sk_52 (h : Stat μ) : zK μ 52 = 13 := h.1 52 (by decide)
theorem sl_52 (h : Stat μ) : zL μ 52 = 300 := h.2.1 52 (by decide) (by decide)
theorem sk_53 (h : Stat μ) : zK μ 53 = 13 := h.1 53 (by decide)
theorem sl_53 (h : Stat μ) : zL μ 53 = 300 := h.2.1 53 (by decide) (by decide)
theorem sk_54 (h : Stat μ) : zK μ 54 = 13 := h.1 54 (by decide)
theorem sl_54 (h : Stat μ) : zL μ 54 = 300 := h.2.1 54 (by decide) (by decide)
theorem sk_55 (h : Stat μ) : zK μ 55 = 13 := h.1 55 (by decide)
theorem sl_55 (h : Stat μ) : zL μ 55 = 300 := h.2.1 55 (by decide) (by decide)
theorem sk_56 (h : Stat μ) : zK μ 56 = 13 := h.1 56 (by decide)
theorem sl_56 (h : Stat μ) : zL μ 56 = 300 := h.2.1 56 (by decide) (by decide)
theorem sk_57 (h : Stat μ) : zK μ 57 = 15 := h.1 57 (by decide)
theorem sl_57 (h : Stat μ) : zL μ 57 = 300 := h.2.1 57 (by decide) (by decide)
theorem sk_58 (h : Stat μ) : zK μ 58 = 13 := h.1 58 (by decide)
theorem sl_58 (h : Stat μ) : zL μ 58 = 300 := h.2.1 58 (by decide) (by decide)
theorem sk_59 (h : Stat μ) : zK μ 59 = 13 := h.1 59 (by decide)
theorem sl_59 (h : Stat μ) : zL μ 59 = 300 := h.2.1 59 (by decide) (by decide)
theorem sk_60 (h : Stat μ) : zK μ 60 = 15 := h.1 60 (by decide)
theorem sl_60 (h : Stat μ) : zL μ 60 = 300 := h.2.1 60 (by decide) (by decide)
theorem sk_61 (h : Stat μ) : zK μ 61 = 13 := h.1 61 (by decide)
theorem sl_61 (h : Stat μ) : zL μ 61 = 300 := h.2.1 61 (by decide) (by decide)
theorem sk_62 (h : Stat μ) : zK μ 62 = 13 := h.1 62 (by decide)
theorem sl_62 (h : Stat μ) : zL μ 62 = 300 := h.2.1 62 (by decide) (by decide)
theorem sk_63 (h : Stat μ) : zK μ 63 = 13 := h.1 63 (by decide)
theorem sl_63 (h : Stat μ) : zL μ 63 = 300 := h.2.1 63 (by decide) (by decide)
theorem sk_64 (h : Stat μ) : zK μ 64 = 13 := h.1 64 (by decide)
theorem sl_64 (h : Stat μ) : zL μ 64 = 300 := h.2.1 64 (by decide) (by decide)
theorem sk_65 (h : Stat μ) : zK μ 65 = 12 := h.1 65 (by decide)
theorem sl_65 (h : Stat μ) : zL μ 65 = 200 := h.2.1 65 (by decide) (by decide)
theorem sk_66 (h : Stat μ) : zK μ 66 = 13 := h.1 66 (by decide)
theorem sl_66 (h : Stat μ) : zL μ 66 = 20 := h.2.1 66 (by decide) (by decide)
theorem sk_67 (h : Stat μ) : zK μ 67 = 13 := h.1 67 (by decide)
theorem sl_67 (h : Stat μ) : zL μ 67 = 20 := h.2.1 67 (by decide) (by decide)
theorem sk_68 (h : Stat μ) : zK μ 68 = 13 := h.1 68 (by decide)
theorem sl_68 (h : Stat μ) : zL μ 68 = 20 := h.2.1 68 (by decide) (by decide)
theorem sk_69 (h : Stat μ) : zK μ 69 = 13 := h.1 69 (by decide)
theorem sl_69 (h : Stat μ) : zL μ 69 = 22 := h.2.1 69 (by decide) (by decide)
theorem sk_70 (h : Stat μ) : zK μ 70 = 13 := h.1 70 (by decide)
theorem sl_70 (h : Stat μ) : zL μ 70 = 4400 := h.2.1 70 (by decide) (by decide)
theorem sk_71 (h : Stat μ) : zK μ 71 = 13 := h.1 71 (by decide)
theorem sl_71 (h : Stat μ) : zL μ 71 = 4400 := h.2.1 71 (by decide) (by decide)
theorem sk_72 (h : Stat μ) : zK μ 72 = 13 := h.1 72 (by decide)
theorem sl_72 (h : Stat μ) : zL μ 72 = 17 := h.2.1 72 (by decide) (by decide)
theorem sk_73 (h : Stat μ) : zK μ 73 = 13 := h.1 73 (by decide)
theorem sl_73 (h : Stat μ) : zL μ 73 = 210 := h.2.1 73 (by decide) (by decide)
theorem sk_74 (h : Stat μ) : zK μ 74 = 13 := h.1 74 (by decide)
theorem sl_74 (h : Stat μ) : zL μ 74 = 200 := h.2.1 74 (by decide) (by decide)
theorem sk_75 (h : Stat μ) : zK μ 75 = 13 := h.1 75 (by decide)
theorem sl_75 (h : Stat μ) : zL μ 75 = 200 := h.2.1 75 (by decide) (by decide)
theorem sk_76 (h : Stat μ) : zK μ 76 = 13 := h.1 76 (by decide)
theorem sl_76 (h : Stat μ) : zL μ 76 = 200 := h.2.1 76 (by decide) (by decide)
theorem sk_77 (h : Stat μ) : zK μ 77 = 13 := h.1 77 (by decide)
theorem sl_77 (h : Stat μ) : zL μ 77 = 200 := h.2.1 77 (by decide) (by decide)
theorem sk_78 (h : Stat μ) : zK μ 78 = 13 := h.1 78 (by decide)
theorem sl_78 (h : Stat μ) : zL μ 78 = 200 := h.2.1 78 (by decide) (by decide)
theorem sk_79 (h : Stat μ) : zK μ 79 = 13 := h.1 79 (by decide)
theorem sl_79 (h : Stat μ) : zL μ 79 = 200 := h.2.1 79 (by decide) (by decide)
theorem sk_80 (h : Stat μ) : zK μ 80 = 15 := h.1 80 (by decide)
theorem sl_80 (h : Stat μ) : zL μ 80 = 200 := h.2.1 80 (by decide) (by decide)
theorem sk_81 (h : Stat μ) : zK μ 81 = 15 := h.1 81 (by decide)
theorem sl_81 (h : Stat μ) : zL μ 81 = 200 := h.2.1 81 (by decide) (by decide)
theorem sk_82 (h : Stat μ) : zK μ 82 = 13 := h.1 82 (by decide)
theorem sl_82 (h : Stat μ) : zL μ 82 = 200 := h.2.1 82 (by decide) (by decide)
theorem sk_83 (h : Stat μ) : zK μ 83 = 13 := h.1 83 (by decide)
theorem sl_83 (h : Stat μ) : zL μ 83 = 200 := h.2.1 83 (by decide) (by decide)
theorem sk_84 (h : Stat μ) : zK μ 84 = 13 := h.1 84 (by decide)
theorem sl_84 (h : Stat μ) : zL μ 84 = 200 := h.2.1 84 (by decide) (by decide)
theorem sk_85 (h : Stat μ) : zK μ 85 = 13 := h.1 85 (by decide)
theorem sl_85 (h : Stat μ) : zL μ 85 = 200 := h.2.1 85 (by decide) (by decide)
theorem sk_86 (h : Stat μ) : zK μ 86 = 14 := h.1 86 (by decide)
theorem sl_86 (h : Stat μ) : zL μ 86 = 3721 := h.2.1 86 (by decide) (by decide)
theorem sk_87 (h : Stat μ) : zK μ 87 = 13 := h.1 87 (by decide)
theorem sl_87 (h : Stat μ) : zL μ 87 = 60 := h.2.1 87 (by decide) (by decide)
theorem sa_1_0 (h : Stat μ) : zA μ 1 0 = some 5 := h.2.2.1 (1, 0, 5) (by decide)
theorem sa_2_0 (h : Stat μ) : zA μ 2 0 = some 6 := h.2.2.1 (2, 0, 6) (by decide)
theorem sa_3_0 (h : Stat μ) : zA μ 3 0 = some 7 := h.2.2.1 (3, 0, 7) (by decide)
theorem sa_4_0 (h : Stat μ) : zA μ 4 0 = some 8 := h.2.2.1 (4, 0, 8) (by decide)
theorem sa_11_0 (h : Stat μ) : zA μ 11 0 = some 12 := h.2.2.1 (11, 0, 12) (by decide)
theorem sa_11_1 (h : Stat μ) : zA μ 11 1 = some 13 := h.2.2.1 (11, 1, 13) (by decide)
theorem sa_11_2 (h : Stat μ) : zA μ 11 2 = some 14 := h.2.2.1 (11, 2, 14) (by decide)
theorem sa_11_3 (h : Stat μ) : zA μ 11 3 = some 15 := h.2.2.1 (11, 3, 15) (by decide)
theorem sa_11_4 (h : Stat μ) : zA μ 11 4 = some 16 := h.2.2.1 (11, 4, 16) (by decide)
theorem sa_11_5 (h : Stat μ) : zA μ 11 5 = some 17 := h.2.2.1 (11, 5, 17) (by decide)
theorem sa_11_6 (h : Stat μ) : zA μ 11 6 = some 19 := h.2.2.1 (11, 6, 19) (by decide)
theorem sa_11_7 (h : Stat μ) : zA μ 11 7 = some 20 := h.2.2.1 (11, 7, 20) (by decide)
theorem sa_11_8 (h : Stat μ) : zA μ 11 8 = some 26 := h.2.2.1 (11, 8, 26) (by decide)
theorem sa_11_9 (h : Stat μ) : zA μ 11 9 = some 29 := h.2.2.1 (11, 9, 29) (by decide)
theorem sa_11_10 (h : Stat μ) : zA μ 11 10 = some 30 := h.2.2.1 (11, 10, 30) (by decide)
theorem sa_17_0 (h : Stat μ) : zA μ 17 0 = some 18 := h.2.2.1 (17, 0, 18) (by decide)
theorem sa_19_0 (h : Stat μ) : zA μ 19 0 = some 20 := h.2.2.1 (19, 0, 20) (by decide)
theorem sa_19_1 (h : Stat μ) : zA μ 19 1 = some 25 := h.2.2.1 (19, 1, 25) (by decide)
theorem sa_20_0 (h : Stat μ) : zA μ 20 0 = some 21 := h.2.2.1 (20, 0, 21) (by decide)
theorem sa_20_2 (h : Stat μ) : zA μ 20 2 = some 22 := h.2.2.1 (20, 2, 22) (by decide)
theorem sa_20_3 (h : Stat μ) : zA μ 20 3 = some 23 := h.2.2.1 (20, 3, 23) (by decide)
theorem sa_20_4 (h : Stat μ) : zA μ 20 4 = some 24 := h.2.2.1 (20, 4, 24) (by decide)
theorem sa_26_0 (h : Stat μ) : zA μ 26 0 = some 27 := h.2.2.1 (26, 0, 27) (by decide)
theorem sa_26_1 (h : Stat μ) : zA μ 26 1 = some 28 := h.2.2.1 (26, 1, 28) (by decide)
theorem sa_31_4 (h : Stat μ) : zA μ 31 4 = some 32 := h.2.2.1 (31, 4, 32) (by decide)
theorem sa_31_5 (h : Stat μ) : zA μ 31 5 = some 33 := h.2.2.1 (31, 5, 33) (by decide)
theorem sa_31_6 (h : Stat μ) : zA μ 31 6 = some 34 := h.2.2.1 (31, 6, 34) (by decide)
theorem sa_31_7 (h : Stat μ) : zA μ 31 7 = some 35 := h.2.2.1 (31, 7, 35) (by decide)
theorem sa_31_8 (h : Stat μ) : zA μ 31 8 = some 36 := h.2.2.1 (31, 8, 36) (by decide)
theorem sa_31_9 (h : Stat μ) : zA μ 31 9 = some 37 := h.2.2.1 (31, 9, 37) (by decide)
theorem sa_31_10 (h : Stat μ) : zA μ 31 10 = some 38 := h.2.2.1 (31, 10, 38) (by decide)
theorem sa_31_11 (h : Stat μ) : zA μ 31 11 = some 39 := h.2.2.1 (31, 11, 39) (by decide)
theorem sa_31_12 (h : Stat μ) : zA μ 31 12 = some 40 := h.2.2.1 (31, 12, 40) (by decide)
theorem sa_31_13 (h : Stat μ) : zA μ 31 13 = some 41 := h.2.2.1 (31, 13, 41) (by decide)
theorem sa_31_15 (h : Stat μ) : zA μ 31 15 = some 42 := h.2.2.1 (31, 15, 42) (by decide)
theorem sa_31_16 (h : Stat μ) : zA μ 31 16 = some 43 := h.2.2.1 (31, 16, 43) (by decide)
theorem sa_31_17 (h : Stat μ) : zA μ 31 17 = some 44 := h.2.2.1 (31, 17, 44) (by decide)
theorem sa_31_19 (h : Stat μ) : zA μ 31 19 = some 45 := h.2.2.1 (31, 19, 45) (by decide)
theorem sa_31_20 (h : Stat μ) : zA μ 31 20 = some 46 := h.2.2.1 (31, 20, 46) (by decide)
theorem sa_31_21 (h : Stat μ) : zA μ 31 21 = some 47 := h.2.2.1 (31, 21, 47) (by decide)
theorem sa_31_23 (h : Stat μ) : zA μ 31 23 = some 48 := h.2.2.1 (31, 23, 48) (by decide)
theorem sa_31_24 (h : Stat μ) : zA μ 31 24 = some 49 := h.2.2.1 (31, 24, 49) (by decide)
theorem sa_31_25 (h : Stat μ) : zA μ 31 25 = some 50 := h.2.2.1 (31, 25, 50) (by decide)
theorem sa_31_26 (h : Stat μ) : zA μ 31 26 = some 51 := h.2.2.1 (31, 26, 51) (by decide)
theorem sa_31_27 (h : Stat μ) : zA μ 31 27 = some 52 := h.2.2.1 (31, 27, 52) (by decide)
theorem sa_31_28 (h : Stat μ) : zA μ 31 28 = some 53 := h.2.2.1 (31, 28, 53) (by decide)
theorem sa_31_29 (h : Stat μ) : zA μ 31 29 = some 54 := h.2.2.1 (31, 29, 54) (by decide)
theorem sa_31_30 (h : Stat μ) : zA μ 31 30 = some 55 := h.2.2.1 (31, 30, 55) (by decide)
theorem sa_31_31 (h : Stat μ) : zA μ 31 31 = some 56 := h.2.2.1 (31, 31, 56) (by decide)
theorem sa_31_32 (h : Stat μ) : zA μ 31 32 = some 57 := h.2.2.1 (31, 32, 57) (by decide)
theorem sa_31_33 (h : Stat μ) : zA μ 31 33 = some 58 := h.2.2.1 (31, 33, 58) (by decide)
theorem sa_31_34 (h : Stat μ) : zA μ 31 34 = some 59 := h.2.2.1 (31, 34, 59) (by decide)
theorem sa_31_35 (h : Stat μ) : zA μ 31 35 = some 60 := h.2.2.1 (31, 35, 60) (by decide)
theorem sa_31_36 (h : Stat μ) : zA μ 31 36 = some 61 := h.2.2.1 (31, 36, 61) (by decide)
theorem sa_31_37 (h : Stat μ) : zA μ 31 37 = some 62 := h.2.2.1 (31, 37, 62) (by decide)
theorem sa_31_38 (h : Stat μ) : zA μ 31 38 = some 63 := h.2.2.1 (31, 38, 63) (by decide)
theorem sa_31_39 (h : Stat μ) : zA μ 31 39 = some 64 := h.2.2.1 (31, 39, 64) (by decide)
theorem sa_31_40 (h : Stat μ) : zA μ 31 40 = some 65 := h.2.2.1 (31, 40, 65) (by decide)
theorem sa_31_43 (h : Stat μ) : zA μ 31 43 = some 66 := h.2.2.1 (31, 43, 66) (by decide)
theorem sa_31_44 (h : Stat μ) : zA μ 31 44 = some 67 := h.2.2.1 (31, 44, 67) (by decide)
theorem sa_31_45 (h : Stat μ) : zA μ 31 45 = some 68 := h.2.2.1 (31, 45, 68) (by decide)
theorem sa_31_46 (h : Stat μ) : zA μ 31 46 = some 69 := h.2.2.1 (31, 46, 69) (by decide)
theorem sa_31_47 (h : Stat μ) : zA μ 31 47 = some 70 := h.2.2.1 (31, 47, 70) (by decide)
theorem sa_31_48 (h : Stat μ) : zA μ 31 48 = some 71 := h.2.2.1 (31, 48, 71) (by decide)
theorem sa_31_58 (h : Stat μ) : zA μ 31 58 = some 72 := h.2.2.1 (31, 58, 72) (by decide)
theorem sa_31_59 (h : Stat μ) : zA μ 31 59 = some 73 := h.2.2.1 (31, 59, 73) (by decide)
theorem sa_31_61 (h : Stat μ) : zA μ 31 61 = some 74 := h.2.2.1 (31, 61, 74) (by decide)
theorem sa_31_62 (h : Stat μ) : zA μ 31 62 = some 75 := h.2.2.1 (31, 62, 75) (by decide)
theorem sa_31_63 (h : Stat μ) : zA μ 31 63 = some 76 := h.2.2.1 (31, 63, 76) (by decide)
theorem sa_31_64 (h : Stat μ) : zA μ 31 64 = some 77 := h.2.2.1 (31, 64, 77) (by decide)
theorem sa_31_65 (h : Stat μ) : zA μ 31 65 = some 78 := h.2.2.1 (31, 65, 78) (by decide)
theorem sa_31_66 (h : Stat μ) : zA μ 31 66 = some 79 := h.2.2.1 (31, 66, 79) (by decide)
theorem sa_31_67 (h : Stat μ) : zA μ 31 67 = some 80 := h.2.2.1 (31, 67, 80) (by decide)
theorem sa_31_68 (h : Stat μ) : zA μ 31 68 = some 81 := h.2.2.1 (31, 68, 81) (by decide)
theorem sa_31_69 (h : Stat μ) : zA μ 31 69 = some 82 := h.2.2.1 (31, 69, 82) (by decide)
theorem sa_31_70 (h : Stat μ) : zA μ 31 70 = some 83 := h.2.2.1 (31, 70, 83) (by decide)
theorem sa_31_71 (h : Stat μ) : zA μ 31 71 = some 84 := h.2.2.1 (31, 71, 84) (by decide)
theorem sa_31_75 (h : Stat μ) : zA μ 31 75 = some 85 := h.2.2.1 (31, 75, 85) (by decide)
theorem sa_31_79 (h : Stat μ) : zA μ 31 79 = some 86 := h.2.2.1 (31, 79, 86) (by decide)
theorem sa_31_80 (h : Stat μ) : zA μ 31 80 = some 87 := h.2.2.1 (31, 80, 87) (by decide)
end StatS
theorem zcat_rf (o : Option Nat) : zcat (some (va_rf o)) = false := by cases o <;> rfl
theorem zset1_o {ls ls' : List (Option Value)} {j : Nat} {v : Value} {x : Option Value} (hx : ls.getD j none = x) (hc : zcat x = false) (h : ls.set (j + 1) (some v) = ls') : zset1 ls (j + 1) v = ls' := by
  unfold zset1
  simp only [hx, hc]
  exact h
section Rows2
variable {E : ZE} {l : Launch} {d nc ns nc1 ns1 : Nat} {y y2 : MTH} {pc pc' tgt : Nat} {ls ls' : List (Option Value)} {st st' rest As : List Value} {μ : ZM} {K K1 : Option Value → ZM → Prop}
theorem zv_rf (o : Option Nat) : zv E (va_rf o) = va_rf (o.map (phi E)) := by cases o <;> rfl
theorem aw_rf {o : Option Nat} {b : Nat} (e : o = some b) (k : AW E l d nc ns y pc ls (.ref b :: st) μ K) : AW E l d nc ns y pc ls (va_rf o :: st) μ K := by subst e; exact k
theorem aw_rfN {o : Option Nat} (e : o = none) (k : AW E l d nc ns y pc ls (.null :: st) μ K) : AW E l d nc ns y pc ls (va_rf o :: st) μ K := by subst e; exact k
theorem aw_aload_nO {i : Fin 4} {o : Option Nat} (hd : decode y.2.1 pc = .ok (.aload_n i, 1)) (hx : ls[(i : Nat)]? = some (some (va_rf o))) (hp : pc + 1 = pc') (k : AW E l d nc ns y pc' ls (va_rf o :: st) μ K) : AW E l d nc ns y pc ls st μ K := by
  cases o with
  | none => exact aw_aload_nN hd hx hp k
  | some b => exact aw_aload_n (x1 := b) hd hx hp k
theorem aw_aloadO {i : Nat} {o : Option Nat} (hd : decode y.2.1 pc = .ok (.aload i, 2)) (hx : ls[i]? = some (some (va_rf o))) (hp : pc + 2 = pc') (k : AW E l d nc ns y pc' ls (va_rf o :: st) μ K) : AW E l d nc ns y pc ls st μ K := by
  cases o with
  | none => exact aw_aloadN hd hx hp k
  | some b => exact aw_aload (x1 := b) hd hx hp k
theorem aw_astore_nO {i : Fin 4} {o : Option Nat} (hd : decode y.2.1 pc = .ok (.astore_n i, 1)) (hn : (i : Nat) < y.2.2.1) (hs : zset1 ls i (va_rf o) = ls') (hp : pc + 1 = pc') (k : AW E l d nc ns y pc' ls' st μ K) : AW E l d nc ns y pc ls (va_rf o :: st) μ K := by
  cases o with
  | none => exact aw_astore_nN hd hn hs hp k
  | some b => exact aw_astore_n (x1 := b) hd hn hs hp k
theorem aw_astoreO {i : Nat} {o : Option Nat} (hd : decode y.2.1 pc = .ok (.astore i, 2)) (hn : i < y.2.2.1) (hs : zset1 ls i (va_rf o) = ls') (hp : pc + 2 = pc') (k : AW E l d nc ns y pc' ls' st μ K) : AW E l d nc ns y pc ls (va_rf o :: st) μ K := by
  cases o with
  | none => exact aw_astoreN hd hn hs hp k
  | some b => exact aw_astore (x1 := b) hd hn hs hp k
theorem aw_ifnullO {o : Option Nat} {off : Int} (hd : decode y.2.1 pc = .ok (.ifnull off, 3)) (ht : (pc : Int) + off = (tgt : Int)) (hp : pc + 3 = pc') (kn : o = none → AW E l d nc ns y tgt ls st μ K) (ks : ∀ b, o = some b → AW E l d nc ns y pc' ls st μ K) : AW E l d nc ns y pc ls (va_rf o :: st) μ K := by
  cases o with
  | none => exact aw_ifnullN hd ht (kn rfl)
  | some b => exact aw_ifnull hd hp (ks b rfl)
theorem aw_ifnonnullO {o : Option Nat} {off : Int} (hd : decode y.2.1 pc = .ok (.ifnonnull off, 3)) (ht : (pc : Int) + off = (tgt : Int)) (hp : pc + 3 = pc') (kn : o = none → AW E l d nc ns y pc' ls st μ K) (ks : ∀ b, o = some b → AW E l d nc ns y tgt ls st μ K) : AW E l d nc ns y pc ls (va_rf o :: st) μ K := by
  cases o with
  | none => exact aw_ifnonnullN hd hp (kn rfl)
  | some b => exact aw_ifnonnull hd ht (ks b rfl)
theorem aw_mmax {idx : Nat} {x1 x2 : Int32} (hd : decode y.2.1 pc = .ok (.invokestatic idx, 3)) (hlink : Cond.methodLink y.1.cls idx Lib.Math.max.name ∈ tables_1) (hrm : (st.map fun v => v.category).sum ≤ 8) (hp : pc + 3 = pc') (k : AW E l (d + 1) nc ns y pc' ls (.int (if x1 < x2 then x2 else x1) :: st) μ K) : AW E l (d + 1) nc ns y pc ls (.int x2 :: .int x1 :: st) μ K := by
  intro p e R s m args below meth c H locs cells slots lsC Q hC hR hO h1 h2 hl hq
  subst hp
  have w1 : Cond.static Lib.Math.max.name ∈ tables_1 := by decide +kernel
  have w2 : Cond.initialized "java/lang/Math" ∈ tables_1 := by decide +kernel
  have w3 : Cond.code Lib.Math.max.name Lib.Math.max.code 2 (some .int) ∈ tables_1 := by decide +kernel
  have hlo := hC.2.2.2.2.2.2.2.2.2.2
  have hfr := hC.2.2.2.2.2.2.2.2.2.1
  exact va_mmax hC.1 hC.2.1 (hC.2.2.1.trans hl.1.symm) hC.2.2.2.1 (hC.2.2.2.2.1 _ (List.mem_append_right _ hlink) rfl) (hC.2.2.2.2.1 _ (List.mem_append_right _ w1) rfl) (hC.2.2.2.2.1 _ (List.mem_append_right _ w2) rfl) (hC.2.2.2.2.1 _ (List.mem_append_right _ w3) rfl) (by omega) (by rw [zCat_sum]; omega) (by omega) (by omega) hd (k p e R s m args below meth c H locs cells slots lsC Q hC hR hO h1 h2 hl hq)
theorem aw_mmin {idx : Nat} {x1 x2 : Int32} (hd : decode y.2.1 pc = .ok (.invokestatic idx, 3)) (hlink : Cond.methodLink y.1.cls idx Lib.Math.min.name ∈ tables_1) (hrm : (st.map fun v => v.category).sum ≤ 8) (hp : pc + 3 = pc') (k : AW E l (d + 1) nc ns y pc' ls (.int (if x2 < x1 then x2 else x1) :: st) μ K) : AW E l (d + 1) nc ns y pc ls (.int x2 :: .int x1 :: st) μ K := by
  intro p e R s m args below meth c H locs cells slots lsC Q hC hR hO h1 h2 hl hq
  subst hp
  have w1 : Cond.static Lib.Math.min.name ∈ tables_1 := by decide +kernel
  have w2 : Cond.initialized "java/lang/Math" ∈ tables_1 := by decide +kernel
  have w3 : Cond.code Lib.Math.min.name Lib.Math.min.code 2 (some .int) ∈ tables_1 := by decide +kernel
  have hlo := hC.2.2.2.2.2.2.2.2.2.2
  have hfr := hC.2.2.2.2.2.2.2.2.2.1
  exact va_mmin hC.1 hC.2.1 (hC.2.2.1.trans hl.1.symm) hC.2.2.2.1 (hC.2.2.2.2.1 _ (List.mem_append_right _ hlink) rfl) (hC.2.2.2.2.1 _ (List.mem_append_right _ w1) rfl) (hC.2.2.2.2.1 _ (List.mem_append_right _ w2) rfl) (hC.2.2.2.2.1 _ (List.mem_append_right _ w3) rfl) (by omega) (by rw [zCat_sum]; omega) (by omega) (by omega) hd (k p e R s m args below meth c H locs cells slots lsC Q hC hR hO h1 h2 hl hq)
theorem aw_mabs {idx : Nat} {x1 : Int32} (hd : decode y.2.1 pc = .ok (.invokestatic idx, 3)) (hlink : Cond.methodLink y.1.cls idx Lib.Math.abs.name ∈ tables_1) (hrm : (st.map fun v => v.category).sum ≤ 8) (hp : pc + 3 = pc') (k : AW E l (d + 1) nc ns y pc' ls (.int (if 0 ≤ x1 then x1 else 0 - x1) :: st) μ K) : AW E l (d + 1) nc ns y pc ls (.int x1 :: st) μ K := by
  intro p e R s m args below meth c H locs cells slots lsC Q hC hR hO h1 h2 hl hq
  subst hp
  have w1 : Cond.static Lib.Math.abs.name ∈ tables_1 := by decide +kernel
  have w2 : Cond.initialized "java/lang/Math" ∈ tables_1 := by decide +kernel
  have w3 : Cond.code Lib.Math.abs.name Lib.Math.abs.code 1 (some .int) ∈ tables_1 := by decide +kernel
  have hlo := hC.2.2.2.2.2.2.2.2.2.2
  have hfr := hC.2.2.2.2.2.2.2.2.2.1
  exact va_mabs hC.1 hC.2.1 (hC.2.2.1.trans hl.1.symm) hC.2.2.2.1 (hC.2.2.2.2.1 _ (List.mem_append_right _ hlink) rfl) (hC.2.2.2.2.1 _ (List.mem_append_right _ w1) rfl) (hC.2.2.2.2.1 _ (List.mem_append_right _ w2) rfl) (hC.2.2.2.2.1 _ (List.mem_append_right _ w3) rfl) (by omega) (by rw [zCat_sum]; omega) (by omega) (by omega) hd (k p e R s m args below meth c H locs cells slots lsC Q hC hR hO h1 h2 hl hq)
theorem aw_lookupE {dflt : Int} {ps : Array (Int × Int)} {len : Nat} {x1 c : Int32} {off : Int} (hd : decode y.2.1 pc = .ok (.lookupswitch dflt ps, len)) (hs : (ps.toList.zip (ps.toList.drop 1)).all (fun (a, next) => a.1 < next.1) = true) (hq : x1 = c) (ho : Op.lookupswitch.offset ps.toList dflt c.toInt = off) (ht : (pc : Int) + off = (tgt : Int)) (k : AW E l d nc ns y tgt ls st μ K) : AW E l d nc ns y pc ls (.int x1 :: st) μ K := by
  subst hq; exact aw_lookup hd hs ho ht k
theorem aw_tableE {dflt lo hi : Int} {offs : Array Int} {len : Nat} {x1 c : Int32} {off : Int} (hd : decode y.2.1 pc = .ok (.tableswitch dflt lo hi offs, len)) (hq : x1 = c) (h3 : ¬ c.toInt < lo) (h4 : ¬ hi < c.toInt) (ho : offs[(c.toInt - lo).toNat]? = some off) (ht : (pc : Int) + off = (tgt : Int)) (k : AW E l d nc ns y tgt ls st μ K) : AW E l d nc ns y pc ls (.int x1 :: st) μ K := by
  subst hq; exact aw_tableIn hd h3 h4 ho ht k
theorem aw_mem (k : ∀ μ', μ' = μ → AW E l d nc ns y pc ls st μ' K) : AW E l d nc ns y pc ls st μ K := k μ rfl
theorem aw_newaB {k N B : Nat} {n : Int32} {atype : ArrayType} (hd : decode y.2.1 pc = .ok (.newarray atype, 2)) (h12 : 12 ≤ k) (h16 : k < 16) (hty : newarray.typeOf atype = aTy k) (hw : Cond.arrayClass (newarray.typeOf atype) ∈ tables_1) (hp : pc + 2 = pc') (hn : ¬ n < 0) (hN : n.toNatClampNeg = N) (hb : N ≤ B) (hB : B ≤ 60000000) (kk : AW E l d nc ns y pc' ls (.ref (zN μ) :: st) (sNew μ k N) K) : AW E l d (nc + 1) (ns + B) y pc ls (.int n :: st) μ K :=
  (aw_newa hd h12 h16 hty hw hp hn hN (Nat.le_trans hb hB) kk).more (Nat.le_refl _) (by omega)
theorem aw_alens {a k n : Nat} {v : Int32} (hd : decode y.2.1 pc = .ok (.arraylength, 1)) (h12 : 12 ≤ k) (h21 : k < 21) (hp : pc + 1 = pc') (hk : zK μ a = k) (hn : zL μ a = n) (hv : nI n = v) (kk : AW E l d nc ns y pc' ls (.int v :: st) μ K) : AW E l d nc ns y pc ls (.ref a :: st) μ K := by
  refine aw_alen hd h12 h21 hp hk ?_
  rw [hn, hv]; exact kk
theorem aw_getSVs {idx a b : Nat} (hd : decode y.2.1 pc = .ok (.getfield idx, 3)) (hw : Cond.fieldLink y.1.cls idx "java/lang/String" "value" "[B" ∈ tables_1) (hp : pc + 3 = pc') (hk : zK μ a = 21) (hz : zA μ a 0 = some b) (kk : AW E l d nc ns y pc' ls (.ref b :: st) μ K) : AW E l d nc ns y pc ls (.ref a :: st) μ K :=
  aw_getSV hd hw hp hk (fun c q => by rw [hz] at q; cases q; exact kk)
theorem aw_icmp_eq_T {x1 x2 : Int32} {off : Int} (hd : decode y.2.1 pc = .ok (.if_icmp .eq off, 3)) (ht : (pc : Int) + off = (tgt : Int)) (hp : pc + 3 = pc') (hc : x1 = x2) (k : AW E l d nc ns y tgt ls st μ K) : AW E l d nc ns y pc ls (.int x2 :: .int x1 :: st) μ K := aw_icmp_eq hd ht hp (fun _ => k) (fun q => absurd hc q)
theorem aw_icmp_eq_F {x1 x2 : Int32} {off : Int} (hd : decode y.2.1 pc = .ok (.if_icmp .eq off, 3)) (ht : (pc : Int) + off = (tgt : Int)) (hp : pc + 3 = pc') (hc : ¬ x1 = x2) (k : AW E l d nc ns y pc' ls st μ K) : AW E l d nc ns y pc ls (.int x2 :: .int x1 :: st) μ K := aw_icmp_eq hd ht hp (fun q => absurd q hc) (fun _ => k)
theorem aw_icmp_ne_T {x1 x2 : Int32} {off : Int} (hd : decode y.2.1 pc = .ok (.if_icmp .ne off, 3)) (ht : (pc : Int) + off = (tgt : Int)) (hp : pc + 3 = pc') (hc : ¬ x1 = x2) (k : AW E l d nc ns y tgt ls st μ K) : AW E l d nc ns y pc ls (.int x2 :: .int x1 :: st) μ K := aw_icmp_ne hd ht hp (fun _ => k) (fun q => absurd q hc)
theorem aw_icmp_ne_F {x1 x2 : Int32} {off : Int} (hd : decode y.2.1 pc = .ok (.if_icmp .ne off, 3)) (ht : (pc : Int) + off = (tgt : Int)) (hp : pc + 3 = pc') (hc : x1 = x2) (k : AW E l d nc ns y pc' ls st μ K) : AW E l d nc ns y pc ls (.int x2 :: .int x1 :: st) μ K := aw_icmp_ne hd ht hp (fun q => absurd hc q) (fun _ => k)
theorem aw_icmp_lt_T {x1 x2 : Int32} {off : Int} (hd : decode y.2.1 pc = .ok (.if_icmp .lt off, 3)) (ht : (pc : Int) + off = (tgt : Int)) (hp : pc + 3 = pc') (hc : x1 < x2) (k : AW E l d nc ns y tgt ls st μ K) : AW E l d nc ns y pc ls (.int x2 :: .int x1 :: st) μ K := aw_icmp_lt hd ht hp (fun _ => k) (fun q => absurd hc q)
theorem aw_icmp_lt_F {x1 x2 : Int32} {off : Int} (hd : decode y.2.1 pc = .ok (.if_icmp .lt off, 3)) (ht : (pc : Int) + off = (tgt : Int)) (hp : pc + 3 = pc') (hc : ¬ x1 < x2) (k : AW E l d nc ns y pc' ls st μ K) : AW E l d nc ns y pc ls (.int x2 :: .int x1 :: st) μ K := aw_icmp_lt hd ht hp (fun q => absurd q hc) (fun _ => k)
theorem aw_icmp_ge_T {x1 x2 : Int32} {off : Int} (hd : decode y.2.1 pc = .ok (.if_icmp .ge off, 3)) (ht : (pc : Int) + off = (tgt : Int)) (hp : pc + 3 = pc') (hc : x2 ≤ x1) (k : AW E l d nc ns y tgt ls st μ K) : AW E l d nc ns y pc ls (.int x2 :: .int x1 :: st) μ K := aw_icmp_ge hd ht hp (fun _ => k) (fun q => absurd hc q)
theorem aw_icmp_ge_F {x1 x2 : Int32} {off : Int} (hd : decode y.2.1 pc = .ok (.if_icmp .ge off, 3)) (ht : (pc : Int) + off = (tgt : Int)) (hp : pc + 3 = pc') (hc : ¬ x2 ≤ x1) (k : AW E l d nc ns y pc' ls st μ K) : AW E l d nc ns y pc ls (.int x2 :: .int x1 :: st) μ K := aw_icmp_ge hd ht hp (fun q => absurd q hc) (fun _ => k)
theorem aw_icmp_gt_T {x1 x2 : Int32} {off : Int} (hd : decode y.2.1 pc = .ok (.if_icmp .gt off, 3)) (ht : (pc : Int) + off = (tgt : Int)) (hp : pc + 3 = pc') (hc : x2 < x1) (k : AW E l d nc ns y tgt ls st μ K) : AW E l d nc ns y pc ls (.int x2 :: .int x1 :: st) μ K := aw_icmp_gt hd ht hp (fun _ => k) (fun q => absurd hc q)
theorem aw_icmp_gt_F {x1 x2 : Int32} {off : Int} (hd : decode y.2.1 pc = .ok (.if_icmp .gt off, 3)) (ht : (pc : Int) + off = (tgt : Int)) (hp : pc + 3 = pc') (hc : ¬ x2 < x1) (k : AW E l d nc ns y pc' ls st μ K) : AW E l d nc ns y pc ls (.int x2 :: .int x1 :: st) μ K := aw_icmp_gt hd ht hp (fun q => absurd q hc) (fun _ => k)
theorem aw_icmp_le_T {x1 x2 : Int32} {off : Int} (hd : decode y.2.1 pc = .ok (.if_icmp .le off, 3)) (ht : (pc : Int) + off = (tgt : Int)) (hp : pc + 3 = pc') (hc : x1 ≤ x2) (k : AW E l d nc ns y tgt ls st μ K) : AW E l d nc ns y pc ls (.int x2 :: .int x1 :: st) μ K := aw_icmp_le hd ht hp (fun _ => k) (fun q => absurd hc q)
theorem aw_icmp_le_F {x1 x2 : Int32} {off : Int} (hd : decode y.2.1 pc = .ok (.if_icmp .le off, 3)) (ht : (pc : Int) + off = (tgt : Int)) (hp : pc + 3 = pc') (hc : ¬ x1 ≤ x2) (k : AW E l d nc ns y pc' ls st μ K) : AW E l d nc ns y pc ls (.int x2 :: .int x1 :: st) μ K := aw_icmp_le hd ht hp (fun q => absurd q hc) (fun _ => k)
theorem aw_if_eq_T {x1 : Int32} {off : Int} (hd : decode y.2.1 pc = .ok (.ifCond .eq off, 3)) (ht : (pc : Int) + off = (tgt : Int)) (hp : pc + 3 = pc') (hc : x1 = 0) (k : AW E l d nc ns y tgt ls st μ K) : AW E l d nc ns y pc ls (.int x1 :: st) μ K := aw_if_eq hd ht hp (fun _ => k) (fun q => absurd hc q)
theorem aw_if_eq_F {x1 : Int32} {off : Int} (hd : decode y.2.1 pc = .ok (.ifCond .eq off, 3)) (ht : (pc : Int) + off = (tgt : Int)) (hp : pc + 3 = pc') (hc : ¬ x1 = 0) (k : AW E l d nc ns y pc' ls st μ K) : AW E l d nc ns y pc ls (.int x1 :: st) μ K := aw_if_eq hd ht hp (fun q => absurd q hc) (fun _ => k)
theorem aw_if_ne_T {x1 : Int32} {off : Int} (hd : decode y.2.1 pc = .ok (.ifCond .ne off, 3)) (ht : (pc : Int) + off = (tgt : Int)) (hp : pc + 3 = pc') (hc : ¬ x1 = 0) (k : AW E l d nc ns y tgt ls st μ K) : AW E l d nc ns y pc ls (.int x1 :: st) μ K := aw_if_ne hd ht hp (fun _ => k) (fun q => absurd q hc)
theorem aw_if_ne_F {x1 : Int32} {off : Int} (hd : decode y.2.1 pc = .ok (.ifCond .ne off, 3)) (ht : (pc : Int) + off = (tgt : Int)) (hp : pc + 3 = pc') (hc : x1 = 0) (k : AW E l d nc ns y pc' ls st μ K) : AW E l d nc ns y pc ls (.int x1 :: st) μ K := aw_if_ne hd ht hp (fun q => absurd hc q) (fun _ => k)
theorem aw_if_lt_T {x1 : Int32} {off : Int} (hd : decode y.2.1 pc = .ok (.ifCond .lt off, 3)) (ht : (pc : Int) + off = (tgt : Int)) (hp : pc + 3 = pc') (hc : x1 < 0) (k : AW E l d nc ns y tgt ls st μ K) : AW E l d nc ns y pc ls (.int x1 :: st) μ K := aw_if_lt hd ht hp (fun _ => k) (fun q => absurd hc q)
theorem aw_if_lt_F {x1 : Int32} {off : Int} (hd : decode y.2.1 pc = .ok (.ifCond .lt off, 3)) (ht : (pc : Int) + off = (tgt : Int)) (hp : pc + 3 = pc') (hc : ¬ x1 < 0) (k : AW E l d nc ns y pc' ls st μ K) : AW E l d nc ns y pc ls (.int x1 :: st) μ K := aw_if_lt hd ht hp (fun q => absurd q hc) (fun _ => k)
theorem aw_if_ge_T {x1 : Int32} {off : Int} (hd : decode y.2.1 pc = .ok (.ifCond .ge off, 3)) (ht : (pc : Int) + off = (tgt : Int)) (hp : pc + 3 = pc') (hc : 0 ≤ x1) (k : AW E l d nc ns y tgt ls st μ K) : AW E l d nc ns y pc ls (.int x1 :: st) μ K := aw_if_ge hd ht hp (fun _ => k) (fun q => absurd hc q)
theorem aw_if_ge_F {x1 : Int32} {off : Int} (hd : decode y.2.1 pc = .ok (.ifCond .ge off, 3)) (ht : (pc : Int) + off = (tgt : Int)) (hp : pc + 3 = pc') (hc : ¬ 0 ≤ x1) (k : AW E l d nc ns y pc' ls st μ K) : AW E l d nc ns y pc ls (.int x1 :: st) μ K := aw_if_ge hd ht hp (fun q => absurd q hc) (fun _ => k)
theorem aw_if_gt_T {x1 : Int32} {off : Int} (hd : decode y.2.1 pc = .ok (.ifCond .gt off, 3)) (ht : (pc : Int) + off = (tgt : Int)) (hp : pc + 3 = pc') (hc : 0 < x1) (k : AW E l d nc ns y tgt ls st μ K) : AW E l d nc ns y pc ls (.int x1 :: st) μ K := aw_if_gt hd ht hp (fun _ => k) (fun q => absurd hc q)
theorem aw_if_gt_F {x1 : Int32} {off : Int} (hd : decode y.2.1 pc = .ok (.ifCond .gt off, 3)) (ht : (pc : Int) + off = (tgt : Int)) (hp : pc + 3 = pc') (hc : ¬ 0 < x1) (k : AW E l d nc ns y pc' ls st μ K) : AW E l d nc ns y pc ls (.int x1 :: st) μ K := aw_if_gt hd ht hp (fun q => absurd q hc) (fun _ => k)
theorem aw_if_le_T {x1 : Int32} {off : Int} (hd : decode y.2.1 pc = .ok (.ifCond .le off, 3)) (ht : (pc : Int) + off = (tgt : Int)) (hp : pc + 3 = pc') (hc : x1 ≤ 0) (k : AW E l d nc ns y tgt ls st μ K) : AW E l d nc ns y pc ls (.int x1 :: st) μ K := aw_if_le hd ht hp (fun _ => k) (fun q => absurd hc q)
theorem aw_if_le_F {x1 : Int32} {off : Int} (hd : decode y.2.1 pc = .ok (.ifCond .le off, 3)) (ht : (pc : Int) + off = (tgt : Int)) (hp : pc + 3 = pc') (hc : ¬ x1 ≤ 0) (k : AW E l d nc ns y pc' ls st μ K) : AW E l d nc ns y pc ls (.int x1 :: st) μ K := aw_if_le hd ht hp (fun q => absurd q hc) (fun _ => k)
theorem aw_callV0 {idx a ci : Nat} (hd : decode y.2.1 pc = .ok (.invokevirtual idx, 3)) (hy : zMok y2) (hlink : Cond.methodLink y.1.cls idx y2.1 ∈ tables_1) (hinst : Cond.instanceMethod y2.1 ∈ tables_1) (hsel : Cond.selects y2.1.cls y2.1 y2.1 ∈ lw_tbl) (hpar : (parseMethodDescriptor y2.1.desc).map (fun d => d.parameters.length) = some As.length) (hcls : (ci < 12 ∧ (clC ci).1 = y2.1.cls) ∨ (ci = 21 ∧ y2.1.cls = "java/lang/String"))
    (hst : As.reverse ++ .ref a :: rest = st) (hlen : (zaf (.ref a :: As)).length ≤ y2.2.2.1) (hrm : (rest.map fun v => v.category).sum ≤ 16) (hp : pc + 3 = pc') (hk : zK μ a = ci) (h : AW E l d 0 0 y2 0 (zargs y2.2.2.1 (.ref a :: As)) [] μ K1)
    (kk : ∀ v μ1, K1 v μ1 → AW E l (d + 1) nc ns y pc' ls (v.toList ++ rest) μ1 K) : AW E l (d + 1) nc ns y pc ls st μ K := by
  have := aw_callV (nc := nc) (ns := ns) hd hy hlink hinst hsel hpar hcls hst hlen hrm hp hk h kk
  rw [Nat.zero_add, Nat.zero_add] at this
  exact this
theorem aw_callS0 {idx : Nat} (hd : decode y.2.1 pc = .ok (.invokestatic idx, 3)) (hy : zMok y2) (hlink : Cond.methodLink y.1.cls idx y2.1 ∈ tables_1) (hstat : Cond.static y2.1 ∈ tables_1) (hpar : (parseMethodDescriptor y2.1.desc).map (fun d => d.parameters.length) = some As.length)
    (hst : As.reverse ++ rest = st) (hlen : (zaf As).length ≤ y2.2.2.1) (hrm : (rest.map fun v => v.category).sum ≤ 16) (hp : pc + 3 = pc') (h : AW E l d 0 0 y2 0 (zargs y2.2.2.1 As) [] μ K1)
    (kk : ∀ v μ1, K1 v μ1 → AW E l (d + 1) nc ns y pc' ls (v.toList ++ rest) μ1 K) : AW E l (d + 1) nc ns y pc ls st μ K := by
  have := aw_callS (nc := nc) (ns := ns) hd hy hlink hstat hpar hst hlen hrm hp h kk
  rw [Nat.zero_add, Nat.zero_add] at this
  exact this
theorem aw_callSN0 {idx : Nat} (hd : decode y.2.1 pc = .ok (.invokestatic idx, 3)) (hy : zMok y2) (hlink : Cond.methodLinkNest y.1.cls idx y2.1 "ReturnDesk" ∈ zNst) (hstat : Cond.static y2.1 ∈ tables_1) (hpar : (parseMethodDescriptor y2.1.desc).map (fun d => d.parameters.length) = some As.length)
    (hst : As.reverse ++ rest = st) (hlen : (zaf As).length ≤ y2.2.2.1) (hrm : (rest.map fun v => v.category).sum ≤ 16) (hp : pc + 3 = pc') (h : AW E l d 0 0 y2 0 (zargs y2.2.2.1 As) [] μ K1)
    (kk : ∀ v μ1, K1 v μ1 → AW E l (d + 1) nc ns y pc' ls (v.toList ++ rest) μ1 K) : AW E l (d + 1) nc ns y pc ls st μ K := by
  have := aw_callSN (nc := nc) (ns := ns) hd hy hlink hstat hpar hst hlen hrm hp h kk
  rw [Nat.zero_add, Nat.zero_add] at this
  exact this
theorem aw_callI0 {idx a : Nat} (hd : decode y.2.1 pc = .ok (.invokespecial idx, 3)) (hy : zMok y2) (hnm : y2.1.name = "<init>") (hrt : y2.2.2.2 = none) (hlink : Cond.methodLink y.1.cls idx y2.1 ∈ tables_1) (hinst : Cond.instanceMethod y2.1 ∈ tables_1) (hpar : (parseMethodDescriptor y2.1.desc).map (fun d => d.parameters.length) = some As.length)
    (hst : As.reverse ++ .ref a :: rest = st) (hlen : (zaf (.ref a :: As)).length ≤ y2.2.2.1) (hrm : (rest.map fun v => v.category).sum ≤ 16) (hp : pc + 3 = pc') (h : AW E l d 0 0 y2 0 (zargs y2.2.2.1 (.ref a :: As)) [] μ K1)
    (kk : ∀ v μ1, K1 v μ1 → AW E l (d + 1) nc ns y pc' ls (v.toList ++ rest) μ1 K) : AW E l (d + 1) nc ns y pc ls st μ K := by
  have := aw_callI (nc := nc) (ns := ns) hd hy hnm hrt hlink hinst hpar hst hlen hrm hp h kk
  rw [Nat.zero_add, Nat.zero_add] at this
  exact this
theorem aw_callIN0 {idx a : Nat} (hd : decode y.2.1 pc = .ok (.invokespecial idx, 3)) (hy : zMok y2) (hnm : y2.1.name = "<init>") (hrt : y2.2.2.2 = none) (hlink : Cond.methodLinkNest y.1.cls idx y2.1 "ReturnDesk" ∈ zNst) (hinst : Cond.instanceMethod y2.1 ∈ tables_1) (hpar : (parseMethodDescriptor y2.1.desc).map (fun d => d.parameters.length) = some As.length)
    (hst : As.reverse ++ .ref a :: rest = st) (hlen : (zaf (.ref a :: As)).length ≤ y2.2.2.1) (hrm : (rest.map fun v => v.category).sum ≤ 16) (hp : pc + 3 = pc') (h : AW E l d 0 0 y2 0 (zargs y2.2.2.1 (.ref a :: As)) [] μ K1)
    (kk : ∀ v μ1, K1 v μ1 → AW E l (d + 1) nc ns y pc' ls (v.toList ++ rest) μ1 K) : AW E l (d + 1) nc ns y pc ls st μ K := by
  have := aw_callIN (nc := nc) (ns := ns) hd hy hnm hrt hlink hinst hpar hst hlen hrm hp h kk
  rw [Nat.zero_add, Nat.zero_add] at this
  exact this
end Rows2
