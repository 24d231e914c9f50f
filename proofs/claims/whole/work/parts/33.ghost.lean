/-! texts as lists of rules -/
abbrev Itm : Type := Nat × Nat
abbrev Rul : Type := List Itm × Nat × List Itm
abbrev Gh : Type := (Nat → List Rul) × List Itm
def opC (b : Nat) : Int32 := [(-3 : Int32), -2, -60, -61, -62, -43, -45, -42, -47].getD b 0
def opR (b : Nat) : Int32 := [(10 : Int32), 11, 20, 21, 22, 30, 31, 32, 33].getD b 0
def enC (i : Itm) : Int32 := if i.1 = 0 then nI i.2 else if i.1 = 1 then nI (100000 + i.2) else if i.1 = 2 then -1 else opC i.2
def enR (base : Nat) (i : Itm) : Int32 × Int32 := if i.1 = 0 then (1, nI i.2) else if i.1 = 1 then (2, nI (base + i.2)) else if i.1 = 2 then (5, 0) else (opR i.2, 0)
def okI (many : Nat) (i : Itm) : Prop := (i.1 = 0 ∧ i.2 ≤ 99999) ∨ (i.1 = 1 ∧ i.2 < many) ∨ i.1 = 2 ∨ (i.1 = 3 ∧ i.2 < 9)
def wfE (many : Nat) : Nat → List Itm → Prop
  | h, [] => h = 1
  | h, i :: r => okI many i ∧ ((i.1 = 0 ∧ wfE many (h + 1) r) ∨ (i.1 = 1 ∧ wfE many (h + 1) r) ∨ (i.1 = 2 ∧ 1 ≤ h ∧ wfE many h r) ∨ (i.1 = 3 ∧ 2 ≤ h ∧ wfE many (h - 1) r))
def tcR (p : Nat) (r : Rul) : List Int32 := r.1.map enC ++ ((if r.1.isEmpty then [] else [-1000 - nI (p + r.1.length + r.2.2.length + 2)]) ++ (r.2.2.map enC ++ [-500 - nI r.2.1]))
def tcL : Nat → List Rul → List Int32
  | _, [] => []
  | p, r :: rs => tcR p r ++ tcL (p + (tcR p r).length) rs
def trR (r : Rul) : List (Int32 × Int32) := r.1.map (enR 0) ++ ((if r.1.isEmpty then [] else [(3, 0)]) ++ ((if r.2.1 < 3 then [(1, if r.2.1 = 0 then 0 else 100)] else r.2.2.map (enR 0)) ++ [(4, nI r.2.1)]))
def trL : List Rul → List (Int32 × Int32)
  | [] => []
  | r :: rs => trR r ++ trL rs
def okR (r : Rul) : Prop := (r.1 = [] ∨ wfE 12 0 r.1) ∧ r.2.1 < 5 ∧ ((r.2.1 < 3 ∧ r.2.2 = []) ∨ (3 ≤ r.2.1 ∧ wfE 12 0 r.2.2))
def okT (R : List Rul) : Prop := (∀ r ∈ R, okR r) ∧ (tcL 0 R).length ≤ 200 ∧ (trL R).length ≤ 200
def nNm (k : Nat) (R : List Rul) : Prop := ∀ r ∈ R, (1, k) ∉ r.1 ∧ (1, k) ∉ r.2.2
def lst (f : Nat → Int32) : Nat → List Int32 → Prop
  | _, [] => True
  | p, x :: r => f p = x ∧ lst f (p + 1) r
def lst2 (f g : Nat → Int32) : Nat → List (Int32 × Int32) → Prop
  | _, [] => True
  | p, x :: r => f p = x.1 ∧ g p = x.2 ∧ lst2 f g (p + 1) r
/-! the reference's part of the memory -/
def rf (μ : ZM) : RV := fun a j => if 31 ≤ a ∧ a < 88 then zI μ a j else 0
theorem rfz {μ : ZM} {ρ : RV} (h : rf μ = ρ) {a j : Nat} (h1 : 31 ≤ a) (h2 : a < 88) : zI μ a j = ρ a j := by
  rw [← h]
  unfold rf
  rw [if_pos ⟨h1, h2⟩]
/-! what the reference's cells hold besides -/
def RFr (ρ : RV) : Prop := (∀ i, nM ρ ≤ i → i < 20 → ρ 35 i = 0 ∧ ρ 38 i = 0 ∧ ρ 39 i = 0 ∧ ρ 40 i = 0) ∧ (∀ i, nS ρ ≤ i → i < 300 → ρ 48 i = 0 ∧ ρ 57 i = 0 ∧ ρ 60 i = 0 ∧ ρ 62 i = 0 ∧ ρ 64 i = 0) ∧ (∀ i, nA ρ ≤ i → i < 200 → ρ 82 i = 0 ∧ ρ 83 i = 0)
def RWt (ρ : RV) : Prop := (∀ i, i < nA ρ → ρ 82 i = 0 → ρ 48 (as_ ρ i) = 1) ∧ ∀ i j, i < nA ρ → j < nA ρ → ρ 82 i = 0 → ρ 82 j = 0 → as_ ρ i = as_ ρ j → i = j
def RTx (g : Gh) (ρ : RV) (i : Nat) : Prop := okT (g.1 i) ∧ ρ 69 i = nI (trL (g.1 i)).length ∧ lst2 (ρ 70) (ρ 71) (200 * i) (trL (g.1 i))
def RLm (g : Gh) (ρ : RV) : Prop := ρ 31 49 = 0 ∨ (ρ 31 49 = 1 ∧ wfE 5 0 g.2 ∧ g.2.length ≤ 200 ∧ ρ 69 20 = nI g.2.length ∧ lst2 (ρ 70) (ρ 71) 4000 (g.2.map (enR 12)))
def RIg (g : Gh) (t : Nat) (ρ : RV) : Prop := RIs ρ ∧ (∀ i, i < nM ρ → RIm ρ t i) ∧ (∀ i, i < nL ρ → RIl ρ i) ∧ (∀ i, i < nS ρ → RIsa ρ i) ∧ (∀ i, i < nA ρ → RIa ρ i) ∧ RFr ρ ∧ RWt ρ ∧ (∀ i, i < nT ρ → RTx g ρ i) ∧ RLm g ρ
/-! what the desk's cells hold besides -/
def CTx (g : Gh) (μ : ZM) (ρ : RV) (i : Nat) : Prop := zA μ 16 i = some (taF μ i) ∧ 88 ≤ taF μ i ∧ taF μ i + 1 < zN μ ∧ zK μ (taF μ i) = 9 ∧ zI μ (taF μ i) 0 = nI i ∧ zI μ (taF μ i) 1 = ρ 66 i ∧ zI μ (taF μ i) 2 = ρ 68 i ∧ zI μ (taF μ i) 3 = ρ 67 i
  ∧ zA μ (taF μ i) 4 = some (taF μ i + 1) ∧ zK μ (taF μ i + 1) = 13 ∧ zL μ (taF μ i + 1) = (tcL 0 (g.1 i)).length ∧ lst (zI μ (taF μ i + 1)) 0 (tcL 0 (g.1 i)) ∧ ∀ k, k < 4 → (zI μ (taF μ i) 5) &&& ((1 : Int32) <<< (nI k &&& 31)) = 0 → nNm k (g.1 i)
def CLm (g : Gh) (μ : ZM) (ρ : RV) : Prop := (ρ 31 49 = 0 ∧ zA μ 11 11 = none) ∨ (ρ 31 49 = 1 ∧ ∃ lc, zA μ 11 11 = some lc ∧ 88 ≤ lc ∧ lc < zN μ ∧ zK μ lc = 13 ∧ zL μ lc = g.2.length ∧ lst (zI μ lc) 0 (g.2.map enC) ∧ ∀ i, i < nM ρ → lc ≠ maF μ i + 1 ∧ lc ≠ maF μ i + 2)
def qsF (ρ : RV) (m : Nat) : List Nat := (List.range (nU ρ)).filter (fun k => decide (ρ 42 k = nI m) && !decide (ρ 44 k = 0))
def chn (μ : ZM) (us : Nat → Nat) : Option Nat → List Nat → Prop
  | o, [] => o = none
  | o, k :: r => o = some (saF μ (us k)) ∧ chn μ us (zA μ (saF μ (us k)) 19) r
def CRu (μ : ZM) (ρ : RV) : Prop := ρ 31 14 = nI (nU ρ) ∧ ∃ us : Nat → Nat, (∀ k, k < nU ρ → us k < nS ρ ∧ ρ 60 (us k) = 0 ∧ ρ 48 (us k) = 2 ∧ ρ 42 k = nI (smo ρ (us k)) ∧ ρ 43 k = dg (ρ 79 (tN (ρ 61 (us k)))) 3) ∧ (∀ k k', k < nU ρ → k' < nU ρ → us k = us k' → k = k')
  ∧ (∀ j, j < nS ρ → (∀ k, k < nU ρ → us k ≠ j) → zA μ (saF μ j) 19 = none) ∧ ∀ m, m < nM ρ → chn μ us (zA μ (maF μ m) 11) (qsF ρ m) ∧ zA μ (maF μ m) 12 = (qsF ρ m).getLast?.map (fun k => saF μ (us k)) ∧ zI μ (maF μ m) 8 = nI (qsF ρ m).length
def CRg (g : Gh) (μ : ZM) (ρ : RV) : Prop := CRs μ ρ ∧ CRn μ ρ ∧ CRh μ ρ ∧ (∀ i, i < nM ρ → CRm μ ρ i) ∧ (∀ i, i < nL ρ → CRl μ ρ i) ∧ (∀ i, i < nS ρ → CRsa μ ρ i) ∧ (∀ i, i < nA ρ → CRa μ ρ i) ∧ CRd μ ρ ∧ (∀ i, i < nT ρ → CTx g μ ρ i) ∧ CLm g μ ρ ∧ CRu μ ρ
/-- ways to choose -/
def ncr : Nat → Nat → Nat
  | _, 0 => 1
  | 0, _ + 1 => 0
  | n + 1, k + 1 => ncr n k + ncr n (k + 1)
def CRw (μ : ZM) : Prop := zJ μ 86 0 = 0 ∨ ∀ n k, n ≤ 60 → k ≤ n → zJ μ 86 (61 * n + k) = lN (ncr n k)
def CST (μ : ZM) : Prop := (∀ j, j < 68 → zI μ 5 j = zB1.getD j 0) ∧ (∀ j, j < 35 → zI μ 6 j = zB2.getD j 0) ∧ (∀ j, j < 11 → zI μ 7 j = zB3.getD j 0) ∧ (∀ j, j < 30 → zI μ 8 j = zB4.getD j 0) ∧ (∀ j, j < 5 → zI μ 9 j = zTe.getD j 0) ∧ (∀ j, j < 17 → zJ μ 10 j = zNm.getD j 0)
def S0 (L : Nat) (X : Nat → Int32) (μ : ZM) : Prop := zL μ 0 = L ∧ ∀ j, zI μ 0 j = X j
def IV (g : Gh) (L : Nat) (X : Nat → Int32) (t : Nat) (μ : ZM) : Prop := Stat μ ∧ S0 L X μ ∧ CST μ ∧ CRw μ ∧ RIg g t (rf μ) ∧ CRg g μ (rf μ)
section Acc
variable {g : Gh} {L : Nat} {X : Nat → Int32} {t : Nat} {μ : ZM} {ρ : RV} {i : Nat}
theorem IV.st (h : IV g L X t μ) : Stat μ := h.1
theorem IV.s0 (h : IV g L X t μ) : S0 L X μ := h.2.1
theorem IV.cst (h : IV g L X t μ) : CST μ := h.2.2.1
theorem IV.w (h : IV g L X t μ) : CRw μ := h.2.2.2.1
theorem IV.r (h : IV g L X t μ) (hr : rf μ = ρ) : RIg g t ρ := hr ▸ h.2.2.2.2.1
theorem IV.c (h : IV g L X t μ) (hr : rf μ = ρ) : CRg g μ ρ := hr ▸ h.2.2.2.2.2
theorem RIg.s (h : RIg g t ρ) : RIs ρ := h.1
theorem RIg.m (h : RIg g t ρ) (hi : i < nM ρ) : RIm ρ t i := h.2.1 i hi
theorem RIg.l (h : RIg g t ρ) (hi : i < nL ρ) : RIl ρ i := h.2.2.1 i hi
theorem RIg.sa (h : RIg g t ρ) (hi : i < nS ρ) : RIsa ρ i := h.2.2.2.1 i hi
theorem RIg.a (h : RIg g t ρ) (hi : i < nA ρ) : RIa ρ i := h.2.2.2.2.1 i hi
theorem RIg.f (h : RIg g t ρ) : RFr ρ := h.2.2.2.2.2.1
theorem RIg.w (h : RIg g t ρ) : RWt ρ := h.2.2.2.2.2.2.1
theorem RIg.tx (h : RIg g t ρ) (hi : i < nT ρ) : RTx g ρ i := h.2.2.2.2.2.2.2.1 i hi
theorem RIg.lm (h : RIg g t ρ) : RLm g ρ := h.2.2.2.2.2.2.2.2
theorem CRg.s (h : CRg g μ ρ) : CRs μ ρ := h.1
theorem CRg.n (h : CRg g μ ρ) : CRn μ ρ := h.2.1
theorem CRg.h (h : CRg g μ ρ) : CRh μ ρ := h.2.2.1
theorem CRg.m (h : CRg g μ ρ) (hi : i < nM ρ) : CRm μ ρ i := h.2.2.2.1 i hi
theorem CRg.l (h : CRg g μ ρ) (hi : i < nL ρ) : CRl μ ρ i := h.2.2.2.2.1 i hi
theorem CRg.sa (h : CRg g μ ρ) (hi : i < nS ρ) : CRsa μ ρ i := h.2.2.2.2.2.1 i hi
theorem CRg.a (h : CRg g μ ρ) (hi : i < nA ρ) : CRa μ ρ i := h.2.2.2.2.2.2.1 i hi
theorem CRg.d (h : CRg g μ ρ) : CRd μ ρ := h.2.2.2.2.2.2.2.1
theorem CRg.tx (h : CRg g μ ρ) (hi : i < nT ρ) : CTx g μ ρ i := h.2.2.2.2.2.2.2.2.1 i hi
theorem CRg.lm (h : CRg g μ ρ) : CLm g μ ρ := h.2.2.2.2.2.2.2.2.2.1
theorem CRg.u (h : CRg g μ ρ) : CRu μ ρ := h.2.2.2.2.2.2.2.2.2.2
end Acc
