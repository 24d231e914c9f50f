/-! the heap under the machine's own moves -/
theorem phi_lt {E : ZE} {a n : Nat} (h : ∀ a, a < 11 → E.2.2.1 a < E.2.2.2 ∧ 12 ≤ n + 12) (ha : a < 11) : phi E a < E.2.2.2 := by
  unfold phi; rw [if_pos ha]; exact (h a ha).1
theorem phi_ge {E : ZE} {a : Nat} (ha : 11 ≤ a) : phi E a = E.2.2.2 + (a - 11) := by
  unfold phi; rw [if_neg (by omega)]
theorem phi_ne {E : ZE} {μ : ZM} {s : State} {H : Heap} (h : zR E μ s H) {a b : Nat} (ha : 11 ≤ a) (hab : b ≠ a) : phi E b ≠ phi E a := by
  rw [phi_ge ha]
  by_cases hb : b < 11
  · have := (h.2.2.2.1 b hb).1
    unfold phi; rw [if_pos hb]; omega
  · rw [phi_ge (by omega)]; omega
theorem zR.lt {E : ZE} {μ : ZM} {s : State} {H : Heap} (h : zR E μ s H) {a : Nat} (ha : zK μ a < 99) : a < zN μ := by
  apply Nat.not_le.mp
  intro q
  have := h.2.2.2.2.1 a q
  omega
theorem zR.new11 {E : ZE} {μ : ZM} {s : State} {H : Heap} (h : zR E μ s H) {a : Nat} (ha : zK μ a < 12) : 11 ≤ a := by
  apply Nat.not_lt.mp
  intro q
  have := (h.2.2.2.1 a q).2
  omega
theorem zR.phis {E : ZE} {μ : ZM} {s : State} {H : Heap} (h : zR E μ s H) {a : Nat} (ha : a < zN μ) : phi E a < H.size := by
  rw [h.1]
  by_cases hb : a < 11
  · have := (h.2.2.2.1 a hb).1
    unfold phi; rw [if_pos hb]; omega
  · rw [phi_ge (by omega)]; have := h.2.1; omega
theorem zF_congr {E : ZE} {μ μ' : ZM} {a : Nat} (h1 : ∀ j, zI μ' a j = zI μ a j) (h3 : ∀ j, zA μ' a j = zA μ a j) (ci k : Nat) : zF E μ' a ci k = zF E μ a ci k := by
  unfold zF; rw [h1, h3]
theorem zEl_congr {E : ZE} {μ μ' : ZM} {a : Nat} (h1 : ∀ j, zI μ' a j = zI μ a j) (h2 : ∀ j, zJ μ' a j = zJ μ a j) (h3 : ∀ j, zA μ' a j = zA μ a j) (k j : Nat) : zEl E μ' a k j = zEl E μ a k j := by
  unfold zEl; rw [h1, h2, h3]
/-- a cell of which nothing has changed -/
theorem zCl.keep {E : ZE} {μ μ' : ZM} {s : State} {H H' : Heap} {a : Nat} (h : zCl E μ s H a) (hK : zK μ' a = zK μ a) (hL : zL μ' a = zL μ a) (h1 : ∀ j, zI μ' a j = zI μ a j) (h2 : ∀ j, zJ μ' a j = zJ μ a j) (h3 : ∀ j, zA μ' a j = zA μ a j) (hq : H'[phi E a]? = H[phi E a]?) (hold : ∀ q, q < H.size → ¬ zNu E q → H'[q]? = H[q]?) : zCl E μ' s H' a := by
  obtain ⟨g1, g2, g3⟩ := h
  refine ⟨fun q => ?_, fun q1 q2 => ?_, fun q => ?_⟩
  · rw [hK] at q
    have := g1 q
    unfold zOb at this ⊢
    rw [hK]
    exact (this.kept hq).to (fun k _ => (zF_congr h1 h3 _ k).symm)
  · rw [hK] at q1 q2
    obtain ⟨cell, c1, c2, c3, c4, c5, c6⟩ := g2 q1 q2
    unfold zAr
    rw [hK, hL]
    exact ⟨cell, by rw [hq]; exact c1, c2, c3, fun z => by rw [show zEl E μ' a (zK μ a) = zEl E μ a (zK μ a) from funext (fun j => zEl_congr h1 h2 h3 _ j)]; exact c4 z, c5, fun j hj => by rw [zEl_congr h1 h2 h3]; exact c6 j hj⟩
  · rw [hK] at q
    obtain ⟨b, c0, c1, c2, c3, c4⟩ := g3 q
    exact ⟨b, by rw [h3]; exact c0, by rw [h1]; exact c1, c2.kept hold, c3.kept hold, c4.kept hold⟩
theorem zSf.keep {E : ZE} {s : State} {H H' : Heap} (h : zSf E s H) (hold : ∀ q, q < H.size → ¬ zNu E q → H'[q]? = H[q]?) : zSf E s H' := ⟨h.1.kept hold, h.2.1.kept hold, h.2.2.1.kept hold, by obtain ⟨v, hv, hz⟩ := h.2.2.2; exact ⟨v, hv, hz.kept hold⟩⟩
/-- one cell is changed -/
theorem zR.upd {E : ZE} {μ μ' : ZM} {s : State} {H H' : Heap} {a : Nat} (h : zR E μ s H) (hN : zN μ' = zN μ) (hK : zK μ' = zK μ) (hL : zL μ' = zL μ) (ho : ∀ b, b ≠ a → ∀ j, zI μ' b j = zI μ b j ∧ zJ μ' b j = zJ μ b j ∧ zA μ' b j = zA μ b j) (ha : 11 ≤ a) (hz : H'.size = H.size) (hq : ∀ q, q ≠ phi E a → H'[q]? = H[q]?) (hc : zCl E μ' s H' a) : zR E μ' s H' := by
  have hold : ∀ q, q < H.size → ¬ zNu E q → H'[q]? = H[q]? := by
    intro q _ h2
    refine hq q (fun e => h2 ?_)
    rw [e, phi_ge ha]
    show E.2.2.2 ≤ _
    omega
  refine ⟨by rw [hz, hN]; exact h.1, by rw [hN]; exact h.2.1, fun b hb => ?_, fun b hb => by rw [hK]; exact h.2.2.2.1 b hb, fun b hb => by rw [hK]; exact h.2.2.2.2.1 b (by rw [← hN]; exact hb), h.2.2.2.2.2.keep hold⟩
  by_cases e : b = a
  · rw [e]; exact hc
  · rw [hN] at hb
    exact (h.2.2.1 b hb).keep (by rw [hK]) (by rw [hL]) (fun j => (ho b e j).1) (fun j => (ho b e j).2.1) (fun j => (ho b e j).2.2) (hq _ (phi_ne h ha e)) hold
/-- a cell is new -/
theorem zR.push {E : ZE} {μ : ZM} {s : State} {H H' : Heap} {k n : Nat} (h : zR E μ s H) (hk : k < 99) (hz : H'.size = H.size + 1) (hq : ∀ q, q < H.size → H'[q]? = H[q]?) (hc : zCl E (sNew μ k n) s H' (zN μ)) : zR E (sNew μ k n) s H' := by
  have e1 : ∀ b, b ≠ zN μ → zK (sNew μ k n) b = zK μ b := fun b hb => if_neg hb
  have e2 : ∀ b, b ≠ zN μ → zL (sNew μ k n) b = zL μ b := fun b hb => if_neg hb
  have e3 : ∀ b, b ≠ zN μ → ∀ j, zI (sNew μ k n) b j = zI μ b j := fun b hb j => if_neg hb
  have e4 : ∀ b, b ≠ zN μ → ∀ j, zJ (sNew μ k n) b j = zJ μ b j := fun b hb j => if_neg hb
  have e5 : ∀ b, b ≠ zN μ → ∀ j, zA (sNew μ k n) b j = zA μ b j := fun b hb j => if_neg hb
  have eN : zN (sNew μ k n) = zN μ + 1 := rfl
  have h11 := h.2.1
  refine ⟨by rw [hz, eN, h.1]; omega, by omega, fun b hb => ?_, fun b hb => ?_, fun b hb => ?_, h.2.2.2.2.2.keep (fun q a1 _ => hq q a1)⟩
  · by_cases e : b = zN μ
    · rw [e]; exact hc
    · exact (h.2.2.1 b (by omega)).keep (e1 b e) (e2 b e) (e3 b e) (e4 b e) (e5 b e) (hq _ (h.phis (by omega))) (fun q a1 _ => hq q a1)
  · rw [e1 b (by omega)]; exact h.2.2.2.1 b hb
  · rw [e1 b (by omega)]; exact h.2.2.2.2.1 b (by omega)
theorem zR.phiN {E : ZE} {μ : ZM} {s : State} {H : Heap} (h : zR E μ s H) : phi E (zN μ) = H.size := by rw [phi_ge h.2.1, h.1]
/-- the tables have moved -/
theorem zR.moved {E : ZE} {μ : ZM} {u U : State} {H : Heap} (hvm : u.vm.Alike U.vm) (h : zR E μ u H) : zR E μ U H := by
  refine ⟨h.1, h.2.1, fun a ha => ?_, h.2.2.2.1, h.2.2.2.2.1, h.2.2.2.2.2.1.moved hvm, h.2.2.2.2.2.2.1.moved hvm, h.2.2.2.2.2.2.2.1.moved hvm, by obtain ⟨v, hv, hz⟩ := h.2.2.2.2.2.2.2.2; exact ⟨v, hv, hz.moved hvm⟩⟩
  obtain ⟨g1, g2, g3⟩ := h.2.2.1 a ha
  refine ⟨g1, fun q1 q2 => ?_, fun q => ?_⟩
  · obtain ⟨cell, c1, c2, c3⟩ := g2 q1 q2
    exact ⟨cell, c1, State.isArrayOf_alike hvm c2, c3⟩
  · obtain ⟨b, c0, c1, c2, c3, c4⟩ := g3 q
    exact ⟨b, c0, c1, c2.moved hvm, c3.moved hvm, c4.moved hvm⟩
theorem zV.moved {E : ZE} {u U : State} (hW : u.WarmedH U.vm) (h : zV E u) : zV E U := by
  obtain ⟨h1, h2, h3, h4, h5⟩ := h
  refine ⟨fun k hk => u_Kn_moved hW.alike (h1 k hk), fun k a b => ⟨arrOfT_moved hW.alike (h2 k a b).1, (h2 k a b).2.moved hW.alike⟩, fun w hw => ?_, fun i q hq => (h4 i q hq).warm hW, fun C hc => (h5 C hc).moved hW.alike⟩
  have hz := h3 w hw
  simp only [zNst, List.mem_cons, List.not_mem_nil, or_false] at hw
  rcases hw with rfl | rfl | rfl | rfl | rfl | rfl | rfl | rfl
  all_goals first | exact va_Nw.warmM hW hz | exact va_Nw.warmF hW hz
theorem zV.same {E : ZE} {u U : State} (he : U.vm = u.vm) (h : zV E u) : zV E U := by
  obtain ⟨h1, h2, h3, h4, h5⟩ := h
  have hvm : u.vm.Alike U.vm := by rw [he]; exact Vm.Alike.refl _
  refine ⟨fun k hk => u_Kn_moved hvm (h1 k hk), fun k a b => ⟨arrOfT_moved hvm (h2 k a b).1, (h2 k a b).2.moved hvm⟩, fun w hw => ?_, fun i q hq => (h4 i q hq).same he, fun C hc => (h5 C hc).moved hvm⟩
  have hz := h3 w hw
  simp only [zNst, List.mem_cons, List.not_mem_nil, or_false] at hw
  rcases hw with rfl | rfl | rfl | rfl | rfl | rfl | rfl | rfl
  all_goals exact va_Nw.same rfl he.symm hz
/-! the classes' rows among the tables' -/
def zLay (c : Cond) : Bool := match c with
  | .lays _ _ _ _ => true
  | .laysFinal _ _ _ _ => true
  | _ => false
theorem cl_all : ∀ ci, ci < 12 → ∀ w ∈ u_ws (clC ci).1 (clC ci).2.1 (clC ci).2.2, w ∈ tables_1.filter zLay := by decide +kernel
theorem cl_good {w : Cond} (h : zLay w = true) : goodWord w = true := by
  cases w <;> first | rfl | cases h
theorem cl_in {ci : Nat} (h : ci < 12) {w : Cond} (hw : w ∈ u_ws (clC ci).1 (clC ci).2.1 (clC ci).2.2) : w ∈ lw_tbl ∧ goodWord w = true := by
  have h1 := List.mem_filter.mp (cl_all ci h w hw)
  exact ⟨List.mem_append_right _ h1.1, cl_good h1.2⟩
theorem cl_ty : ∀ ci, ci < 12 → ∀ k, k < (clC ci).2.2 → parseFieldDescriptor ((clC ci).2.1 k).2.2.1 = some (tyC ci k) := by decide +kernel
theorem cl_nm : ∀ ci, ci < 12 → ∀ a, a < (clC ci).2.2 → ∀ b, b < (clC ci).2.2 → a ≠ b → ((clC ci).2.1 a).2.1 ≠ ((clC ci).2.1 b).2.1 := by
  intro ci h
  match ci, h with
  | 0, _ => exact nmX0
  | 1, _ => exact nmX1
  | 2, _ => exact nmX2
  | 3, _ => exact nmX3
  | 4, _ => exact nmX4
  | 5, _ => exact nmX5
  | 6, _ => exact nmX6
  | 7, _ => exact nmX7
  | 8, _ => exact nmX8
  | 9, _ => exact nmX9
  | 10, _ => exact nmX10
  | 11, _ => exact nmX11
  | n + 12, h => omega
def FL (own : String) (idx ci k : Nat) : Prop := ci < 12 ∧ k < (clC ci).2.2 ∧ Cond.fieldLink own idx ((clC ci).2.1 k).1 ((clC ci).2.1 k).2.1 ((clC ci).2.1 k).2.2.1 ∈ tables_1
def zMok (y : MTH) : Prop := plainName y.1.cls = true ∧ Cond.code y.1 y.2.1 y.2.2.1 y.2.2.2 ∈ tables_1 ∧ Cond.initialized y.1.cls ∈ tables_1 ∧ y.1.cls ≠ "java/lang/invoke/MethodHandle" ∧ y.1.cls ≠ "java/lang/invoke/VarHandle" ∧ y.2.2.1 ≤ 14
def zDecs (cc : ByteArray) (l : List (Nat × Instr × Nat)) : Prop := ∀ (k : Nat) (q : Nat × Instr × Nat), l[k]? = some q → decode cc q.1 = .ok q.2
theorem zDecs_of {cc : ByteArray} {l : List (Nat × Instr × Nat)} (h : ∀ q ∈ l, decode cc q.1 = .ok q.2) : zDecs cc l := fun _ q hq => h q (List.mem_of_getElem? hq)
