def R_law : String := "ReturnDeskLaw"
def lw_P (b : Addr) (xs : List Int32) (args : Array Value) (s : State) : Prop := args = #[.ref b] ∧ s.IntsAt b xs ∧ xs.length ≤ 3584 ∧ (Jvm.Cond.and given_1 narrow_1).before args s = true
def lw_Q (_ : Array Value) (s : State) (o : Outcome) (t : State) : Prop := o = .returned (some (.int 1)) ∧ Framed s o t [] 600000 7302250
def lw_Z (below : List Frame) (a : Array Value) (s : State) : State → Prop := fun t => ∃ o, t.status = .running ∧ Ended t below o ∧ lw_Q a s o t
/-- the law's own end, with 1 on the stack, nothing written that was there before, its room as the claim has it -/
theorem lw_ret {p : Program} {l : Launch} {e : Env} {s : State} {m : MethodId} {below : List Frame} {meth : Method} {c : Code} {b : Nat} (hx : p.tables.exec = Jvm.exec) (hb : c.code = code) (hr : meth.sig.returnType = ret) (hlocks : meth.locks = false) {pc : Nat} {H : Heap} {ls : Array Slot} (hdg : decode code pc = .ok (.ireturn, 1)) : W p l e room_1 s m #[Value.ref b] below meth c H [] 600000 7302250 (lw_Z below #[Value.ref b] s) (F0 m pc ls [.int 1]) := by
  intro T hT X
  obtain ⟨fs, hret, hrun, hended, hW, hframe⟩ := X.leave (v := some (.int 1)) (hlocks := hlocks) (fun h => by rw [hr] at h; cases h)
  have hmeth' : T.vm.method? m = some meth := X.method'
  refine ⟨T.setFrames fs, ?_, .returned (some (.int 1)), hrun, hended, rfl, ⟨_, rfl⟩, hW, hframe⟩
  jvm_step X.here [X.here.top, hx, hb, hdg, hmeth', hr, ret, narrow_b1]
  (try refine ⟨rfl, ?_⟩); (try refine ⟨rfl, ?_⟩)
  first | (intro acts; rw [hret _ acts rfl rfl rfl]) | rw [hret _ _ rfl rfl rfl]
  exact Steps.refl _
/-- what holds at the law's entry: the machine, the code, the tables' words (any of lw_tbl by 'hts w (by decide +kernel)'), the script of L ints xs at the cell b, what the Statement gives of the start (any of its parts by flat_of_before) -/
def lw_At (p : Program) (s : State) (m : MethodId) (meth : Method) (c : Code) (b L : Nat) (xs : Nat → Int32) : Prop :=
  p.tables.exec = Jvm.exec ∧ c.code = code ∧ meth.sig.returnType = ret ∧ c.maxLocals = 4 ∧ s.vm.findClass R_law = some m.cls ∧ (∀ w ∈ lw_tbl, w.before #[Value.ref b] s = true) ∧ va_X b L xs s s.heap ∧ b < s.heap.size ∧ meth.locks = false ∧ (Jvm.Cond.and given_1 narrow_1).before #[Value.ref b] s = true
def zB1 : List Int32 := [100, 97, 121, 115, 32, 102, 97, 117, 108, 116, 32, 119, 111, 114, 110, 32, 111, 112, 101, 110, 101, 100, 32, 112, 114, 111, 111, 102, 32, 103, 105, 102, 116, 32, 107, 105, 110, 100, 32, 112, 114, 105, 99, 101, 32, 115, 105, 122, 101, 32, 109, 111, 110, 116, 104, 32, 116, 104, 114, 101, 101, 115, 32, 116, 105, 109, 101, 115]
def zB2 : List Int32 := [110, 111, 32, 109, 101, 110, 100, 32, 115, 119, 97, 112, 32, 110, 111, 116, 101, 32, 114, 101, 102, 117, 110, 100, 32, 111, 114, 32, 97, 110, 100, 32, 110, 111, 116]
def zB3 : List Int32 := [59, 58, 60, 61, 62, 43, 45, 42, 47, 40, 41]
def zB4 : List Int32 := [98, 111, 117, 103, 104, 116, 32, 98, 97, 99, 107, 32, 115, 104, 97, 114, 101, 32, 115, 112, 101, 110, 116, 32, 108, 97, 116, 101, 108, 121]
def zNm : List Int64 := [80155, 3223982, 464144, 223845421, 8868696, 144524, 223456, 8863997, 381245, 7214732, 291587761, 10815598, 37088111, 40187, 10256063, 10416350, 173115979]
def zTe : List Int32 := [0, 6, 8, 9, 10]
def zBy : List (List Int32) := [zB1, zB2, zB3, zB4]
def zBl : List Nat := [68, 35, 11, 30]
def zM0 (L : Nat) (xs : Nat → Int32) : ZM := (11, fun a => [13, 21, 21, 21, 21, 12, 12, 12, 12, 13, 14].getD a 99, fun a => [L, 0, 0, 0, 0, 68, 35, 11, 30, 5, 17].getD a 0, (fun a j => match a with
  | 0 => xs j
  | 5 => zB1.getD j 0
  | 6 => zB2.getD j 0
  | 7 => zB3.getD j 0
  | 8 => zB4.getD j 0
  | 9 => zTe.getD j 0
  | _ => 0), (fun a j => if a = 10 then zNm.getD j 0 else 0), (fun a j => if j = 0 ∧ 1 ≤ a ∧ a ≤ 4 then some (a + 4) else none))
def zTm (i : Nat) : Term := match i with
  | 0 => .string "ReturnDesk$Reader" 26
  | 1 => .string "ReturnDesk$Tape" 69
  | 2 => .string "ReturnDesk$Tape" 56
  | _ => .string "ReturnDesk$Reader" 39
def zFl : List Cond := flatC (Jvm.Cond.and given_1 narrow_1)
def zStL (i : Nat) : List Cond := [Cond.exactly (zTm i) "java/lang/String", Cond.eq (.field (zTm i) "java/lang/String" "coder" "B") (.int 0), Cond.arrayOf (.field (zTm i) "java/lang/String" "value" "[B") .byte, Cond.eq (.length (.field (zTm i) "java/lang/String" "value" "[B")) (.int (Int32.ofNat (zBl.getD i 0)))] ++ (List.range (zBl.getD i 0)).map (fun j => Cond.eq (.elem (.field (zTm i) "java/lang/String" "value" "[B") (.int (Int32.ofNat j))) (.int ((zBy.getD i []).getD j 0)))
theorem st_sl : ∀ i, i < 4 → (zFl.drop ([37, 109, 149, 166].getD i 0)).take (4 + zBl.getD i 0) = zStL i := by decide +kernel
theorem st_in0 {p n : Nat} {w : Cond} {l : List Cond} (h : (zFl.drop p).take n = l) (hw : w ∈ l) : w ∈ zFl := List.mem_of_mem_drop (List.mem_of_mem_take (by rw [h]; exact hw))
theorem st_ex (i : Nat) (h : i < 4) : Cond.exactly (zTm i) "java/lang/String" ∈ zFl ∧ Cond.eq (.field (zTm i) "java/lang/String" "coder" "B") (.int 0) ∈ zFl ∧ Cond.arrayOf (.field (zTm i) "java/lang/String" "value" "[B") .byte ∈ zFl ∧ Cond.eq (.length (.field (zTm i) "java/lang/String" "value" "[B")) (.int (Int32.ofNat (zBl.getD i 0))) ∈ zFl := by
  refine ⟨st_in0 (st_sl i h) ?_, st_in0 (st_sl i h) ?_, st_in0 (st_sl i h) ?_, st_in0 (st_sl i h) ?_⟩ <;> (unfold zStL; simp)
theorem st_el (i : Nat) (h : i < 4) (j : Nat) (hj : j < zBl.getD i 0) : Cond.eq (.elem (.field (zTm i) "java/lang/String" "value" "[B") (.int (Int32.ofNat j))) (.int ((zBy.getD i []).getD j 0)) ∈ zFl := st_in0 (st_sl i h) (List.mem_append_right _ (List.mem_map.mpr ⟨j, List.mem_range.mpr hj, rfl⟩))
theorem st_ne0 : ∀ q ∈ [(0, 1, 148), (0, 2, 164), (1, 2, 165), (0, 3, 200), (1, 3, 201), (2, 3, 202)], zFl[q.2.2]? = some (Cond.not (Cond.eq (zTm q.1) (zTm q.2.1))) := by decide +kernel
theorem st_ne (i : Nat) (hi : i < 4) (j : Nat) (hj : j < 4) (hn : i ≠ j) : Cond.not (Cond.eq (zTm i) (zTm j)) ∈ zFl ∨ Cond.not (Cond.eq (zTm j) (zTm i)) ∈ zFl := by
  have m : ∀ a b k, (a, b, k) ∈ [(0, 1, 148), (0, 2, 164), (1, 2, 165), (0, 3, 200), (1, 3, 201), (2, 3, 202)] → Cond.not (Cond.eq (zTm a) (zTm b)) ∈ zFl := fun a b k h => List.mem_of_getElem? (st_ne0 (a, b, k) h)
  match i, j, hi, hj, hn with
  | 0, 0, _, _, hn => exact absurd rfl hn
  | 0, 1, _, _, _ => exact Or.inl (m 0 1 148 (by decide))
  | 0, 2, _, _, _ => exact Or.inl (m 0 2 164 (by decide))
  | 0, 3, _, _, _ => exact Or.inl (m 0 3 200 (by decide))
  | 1, 0, _, _, _ => exact Or.inr (m 0 1 148 (by decide))
  | 1, 1, _, _, hn => exact absurd rfl hn
  | 1, 2, _, _, _ => exact Or.inl (m 1 2 165 (by decide))
  | 1, 3, _, _, _ => exact Or.inl (m 1 3 201 (by decide))
  | 2, 0, _, _, _ => exact Or.inr (m 0 2 164 (by decide))
  | 2, 1, _, _, _ => exact Or.inr (m 1 2 165 (by decide))
  | 2, 2, _, _, hn => exact absurd rfl hn
  | 2, 3, _, _, _ => exact Or.inl (m 2 3 202 (by decide))
  | 3, 0, _, _, _ => exact Or.inr (m 0 3 200 (by decide))
  | 3, 1, _, _, _ => exact Or.inr (m 1 3 201 (by decide))
  | 3, 2, _, _, _ => exact Or.inr (m 2 3 202 (by decide))
  | 3, 3, _, _, hn => exact absurd rfl hn
  | n + 4, _, hi, _, _ => omega
  | _, n + 4, _, hj, _ => omega
theorem st_te0 : (zFl.drop 10).take 7 = [Cond.arrayOf (.static "ReturnDesk" "TENTHS" "[I") .int, Cond.eq (.length (.static "ReturnDesk" "TENTHS" "[I")) (.int 5)] ++ (List.range 5).map (fun j => Cond.eq (.elem (.static "ReturnDesk" "TENTHS" "[I") (.int (Int32.ofNat j))) (.int (zTe.getD j 0))) := by decide +kernel
theorem st_te : Cond.arrayOf (.static "ReturnDesk" "TENTHS" "[I") .int ∈ zFl ∧ Cond.eq (.length (.static "ReturnDesk" "TENTHS" "[I")) (.int 5) ∈ zFl ∧ ∀ j, j < 5 → Cond.eq (.elem (.static "ReturnDesk" "TENTHS" "[I") (.int (Int32.ofNat j))) (.int (zTe.getD j 0)) ∈ zFl :=
  ⟨st_in0 st_te0 (by simp), st_in0 st_te0 (by simp), fun j hj => st_in0 st_te0 (List.mem_append_right _ (List.mem_map.mpr ⟨j, List.mem_range.mpr hj, rfl⟩))⟩
theorem st_nm0 : (zFl.drop 18).take 19 = [Cond.arrayOf (.static "ReturnDeskModel" "NAMES" "[J") .long, Cond.eq (.length (.static "ReturnDeskModel" "NAMES" "[J")) (.int 17)] ++ (List.range 17).map (fun j => Cond.eq (.elem (.static "ReturnDeskModel" "NAMES" "[J") (.int (Int32.ofNat j))) (.long (zNm.getD j 0))) := by decide +kernel
theorem st_nm : Cond.arrayOf (.static "ReturnDeskModel" "NAMES" "[J") .long ∈ zFl ∧ Cond.eq (.length (.static "ReturnDeskModel" "NAMES" "[J")) (.int 17) ∈ zFl ∧ ∀ j, j < 17 → Cond.eq (.elem (.static "ReturnDeskModel" "NAMES" "[J") (.int (Int32.ofNat j))) (.long (zNm.getD j 0)) ∈ zFl :=
  ⟨st_in0 st_nm0 (by simp), st_in0 st_nm0 (by simp), fun j hj => st_in0 st_nm0 (List.mem_append_right _ (List.mem_map.mpr ⟨j, List.mem_range.mpr hj, rfl⟩))⟩
theorem st_cs : Cond.eq (.static "java/lang/String" "COMPACT_STRINGS" "Z") (.int 1) ∈ zFl := List.mem_of_getElem? (i := 4) (by decide +kernel)
theorem st_tb : Cond.laysStatic "java/lang/String" "COMPACT_STRINGS" "Z" ∈ tables_1 ∧ Cond.laysStatic "ReturnDesk" "TENTHS" "[I" ∈ tables_1 ∧ Cond.laysStatic "ReturnDeskModel" "NAMES" "[J" ∈ tables_1 ∧ Cond.initialized "java/lang/String" ∈ tables_1 ∧ Cond.initialized "ReturnDesk" ∈ tables_1 ∧ Cond.initialized "ReturnDeskModel" ∈ tables_1 := by decide +kernel
theorem st_sr : ∀ q ∈ zStr, Cond.stringRef q.1 q.2.1 q.2.2 ∈ tables_1 := by decide +kernel
theorem st_in : ∀ k, k < 12 → Cond.instantiable (clC k).1 (clC k).2.2 ∈ tables_1 := by decide +kernel
theorem st_ac : ∀ k, k < 4 → Cond.arrayClass (aTy (12 + k)) ∈ tables_1 := by decide +kernel
theorem st_ao : ∀ C ∈ zAO, Cond.arrayOver (.object C) ∈ tables_1 := by decide +kernel
theorem st_ns : ∀ w ∈ zNst, w ∈ tables_1 ∧ w.onTables = true := by decide +kernel
theorem aTy_ao : ∀ k, k < 5 → ∃ C ∈ zAO, aTy (16 + k) = .object C := by
  intro k h
  match k, h with
  | 0, _ => exact ⟨_, by simp [zAO], rfl⟩
  | 1, _ => exact ⟨_, by simp [zAO], rfl⟩
  | 2, _ => exact ⟨_, by simp [zAO], rfl⟩
  | 3, _ => exact ⟨_, by simp [zAO], rfl⟩
  | 4, _ => exact ⟨_, by simp [zAO], rfl⟩
  | n + 5, h => omega
