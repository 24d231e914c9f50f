/-! the abstract memory: next address, kinds, lengths, ints, longs, references, by small abstract addresses -/
abbrev ZM : Type := Nat × (Nat → Nat) × (Nat → Nat) × (Nat → Nat → Int32) × (Nat → Nat → Int64) × (Nat → Nat → Option Nat)
def zN (μ : ZM) : Nat := μ.1
def zK (μ : ZM) : Nat → Nat := μ.2.1
def zL (μ : ZM) : Nat → Nat := μ.2.2.1
def zI (μ : ZM) : Nat → Nat → Int32 := μ.2.2.2.1
def zJ (μ : ZM) : Nat → Nat → Int64 := μ.2.2.2.2.1
def zA (μ : ZM) : Nat → Nat → Option Nat := μ.2.2.2.2.2
def up2 {α : Type} (f : Nat → Nat → α) (a k : Nat) (x : α) : Nat → Nat → α := fun b j => if b = a ∧ j = k then x else f b j
def sI (μ : ZM) (a k : Nat) (x : Int32) : ZM := (μ.1, μ.2.1, μ.2.2.1, up2 μ.2.2.2.1 a k x, μ.2.2.2.2.1, μ.2.2.2.2.2)
def sJ (μ : ZM) (a k : Nat) (x : Int64) : ZM := (μ.1, μ.2.1, μ.2.2.1, μ.2.2.2.1, up2 μ.2.2.2.2.1 a k x, μ.2.2.2.2.2)
def sA (μ : ZM) (a k : Nat) (x : Option Nat) : ZM := (μ.1, μ.2.1, μ.2.2.1, μ.2.2.2.1, μ.2.2.2.2.1, up2 μ.2.2.2.2.2 a k x)
def sNew (μ : ZM) (k n : Nat) : ZM := (μ.1 + 1, fun a => if a = μ.1 then k else zK μ a, fun a => if a = μ.1 then n else zL μ a, fun a j => if a = μ.1 then 0 else zI μ a j, fun a j => if a = μ.1 then 0 else zJ μ a j, fun a j => if a = μ.1 then none else zA μ a j)
def sCpy (μ : ZM) (src sp dst dp n : Nat) : ZM := (μ.1, μ.2.1, μ.2.2.1, (fun a j => if a = dst ∧ dp ≤ j ∧ j < dp + n then zI μ src (sp + (j - dp)) else zI μ a j), μ.2.2.2.2.1, μ.2.2.2.2.2)
/-! the constants of a run: classes' numbers and slots, array classes' numbers, addresses of the old cells, the first new address -/
abbrev ZE : Type := va_G × (Nat → ClassId) × (Nat → Nat) × Nat
def phi (E : ZE) (a : Nat) : Nat := if a < 11 then E.2.2.1 a else E.2.2.2 + (a - 11)
def zv (E : ZE) : Value → Value
  | .ref a => .ref (phi E a)
  | v => v
def clC (k : Nat) : vw_C := vwCl.getD k (RX0, TX0, 0)
def tyC : Nat → Nat → FieldType
  | 0 => tyX0 | 1 => tyX1 | 2 => tyX2 | 3 => tyX3 | 4 => tyX4 | 5 => tyX5 | 6 => tyX6 | 7 => tyX7 | 8 => tyX8 | 9 => tyX9 | 10 => tyX10 | _ => tyX11
def isRf : FieldType → Bool
  | .object _ => true
  | .array _ => true
  | _ => false
def zF (E : ZE) (μ : ZM) (a ci k : Nat) : Value := if isRf (tyC ci k) = true then va_rf ((zA μ a k).map (phi E)) else .int (zI μ a k)
def aTy : Nat → FieldType
  | 12 => .byte | 13 => .int | 14 => .long | 15 => .boolean | 16 => .object "ReturnDesk$Asking" | 17 => .object "ReturnDesk$Lot" | 18 => .object "ReturnDesk$Model" | 19 => .object "ReturnDesk$Sale" | _ => .object "ReturnDesk$Text"
def zEl (E : ZE) (μ : ZM) (a k j : Nat) : Value := if k = 14 then .long (zJ μ a j) else if k < 16 then .int (zI μ a j) else va_rf ((zA μ a j).map (phi E))
def zOb (E : ZE) (μ : ZM) (H : Heap) (a : Nat) : Prop := t_OB (phi E a) (E.1.1 (zK μ a)) (clC (zK μ a)).2.2 (E.1.2 (zK μ a)) H (fun k => zF E μ a (zK μ a) k)
def zAr (E : ZE) (μ : ZM) (s : State) (H : Heap) (a : Nat) : Prop := ∃ cell : Cell, H[phi E a]? = some cell ∧ s.isArrayOf cell (aTy (zK μ a)) ∧ cell.vm ≠ .unknown ∧ (11 ≤ a → cell = arrV (E.2.1 (zK μ a)) (zL μ a) (zEl E μ a (zK μ a))) ∧ (zL μ a ≤ cell.slots.size ∧ cell.slots.size.toInt32 = nI (zL μ a)) ∧ ∀ j, j < zL μ a → cell.slots[j]? = some (zEl E μ a (zK μ a) j)
def zNu (E : ZE) : Nat → Prop := fun q => E.2.2.2 ≤ q
def zSt (E : ZE) (μ : ZM) (s : State) (H : Heap) (a : Nat) : Prop := ∃ b, zA μ a 0 = some b ∧ zI μ a 1 = 0 ∧ va_O "java/lang/String" (phi E a) (zNu E) s H ∧ va_OF "java/lang/String" "coder" "B" (.int 0) (phi E a) (zNu E) s H ∧ va_OF "java/lang/String" "value" "[B" (.ref (phi E b)) (phi E a) (zNu E) s H
def zCl (E : ZE) (μ : ZM) (s : State) (H : Heap) (a : Nat) : Prop := (zK μ a < 12 → zOb E μ H a) ∧ (12 ≤ zK μ a → zK μ a < 21 → zAr E μ s H a) ∧ (zK μ a = 21 → zSt E μ s H a)
def zSf (E : ZE) (s : State) (H : Heap) : Prop := va_Z "ReturnDesk" "TENTHS" "[I" (.ref (phi E 9)) (zNu E) s H ∧ va_Z "ReturnDeskModel" "NAMES" "[J" (.ref (phi E 10)) (zNu E) s H ∧ va_Z "java/lang/String" "COMPACT_STRINGS" "Z" (.int 1) (zNu E) s H ∧ ∃ v : Value, (v = .null ∨ ∃ q, v = .ref q) ∧ va_Z "jdk/internal/util/Preconditions" "SIOOBE_FORMATTER" "Ljava/util/function/BiFunction;" v (zNu E) s H
/-- the heap holds the abstract memory -/
def zR (E : ZE) (μ : ZM) (s : State) (H : Heap) : Prop := H.size = E.2.2.2 + (zN μ - 11) ∧ 11 ≤ zN μ ∧ (∀ a, a < zN μ → zCl E μ s H a) ∧ (∀ a, a < 11 → E.2.2.1 a < E.2.2.2 ∧ 12 ≤ zK μ a) ∧ (∀ a, zN μ ≤ a → zK μ a = 99) ∧ zSf E s H
def zNst : List Cond := [.methodLinkNest "ReturnDesk" 41 mX5_init.1 "ReturnDesk", .methodLinkNest "ReturnDesk" 48 mX6_init.1 "ReturnDesk", .methodLinkNest "ReturnDesk$Reader" 11 mX8_init.1 "ReturnDesk", .methodLinkNest "ReturnDesk" 60 mX3_init.1 "ReturnDesk", .methodLinkNest "ReturnDesk" 67 mX1_init.1 "ReturnDesk", .methodLinkNest "ReturnDesk$Machine" 54 mX10_asBit.1 "ReturnDesk", .methodLinkNest "ReturnDesk$Asking" 41 mX10_digit.1 "ReturnDesk", .fieldLinkNest "ReturnDesk$Judgement" 44 "ReturnDesk" "TENTHS" "[I" "ReturnDesk"]
def zStr : List (String × Nat × String) := [("ReturnDesk$Reader", 26, "days fault worn opened proof gift kind price size month threes times"), ("ReturnDesk$Tape", 69, "no mend swap note refund or and not"), ("ReturnDesk$Tape", 56, ";:<=>+-*/()"), ("ReturnDesk$Reader", 39, "bought back share spent lately")]
def zAO : List String := ["ReturnDesk$Asking", "ReturnDesk$Lot", "ReturnDesk$Model", "ReturnDesk$Sale", "ReturnDesk$Text"]
/-- what the tables say all through -/
def zV (E : ZE) (s : State) : Prop := (∀ k, k < 12 → u_Kn s (clC k).1 (clC k).2.1 (clC k).2.2 (E.1.1 k) (E.1.2 k)) ∧ (∀ k, 12 ≤ k → k < 21 → ArrOfT s (E.2.1 k) (aTy k) ∧ va_RA s (E.2.1 k) (aTy k)) ∧ (∀ w ∈ zNst, va_Nw w s) ∧ (∀ (i : Nat) (q : String × Nat × String), zStr[i]? = some q → vk_R q.1 q.2.1 q.2.2 (phi E (i + 1)) s) ∧ ∀ C ∈ zAO, va_AO C s
/-- the method y, at its start s -/
def zC (E : ZE) (d : Nat) (y : MTH) (p : Program) (R : Room) (s : State) (m : MethodId) (args : Array Value) (meth : Method) (c : Code) : Prop :=
  p.tables.exec = Jvm.exec ∧ c.code = y.2.1 ∧ c.maxLocals = y.2.2.1 ∧ s.vm.findClass y.1.cls = some m.cls ∧ (∀ w ∈ lw_tbl, goodWord w = true → w.before args s = true) ∧ zV E s ∧ meth.sig.returnType = y.2.2.2 ∧ meth.locks = false ∧ (y.1.name = "<init>" → meth.name = "<init>") ∧ d ≤ R.frames ∧ d * 41 ≤ R.locals
def zO (E : ZE) (locs : List Loc) : Prop := ∀ q ∈ locs, E.2.2.2 ≤ q.base
def zLv (E : ZE) (ls : List (Option Value)) (lsC : Array Slot) (n : Nat) : Prop := lsC.size = n ∧ lv_wf lsC ∧ ∀ (i : Nat) (v : Value), ls[i]? = some (some v) → lsC[i]? = some (.val (zv E v))
def zRet (y : MTH) (pc : Nat) : Option Value → Prop
  | none => y.2.2.2 = none ∧ decode y.2.1 pc = .ok (.return_, 1)
  | some (.int x) => ∃ ty, y.2.2.2 = some ty ∧ narrow ty (.int x) = .int x ∧ decode y.2.1 pc = .ok (.ireturn, 1)
  | some (.long _) => y.2.2.2 = some .long ∧ decode y.2.1 pc = .ok (.lreturn, 1)
  | some .null => ∃ ty, y.2.2.2 = some ty ∧ isRf ty = true ∧ decode y.2.1 pc = .ok (.areturn, 1)
  | some (.ref _) => ∃ ty, y.2.2.2 = some ty ∧ isRf ty = true ∧ decode y.2.1 pc = .ok (.areturn, 1)
  | _ => False
/-- from pc of y, with locals ls, stack st and memory μ, at most d frames deep, making at most nc cells of ns slots, the machine comes to a return of y with K -/
def AW (E : ZE) (l : Launch) (d nc ns : Nat) (y : MTH) (pc : Nat) (ls : List (Option Value)) (st : List Value) (μ : ZM) (K : Option Value → ZM → Prop) : Prop :=
  ∀ (p : Program) (e : Env) (R : Room) (s : State) (m : MethodId) (args : Array Value) (below : List Frame) (meth : Method) (c : Code) (H : Heap) (locs : List Loc) (cells slots : Nat) (lsC : Array Slot) (Q : State → Prop),
    zC E d y p R s m args meth c → zR E μ s H → zO E locs → cells + nc ≤ R.cells → slots + ns ≤ R.slots → zLv E ls lsC y.2.2.1 →
    (∀ (v : Option Value) (μ' : ZM) (H' : Heap) (locs' : List Loc) (cells' slots' pcR : Nat) (lsR : Array Slot), K v μ' → zR E μ' s H' → zO E locs' → cells' ≤ cells + nc → slots' ≤ slots + ns → zRet y pcR v →
      W p l e R s m args below meth c H' locs' cells' slots' Q (F0 m pcR lsR (v.toList.map (zv E)))) →
    W p l e R s m args below meth c H locs cells slots Q (F0 m pc lsC (st.map (zv E)))
theorem AW.mono {E : ZE} {l : Launch} {d nc ns : Nat} {y : MTH} {pc : Nat} {ls : List (Option Value)} {st : List Value} {μ : ZM} {K K' : Option Value → ZM → Prop} (h : AW E l d nc ns y pc ls st μ K) (hk : ∀ v μ, K v μ → K' v μ) : AW E l d nc ns y pc ls st μ K' := by
  intro p e R s m args below meth c H locs cells slots lsC Q hC hR hO h1 h2 hl hq
  exact h p e R s m args below meth c H locs cells slots lsC Q hC hR hO h1 h2 hl (fun v μ' H' locs' cells' slots' pcR lsR a => hq v μ' H' locs' cells' slots' pcR lsR (hk v μ' a))
theorem AW.more {E : ZE} {l : Launch} {d nc ns nc' ns' : Nat} {y : MTH} {pc : Nat} {ls : List (Option Value)} {st : List Value} {μ : ZM} {K : Option Value → ZM → Prop} (h : AW E l d nc ns y pc ls st μ K) (h1 : nc ≤ nc') (h2 : ns ≤ ns') : AW E l d nc' ns' y pc ls st μ K := by
  intro p e R s m args below meth c H locs cells slots lsC Q hC hR hO g1 g2 hl hq
  exact h p e R s m args below meth c H locs cells slots lsC Q hC hR hO (by omega) (by omega) hl (fun v μ' H' locs' cells' slots' pcR lsR a b c d e => hq v μ' H' locs' cells' slots' pcR lsR a b c (by omega) (by omega))
theorem zC.less {E : ZE} {d d' : Nat} {y : MTH} {p : Program} {R : Room} {s : State} {m : MethodId} {args : Array Value} {meth : Method} {c : Code} (h : zC E d' y p R s m args meth c) (hd : d ≤ d') : zC E d y p R s m args meth c := by
  obtain ⟨a1, a2, a3, a4, a5, a6, a7, a8, a9, a10, a11⟩ := h
  exact ⟨a1, a2, a3, a4, a5, a6, a7, a8, a9, by omega, by omega⟩
theorem AW.deep {E : ZE} {l : Launch} {d d' nc ns : Nat} {y : MTH} {pc : Nat} {ls : List (Option Value)} {st : List Value} {μ : ZM} {K : Option Value → ZM → Prop} (h : AW E l d nc ns y pc ls st μ K) (hd : d ≤ d') : AW E l d' nc ns y pc ls st μ K := by
  intro p e R s m args below meth c H locs cells slots lsC Q hC hR hO g1 g2 hl hq
  exact h p e R s m args below meth c H locs cells slots lsC Q (hC.less hd) hR hO g1 g2 hl hq
/-! locals -/
def zcat (v : Option Value) : Bool := match v with
  | some (.long _) => true
  | some (.double _) => true
  | _ => false
def zset1 (ls : List (Option Value)) (i : Nat) (v : Value) : List (Option Value) := match i with
  | 0 => ls.set 0 (some v)
  | j + 1 => if zcat (ls.getD j none) then (ls.set j none).set (j + 1) (some v) else ls.set (j + 1) (some v)
def zset2 (ls : List (Option Value)) (i : Nat) (v : Value) : List (Option Value) := (zset1 ls i v).set (i + 1) none
theorem zv_cat (E : ZE) (v : Value) : (zv E v).category = v.category := by cases v <;> rfl
theorem zcat_iff {v : Value} : zcat (some v) = true ↔ v.category = 2 := by cases v <;> simp [zcat, Value.category]
def zAs (E : ZE) (ls : List (Option Value)) : List (Nat × Value) := ls.zipIdx.filterMap (fun q => q.1.map (fun v => (q.2, zv E v)))
theorem zAs_mem {E : ZE} {ls : List (Option Value)} {i : Nat} {w : Value} : (i, w) ∈ zAs E ls ↔ ∃ v, ls[i]? = some (some v) ∧ w = zv E v := by
  unfold zAs
  rw [List.mem_filterMap]
  constructor
  · rintro ⟨⟨o, j⟩, h1, h2⟩
    cases o with
    | none => simp at h2
    | some v =>
      simp only [Option.map_some, Option.some.injEq, Prod.mk.injEq] at h2
      obtain ⟨rfl, rfl⟩ := h2
      rw [List.mem_zipIdx_iff_getElem?] at h1
      exact ⟨v, by simpa using h1, rfl⟩
  · rintro ⟨v, h1, rfl⟩
    refine ⟨(some v, i), ?_, rfl⟩
    rw [List.mem_zipIdx_iff_getElem?]
    simpa using h1
theorem zLv_has {E : ZE} {ls : List (Option Value)} {lsC : Array Slot} {n : Nat} : zLv E ls lsC n ↔ lv_has lsC n (zAs E ls) := by
  constructor
  · rintro ⟨h1, h2, h3⟩
    refine ⟨h1, h2, fun q hq => ?_⟩
    obtain ⟨i, w⟩ := q
    obtain ⟨v, g1, rfl⟩ := zAs_mem.mp hq
    exact h3 i v g1
  · rintro ⟨h1, h2, h3⟩
    exact ⟨h1, h2, fun i v h => h3 (i, zv E v) (zAs_mem.mpr ⟨v, h, rfl⟩)⟩
theorem zset1_get {ls : List (Option Value)} {i j : Nat} {v w : Value} (h : (zset1 ls i v)[j]? = some (some w)) : (j = i ∧ w = v) ∨ (j ≠ i ∧ ls[j]? = some (some w) ∧ ¬ (j + 1 = i ∧ w.category = 2)) := by
  cases i with
  | zero =>
    simp only [zset1] at h
    rw [List.getElem?_set] at h
    split at h
    next q => subst q; split at h <;> simp at h; exact Or.inl ⟨rfl, h.symm⟩
    next q => exact Or.inr ⟨fun z => q z.symm, h, fun z => by omega⟩
  | succ i =>
    simp only [zset1] at h
    split at h
    next hc =>
      rw [List.getElem?_set] at h
      split at h
      next q => subst q; split at h <;> simp at h; exact Or.inl ⟨rfl, h.symm⟩
      next q =>
        rw [List.getElem?_set] at h
        split at h
        next q2 => split at h <;> simp at h
        next q2 => exact Or.inr ⟨fun z => q z.symm, h, fun z => q2 (by omega)⟩
    next hc =>
      rw [List.getElem?_set] at h
      split at h
      next q => subst q; split at h <;> simp at h; exact Or.inl ⟨rfl, h.symm⟩
      next q =>
        refine Or.inr ⟨fun z => q z.symm, h, fun z => hc ?_⟩
        have : j = i := by omega
        subst this
        rw [List.getD_eq_getElem?_getD, h]
        exact zcat_iff.mpr z.2
theorem zLv_one {E : ZE} {ls : List (Option Value)} {lsC : Array Slot} {n i : Nat} {v : Value} (h : lv_has lsC n ((i, zv E v) :: (zAs E ls).filter (fun q => !(q.1 == i) && !(q.1 + 1 == i && q.2.category == 2)))) : zLv E (zset1 ls i v) lsC n := by
  obtain ⟨h1, h2, h3⟩ := h
  refine ⟨h1, h2, fun j w hw => ?_⟩
  rcases zset1_get hw with ⟨rfl, rfl⟩ | ⟨g1, g2, g3⟩
  · exact h3 (j, zv E w) List.mem_cons_self
  · refine h3 (j, zv E w) (List.mem_cons_of_mem _ (List.mem_filter.mpr ⟨zAs_mem.mpr ⟨w, g2, rfl⟩, ?_⟩))
    rw [zv_cat]
    simp only [Bool.and_eq_true, Bool.not_eq_true', beq_eq_false_iff_ne, ne_eq, Bool.and_eq_false_iff]
    refine ⟨g1, ?_⟩
    by_cases q : j + 1 = i
    · exact Or.inr (fun z => g3 ⟨q, z⟩)
    · exact Or.inl q
theorem zLv_two {E : ZE} {ls : List (Option Value)} {lsC : Array Slot} {n i : Nat} {v : Value} (h : lv_has lsC n ((i, zv E v) :: (zAs E ls).filter (fun q => !(q.1 == i) && (!(q.1 == i + 1) && !(q.1 + 1 == i && q.2.category == 2))))) : zLv E (zset2 ls i v) lsC n := by
  obtain ⟨h1, h2, h3⟩ := h
  refine ⟨h1, h2, fun j w hw => ?_⟩
  unfold zset2 at hw
  rw [List.getElem?_set] at hw
  split at hw
  next q => split at hw <;> simp at hw
  next q =>
    rcases zset1_get hw with ⟨rfl, rfl⟩ | ⟨g1, g2, g3⟩
    · exact h3 (j, zv E w) List.mem_cons_self
    · refine h3 (j, zv E w) (List.mem_cons_of_mem _ (List.mem_filter.mpr ⟨zAs_mem.mpr ⟨w, g2, rfl⟩, ?_⟩))
      rw [zv_cat]
      simp only [Bool.and_eq_true, Bool.not_eq_true', beq_eq_false_iff_ne, ne_eq, Bool.and_eq_false_iff]
      refine ⟨g1, fun z => q z.symm, ?_⟩
      by_cases q : j + 1 = i
      · exact Or.inr (fun z => g3 ⟨q, z⟩)
      · exact Or.inl q
theorem zLv_at {E : ZE} {ls : List (Option Value)} {lsC : Array Slot} {n i : Nat} {v : Value} (h : zLv E ls lsC n) (hv : ls[i]? = some (some v)) : lsC[i]? = some (.val (zv E v)) := h.2.2 i v hv
