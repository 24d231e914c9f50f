/-! a method's arguments as its first locals -/
def zaf : List Value → List (Option Value)
  | [] => []
  | v :: vs => if zcat (some v) = true then some v :: none :: zaf vs else some v :: zaf vs
def zargs (n : Nat) (As : List Value) : List (Option Value) := zaf As ++ List.replicate (n - (zaf As).length) none
theorem zaf_len (E : ZE) : ∀ As : List Value, (lg_sl (As.map (zv E))).length = (zaf As).length
  | [] => rfl
  | v :: vs => by
    have ih := zaf_len E vs
    simp only [List.map_cons, lg_sl, List.flatMap_cons, List.length_append, zaf] at ih ⊢
    rw [zv_cat]
    by_cases h : v.category = 2
    · rw [if_pos h, if_pos (zcat_iff.mpr h)]
      simp only [List.length_cons, List.length_nil]
      omega
    · rw [if_neg h, if_neg (fun q => h (zcat_iff.mp q))]
      simp only [List.length_cons, List.length_nil]
      omega
theorem zaf_mem (E : ZE) : ∀ (As : List Value) (j i : Nat) (v : Value), (zaf As)[i]? = some (some v) → (j + i, zv E v) ∈ lv_args j (As.map (zv E))
  | [], j, i, v, h => by simp [zaf] at h
  | w :: vs, j, i, v, h => by
    simp only [List.map_cons, lv_args]
    rw [zv_cat]
    unfold zaf at h
    by_cases hc : w.category = 2
    · rw [if_pos (zcat_iff.mpr hc)] at h
      rw [if_pos hc]
      match i, h with
      | 0, h => simp at h; subst h; exact List.mem_cons_self
      | 1, h => simp at h
      | i + 2, h =>
        have := zaf_mem E vs (j + 2) i v (by simpa using h)
        rw [show j + (i + 2) = j + 2 + i by omega]
        exact List.mem_cons_of_mem _ this
    · rw [if_neg (fun q => hc (zcat_iff.mp q))] at h
      rw [if_neg hc]
      match i, h with
      | 0, h => simp at h; subst h; exact List.mem_cons_self
      | i + 1, h =>
        have := zaf_mem E vs (j + 1) i v (by simpa using h)
        rw [show j + (i + 1) = j + 1 + i by omega]
        exact List.mem_cons_of_mem _ this
theorem zargs_lv {E : ZE} {As : List Value} {n : Nat} (h : (zaf As).length ≤ n) : zLv E (zargs n As) ((lg_sl (As.map (zv E)) ++ List.replicate (n - (lg_sl (As.map (zv E))).length) Slot.unset).toArray) n := by
  obtain ⟨h1, h2, h3⟩ := lv_entry (As.map (zv E)) (n := n) (by rw [zaf_len]; exact h)
  refine ⟨h1, h2, fun i v hv => ?_⟩
  unfold zargs at hv
  by_cases hi : i < (zaf As).length
  · rw [List.getElem?_append_left hi] at hv
    have := zaf_mem E As 0 i v hv
    rw [Nat.zero_add] at this
    exact h3 _ this
  · rw [List.getElem?_append_right (by omega)] at hv
    have := List.eq_of_mem_replicate (List.mem_of_getElem? hv)
    cases this
def zW (y : MTH) : List Cond := .code y.1 y.2.1 y.2.2.1 y.2.2.2 :: lw_tbl.filter goodWord
def zPc (E : ZE) (μ : ZM) (As : List Value) : Array Value → State → Prop := fun v U => v = (As.map (zv E)).toArray ∧ zV E U ∧ zR E μ U U.heap
def zQc (E : ZE) (K : Option Value → ZM → Prop) : Array Value → State → Outcome → State → Prop := fun _ _ o t => ∃ v μ', o = .returned (v.map (zv E)) ∧ K v μ' ∧ zR E μ' t t.heap
section Calls2
variable {E : ZE} {l : Launch} {d nc ns nc1 ns1 : Nat} {y y2 : MTH} {pc pc' tgt : Nat} {ls ls' : List (Option Value)} {st rest As : List Value} {μ : ZM} {K K1 : Option Value → ZM → Prop}
theorem zMet (hy : zMok y) (hlen : (zaf As).length ≤ y.2.2.1) (h : AW E l d nc ns y 0 (zargs y.2.2.1 As) [] μ K) : Met l y.1 (zW y) { frames := d, cells := nc, slots := ns, locals := d * 41 } (zPc E μ As) (zQc E K) nc ns (zNu E) := by
  refine Met.ofW (cc := y.2.1) (maxL := y.2.2.1) (ret := y.2.2.2) hy.1 rfl ?_
  intro p e s m args below meth c s₁ B hml hv
  obtain ⟨rfl, hV, hR⟩ := hv
  have hts : ∀ w ∈ zW y, w.before (As.map (zv E)).toArray s = true := atoms_spec (ws := zW y) B.pre
  have hown : s.vm.findClass y.1.cls = some m.cls := findClass_of_methodNamed B.named
  have hin : meth.name = y.1.name := (name_of_methodNamed B.named B.method).1
  have hlk : meth.locks = false := B.notSynchronized
  rw [lg_entry_eq]
  refine h p e _ s m _ below meth c s.heap [] 0 0 _ _ ⟨B.exec, B.bytes, hml, hown, fun w hw hg => hts w (List.mem_cons_of_mem _ (List.mem_filter.mpr ⟨hw, hg⟩)), hV, B.returns, hlk, fun q => hin.trans q, Nat.le_refl _, Nat.le_refl _⟩ hR (fun _ h => by cases h) (by show 0 + nc ≤ nc; omega) (by show 0 + ns ≤ ns; omega) (zargs_lv hlen) (fun v μ' H' locs' cells' slots' pcR lsR hK hR' hO' hc hs hret => ?_)
  refine W.widen (k := nc) (n := ns) (by omega) (by omega) ?_
  match v, hret with
  | none, hret => exact W.vret B.exec B.bytes (B.returns.trans hret.1) (fun t ht hW => ⟨none, μ', rfl, hK, by rw [ht]; exact hR'.moved hW.alike⟩) hO' hret.2 hlk
  | some (.int x), ⟨ty, q1, q2, q3⟩ => exact W.zret B.exec B.bytes (B.returns.trans q1) q2 (fun t ht hW => ⟨some (.int x), μ', rfl, hK, by rw [ht]; exact hR'.moved hW.alike⟩) hO' q3 hlk
  | some (.long x), ⟨q1, q3⟩ => exact W.lret B.exec B.bytes (B.returns.trans q1) (fun t ht hW => ⟨some (.long x), μ', rfl, hK, by rw [ht]; exact hR'.moved hW.alike⟩) hO' q3 hlk
  | some .null, ⟨ty, q1, q2, q3⟩ => exact W.aret B.exec B.bytes (B.returns.trans q1) (by cases ty <;> first | exact Or.inl ⟨_, rfl⟩ | exact Or.inr ⟨_, rfl⟩ | cases q2) (Or.inl rfl) (fun t ht hW => ⟨some .null, μ', rfl, hK, by rw [ht]; exact hR'.moved hW.alike⟩) hO' q3 hlk
  | some (.ref a), ⟨ty, q1, q2, q3⟩ => exact W.aret B.exec B.bytes (B.returns.trans q1) (by cases ty <;> first | exact Or.inl ⟨_, rfl⟩ | exact Or.inr ⟨_, rfl⟩ | cases q2) (Or.inr ⟨_, rfl⟩) (fun t ht hW => ⟨some (.ref a), μ', rfl, hK, by rw [ht]; exact hR'.moved hW.alike⟩) hO' q3 hlk
theorem zPc_blind : FrameBlind (zPc E μ As) := by
  rintro a U g mk ⟨q1, q2, q3⟩
  exact ⟨q1, zV.same (u := U) (U := U.calling g mk a) rfl q2, zR.moved (u := U) (U := U.calling g mk a) (Vm.Alike.refl U.vm) q3⟩
theorem zCat_sum (st : List Value) : ((st.map (zv E)).map fun v => v.category).sum = (st.map fun v => v.category).sum := by
  rw [List.map_map]
  congr 1
  exact List.map_congr_left (fun v _ => zv_cat E v)
/-- behind the call -/
theorem zTail {p : Program} {e : Env} {R : Room} {s : State} {m : MethodId} {args : Array Value} {below : List Frame} {meth : Method} {c : Code} {H : Heap} {locs : List Loc} {cells slots : Nat} {lsC : Array Slot} {Q : State → Prop} {st0 : List Value} {a : Array Value}
    (hrun : va_Run p l e R s m args below meth c H locs cells slots nc1 ns1 (F0 m pc lsC st0) (rest.map (zv E)) (zQc E K1 a) (zNu E))
    (hC : zC E (d + 1) y p R s m args meth c) (hO : zO E locs) (h1 : cells + (nc1 + nc) ≤ R.cells) (h2 : slots + (ns1 + ns) ≤ R.slots) (hl : zLv E ls lsC y.2.2.1)
    (hq : ∀ (v : Option Value) (μ' : ZM) (H' : Heap) (locs' : List Loc) (cells' slots' pcR : Nat) (lsR : Array Slot), K v μ' → zR E μ' s H' → zO E locs' → cells' ≤ cells + (nc1 + nc) → slots' ≤ slots + (ns1 + ns) → zRet y pcR v →
      W p l e R s m args below meth c H' locs' cells' slots' Q (F0 m pcR lsR (v.toList.map (zv E))))
    (kk : ∀ v μ1, K1 v μ1 → AW E l (d + 1) nc ns y (pc + 3) ls (v.toList ++ rest) μ1 K) : W p l e R s m args below meth c H locs cells slots Q (F0 m pc lsC st0) := by
  intro T hT X
  obtain ⟨v, st₀, t, T', L, h0, X', hL, e1, e2, ⟨w, μ1, hw, hK1, hR1⟩, stp⟩ := hrun T hT X
  have hv : v = w.map (zv E) := by cases hw; rfl
  have hvm : t.vm.Alike s.vm := by rw [← e2]; exact X'.warmed.alike.symm
  obtain ⟨t2, a1, b1⟩ := kk w μ1 hK1 p e R s m args below meth c T'.heap (locs ++ L) (cells + nc1) (slots + ns1) lsC Q hC (by rw [e1]; exact hR1.moved hvm)
    (by intro q hq'; rcases List.mem_append.mp hq' with h | h; exact hO q h; exact hL q h) (by omega) (by omega) hl
    (fun v μ' H' locs' cells' slots' pcR lsR a b c2 d2 e2 => hq v μ' H' locs' cells' slots' pcR lsR a b c2 (by omega) (by omega)) T' rfl X'
  have e3 : (w.toList ++ rest).map (zv E) = v.toList ++ rest.map (zv E) := by rw [hv]; cases w <;> simp
  rw [e3] at a1
  exact ⟨t2, stp t2 a1, b1⟩
theorem zGood {p : Program} {R : Room} {s : State} {m : MethodId} {args : Array Value} {meth : Method} {c : Code} (hC : zC E d y p R s m args meth c) (hy : zMok y2) : ∀ w ∈ zW y2, ∀ (a' : Array Value) (U : State), s.WarmedH U.vm → w.before a' U = true := by
  intro w hw a' U hW
  rcases List.mem_cons.mp hw with rfl | hw
  · exact word_at hW (good_of_word (show goodWord (.code y2.1 y2.2.1 y2.2.2.1 y2.2.2.2) = true from rfl)) (hC.2.2.2.2.1 _ (List.mem_append_right _ hy.2.1) rfl)
  · obtain ⟨g1, g2⟩ := List.mem_filter.mp hw
    exact word_at hW (good_of_word g2) (hC.2.2.2.2.1 w g1 g2)
theorem zRecv {s : State} {H : Heap} (hR : zR E μ s H) (hV : zV E s) {a ci : Nat} (hk : zK μ a = ci) (hcls : (ci < 12 ∧ (clC ci).1 = y2.1.cls) ∨ (ci = 21 ∧ y2.1.cls = "java/lang/String")) : ∃ cellB : Cell, H[phi E a]? = some cellB ∧ cellB.vm.isStatics = false ∧ s.vm.findClass y2.1.cls = some cellB.cls := by
  rcases hcls with ⟨hci, hn⟩ | ⟨hci, hn⟩
  · obtain ⟨-, -, cell, q1, q2, q3, -⟩ := zOb_at hR hci hk
    exact ⟨cell, q1, by rw [q3]; rfl, by rw [← hn, q2]; exact (hV.1 ci hci).2.1⟩
  · subst hci
    obtain ⟨b, -, -, ⟨cell, q1, q2, q3, -⟩, -⟩ := zSt_at hR hk
    exact ⟨cell, q1, q2, by rw [hn]; exact q3⟩
end Calls2
section Runs
variable {E : ZE} {l : Launch} {d nc ns nc1 ns1 : Nat} {y y2 : MTH} {pc idx n : Nat} {rest As : List Value} {μ : ZM} {K1 : Option Value → ZM → Prop}
variable {p : Program} {e : Env} {R : Room} {s : State} {m : MethodId} {args : Array Value} {below : List Frame} {meth : Method} {c : Code} {H : Heap} {locs : List Loc} {cells slots : Nat} {g : JFrame}
theorem zBack (hC : zC E (d + 1) y p R s m args meth c) (hy : zMok y2) {Pc : Array Value → State → Prop} {Qc : Array Value → State → Outcome → State → Prop} {free : Addr → Prop} (hM : Met l y2.1 (zW y2) { frames := d, cells := nc1, slots := ns1, locals := d * 41 } Pc Qc nc1 ns1 free) (hb : FrameBlind Pc) : Back l R p e below s args y2.1 3 16 (PreOf R nc1 ns1 Pc) (PostOf Qc nc1 ns1 free) := by
  have hf := hC.2.2.2.2.2.2.2.2.2.1
  have hlo := hC.2.2.2.2.2.2.2.2.2.2
  have h14 := hy.2.2.2.2.2
  refine back_of (bytes := y2.2.1) (maxL := y2.2.2.1) (ret := y2.2.2.2) hM hb rfl rfl hf ?_ (zGood hC hy) List.mem_cons_self (fun a' U hW => word_at hW (Or.inl (by first | rfl | simp [Cond.onTables, Cond.keeps, Cond.steady])) (hC.2.2.2.2.1 _ (List.mem_append_right _ hy.2.2.1) rfl))
  show 16 + (y2.2.2.1 + 11) + d * 41 ≤ R.locals
  omega
theorem zCode (hC : zC E (d + 1) y p R s m args meth c) (hy : zMok y2) : (Cond.code y2.1 y2.2.1 y2.2.2.1 y2.2.2.2).before args s = true := hC.2.2.2.2.1 _ (List.mem_append_right _ hy.2.1) rfl
theorem zPar (hpar : (parseMethodDescriptor y2.1.desc).map (fun d => d.parameters.length) = some n) : ∀ sig, parseMethodDescriptor y2.1.desc = some sig → n = sig.parameters.length := by
  intro sig h
  rw [h] at hpar
  exact (Option.some.inj hpar).symm
theorem zRm {lsC : Array Slot} {st0 : List Value} (h : (rest.map fun v => v.category).sum ≤ 16) : 2 * (F0 m pc lsC st0).monitorRoom + ((rest.map (zv E)).map fun v => v.category).sum ≤ 16 := by
  rw [zCat_sum]
  show 2 * 0 + _ ≤ 16
  omega
theorem zPre (hC : zC E (d + 1) y p R s m args meth c) (hR : zR E μ s H) (hf : cells + nc1 ≤ R.cells ∧ slots + ns1 ≤ R.slots) {T : State} (hT : T.heap = H) : ∀ vm₁, s.WarmedH vm₁ → PreOf R nc1 ns1 (zPc E μ As) ⟨T.setVm vm₁, locs, cells, slots⟩ (As.map (zv E)).toArray := by
  intro vm₁ hW
  refine ⟨hf.1, hf.2, rfl, zV.moved (U := T.setVm vm₁) hW hC.2.2.2.2.2.1, ?_⟩
  show zR E μ (T.setVm vm₁) T.heap
  rw [hT]
  exact hR.moved (U := T.setVm vm₁) hW.alike
theorem zrunV {a : Nat} (hlink : Cond.methodLink y.1.cls idx y2.1 ∈ tables_1) (hinst : Cond.instanceMethod y2.1 ∈ tables_1) (hsel : Cond.selects y2.1.cls y2.1 y2.1 ∈ lw_tbl) (hrec : ∃ cellB : Cell, H[phi E a]? = some cellB ∧ cellB.vm.isStatics = false ∧ s.vm.findClass y2.1.cls = some cellB.cls) (hC : zC E (d + 1) y p R s m args meth c) (hy : zMok y2) (hpar : (parseMethodDescriptor y2.1.desc).map (fun d => d.parameters.length) = some As.length) (hM : Met l y2.1 (zW y2) { frames := d, cells := nc1, slots := ns1, locals := d * 41 } (zPc E μ (.ref a :: As)) (zQc E K1) nc1 ns1 (zNu E)) (hR : zR E μ s H) {lsC : Array Slot} (hsize : lsC.size = y.2.2.1) (hrm : (rest.map fun v => v.category).sum ≤ 16) (hd : decode y.2.1 pc = .ok (.invokevirtual idx, 3)) (hf : cells + nc1 ≤ R.cells ∧ slots + ns1 ≤ R.slots) :
    va_Run p l e R s m args below meth c H locs cells slots nc1 ns1 (F0 m pc lsC ((As.reverse ++ .ref a :: rest).map (zv E))) (rest.map (zv E)) (zQc E K1 ((.ref a :: As).map (zv E)).toArray) (zNu E) := by
  obtain ⟨cellB, hcB, hoB, hclB⟩ := hrec
  intro T hT X
  obtain ⟨v, vm₁, ⟨U', l2, c2, s2⟩, hW₁, X', ⟨g', mk, t, L, e1, e2, hq, h1, hL, h2, h3⟩, stp⟩ := callV X hC.1 (C := y2.1.cls) (bytes := y2.2.1) (maxL := y2.2.2.1) (ret := y2.2.2.2) hC.2.2.2.1 (hC.2.2.2.2.1 _ (List.mem_append_right _ hlink) rfl) (hC.2.2.2.2.1 _ (List.mem_append_right _ hinst) rfl) (hC.2.2.2.2.1 _ hsel rfl) (zCode hC hy) ⟨hy.2.2.2.1, hy.2.2.2.2.1⟩ (zBack hC hy hM zPc_blind) (by rw [hT]; exact hcB) hoB hclB (g := F0 m pc lsC ((As.reverse ++ .ref a :: rest).map (zv E))) rfl (hsize.trans hC.2.2.1.symm) (argsL := As.map (zv E)) (rest := rest.map (zv E)) (fun sig h => by rw [List.length_map]; exact zPar hpar sig h) (by simp [zv, List.map_reverse]) (zRm hrm) (by rw [hC.2.1]; exact hd) (zPre (As := (.ref a :: As)) hC hR hf hT)
  dsimp only [Pt.U, Pt.locs, Pt.cells, Pt.slots] at X' e1 e2 h1 h2 h3 stp
  subst h1; subst h2; subst h3
  exact ⟨v, (T.setVm vm₁).calling g' mk ((.ref a :: As).map (zv E)).toArray, t, U', L, hT, X', hL, e1, e2, hq, stp⟩
theorem zrunS (hlink : Cond.methodLink y.1.cls idx y2.1 ∈ tables_1) (hstat : Cond.static y2.1 ∈ tables_1) (hC : zC E (d + 1) y p R s m args meth c) (hy : zMok y2) (hpar : (parseMethodDescriptor y2.1.desc).map (fun d => d.parameters.length) = some As.length) (hM : Met l y2.1 (zW y2) { frames := d, cells := nc1, slots := ns1, locals := d * 41 } (zPc E μ As) (zQc E K1) nc1 ns1 (zNu E)) (hR : zR E μ s H) {lsC : Array Slot} (hsize : lsC.size = y.2.2.1) (hrm : (rest.map fun v => v.category).sum ≤ 16) (hd : decode y.2.1 pc = .ok (.invokestatic idx, 3)) (hf : cells + nc1 ≤ R.cells ∧ slots + ns1 ≤ R.slots) :
    va_Run p l e R s m args below meth c H locs cells slots nc1 ns1 (F0 m pc lsC ((As.reverse ++ rest).map (zv E))) (rest.map (zv E)) (zQc E K1 (As.map (zv E)).toArray) (zNu E) := by
  intro T hT X
  obtain ⟨v, vm₁, ⟨U', l2, c2, s2⟩, hW₁, X', ⟨g', mk, t, L, e1, e2, hq, h1, hL, h2, h3⟩, stp⟩ := callS X hC.1 (bytes := y2.2.1) (maxL := y2.2.2.1) (ret := y2.2.2.2) hC.2.2.2.1 (hC.2.2.2.2.1 _ (List.mem_append_right _ hlink) rfl) (hC.2.2.2.2.1 _ (List.mem_append_right _ hstat) rfl) (hC.2.2.2.2.1 _ (List.mem_append_right _ hy.2.2.1) rfl) (zCode hC hy) ⟨hy.2.2.2.1, hy.2.2.2.2.1⟩ (zBack hC hy hM zPc_blind) (g := F0 m pc lsC ((As.reverse ++ rest).map (zv E))) rfl (hsize.trans hC.2.2.1.symm) (argsL := As.map (zv E)) (rest := rest.map (zv E)) (fun sig h => by rw [List.length_map]; exact zPar hpar sig h) (by simp [zv, List.map_reverse]) (zRm hrm) (by rw [hC.2.1]; exact hd) (zPre (As := As) hC hR hf hT)
  dsimp only [Pt.U, Pt.locs, Pt.cells, Pt.slots] at X' e1 e2 h1 h2 h3 stp
  subst h1; subst h2; subst h3
  exact ⟨v, (T.setVm vm₁).calling g' mk (As.map (zv E)).toArray, t, U', L, hT, X', hL, e1, e2, hq, stp⟩
theorem zrunSN (hlink : Cond.methodLinkNest y.1.cls idx y2.1 "ReturnDesk" ∈ zNst) (hstat : Cond.static y2.1 ∈ tables_1) (hC : zC E (d + 1) y p R s m args meth c) (hy : zMok y2) (hpar : (parseMethodDescriptor y2.1.desc).map (fun d => d.parameters.length) = some As.length) (hM : Met l y2.1 (zW y2) { frames := d, cells := nc1, slots := ns1, locals := d * 41 } (zPc E μ As) (zQc E K1) nc1 ns1 (zNu E)) (hR : zR E μ s H) {lsC : Array Slot} (hsize : lsC.size = y.2.2.1) (hrm : (rest.map fun v => v.category).sum ≤ 16) (hd : decode y.2.1 pc = .ok (.invokestatic idx, 3)) (hf : cells + nc1 ≤ R.cells ∧ slots + ns1 ≤ R.slots) :
    va_Run p l e R s m args below meth c H locs cells slots nc1 ns1 (F0 m pc lsC ((As.reverse ++ rest).map (zv E))) (rest.map (zv E)) (zQc E K1 (As.map (zv E)).toArray) (zNu E) := by
  intro T hT X
  obtain ⟨v, vm₁, ⟨U', l2, c2, s2⟩, hW₁, X', ⟨g', mk, t, L, e1, e2, hq, h1, hL, h2, h3⟩, stp⟩ := va_callSN X hC.1 (bytes := y2.2.1) (maxL := y2.2.2.1) (ret := y2.2.2.2) hC.2.2.2.1 (va_Nw.use rfl (hC.2.2.2.2.2.1.2.2.1 _ hlink)) (hC.2.2.2.2.1 _ (List.mem_append_right _ hstat) rfl) (hC.2.2.2.2.1 _ (List.mem_append_right _ hy.2.2.1) rfl) (zCode hC hy) ⟨hy.2.2.2.1, hy.2.2.2.2.1⟩ (zBack hC hy hM zPc_blind) (g := F0 m pc lsC ((As.reverse ++ rest).map (zv E))) rfl (hsize.trans hC.2.2.1.symm) (argsL := As.map (zv E)) (rest := rest.map (zv E)) (fun sig h => by rw [List.length_map]; exact zPar hpar sig h) (by simp [zv, List.map_reverse]) (zRm hrm) (by rw [hC.2.1]; exact hd) (zPre (As := As) hC hR hf hT)
  dsimp only [Pt.U, Pt.locs, Pt.cells, Pt.slots] at X' e1 e2 h1 h2 h3 stp
  subst h1; subst h2; subst h3
  exact ⟨v, (T.setVm vm₁).calling g' mk (As.map (zv E)).toArray, t, U', L, hT, X', hL, e1, e2, hq, stp⟩
theorem zrunI {a : Nat} (hnm : y2.1.name = "<init>") (hrt : y2.2.2.2 = none) (hlink : Cond.methodLink y.1.cls idx y2.1 ∈ tables_1) (hinst : Cond.instanceMethod y2.1 ∈ tables_1) (hC : zC E (d + 1) y p R s m args meth c) (hy : zMok y2) (hpar : (parseMethodDescriptor y2.1.desc).map (fun d => d.parameters.length) = some As.length) (hM : Met l y2.1 (zW y2) { frames := d, cells := nc1, slots := ns1, locals := d * 41 } (zPc E μ (.ref a :: As)) (zQc E K1) nc1 ns1 (zNu E)) (hR : zR E μ s H) {lsC : Array Slot} (hsize : lsC.size = y.2.2.1) (hrm : (rest.map fun v => v.category).sum ≤ 16) (hd : decode y.2.1 pc = .ok (.invokespecial idx, 3)) (hf : cells + nc1 ≤ R.cells ∧ slots + ns1 ≤ R.slots) :
    va_Run p l e R s m args below meth c H locs cells slots nc1 ns1 (F0 m pc lsC ((As.reverse ++ .ref a :: rest).map (zv E))) (rest.map (zv E)) (zQc E K1 ((.ref a :: As).map (zv E)).toArray) (zNu E) := by
  intro T hT X
  obtain ⟨v, vm₁, ⟨U', l2, c2, s2⟩, hW₁, X', ⟨g', mk, t, L, e1, e2, hq, h1, hL, h2, h3⟩, stp⟩ := callI X hC.1 (bytes := y2.2.1) (maxL := y2.2.2.1) hC.2.2.2.1 hnm (hC.2.2.2.2.1 _ (List.mem_append_right _ hlink) rfl) (hC.2.2.2.2.1 _ (List.mem_append_right _ hinst) rfl) (by have := zCode hC hy; rw [hrt] at this; exact this) ⟨hy.2.2.2.1, hy.2.2.2.2.1⟩ (zBack hC hy hM zPc_blind) (a := phi E a) (g := F0 m pc lsC ((As.reverse ++ .ref a :: rest).map (zv E))) rfl (hsize.trans hC.2.2.1.symm) (argsL := As.map (zv E)) (rest := rest.map (zv E)) (fun sig h => by rw [List.length_map]; exact zPar hpar sig h) (by simp [zv, List.map_reverse]) (zRm hrm) (by rw [hC.2.1]; exact hd) (zPre (As := (.ref a :: As)) hC hR hf hT)
  dsimp only [Pt.U, Pt.locs, Pt.cells, Pt.slots] at X' e1 e2 h1 h2 h3 stp
  subst h1; subst h2; subst h3
  exact ⟨v, (T.setVm vm₁).calling g' mk ((.ref a :: As).map (zv E)).toArray, t, U', L, hT, X', hL, e1, e2, hq, stp⟩
theorem zrunIN {a : Nat} (hnm : y2.1.name = "<init>") (hrt : y2.2.2.2 = none) (hlink : Cond.methodLinkNest y.1.cls idx y2.1 "ReturnDesk" ∈ zNst) (hinst : Cond.instanceMethod y2.1 ∈ tables_1) (hC : zC E (d + 1) y p R s m args meth c) (hy : zMok y2) (hpar : (parseMethodDescriptor y2.1.desc).map (fun d => d.parameters.length) = some As.length) (hM : Met l y2.1 (zW y2) { frames := d, cells := nc1, slots := ns1, locals := d * 41 } (zPc E μ (.ref a :: As)) (zQc E K1) nc1 ns1 (zNu E)) (hR : zR E μ s H) {lsC : Array Slot} (hsize : lsC.size = y.2.2.1) (hrm : (rest.map fun v => v.category).sum ≤ 16) (hd : decode y.2.1 pc = .ok (.invokespecial idx, 3)) (hf : cells + nc1 ≤ R.cells ∧ slots + ns1 ≤ R.slots) :
    va_Run p l e R s m args below meth c H locs cells slots nc1 ns1 (F0 m pc lsC ((As.reverse ++ .ref a :: rest).map (zv E))) (rest.map (zv E)) (zQc E K1 ((.ref a :: As).map (zv E)).toArray) (zNu E) := by
  intro T hT X
  obtain ⟨v, vm₁, ⟨U', l2, c2, s2⟩, hW₁, X', ⟨g', mk, t, L, e1, e2, hq, h1, hL, h2, h3⟩, stp⟩ := va_callIN X hC.1 (bytes := y2.2.1) (maxL := y2.2.2.1) hC.2.2.2.1 hnm (va_Nw.use rfl (hC.2.2.2.2.2.1.2.2.1 _ hlink)) (hC.2.2.2.2.1 _ (List.mem_append_right _ hinst) rfl) (by have := zCode hC hy; rw [hrt] at this; exact this) ⟨hy.2.2.2.1, hy.2.2.2.2.1⟩ (zBack hC hy hM zPc_blind) (a := phi E a) (g := F0 m pc lsC ((As.reverse ++ .ref a :: rest).map (zv E))) rfl (hsize.trans hC.2.2.1.symm) (argsL := As.map (zv E)) (rest := rest.map (zv E)) (fun sig h => by rw [List.length_map]; exact zPar hpar sig h) (by simp [zv, List.map_reverse]) (zRm hrm) (by rw [hC.2.1]; exact hd) (zPre (As := (.ref a :: As)) hC hR hf hT)
  dsimp only [Pt.U, Pt.locs, Pt.cells, Pt.slots] at X' e1 e2 h1 h2 h3 stp
  subst h1; subst h2; subst h3
  exact ⟨v, (T.setVm vm₁).calling g' mk ((.ref a :: As).map (zv E)).toArray, t, U', L, hT, X', hL, e1, e2, hq, stp⟩
end Runs
section Calls3
variable {E : ZE} {l : Launch} {d nc ns nc1 ns1 : Nat} {y y2 : MTH} {pc pc' tgt : Nat} {ls ls' : List (Option Value)} {st rest As : List Value} {μ : ZM} {K K1 : Option Value → ZM → Prop}
theorem aw_callV {idx a ci : Nat} (hd : decode y.2.1 pc = .ok (.invokevirtual idx, 3)) (hy : zMok y2) (hlink : Cond.methodLink y.1.cls idx y2.1 ∈ tables_1) (hinst : Cond.instanceMethod y2.1 ∈ tables_1) (hsel : Cond.selects y2.1.cls y2.1 y2.1 ∈ lw_tbl) (hpar : (parseMethodDescriptor y2.1.desc).map (fun d => d.parameters.length) = some As.length) (hcls : (ci < 12 ∧ (clC ci).1 = y2.1.cls) ∨ (ci = 21 ∧ y2.1.cls = "java/lang/String"))
    (hst : As.reverse ++ .ref a :: rest = st) (hlen : (zaf (.ref a :: As)).length ≤ y2.2.2.1) (hrm : (rest.map fun v => v.category).sum ≤ 16) (hp : pc + 3 = pc') (hk : zK μ a = ci) (h : AW E l d nc1 ns1 y2 0 (zargs y2.2.2.1 (.ref a :: As)) [] μ K1)
    (kk : ∀ v μ1, K1 v μ1 → AW E l (d + 1) nc ns y pc' ls (v.toList ++ rest) μ1 K) : AW E l (d + 1) (nc1 + nc) (ns1 + ns) y pc ls st μ K := by
  intro p e R s m args below meth c H locs cells slots lsC Q hC hR hO h1 h2 hl hq
  subst hp
  subst hst
  exact zTail (zrunV hlink hinst hsel (zRecv hR hC.2.2.2.2.2.1 hk hcls) hC hy hpar (zMet hy hlen h) hR hl.1 hrm hd ⟨by omega, by omega⟩) hC hO h1 h2 hl hq kk
theorem aw_callS {idx : Nat} (hd : decode y.2.1 pc = .ok (.invokestatic idx, 3)) (hy : zMok y2) (hlink : Cond.methodLink y.1.cls idx y2.1 ∈ tables_1) (hstat : Cond.static y2.1 ∈ tables_1) (hpar : (parseMethodDescriptor y2.1.desc).map (fun d => d.parameters.length) = some As.length)
    (hst : As.reverse ++ rest = st) (hlen : (zaf As).length ≤ y2.2.2.1) (hrm : (rest.map fun v => v.category).sum ≤ 16) (hp : pc + 3 = pc') (h : AW E l d nc1 ns1 y2 0 (zargs y2.2.2.1 As) [] μ K1)
    (kk : ∀ v μ1, K1 v μ1 → AW E l (d + 1) nc ns y pc' ls (v.toList ++ rest) μ1 K) : AW E l (d + 1) (nc1 + nc) (ns1 + ns) y pc ls st μ K := by
  intro p e R s m args below meth c H locs cells slots lsC Q hC hR hO h1 h2 hl hq
  subst hp
  subst hst
  exact zTail (zrunS hlink hstat hC hy hpar (zMet hy hlen h) hR hl.1 hrm hd ⟨by omega, by omega⟩) hC hO h1 h2 hl hq kk
theorem aw_callI {idx a : Nat} (hd : decode y.2.1 pc = .ok (.invokespecial idx, 3)) (hy : zMok y2) (hnm : y2.1.name = "<init>") (hrt : y2.2.2.2 = none) (hlink : Cond.methodLink y.1.cls idx y2.1 ∈ tables_1) (hinst : Cond.instanceMethod y2.1 ∈ tables_1) (hpar : (parseMethodDescriptor y2.1.desc).map (fun d => d.parameters.length) = some As.length)
    (hst : As.reverse ++ .ref a :: rest = st) (hlen : (zaf (.ref a :: As)).length ≤ y2.2.2.1) (hrm : (rest.map fun v => v.category).sum ≤ 16) (hp : pc + 3 = pc') (h : AW E l d nc1 ns1 y2 0 (zargs y2.2.2.1 (.ref a :: As)) [] μ K1)
    (kk : ∀ v μ1, K1 v μ1 → AW E l (d + 1) nc ns y pc' ls (v.toList ++ rest) μ1 K) : AW E l (d + 1) (nc1 + nc) (ns1 + ns) y pc ls st μ K := by
  intro p e R s m args below meth c H locs cells slots lsC Q hC hR hO h1 h2 hl hq
  subst hp
  subst hst
  exact zTail (zrunI hnm hrt hlink hinst hC hy hpar (zMet hy hlen h) hR hl.1 hrm hd ⟨by omega, by omega⟩) hC hO h1 h2 hl hq kk
theorem aw_callSN {idx : Nat} (hd : decode y.2.1 pc = .ok (.invokestatic idx, 3)) (hy : zMok y2) (hlink : Cond.methodLinkNest y.1.cls idx y2.1 "ReturnDesk" ∈ zNst) (hstat : Cond.static y2.1 ∈ tables_1) (hpar : (parseMethodDescriptor y2.1.desc).map (fun d => d.parameters.length) = some As.length)
    (hst : As.reverse ++ rest = st) (hlen : (zaf As).length ≤ y2.2.2.1) (hrm : (rest.map fun v => v.category).sum ≤ 16) (hp : pc + 3 = pc') (h : AW E l d nc1 ns1 y2 0 (zargs y2.2.2.1 As) [] μ K1)
    (kk : ∀ v μ1, K1 v μ1 → AW E l (d + 1) nc ns y pc' ls (v.toList ++ rest) μ1 K) : AW E l (d + 1) (nc1 + nc) (ns1 + ns) y pc ls st μ K := by
  intro p e R s m args below meth c H locs cells slots lsC Q hC hR hO h1 h2 hl hq
  subst hp
  subst hst
  exact zTail (zrunSN hlink hstat hC hy hpar (zMet hy hlen h) hR hl.1 hrm hd ⟨by omega, by omega⟩) hC hO h1 h2 hl hq kk
theorem aw_callIN {idx a : Nat} (hd : decode y.2.1 pc = .ok (.invokespecial idx, 3)) (hy : zMok y2) (hnm : y2.1.name = "<init>") (hrt : y2.2.2.2 = none) (hlink : Cond.methodLinkNest y.1.cls idx y2.1 "ReturnDesk" ∈ zNst) (hinst : Cond.instanceMethod y2.1 ∈ tables_1) (hpar : (parseMethodDescriptor y2.1.desc).map (fun d => d.parameters.length) = some As.length)
    (hst : As.reverse ++ .ref a :: rest = st) (hlen : (zaf (.ref a :: As)).length ≤ y2.2.2.1) (hrm : (rest.map fun v => v.category).sum ≤ 16) (hp : pc + 3 = pc') (h : AW E l d nc1 ns1 y2 0 (zargs y2.2.2.1 (.ref a :: As)) [] μ K1)
    (kk : ∀ v μ1, K1 v μ1 → AW E l (d + 1) nc ns y pc' ls (v.toList ++ rest) μ1 K) : AW E l (d + 1) (nc1 + nc) (ns1 + ns) y pc ls st μ K := by
  intro p e R s m args below meth c H locs cells slots lsC Q hC hR hO h1 h2 hl hq
  subst hp
  subst hst
  exact zTail (zrunIN hnm hrt hlink hinst hC hy hpar (zMet hy hlen h) hR hl.1 hrm hd ⟨by omega, by omega⟩) hC hO h1 h2 hl hq kk
/-- System.arraycopy of ints -/
theorem zAr_eq {s : State} {H : Heap} (hR : zR E μ s H) {a : Nat} (hk : zK μ a = 13) (ha : 11 ≤ a) : H[phi E a]? = some (vp_cell (E.2.1 13) (zL μ a, .inl (fun j => zI μ a j))) := by
  obtain ⟨cell, c1, c2, c3, c4, c5, c6⟩ := zAr_at hR (by omega) (by omega) hk
  rw [c1, vp_cell_i, c4 ha]
  rfl
theorem aw_copy {idx a0 a1 : Nat} {sp dp n : Int32} (hd : decode y.2.1 pc = .ok (.invokestatic idx, 3)) (hlink : Cond.methodLink y.1.cls idx arraycopyName ∈ tables_1) (hrm : (rest.map fun v => v.category).sum ≤ 16) (hp : pc + 3 = pc') (hk0 : zK μ a0 = 13) (hk1 : zK μ a1 = 13) (h11 : 11 ≤ a0) (h12 : 11 ≤ a1) (g1 : ¬ sp < 0) (g2 : ¬ dp < 0) (g3 : ¬ n < 0) (g4 : sp.toNatClampNeg + n.toNatClampNeg ≤ zL μ a0) (g5 : dp.toNatClampNeg + n.toNatClampNeg ≤ zL μ a1)
    (kk : AW E l (d + 1) nc ns y pc' ls rest (sCpy μ a0 sp.toNatClampNeg a1 dp.toNatClampNeg n.toNatClampNeg) K) : AW E l (d + 1) nc ns y pc ls (.int n :: .int dp :: .ref a1 :: .int sp :: .ref a0 :: rest) μ K := by
  intro p e R s m args below meth c H locs cells slots lsC Q hC hR hO h1 h2 hl hq
  subst hp
  have nn : ∀ z : Int32, ¬ z < 0 → z.toInt = (z.toNatClampNeg : Int) := by
    intro z hz
    have hz0 : (0 : Int) ≤ z.toInt := by
      have := Int32.not_lt.mp hz
      simpa using Int32.le_iff_toInt_le.mp this
    show z.toInt = ((z.toInt.toNat : Nat) : Int)
    omega
  have hc0 := zAr_eq hR hk0 h11
  have hc1 := zAr_eq hR hk1 h12
  obtain ⟨hA, -⟩ := hC.2.2.2.2.2.1.2.1 13 (by omega) (by omega)
  obtain ⟨-, k0, hk0', cm0, hkk0⟩ := hA (zL μ a0) (fun j => .int (zI μ a0 j))
  obtain ⟨-, k1, hk1', cm1, hkk1⟩ := hA (zL μ a1) (fun j => .int (zI μ a1 j))
  have w1 : Cond.native arraycopyName ∈ tables_1 := by decide +kernel
  have w2 : Cond.static arraycopyName ∈ tables_1 := by decide +kernel
  have w3 : Cond.initialized "java/lang/System" ∈ tables_1 := by decide +kernel
  have hlo := hC.2.2.2.2.2.2.2.2.2.2
  have hfr := hC.2.2.2.2.2.2.2.2.2.1
  intro T hT X
  obtain ⟨vm', X', step⟩ := X.arraycopy hC.1 hC.2.2.2.1 (hC.2.2.2.2.1 _ (List.mem_append_right _ hlink) rfl) (hC.2.2.2.2.1 _ (List.mem_append_right _ w1) rfl) (hC.2.2.2.2.1 _ (List.mem_append_right _ w2) rfl) (hC.2.2.2.2.1 _ (List.mem_append_right _ w3) rfl) (src := phi E a0) (dst := phi E a1) (cs := vp_cell (E.2.1 13) (zL μ a0, .inl (fun j => zI μ a0 j))) (cd := vp_cell (E.2.1 13) (zL μ a1, .inl (fun j => zI μ a1 j))) (srcPos := sp) (destPos := dp) (n := n) (by rw [hT]; exact hc0) (by rw [hT]; exact hc1)
    (fun _ h => by cases h) (fun _ h => by cases h) (fun h => by cases h) (fun h => by cases h) hk0' hk1' hkk0 hkk1 (by simp [aTy, refKind]) g1 g2 g3
    (by rw [nn sp g1, nn n g3]; show ¬ _ > ((arrV (E.2.1 13) (zL μ a0) (fun j => .int (zI μ a0 j))).slots.size : Int); rw [arrV_size]; omega)
    (by rw [nn dp g2, nn n g3]; show ¬ _ > ((arrV (E.2.1 13) (zL μ a1) (fun j => .int (zI μ a1 j))).slots.size : Int); rw [arrV_size]; omega)
    (fun vm₁ _ i hi => by
      have e : (vp_cell (E.2.1 13) (zL μ a0, .inl (fun j => zI μ a0 j))).slots.getD (sp.toNatClampNeg + i) .null = .int (zI μ a0 (sp.toNatClampNeg + i)) := by
        show (arrV (E.2.1 13) (zL μ a0) (fun j => .int (zI μ a0 j))).slots.getD _ _ = _
        rw [Array.getD_eq_getD_getElem?, arrV_read _ _ (by omega)]
        rfl
      refine ⟨?_, ?_⟩
      · rw [e]
        rfl
      · rw [e]
        exact trivial)
    (g := F0 m pc lsC ((.int n :: .int dp :: .ref a1 :: .int sp :: .ref a0 :: rest).map (zv E))) rfl (by rw [hC.2.2.1]; exact hl.1) (rest := rest.map (zv E)) rfl (by rw [hC.2.1]; exact hd) (by omega) (by show 2 * 0 + _ + (nativeFrameWords "java/lang/System" "arraycopy" 5 + 11) ≤ _; rw [zCat_sum, show nativeFrameWords "java/lang/System" "arraycopy" 5 = 7 by decide +kernel]; omega)
  have e1 : copied (vp_cell (E.2.1 13) (zL μ a0, .inl (fun j => zI μ a0 j))) (vp_cell (E.2.1 13) (zL μ a1, .inl (fun j => zI μ a1 j))) sp dp n = vp_cell (E.2.1 13) (zL μ a1, .inl (va_cpy (fun j => zI μ a0 j) (fun j => zI μ a1 j) sp.toNatClampNeg dp.toNatClampNeg n.toNatClampNeg)) := va_copied (fun z => .int z) _ _ _ _ g4
  rw [e1] at X' step
  have hl1 : phi E a1 < H.size := (Array.getElem?_eq_some_iff.mp hc1).1
  have hheap : ((T.setVm vm').setCell (phi E a1) (vp_cell (E.2.1 13) (zL μ a1, .inl (va_cpy (fun j => zI μ a0 j) (fun j => zI μ a1 j) sp.toNatClampNeg dp.toNatClampNeg n.toNatClampNeg)))).heap = H.setIfInBounds (phi E a1) (vp_cell (E.2.1 13) (zL μ a1, .inl (va_cpy (fun j => zI μ a0 j) (fun j => zI μ a1 j) sp.toNatClampNeg dp.toNatClampNeg n.toNatClampNeg))) := by rw [← hT]; rfl
  have oq : ∀ q : Nat, q ≠ phi E a1 → (H.setIfInBounds (phi E a1) (vp_cell (E.2.1 13) (zL μ a1, .inl (va_cpy (fun j => zI μ a0 j) (fun j => zI μ a1 j) sp.toNatClampNeg dp.toNatClampNeg n.toNatClampNeg))))[q]? = H[q]? := fun q hq => by simp [Array.getElem?_setIfInBounds, Ne.symm hq]
  have hR1 : zR E (sCpy μ a0 sp.toNatClampNeg a1 dp.toNatClampNeg n.toNatClampNeg) s (H.setIfInBounds (phi E a1) (vp_cell (E.2.1 13) (zL μ a1, .inl (va_cpy (fun j => zI μ a0 j) (fun j => zI μ a1 j) sp.toNatClampNeg dp.toNatClampNeg n.toNatClampNeg)))) := by
    refine hR.upd (a := a1) rfl rfl rfl (fun b hb j => ⟨?_, rfl, rfl⟩) h12 (by simp) oq ⟨fun q => ?_, fun _ _ => ?_, fun q => ?_⟩
    · show (if b = a1 ∧ _ then _ else _) = _
      rw [if_neg (fun z => hb z.1)]
    · have q : zK μ a1 < 12 := q
      omega
    · show ∃ cell : Cell, _ ∧ s.isArrayOf cell (aTy (zK μ a1)) ∧ _ ∧ (_ → _ = arrV (E.2.1 (zK μ a1)) (zL μ a1) (zEl E _ a1 (zK μ a1))) ∧ (zL μ a1 ≤ _ ∧ _ = nI (zL μ a1)) ∧ ∀ j, j < zL μ a1 → _ = some (zEl E _ a1 (zK μ a1) j)
      rw [hk1]
      have hz : ∀ j, Value.int (va_cpy (fun j => zI μ a0 j) (fun j => zI μ a1 j) sp.toNatClampNeg dp.toNatClampNeg n.toNatClampNeg j) = zEl E (sCpy μ a0 sp.toNatClampNeg a1 dp.toNatClampNeg n.toNatClampNeg) a1 13 j := by
        intro j
        show Value.int _ = Value.int _
        congr 1
        show va_cpy _ _ _ _ _ j = (if a1 = a1 ∧ _ then _ else _)
        unfold va_cpy
        simp
      refine ⟨vp_cell (E.2.1 13) (zL μ a1, .inl (va_cpy (fun j => zI μ a0 j) (fun j => zI μ a1 j) sp.toNatClampNeg dp.toNatClampNeg n.toNatClampNeg)), (by simp [Array.getElem?_setIfInBounds, hl1]), ?_, (fun h => (by cases h)), fun _ => ?_, ⟨Nat.le_of_eq (arrV_size _ _ _).symm, by rw [show (vp_cell (E.2.1 13) (zL μ a1, .inl (va_cpy (fun j => zI μ a0 j) (fun j => zI μ a1 j) sp.toNatClampNeg dp.toNatClampNeg n.toNatClampNeg))).slots.size = zL μ a1 from arrV_size _ _ _]; rfl⟩, fun j hj => ?_⟩
      · exact hA _ _
      · rw [vp_cell_i]
        congr 1
        funext j
        exact hz j
      · rw [vp_cell_i, arrV_read _ _ hj, hz j]
    · have q : zK μ a1 = 21 := q
      omega
  obtain ⟨t, a1', b1⟩ := kk p e R s m args below meth c _ _ cells slots lsC Q hC hR1 (by
      intro q hq'
      rcases List.mem_append.mp hq' with h | h
      · exact hO q h
      · obtain ⟨z, -, hz⟩ := List.mem_map.mp h
        rw [← hz]
        show E.2.2.2 ≤ phi E a1
        rw [phi_ge h12]; omega) h1 h2 hl hq _ hheap X'
  exact ⟨t, step t a1', b1⟩
end Calls3
