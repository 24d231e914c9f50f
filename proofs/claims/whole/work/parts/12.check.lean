/-! String.checkIndex: the one place where a reference is passed that the abstract memory doesn't hold -/
def zPr (E : ZE) (μ : ZM) (Ar : List Value) : Array Value → State → Prop := fun v U => v = Ar.toArray ∧ zV E U ∧ zR E μ U U.heap
section Chk
variable {E : ZE} {l : Launch} {d nc ns nc1 ns1 : Nat} {y y2 : MTH} {pc pc' idx n : Nat} {ls : List (Option Value)} {rest Ar : List Value} {μ : ZM} {K K1 : Option Value → ZM → Prop}
theorem zMetR (hy : zMok y) (hlv : zLv E ls ((lg_sl Ar ++ List.replicate (y.2.2.1 - (lg_sl Ar).length) Slot.unset).toArray) y.2.2.1) (h : AW E l d nc ns y 0 ls [] μ K) : Met l y.1 (zW y) { frames := d, cells := nc, slots := ns, locals := d * 41 } (zPr E μ Ar) (zQc E K) nc ns (zNu E) := by
  refine Met.ofW (cc := y.2.1) (maxL := y.2.2.1) (ret := y.2.2.2) hy.1 rfl ?_
  intro p e s m args below meth c s₁ B hml hv
  obtain ⟨rfl, hV, hR⟩ := hv
  have hts : ∀ w ∈ zW y, w.before Ar.toArray s = true := atoms_spec (ws := zW y) B.pre
  have hown : s.vm.findClass y.1.cls = some m.cls := findClass_of_methodNamed B.named
  have hin : meth.name = y.1.name := (name_of_methodNamed B.named B.method).1
  have hlk : meth.locks = false := B.notSynchronized
  rw [lg_entry_eq]
  refine h p e _ s m _ below meth c s.heap [] 0 0 _ _ ⟨B.exec, B.bytes, hml, hown, fun w hw hg => hts w (List.mem_cons_of_mem _ (List.mem_filter.mpr ⟨hw, hg⟩)), hV, B.returns, hlk, fun q => hin.trans q, Nat.le_refl _, Nat.le_refl _⟩ hR (fun _ h => by cases h) (by show 0 + nc ≤ nc; omega) (by show 0 + ns ≤ ns; omega) hlv (fun v μ' H' locs' cells' slots' pcR lsR hK hR' hO' hc hs hret => ?_)
  refine W.widen (k := nc) (n := ns) (by omega) (by omega) ?_
  match v, hret with
  | none, hret => exact W.vret B.exec B.bytes (B.returns.trans hret.1) (fun t ht hW => ⟨none, μ', rfl, hK, by rw [ht]; exact hR'.moved hW.alike⟩) hO' hret.2 hlk
  | some (.int x), ⟨ty, q1, q2, q3⟩ => exact W.zret B.exec B.bytes (B.returns.trans q1) q2 (fun t ht hW => ⟨some (.int x), μ', rfl, hK, by rw [ht]; exact hR'.moved hW.alike⟩) hO' q3 hlk
  | some (.long x), ⟨q1, q3⟩ => exact W.lret B.exec B.bytes (B.returns.trans q1) (fun t ht hW => ⟨some (.long x), μ', rfl, hK, by rw [ht]; exact hR'.moved hW.alike⟩) hO' q3 hlk
  | some .null, ⟨ty, q1, q2, q3⟩ => exact W.aret B.exec B.bytes (B.returns.trans q1) (by cases ty <;> first | exact Or.inl ⟨_, rfl⟩ | exact Or.inr ⟨_, rfl⟩ | cases q2) (Or.inl rfl) (fun t ht hW => ⟨some .null, μ', rfl, hK, by rw [ht]; exact hR'.moved hW.alike⟩) hO' q3 hlk
  | some (.ref a), ⟨ty, q1, q2, q3⟩ => exact W.aret B.exec B.bytes (B.returns.trans q1) (by cases ty <;> first | exact Or.inl ⟨_, rfl⟩ | exact Or.inr ⟨_, rfl⟩ | cases q2) (Or.inr ⟨_, rfl⟩) (fun t ht hW => ⟨some (.ref a), μ', rfl, hK, by rw [ht]; exact hR'.moved hW.alike⟩) hO' q3 hlk
theorem zPr_blind : FrameBlind (zPr E μ Ar) := by
  rintro a U g mk ⟨q1, q2, q3⟩
  exact ⟨q1, zV.same (u := U) (U := U.calling g mk a) rfl q2, zR.moved (u := U) (U := U.calling g mk a) (Vm.Alike.refl U.vm) q3⟩
theorem zPreR {p : Program} {R : Room} {s : State} {m : MethodId} {args : Array Value} {meth : Method} {c : Code} {H : Heap} {locs : List Loc} {cells slots : Nat} (hC : zC E (d + 1) y p R s m args meth c) (hR : zR E μ s H) (hf : cells + nc1 ≤ R.cells ∧ slots + ns1 ≤ R.slots) {T : State} (hT : T.heap = H) : ∀ vm₁, s.WarmedH vm₁ → PreOf R nc1 ns1 (zPr E μ Ar) ⟨T.setVm vm₁, locs, cells, slots⟩ Ar.toArray := by
  intro vm₁ hW
  refine ⟨hf.1, hf.2, rfl, zV.moved (U := T.setVm vm₁) hW hC.2.2.2.2.2.1, ?_⟩
  show zR E μ (T.setVm vm₁) T.heap
  rw [hT]
  exact hR.moved (U := T.setVm vm₁) hW.alike
theorem zrunSR {p : Program} {e : Env} {R : Room} {s : State} {m : MethodId} {args : Array Value} {below : List Frame} {meth : Method} {c : Code} {H : Heap} {locs : List Loc} {cells slots : Nat} (hlink : Cond.methodLink y.1.cls idx y2.1 ∈ tables_1) (hstat : Cond.static y2.1 ∈ tables_1) (hC : zC E (d + 1) y p R s m args meth c) (hy : zMok y2) (hpar : (parseMethodDescriptor y2.1.desc).map (fun d => d.parameters.length) = some Ar.length) (hM : Met l y2.1 (zW y2) { frames := d, cells := nc1, slots := ns1, locals := d * 41 } (zPr E μ Ar) (zQc E K1) nc1 ns1 (zNu E)) (hR : zR E μ s H) {lsC : Array Slot} (hsize : lsC.size = y.2.2.1) (hrm : (rest.map fun v => v.category).sum ≤ 16) (hd : decode y.2.1 pc = .ok (.invokestatic idx, 3)) (hf : cells + nc1 ≤ R.cells ∧ slots + ns1 ≤ R.slots) :
    va_Run p l e R s m args below meth c H locs cells slots nc1 ns1 (F0 m pc lsC (Ar.reverse ++ rest.map (zv E))) (rest.map (zv E)) (zQc E K1 Ar.toArray) (zNu E) := by
  intro T hT X
  obtain ⟨v, vm₁, ⟨U', l2, c2, s2⟩, hW₁, X', ⟨g', mk, t, L, e1, e2, hq, h1, hL, h2, h3⟩, stp⟩ := callS X hC.1 (bytes := y2.2.1) (maxL := y2.2.2.1) (ret := y2.2.2.2) hC.2.2.2.1 (hC.2.2.2.2.1 _ (List.mem_append_right _ hlink) rfl) (hC.2.2.2.2.1 _ (List.mem_append_right _ hstat) rfl) (hC.2.2.2.2.1 _ (List.mem_append_right _ hy.2.2.1) rfl) (zCode hC hy) ⟨hy.2.2.2.1, hy.2.2.2.2.1⟩ (zBack hC hy hM zPr_blind) (g := F0 m pc lsC (Ar.reverse ++ rest.map (zv E))) rfl (hsize.trans hC.2.2.1.symm) (argsL := Ar) (rest := rest.map (zv E)) (fun sig h => zPar hpar sig h) rfl (zRm hrm) (by rw [hC.2.1]; exact hd) (zPreR (Ar := Ar) hC hR hf hT)
  dsimp only [Pt.U, Pt.locs, Pt.cells, Pt.slots] at X' e1 e2 h1 h2 h3 stp
  subst h1; subst h2; subst h3
  exact ⟨v, (T.setVm vm₁).calling g' mk Ar.toArray, t, U', L, hT, X', hL, e1, e2, hq, stp⟩
theorem dt_J3_ck : zDecs mJ3_checkIndex_8e157.2.1 [(0, .iload_n 0, 1), (1, .ifCond .lt 8, 3), (4, .iload_n 0, 1), (5, .iload_n 1, 1), (6, .if_icmp .lt 10, 3), (16, .iload_n 0, 1), (17, .ireturn, 1)] := zDecs_of (by decide +kernel)
theorem dt_J0_ck : zDecs mJ0_checkIndex_df160.2.1 [(0, .iload_n 0, 1), (1, .iload_n 1, 1), (2, .getstatic 1053, 3), (5, .invokestatic 1059, 3), (8, .pop, 1), (9, .return_, 1)] := zDecs_of (by decide +kernel)
theorem ok_J3_ck : zMok mJ3_checkIndex_8e157 := ⟨by decide +kernel, by decide +kernel, by decide +kernel, by decide +kernel, by decide +kernel, by decide +kernel⟩
theorem ln_ck : Cond.methodLink mJ0_checkIndex_df160.1.cls 1059 mJ3_checkIndex_8e157.1 ∈ tables_1 := by decide +kernel
theorem sm_ck : Cond.static mJ3_checkIndex_8e157.1 ∈ tables_1 := by decide +kernel
theorem fl_ck : Cond.fieldLink mJ0_checkIndex_df160.1.cls 1053 "jdk/internal/util/Preconditions" "SIOOBE_FORMATTER" "Ljava/util/function/BiFunction;" ∈ tables_1 := by decide +kernel
theorem pr_ck : (parseMethodDescriptor mJ3_checkIndex_8e157.1.desc).map (fun d => d.parameters.length) = some 3 := by decide +kernel
theorem aw_J3ck {q : Nat} (hq : q < n) (hn : n < 2 ^ 31) (k : K (some (.int (nI q))) μ) : AW E l d nc ns mJ3_checkIndex_8e157 0 [some (.int (nI q)), some (.int (nI n)), none] [] μ K := by
  refine aw_iload_n (pc' := 1) (dt_J3_ck 0 (0, .iload_n 0, 1) rfl) rfl rfl (aw_if_lt (pc' := 4) (tgt := 9) (dt_J3_ck 1 (1, .ifCond .lt 8, 3) rfl) (by decide) rfl (fun z => absurd z (nI_pos (by omega))) (fun _ => ?_))
  refine aw_iload_n (pc' := 5) (dt_J3_ck 2 (4, .iload_n 0, 1) rfl) rfl rfl (aw_iload_n (pc' := 6) (dt_J3_ck 3 (5, .iload_n 1, 1) rfl) rfl rfl (aw_icmp_lt (pc' := 9) (tgt := 16) (dt_J3_ck 4 (6, .if_icmp .lt 10, 3) rfl) (by decide) rfl (fun _ => ?_) (fun z => absurd (nI_lt hq hn) z)))
  exact aw_iload_n (pc' := 17) (dt_J3_ck 5 (16, .iload_n 0, 1) rfl) rfl rfl (aw_iret (dt_J3_ck 6 (17, .ireturn, 1) rfl) rfl rfl k)
theorem lv_ck {i n : Int32} {v : Value} (hv : v = .null ∨ ∃ q, v = .ref q) : zLv E [some (.int i), some (.int n), none] ((lg_sl [.int i, .int n, v] ++ List.replicate (3 - (lg_sl [.int i, .int n, v]).length) Slot.unset).toArray) 3 := by
  have hc : v.category = 1 := by
    rcases hv with rfl | ⟨q, rfl⟩ <;> rfl
  have hs : lg_sl [.int i, .int n, v] = [.val (.int i), .val (.int n), .val v] := by
    rcases hv with rfl | ⟨q, rfl⟩ <;> rfl
  obtain ⟨h1, h2, h3⟩ := lv_entry [.int i, .int n, v] (n := 3) (by rw [hs]; exact Nat.le_refl 3)
  refine ⟨h1, h2, fun j w hw => ?_⟩
  match j, hw with
  | 0, hw => simp at hw; subst hw; rw [hs]; rfl
  | 1, hw => simp at hw; subst hw; rw [hs]; rfl
  | 2, hw => simp at hw
  | j + 3, hw => simp at hw
theorem aw_ck {q : Nat} (hq : q < n) (hn : n < 2 ^ 31) (k : K none μ) : AW E l (d + 1) nc ns mJ0_checkIndex_df160 0 [some (.int (nI q)), some (.int (nI n))] [] μ K := by
  intro p e R s m args below meth c H locs cells slots lsC Q hC hR hO h1 h2 hl hk
  obtain ⟨v, hv, cf, kf, fi, f, a, cell, g1, g2, g3, g4, g5, g6, g7, g8⟩ := hR.2.2.2.2.2.2.2.2
  refine lv_iload_n hC.1 hC.2.1 (dt_J0_ck 0 (0, .iload_n 0, 1) rfl) rfl (zLv_at (i := 0) hl rfl) (lv_iload_n hC.1 hC.2.1 (dt_J0_ck 1 (1, .iload_n 1, 1) rfl) rfl (zLv_at (i := 1) hl rfl) (W.gets hC.1 hC.2.1 hC.2.2.2.1 (hC.2.2.2.2.1 _ (List.mem_append_right _ fl_ck) rfl) g1 g2 g3 g4 g5 (fun e => by rw [e] at g6; cases g6) g7 rfl (dt_J0_ck 2 (2, .getstatic 1053, 3) rfl) ?_))
  exact zTail (nc1 := 0) (ns1 := 0) (nc := nc) (ns := ns) (rest := []) (K1 := fun w μ1 => w = some (.int (nI q)) ∧ μ1 = μ) (zrunSR (Ar := [.int (nI q), .int (nI n), v]) (rest := []) ln_ck sm_ck hC ok_J3_ck pr_ck (zMetR ok_J3_ck (lv_ck hv) (aw_J3ck hq hn ⟨rfl, rfl⟩)) hR hl.1 (by decide) (dt_J0_ck 3 (5, .invokestatic 1059, 3) rfl) ⟨by omega, by omega⟩) hC hO (by omega) (by omega) hl (fun v μ' H' locs' cells' slots' pcR lsR a b c2 d2 e2 => hk v μ' H' locs' cells' slots' pcR lsR a b c2 (by omega) (by omega)) (fun w μ1 h => by
    obtain ⟨rfl, rfl⟩ := h
    exact aw_pop (pc' := 9) (dt_J0_ck 4 (8, .pop, 1) rfl) rfl rfl (aw_ret (dt_J0_ck 5 (9, .return_, 1) rfl) rfl k))
end Chk
