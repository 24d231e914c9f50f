theorem st_t4 : Cond.laysStatic "jdk/internal/util/Preconditions" "SIOOBE_FORMATTER" "Ljava/util/function/BiFunction;" ∈ tables_1 ∧ Cond.initialized "jdk/internal/util/Preconditions" ∈ tables_1 := by decide +kernel
theorem st_rf : Cond.isRef (.static "jdk/internal/util/Preconditions" "SIOOBE_FORMATTER" "Ljava/util/function/BiFunction;") ∈ zFl := by decide +kernel
theorem zAr0 {E : ZE} {L : Nat} {xs : Nat → Int32} {s : State} {H : Heap} {a k n : Nat} {cell : Cell} (ha : a < 11) (hk : zK (zM0 L xs) a = k) (hn : zL (zM0 L xs) a = n) (c1 : H[phi E a]? = some cell) (c2 : s.isArrayOf cell (aTy k)) (c3 : cell.vm ≠ .unknown) (c4 : n ≤ cell.slots.size) (c5 : cell.slots.size.toInt32 = nI n) (c6 : ∀ j, j < n → cell.slots[j]? = some (zEl E (zM0 L xs) a k j)) (h12 : 12 ≤ k) (h21 : k < 21) : zCl E (zM0 L xs) s H a := by
  refine ⟨fun q => ?_, fun _ _ => ?_, fun q => ?_⟩
  · rw [hk] at q; omega
  · unfold zAr
    rw [hk, hn]
    exact ⟨cell, c1, c2, c3, fun h => by omega, ⟨c4, c5⟩, c6⟩
  · rw [hk] at q; omega
theorem zSt0 {E : ZE} {L : Nat} {xs : Nat → Int32} {s : State} {H : Heap} {a b : Nat} (hk : zK (zM0 L xs) a = 21) (h0 : zA (zM0 L xs) a 0 = some b) (h1 : zI (zM0 L xs) a 1 = 0) (c2 : va_O "java/lang/String" (phi E a) (zNu E) s H) (c3 : va_OF "java/lang/String" "coder" "B" (.int 0) (phi E a) (zNu E) s H) (c4 : va_OF "java/lang/String" "value" "[B" (.ref (phi E b)) (phi E a) (zNu E) s H) : zCl E (zM0 L xs) s H a := by
  refine ⟨fun q => ?_, fun _ q => ?_, fun _ => ⟨b, h0, h1, c2, c3, c4⟩⟩
  · rw [hk] at q; omega
  · rw [hk] at q; omega
theorem m0K : ∀ a, a < 11 → 12 ≤ [13, 21, 21, 21, 21, 12, 12, 12, 12, 13, 14].getD a 99 := by decide
theorem m0S (L : Nat) (xs : Nat → Int32) : ∀ i, i < 4 → zK (zM0 L xs) (i + 1) = 21 ∧ zA (zM0 L xs) (i + 1) 0 = some (i + 5) ∧ zI (zM0 L xs) (i + 1) 1 = 0
  | 0, _ => ⟨rfl, rfl, rfl⟩
  | 1, _ => ⟨rfl, rfl, rfl⟩
  | 2, _ => ⟨rfl, rfl, rfl⟩
  | 3, _ => ⟨rfl, rfl, rfl⟩
  | n + 4, h => by omega
theorem m0B (E : ZE) (L : Nat) (xs : Nat → Int32) : ∀ i, i < 4 → zK (zM0 L xs) (i + 5) = 12 ∧ zL (zM0 L xs) (i + 5) = zBl.getD i 0 ∧ ∀ j, zEl E (zM0 L xs) (i + 5) 12 j = .int ((zBy.getD i []).getD j 0)
  | 0, _ => ⟨rfl, rfl, fun _ => rfl⟩
  | 1, _ => ⟨rfl, rfl, fun _ => rfl⟩
  | 2, _ => ⟨rfl, rfl, fun _ => rfl⟩
  | 3, _ => ⟨rfl, rfl, fun _ => rfl⟩
  | n + 4, h => by omega
theorem m0s (E : ZE) (L : Nat) (xs : Nat → Int32) : zK (zM0 L xs) 0 = 13 ∧ zL (zM0 L xs) 0 = L ∧ ∀ j, zEl E (zM0 L xs) 0 13 j = .int (xs j) := ⟨rfl, rfl, fun _ => rfl⟩
theorem m0t (E : ZE) (L : Nat) (xs : Nat → Int32) : zK (zM0 L xs) 9 = 13 ∧ zL (zM0 L xs) 9 = 5 ∧ ∀ j, zEl E (zM0 L xs) 9 13 j = .int (zTe.getD j 0) := ⟨rfl, rfl, fun _ => rfl⟩
theorem m0n (E : ZE) (L : Nat) (xs : Nat → Int32) : zK (zM0 L xs) 10 = 14 ∧ zL (zM0 L xs) 10 = 17 ∧ ∀ j, zEl E (zM0 L xs) 10 14 j = .long (zNm.getD j 0) := ⟨rfl, rfl, fun _ => rfl⟩
theorem m0z {L : Nat} {xs : Nat → Int32} {a : Nat} (ha : 11 ≤ a) : zK (zM0 L xs) a = 99 := by
  show [13, 21, 21, 21, 21, 12, 12, 12, 12, 13, 14].getD a 99 = 99
  rw [List.getD_eq_getElem?_getD, List.getElem?_eq_none (by simpa using ha)]
  rfl
theorem zR0 {E : ZE} {L b t9 t10 : Nat} {xs : Nat → Int32} {s : State} {adK adV : Nat → Nat} (hsz : E.2.2.2 = s.heap.size) (hX : va_X b L xs s s.heap)
    (hS : ∀ i : Nat, i < 4 → va_O "java/lang/String" (adK i) (zNu E) s s.heap ∧ va_OF "java/lang/String" "coder" "B" (.int 0) (adK i) (zNu E) s s.heap ∧ va_OF "java/lang/String" "value" "[B" (.ref (adV i)) (adK i) (zNu E) s s.heap ∧ va_T .byte (adV i) (zBl.getD i 0) (fun j => .int ((zBy.getD i []).getD j 0)) (zNu E) s s.heap)
    (hT9 : va_T .int t9 5 (fun j => .int (zTe.getD j 0)) (zNu E) s s.heap) (hT10 : va_T .long t10 17 (fun j => .long (zNm.getD j 0)) (zNu E) s s.heap) (hsf : zSf E s s.heap)
    (f0 : phi E 0 = b) (f1 : ∀ i, i < 4 → phi E (i + 1) = adK i) (f5 : ∀ i, i < 4 → phi E (i + 5) = adV i) (f9 : phi E 9 = t9) (f10 : phi E 10 = t10) : zR E (zM0 L xs) s s.heap := by
  have lt : ∀ {t : Nat} {cell : Cell}, s.heap[t]? = some cell → t < s.heap.size := fun h => (Array.getElem?_eq_some_iff.mp h).1
  have hstr : ∀ i, i < 4 → zCl E (zM0 L xs) s s.heap (i + 1) ∧ phi E (i + 1) < s.heap.size := by
    intro i hi
    obtain ⟨g1, g2, g3, -⟩ := hS i hi
    obtain ⟨k1, k2, k3⟩ := m0S L xs i hi
    refine ⟨zSt0 k1 k2 k3 (by rw [f1 i hi]; exact g1) (by rw [f1 i hi]; exact g2) (by rw [f1 i hi, f5 i hi]; exact g3), ?_⟩
    obtain ⟨cell, c1, -⟩ := g1
    rw [f1 i hi]; exact lt c1
  have hbyt : ∀ i, i < 4 → zCl E (zM0 L xs) s s.heap (i + 5) ∧ phi E (i + 5) < s.heap.size := by
    intro i hi
    obtain ⟨cell, c1, c2, c3, c4, c5, c6, -⟩ := (hS i hi).2.2.2
    obtain ⟨k1, k2, k3⟩ := m0B E L xs i hi
    exact ⟨zAr0 (by omega) k1 k2 (by rw [f5 i hi]; exact c1) c2 c3 c4 c5 (fun j hj => by rw [k3]; exact c6 j hj) (by omega) (by omega), by rw [f5 i hi]; exact lt c1⟩
  have h0 : zCl E (zM0 L xs) s s.heap 0 ∧ phi E 0 < s.heap.size := by
    obtain ⟨scr, h1, h2, h3, h4, h5⟩ := hX
    obtain ⟨k1, k2, k3⟩ := m0s E L xs
    exact ⟨zAr0 (by omega) k1 k2 (by rw [f0]; exact h1) h2 h3 (Nat.le_of_eq h4.symm) (by rw [h4]; rfl) (fun j hj => by rw [k3]; exact h5 j hj) (by omega) (by omega), by rw [f0]; exact lt h1⟩
  have h9 : zCl E (zM0 L xs) s s.heap 9 ∧ phi E 9 < s.heap.size := by
    obtain ⟨cell, c1, c2, c3, c4, c5, c6, -⟩ := hT9
    obtain ⟨k1, k2, k3⟩ := m0t E L xs
    exact ⟨zAr0 (by omega) k1 k2 (by rw [f9]; exact c1) c2 c3 c4 c5 (fun j hj => by rw [k3]; exact c6 j hj) (by omega) (by omega), by rw [f9]; exact lt c1⟩
  have h10 : zCl E (zM0 L xs) s s.heap 10 ∧ phi E 10 < s.heap.size := by
    obtain ⟨cell, c1, c2, c3, c4, c5, c6, -⟩ := hT10
    obtain ⟨k1, k2, k3⟩ := m0n E L xs
    exact ⟨zAr0 (by omega) k1 k2 (by rw [f10]; exact c1) c2 c3 c4 c5 (fun j hj => by rw [k3]; exact c6 j hj) (by omega) (by omega), by rw [f10]; exact lt c1⟩
  have all : ∀ a, a < 11 → zCl E (zM0 L xs) s s.heap a ∧ phi E a < s.heap.size := by
    intro a ha
    by_cases q0 : a = 0
    · rw [q0]; exact h0
    · by_cases q1 : a < 5
      · have := hstr (a - 1) (by omega)
        rw [show a - 1 + 1 = a by omega] at this
        exact this
      · by_cases q5 : a < 9
        · have := hbyt (a - 5) (by omega)
          rw [show a - 5 + 5 = a by omega] at this
          exact this
        · rcases (show a = 9 ∨ a = 10 by omega) with rfl | rfl
          · exact h9
          · exact h10
  refine ⟨?_, Nat.le_refl _, fun a ha => (all a ha).1, fun a ha => ⟨?_, m0K a ha⟩, fun a ha => m0z ha, hsf⟩
  · rw [hsz]; rfl
  · have := (all a ha).2
    unfold phi at this
    rw [if_pos ha] at this
    rw [hsz]; exact this
set_option maxHeartbeats 4000000 in
/-- the law's start, as the abstract memory has it -/
theorem whole_of (hyp : ∀ (E : ZE) (l : Launch) (L : Nat) (xs : Nat → Int32), L ≤ 3584 → AW E l 2000 600000 7302250 mL_law 0 (zargs 4 [.ref 0]) [] (zM0 L xs) (fun v _ => v = some (.int 1)))
    {p : Program} {e : Env} {s : State} {m : MethodId} {below : List Frame} {meth : Method} {c : Code} (l : Launch) {b L : Nat} {xs : Nat → Int32} (hL : L ≤ 3584) (C0 : lw_At p s m meth c b L xs) : W p l e room_1 s m #[Value.ref b] below meth c s.heap [] 0 0 (lw_Z below #[Value.ref b] s) (entryFrame m ([Value.ref b] : List Value).toArray 4) := by
  obtain ⟨hx, hb, hr, hml, hown, hts, hX, hbl, hlocks, hgv⟩ := id C0
  have hs : ∀ w ∈ zFl, w.before #[Value.ref b] s = true := flat_of_before _ hgv
  have ht : ∀ w ∈ tables_1, w.before #[Value.ref b] s = true := fun w h => hts w (List.mem_append_right _ h)
  have hA : ∀ a : Nat, a < s.heap.size → ¬ (fun q => s.heap.size ≤ q) a := fun a h => Nat.not_le.mpr h
  -- classes
  have hk0 : ∀ k, ∃ q : ClassId × (Nat → Nat), k < 12 → u_Kn s (clC k).1 (clC k).2.1 (clC k).2.2 q.1 q.2 := by
    intro k
    by_cases hk : k < 12
    · obtain ⟨cC, iS, h⟩ := u_known (ws := u_ws (clC k).1 (clC k).2.1 (clC k).2.2) (C := (clC k).1) (T := (clC k).2.1) (N := (clC k).2.2) (fun w h => hts w (cl_in hk h).1) (fun w h => h) (ht _ (st_in k hk))
      exact ⟨(cC, iS), fun _ => h⟩
    · exact ⟨(0, fun _ => 0), fun h => absurd h hk⟩
  obtain ⟨dK, hdK⟩ := Classical.axiomOfChoice hk0
  -- array classes
  have ha0 : ∀ k, ∃ q : ClassId, 12 ≤ k → k < 21 → ArrOfT s q (aTy k) ∧ va_RA s q (aTy k) := by
    intro k
    by_cases hk : 12 ≤ k ∧ k < 16
    · obtain ⟨cA, kA, comp, g1, g2, g3⟩ := Cond.arrayClass_spec (ht _ (st_ac (k - 12) (by omega)))
      rw [show 12 + (k - 12) = k by omega] at g1 g3
      refine ⟨cA, fun _ _ => ⟨fun n z => ⟨fun _ h => (by cases h), kA, g2, comp, g3⟩, ?_⟩⟩
      rcases (show k = 12 ∨ k = 13 ∨ k = 14 ∨ k = 15 by omega) with rfl | rfl | rfl | rfl <;> exact g1
    · by_cases hk2 : 16 ≤ k ∧ k < 21
      · obtain ⟨C, hC, hT⟩ := aTy_ao (k - 16) (by omega)
        rw [show 16 + (k - 16) = k by omega] at hT
        obtain ⟨comp, cA, kA, g1, g2, g3, g4, g5⟩ := Cond.arrayOver_spec (ht _ (st_ao C hC))
        refine ⟨cA, fun _ _ => ?_⟩
        rw [hT]
        exact ⟨fun n z => ⟨fun _ h => (by cases h), kA, g3, comp, g4⟩, kA, comp, g3, g4, g1, g5⟩
      · exact ⟨0, fun a b => by omega⟩
  obtain ⟨dA, hdA⟩ := Classical.axiomOfChoice ha0
  -- strings
  obtain ⟨adK, adV, ⟨hS, -⟩, hEv⟩ := vk_Sof (s := s) (args := #[Value.ref b]) (N := 4) (tm := zTm) (len := zBl) (byt := zBy) (A := fun q => s.heap.size ≤ q) (by decide) (fun i hi => hs _ (st_ex i hi).1) (fun i hi => hs _ (st_ex i hi).2.1) (fun i hi => hs _ (st_ex i hi).2.2.1) (fun i hi => hs _ (st_ex i hi).2.2.2) (fun i hi j hj => hs _ (st_el i hi j hj)) (fun i j hi hj hn => (st_ne i hi j hj hn).elim (fun h => Or.inl (hs _ h)) (fun h => Or.inr (hs _ h))) hA
  -- static arrays
  obtain ⟨t9, e9, hT9⟩ := va_Tof (s := s) (args := #[Value.ref b]) (tm := .static "ReturnDesk" "TENTHS" "[I") (ty := .int) (N := 5) (f := fun j => .int (zTe.getD j 0)) (A := fun q => s.heap.size ≤ q) (by decide) (hs _ st_te.1) (va_eqt (hs _ st_te.2.1)) (fun j hj => va_eqt (hs _ (st_te.2.2 j hj))) hA
  obtain ⟨t10, e10, hT10⟩ := va_Tof (s := s) (args := #[Value.ref b]) (tm := .static "ReturnDeskModel" "NAMES" "[J") (ty := .long) (N := 17) (f := fun j => .long (zNm.getD j 0)) (A := fun q => s.heap.size ≤ q) (by decide) (hs _ st_nm.1) (va_eqt (hs _ st_nm.2.1)) (fun j hj => va_eqtl (hs _ (st_nm.2.2 j hj))) hA
  -- the constants of the run
  obtain ⟨old, o0, o1, o5, o9, o10⟩ : ∃ old : Nat → Nat, old 0 = b ∧ (∀ i, i < 4 → old (i + 1) = adK i) ∧ (∀ i, i < 4 → old (i + 5) = adV i) ∧ old 9 = t9 ∧ old 10 = t10 :=
    ⟨fun i => if i = 0 then b else if i < 5 then adK (i - 1) else if i < 9 then adV (i - 5) else if i = 9 then t9 else t10, rfl, fun i hi => by simp [show i + 1 < 5 by omega], fun i hi => by simp [show i + 5 < 9 by omega, show ¬ i + 5 < 5 by omega], rfl, rfl⟩
  obtain ⟨E, eE⟩ : ∃ E : ZE, E = ((fun k => (dK k).1, fun k => (dK k).2), dA, old, s.heap.size) := ⟨_, rfl⟩
  have eN : zNu E = fun q => s.heap.size ≤ q := by rw [eE]; rfl
  have f0 : phi E 0 = b := by rw [eE]; exact o0
  have f1 : ∀ i, i < 4 → phi E (i + 1) = adK i := fun i hi => by unfold phi; rw [if_pos (by omega), eE]; exact o1 i hi
  have f5 : ∀ i, i < 4 → phi E (i + 5) = adV i := fun i hi => by unfold phi; rw [if_pos (by omega), eE]; exact o5 i hi
  have f9 : phi E 9 = t9 := by rw [eE]; exact o9
  have f10 : phi E 10 = t10 := by rw [eE]; exact o10
  have hV : zV E s := by
    refine ⟨fun k hk => by rw [eE]; exact hdK k hk, fun k h1 h2 => by rw [eE]; exact hdA k h1 h2, fun w hw => va_Nw.of (st_ns w hw).2 (ht _ (st_ns w hw).1), fun i q hq => ?_, fun C hC => va_AO.of (ht _ (st_ao C hC))⟩
    have hi : i < 4 := (List.getElem?_eq_some_iff.mp hq).1
    rw [f1 i hi]
    have hm := ht _ (st_sr q (List.mem_of_getElem? hq))
    have he := hEv i hi
    match i, hi, hq, he with
    | 0, _, hq, he => cases hq; exact vk_R.of hm he
    | 1, _, hq, he => cases hq; exact vk_R.of hm he
    | 2, _, hq, he => cases hq; exact vk_R.of hm he
    | 3, _, hq, he => cases hq; exact vk_R.of hm he
  have hZ4 : ∃ v : Value, (v = .null ∨ ∃ q, v = .ref q) ∧ va_Z "jdk/internal/util/Preconditions" "SIOOBE_FORMATTER" "Ljava/util/function/BiFunction;" v (fun q => s.heap.size ≤ q) s s.heap := by
    rcases va_Zqof (A := fun q => s.heap.size ≤ q) (ht _ st_t4.1) (ht _ st_t4.2) (hs _ st_rf) hA with h | ⟨q, h⟩
    · exact ⟨_, Or.inl rfl, h⟩
    · exact ⟨_, Or.inr ⟨q, rfl⟩, h⟩
  have hR : zR E (zM0 L xs) s s.heap := zR0 (by rw [eE]) hX (by rw [eN]; exact hS) (by rw [eN]; exact hT9) (by rw [eN]; exact hT10) (by unfold zSf; rw [eN]; exact ⟨va_Zof (ht _ st_tb.2.1) (ht _ st_tb.2.2.2.2.1) (by rw [f9]; exact e9) hA, va_Zof (ht _ st_tb.2.2.1) (ht _ st_tb.2.2.2.2.2) (by rw [f10]; exact e10) hA, va_Zof (ht _ st_tb.1) (ht _ st_tb.2.2.2.1) (va_eqi (hs _ st_cs)) hA, hZ4⟩) f0 f1 f5 f9 f10
  have key := hyp E l L xs hL p e room_1 s m #[Value.ref b] below meth c s.heap [] 0 0 _ (lw_Z below #[Value.ref b] s) ⟨hx, hb, hml, hown, fun w hw _ => hts w hw, hV, hr, hlocks, ?_, by decide, by decide⟩ hR (fun _ h => by cases h) (by decide) (by decide) (zargs_lv (As := [.ref 0]) (n := 4) (by decide)) ?_
  · rw [lg_entry_eq]
    have e1 : ([Value.ref 0] : List Value).map (zv E) = [Value.ref b] := by show [Value.ref (phi E 0)] = _; rw [f0]
    rw [e1] at key
    exact key
  · exact fun q => absurd q (by decide)
  · intro v μ' H' locs' cells' slots' pcR lsR hv hR' hO' h1 h2 hret
    subst hv
    obtain ⟨ty, q1, q2, q3⟩ := hret
    refine va_forget (fun q hq => by have := hO' q hq; rw [eE] at this; exact this) ?_
    refine W.widen (k := 600000) (n := 7302250) (by omega) (by omega) ?_
    exact lw_ret hx hb hr hlocks q3
