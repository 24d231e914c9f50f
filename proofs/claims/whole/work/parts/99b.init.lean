theorem cn_ReturnDeskLaw_7 : Cond.classLink "ReturnDeskLaw" 7 (clC 10).1 ∈ tables_1 := (mt_1 (List.mem_of_getElem? (i := 20) (by decide +kernel)))
theorem ci_10 : Cond.instantiable (clC 10).1 18 ∈ tables_1 := (mt_1 (List.mem_of_getElem? (i := 21) (by decide +kernel)))
theorem cj_10 : Cond.initialized (clC 10).1 ∈ tables_1 := (mt_1 (List.mem_of_getElem? (i := 1) (by decide +kernel)))
theorem ok_X10_init : zMok mX10_init := ⟨by decide +kernel, (mt_1 (List.mem_of_getElem? (i := 24) (by decide +kernel))), (mt_1 (List.mem_of_getElem? (i := 1) (by decide +kernel))), by decide +kernel, by decide +kernel, by decide +kernel⟩
theorem ln_ReturnDeskLaw_9 : Cond.methodLink "ReturnDeskLaw" 9 mX10_init.1 ∈ tables_1 := (mt_1 (List.mem_of_getElem? (i := 22) (by decide +kernel)))
theorem im_X10_init : Cond.instanceMethod mX10_init.1 ∈ tables_1 := (mt_1 (List.mem_of_getElem? (i := 23) (by decide +kernel)))
theorem pr_X10_init : (parseMethodDescriptor mX10_init.1.desc).map (fun d => d.parameters.length) = some 0 := by decide +kernel
def MB (L : Nat) (n : Nat) (dn : List (Nat × Nat × Nat)) (f : Nat → Nat → Int32) (μ : ZM) : Prop := zN μ = n ∧ (∀ a, zK μ a = if a < n then kT.getD a 99 else 99) ∧ (∀ a, zL μ a = if a < n then (if a = 0 then L else lT.getD a 0) else 0) ∧ (∀ a j, zA μ a j = (dn.find? (fun q => q.1 == a && q.2.1 == j)).map (fun q => q.2.2)) ∧ (∀ q ∈ dn, q.1 < n) ∧ (∀ a j, zI μ a j = f a j) ∧ ∀ a j, zJ μ a j = if a = 10 then zNm.getD j 0 else 0
section MBs
variable {L n k m a b : Nat} {dn : List (Nat × Nat × Nat)} {f : Nat → Nat → Int32} {μ : ZM} {x : Int32}
theorem MB.new (h : MB L n dn f μ) (hk : kT.getD n 99 = k) (hl : lT.getD n 0 = m) (h0 : 11 ≤ n) (hf : ∀ j, f n j = 0) : MB L (n + 1) dn f (sNew μ k m) := by
  obtain ⟨h1, h2, h3, h4, h5, h6, h7⟩ := h
  refine ⟨by rw [zN_sNew, h1], fun a => ?_, fun a => ?_, fun a j => ?_, fun q hq => Nat.lt_succ_of_lt (h5 q hq), fun a j => ?_, fun a j => ?_⟩
  · rw [zK_sNew, h1, h2]
    by_cases c : a = n
    · rw [if_pos c, if_pos (by omega), c, hk]
    · rw [if_neg c]
      by_cases c2 : a < n
      · rw [if_pos c2, if_pos (by omega)]
      · rw [if_neg c2, if_neg (by omega)]
  · rw [zL_sNew, h1, h3]
    by_cases c : a = n
    · rw [if_pos c, if_pos (show a < n + 1 by omega), if_neg (show ¬ a = 0 by omega), c, hl]
    · rw [if_neg c]
      by_cases c2 : a < n
      · rw [if_pos c2, if_pos (show a < n + 1 by omega)]
      · rw [if_neg c2, if_neg (show ¬ a < n + 1 by omega)]
  · rw [zA_sNew, h1, h4]
    by_cases c : a = n
    · rw [if_pos c]
      have : dn.find? (fun q => q.1 == a && q.2.1 == j) = none := by
        rw [List.find?_eq_none]
        intro q hq z
        have := h5 q hq
        simp at z
        omega
      rw [this]
      rfl
    · rw [if_neg c]
  · rw [zI_sNew, h1, h6]
    by_cases c : a = n
    · rw [if_pos c, c, hf]
    · rw [if_neg c]
  · rw [zJ_sNew, h1, h7]
    by_cases c : a = n
    · rw [if_pos c, if_neg (by omega)]
    · rw [if_neg c]
theorem MB.ref (h : MB L n dn f μ) (ha : a < n) : MB L n ((a, k, b) :: dn) f (sA μ a k (some b)) := by
  obtain ⟨h1, h2, h3, h4, h5, h6, h7⟩ := h
  refine ⟨h1, h2, h3, fun c j => ?_, fun q hq => ?_, h6, h7⟩
  · rw [zA_sA, h4, List.find?_cons]
    by_cases e : c = a ∧ j = k
    · rw [if_pos e, e.1, e.2]
      simp
    · rw [if_neg e]
      have : ((a == c) && (k == j)) = false := by
        rw [Bool.eq_false_iff]
        intro z
        simp at z
        exact e ⟨z.1.symm, z.2.symm⟩
      simp only [this]
  · rcases List.mem_cons.mp hq with e | e
    · rw [e]
      exact ha
    · exact h5 q e
theorem MB.int (h : MB L n dn f μ) : MB L n dn (up2 f a k x) (sI μ a k x) := by
  obtain ⟨h1, h2, h3, h4, h5, h6, h7⟩ := h
  refine ⟨h1, h2, h3, h4, h5, fun c j => ?_, h7⟩
  rw [zI_sI, h6]
  rfl
theorem MB.fill (h : MB L n dn f μ) : MB L n dn (fun b j => if b = a ∧ j < k then x else f b j) (sFill μ a k x) := by
  obtain ⟨h1, h2, h3, h4, h5, h6, h7⟩ := h
  refine ⟨h1, h2, h3, h4, h5, fun c j => ?_, h7⟩
  show (if c = a ∧ j < k then x else zI μ c j) = _
  rw [h6]
end MBs
def dn0 : List (Nat × Nat × Nat) := [(1, 0, 5), (2, 0, 6), (3, 0, 7), (4, 0, 8)]
theorem mb0 (L : Nat) (xs : Nat → Int32) : MB L 11 dn0 (zI (zM0 L xs)) (zM0 L xs) := by
  refine ⟨rfl, fun a => ?_, fun a => ?_, fun a j => ?_, by decide, fun _ _ => rfl, fun a j => rfl⟩
  · show [13, 21, 21, 21, 21, 12, 12, 12, 12, 13, 14].getD a 99 = _
    by_cases c : a < 11
    · rw [if_pos c]
      have : ∀ a, a < 11 → [13, 21, 21, 21, 21, 12, 12, 12, 12, 13, 14].getD a 99 = kT.getD a 99 := by decide
      exact this a c
    · rw [if_neg c, List.getD_eq_getElem?_getD, List.getElem?_eq_none (by simp; omega)]
      rfl
  · show [L, 0, 0, 0, 0, 68, 35, 11, 30, 5, 17].getD a 0 = _
    by_cases c : a < 11
    · rw [if_pos c]
      by_cases c0 : a = 0
      · rw [if_pos c0, c0]
        rfl
      · rw [if_neg c0]
        obtain ⟨b, rfl⟩ : ∃ b, a = b + 1 := ⟨a - 1, by omega⟩
        show [0, 0, 0, 0, 68, 35, 11, 30, 5, 17].getD b 0 = _
        have : ∀ b, b < 10 → [0, 0, 0, 0, 68, 35, 11, 30, 5, 17].getD b 0 = lT.getD (b + 1) 0 := by decide
        exact this b (by omega)
    · rw [if_neg c, List.getD_eq_getElem?_getD, List.getElem?_eq_none (by simp; omega)]
      rfl
  · show (if j = 0 ∧ 1 ≤ a ∧ a ≤ 4 then some (a + 4) else none) = _
    by_cases c : j = 0 ∧ 1 ≤ a ∧ a ≤ 4
    · rw [if_pos c]
      have : a = 1 ∨ a = 2 ∨ a = 3 ∨ a = 4 := by omega
      rcases this with rfl | rfl | rfl | rfl <;> rw [c.1] <;> rfl
    · rw [if_neg c]
      have : dn0.find? (fun q => q.1 == a && q.2.1 == j) = none := by
        rw [List.find?_eq_none]
        intro q hq z
        simp only [Bool.and_eq_true, beq_iff_eq] at z
        have hd : ∀ q ∈ dn0, q.2.1 = 0 ∧ 1 ≤ q.1 ∧ q.1 ≤ 4 := by decide
        have := hd q hq
        omega
      rw [this]
      rfl
def fI1 (L : Nat) (xs : Nat → Int32) : Nat → Nat → Int32 := up2 (zI (zM0 L xs)) 19 4 23
def fI2 (L : Nat) (xs : Nat → Int32) : Nat → Nat → Int32 := fun b j => if b = 30 ∧ j < 60 then 2 else fI1 L xs b j
def dn1 : List (Nat × Nat × Nat) := [(11, 10, 30), (11, 9, 29), (11, 8, 26), (26, 1, 28), (26, 0, 27), (11, 7, 20), (11, 6, 19), (19, 1, 25), (19, 0, 20), (20, 4, 24), (20, 3, 23), (20, 2, 22), (20, 0, 21), (11, 5, 17), (17, 0, 18), (11, 4, 16), (11, 3, 15), (11, 2, 14), (11, 1, 13), (11, 0, 12)] ++ dn0
def dn2 : List (Nat × Nat × Nat) := [(31, 80, 87), (31, 79, 86), (31, 75, 85), (31, 71, 84), (31, 70, 83), (31, 69, 82), (31, 68, 81), (31, 67, 80), (31, 66, 79), (31, 65, 78), (31, 64, 77), (31, 63, 76), (31, 62, 75), (31, 61, 74), (31, 59, 73), (31, 58, 72), (31, 48, 71), (31, 47, 70), (31, 46, 69), (31, 45, 68), (31, 44, 67), (31, 43, 66), (31, 40, 65), (31, 39, 64), (31, 38, 63), (31, 37, 62), (31, 36, 61), (31, 35, 60), (31, 34, 59), (31, 33, 58), (31, 32, 57), (31, 31, 56), (31, 30, 55), (31, 29, 54), (31, 28, 53), (31, 27, 52), (31, 26, 51), (31, 25, 50), (31, 24, 49), (31, 23, 48), (31, 21, 47), (31, 20, 46), (31, 19, 45), (31, 17, 44), (31, 16, 43), (31, 15, 42), (31, 13, 41), (31, 12, 40), (31, 11, 39), (31, 10, 38), (31, 9, 37), (31, 8, 36), (31, 7, 35), (31, 6, 34), (31, 5, 33), (31, 4, 32)] ++ dn1
set_option maxRecDepth 8000 in
theorem mbd (L : Nat) (xs : Nat → Int32) : MB L 31 dn1 (fI1 L xs) (zMd L xs) := by
  have s1 := ((((((((mb0 L xs).new (k := 10) (m := 0) rfl rfl (by decide) (fun _ => rfl)).new (k := 18) (m := 20) rfl rfl (by decide) (fun _ => rfl)).ref (a := 11) (k := 0) (b := 12) (by decide)).new (k := 17) (m := 60) rfl rfl (by decide) (fun _ => rfl)).ref (a := 11) (k := 1) (b := 13) (by decide)).new (k := 19) (m := 300) rfl rfl (by decide) (fun _ => rfl)).ref (a := 11) (k := 2) (b := 14) (by decide)).new (k := 16) (m := 200) rfl rfl (by decide) (fun _ => rfl)
  have s2 := ((((((((s1).ref (a := 11) (k := 3) (b := 15) (by decide)).new (k := 20) (m := 20) rfl rfl (by decide) (fun _ => rfl)).ref (a := 11) (k := 4) (b := 16) (by decide)).new (k := 5) (m := 0) rfl rfl (by decide) (fun _ => rfl)).new (k := 13) (m := 200) rfl rfl (by decide) (fun _ => rfl)).ref (a := 17) (k := 0) (b := 18) (by decide)).ref (a := 11) (k := 5) (b := 17) (by decide)).new (k := 6) (m := 0) rfl rfl (by decide) (fun _ => rfl)
  have s3 := ((((((((s2).new (k := 8) (m := 0) rfl rfl (by decide) (fun _ => rfl)).new (k := 13) (m := 200) rfl rfl (by decide) (fun _ => rfl)).ref (a := 20) (k := 0) (b := 21) (by decide)).new (k := 13) (m := 201) rfl rfl (by decide) (fun _ => rfl)).ref (a := 20) (k := 2) (b := 22) (by decide)).new (k := 13) (m := 201) rfl rfl (by decide) (fun _ => rfl)).ref (a := 20) (k := 3) (b := 23) (by decide)).new (k := 13) (m := 201) rfl rfl (by decide) (fun _ => rfl)
  have s4 := ((((((((s3).ref (a := 20) (k := 4) (b := 24) (by decide)).ref (a := 19) (k := 0) (b := 20) (by decide)).new (k := 13) (m := 400) rfl rfl (by decide) (fun _ => rfl)).ref (a := 19) (k := 1) (b := 25) (by decide)).int (a := 19) (k := 4) (x := 23)).ref (a := 11) (k := 6) (b := 19) (by decide)).ref (a := 11) (k := 7) (b := 20) (by decide)).new (k := 3) (m := 0) rfl rfl (by decide) (fun _ => rfl)
  have s5 := ((((((((s4).new (k := 13) (m := 12) rfl rfl (by decide) (fun _ => rfl)).ref (a := 26) (k := 0) (b := 27) (by decide)).new (k := 13) (m := 200) rfl rfl (by decide) (fun _ => rfl)).ref (a := 26) (k := 1) (b := 28) (by decide)).ref (a := 11) (k := 8) (b := 26) (by decide)).new (k := 1) (m := 0) rfl rfl (by decide) (fun _ => rfl)).ref (a := 11) (k := 9) (b := 29) (by decide)).new (k := 13) (m := 60) rfl rfl (by decide) (fun _ => rfl)
  have s6 := (s5).ref (a := 11) (k := 10) (b := 30) (by decide)
  exact s6
theorem mba (L : Nat) (xs : Nat → Int32) : MB L 31 dn1 (fI2 L xs) (zMa L xs) := (mbd L xs).fill
set_option maxRecDepth 8000 in
theorem mbb (L : Nat) (xs : Nat → Int32) : MB L 88 dn2 (fI2 L xs) (zMb L xs) := by
  have s1 := ((((((((mba L xs).new (k := 11) (m := 0) rfl rfl (by decide) (fun _ => rfl)).new (k := 13) (m := 20) rfl rfl (by decide) (fun _ => rfl)).ref (a := 31) (k := 4) (b := 32) (by decide)).new (k := 13) (m := 20) rfl rfl (by decide) (fun _ => rfl)).ref (a := 31) (k := 5) (b := 33) (by decide)).new (k := 13) (m := 20) rfl rfl (by decide) (fun _ => rfl)).ref (a := 31) (k := 6) (b := 34) (by decide)).new (k := 13) (m := 20) rfl rfl (by decide) (fun _ => rfl)
  have s2 := ((((((((s1).ref (a := 31) (k := 7) (b := 35) (by decide)).new (k := 13) (m := 400) rfl rfl (by decide) (fun _ => rfl)).ref (a := 31) (k := 8) (b := 36) (by decide)).new (k := 13) (m := 400) rfl rfl (by decide) (fun _ => rfl)).ref (a := 31) (k := 9) (b := 37) (by decide)).new (k := 13) (m := 20) rfl rfl (by decide) (fun _ => rfl)).ref (a := 31) (k := 10) (b := 38) (by decide)).new (k := 13) (m := 20) rfl rfl (by decide) (fun _ => rfl)
  have s3 := ((((((((s2).ref (a := 31) (k := 11) (b := 39) (by decide)).new (k := 13) (m := 20) rfl rfl (by decide) (fun _ => rfl)).ref (a := 31) (k := 12) (b := 40) (by decide)).new (k := 13) (m := 20) rfl rfl (by decide) (fun _ => rfl)).ref (a := 31) (k := 13) (b := 41) (by decide)).new (k := 13) (m := 300) rfl rfl (by decide) (fun _ => rfl)).ref (a := 31) (k := 15) (b := 42) (by decide)).new (k := 13) (m := 300) rfl rfl (by decide) (fun _ => rfl)
  have s4 := ((((((((s3).ref (a := 31) (k := 16) (b := 43) (by decide)).new (k := 15) (m := 300) rfl rfl (by decide) (fun _ => rfl)).ref (a := 31) (k := 17) (b := 44) (by decide)).new (k := 13) (m := 60) rfl rfl (by decide) (fun _ => rfl)).ref (a := 31) (k := 19) (b := 45) (by decide)).new (k := 13) (m := 60) rfl rfl (by decide) (fun _ => rfl)).ref (a := 31) (k := 20) (b := 46) (by decide)).new (k := 13) (m := 60) rfl rfl (by decide) (fun _ => rfl)
  have s5 := ((((((((s4).ref (a := 31) (k := 21) (b := 47) (by decide)).new (k := 13) (m := 300) rfl rfl (by decide) (fun _ => rfl)).ref (a := 31) (k := 23) (b := 48) (by decide)).new (k := 13) (m := 300) rfl rfl (by decide) (fun _ => rfl)).ref (a := 31) (k := 24) (b := 49) (by decide)).new (k := 13) (m := 300) rfl rfl (by decide) (fun _ => rfl)).ref (a := 31) (k := 25) (b := 50) (by decide)).new (k := 13) (m := 300) rfl rfl (by decide) (fun _ => rfl)
  have s6 := ((((((((s5).ref (a := 31) (k := 26) (b := 51) (by decide)).new (k := 13) (m := 300) rfl rfl (by decide) (fun _ => rfl)).ref (a := 31) (k := 27) (b := 52) (by decide)).new (k := 13) (m := 300) rfl rfl (by decide) (fun _ => rfl)).ref (a := 31) (k := 28) (b := 53) (by decide)).new (k := 13) (m := 300) rfl rfl (by decide) (fun _ => rfl)).ref (a := 31) (k := 29) (b := 54) (by decide)).new (k := 13) (m := 300) rfl rfl (by decide) (fun _ => rfl)
  have s7 := ((((((((s6).ref (a := 31) (k := 30) (b := 55) (by decide)).new (k := 13) (m := 300) rfl rfl (by decide) (fun _ => rfl)).ref (a := 31) (k := 31) (b := 56) (by decide)).new (k := 15) (m := 300) rfl rfl (by decide) (fun _ => rfl)).ref (a := 31) (k := 32) (b := 57) (by decide)).new (k := 13) (m := 300) rfl rfl (by decide) (fun _ => rfl)).ref (a := 31) (k := 33) (b := 58) (by decide)).new (k := 13) (m := 300) rfl rfl (by decide) (fun _ => rfl)
  have s8 := ((((((((s7).ref (a := 31) (k := 34) (b := 59) (by decide)).new (k := 15) (m := 300) rfl rfl (by decide) (fun _ => rfl)).ref (a := 31) (k := 35) (b := 60) (by decide)).new (k := 13) (m := 300) rfl rfl (by decide) (fun _ => rfl)).ref (a := 31) (k := 36) (b := 61) (by decide)).new (k := 13) (m := 300) rfl rfl (by decide) (fun _ => rfl)).ref (a := 31) (k := 37) (b := 62) (by decide)).new (k := 13) (m := 300) rfl rfl (by decide) (fun _ => rfl)
  have s9 := ((((((((s8).ref (a := 31) (k := 38) (b := 63) (by decide)).new (k := 13) (m := 300) rfl rfl (by decide) (fun _ => rfl)).ref (a := 31) (k := 39) (b := 64) (by decide)).new (k := 12) (m := 200) rfl rfl (by decide) (fun _ => rfl)).ref (a := 31) (k := 40) (b := 65) (by decide)).new (k := 13) (m := 20) rfl rfl (by decide) (fun _ => rfl)).ref (a := 31) (k := 43) (b := 66) (by decide)).new (k := 13) (m := 20) rfl rfl (by decide) (fun _ => rfl)
  have s10 := ((((((((s9).ref (a := 31) (k := 44) (b := 67) (by decide)).new (k := 13) (m := 20) rfl rfl (by decide) (fun _ => rfl)).ref (a := 31) (k := 45) (b := 68) (by decide)).new (k := 13) (m := 22) rfl rfl (by decide) (fun _ => rfl)).ref (a := 31) (k := 46) (b := 69) (by decide)).new (k := 13) (m := 4400) rfl rfl (by decide) (fun _ => rfl)).ref (a := 31) (k := 47) (b := 70) (by decide)).new (k := 13) (m := 4400) rfl rfl (by decide) (fun _ => rfl)
  have s11 := ((((((((s10).ref (a := 31) (k := 48) (b := 71) (by decide)).new (k := 13) (m := 17) rfl rfl (by decide) (fun _ => rfl)).ref (a := 31) (k := 58) (b := 72) (by decide)).new (k := 13) (m := 210) rfl rfl (by decide) (fun _ => rfl)).ref (a := 31) (k := 59) (b := 73) (by decide)).new (k := 13) (m := 200) rfl rfl (by decide) (fun _ => rfl)).ref (a := 31) (k := 61) (b := 74) (by decide)).new (k := 13) (m := 200) rfl rfl (by decide) (fun _ => rfl)
  have s12 := ((((((((s11).ref (a := 31) (k := 62) (b := 75) (by decide)).new (k := 13) (m := 200) rfl rfl (by decide) (fun _ => rfl)).ref (a := 31) (k := 63) (b := 76) (by decide)).new (k := 13) (m := 200) rfl rfl (by decide) (fun _ => rfl)).ref (a := 31) (k := 64) (b := 77) (by decide)).new (k := 13) (m := 200) rfl rfl (by decide) (fun _ => rfl)).ref (a := 31) (k := 65) (b := 78) (by decide)).new (k := 13) (m := 200) rfl rfl (by decide) (fun _ => rfl)
  have s13 := ((((((((s12).ref (a := 31) (k := 66) (b := 79) (by decide)).new (k := 15) (m := 200) rfl rfl (by decide) (fun _ => rfl)).ref (a := 31) (k := 67) (b := 80) (by decide)).new (k := 15) (m := 200) rfl rfl (by decide) (fun _ => rfl)).ref (a := 31) (k := 68) (b := 81) (by decide)).new (k := 13) (m := 200) rfl rfl (by decide) (fun _ => rfl)).ref (a := 31) (k := 69) (b := 82) (by decide)).new (k := 13) (m := 200) rfl rfl (by decide) (fun _ => rfl)
  have s14 := ((((((((s13).ref (a := 31) (k := 70) (b := 83) (by decide)).new (k := 13) (m := 200) rfl rfl (by decide) (fun _ => rfl)).ref (a := 31) (k := 71) (b := 84) (by decide)).new (k := 13) (m := 200) rfl rfl (by decide) (fun _ => rfl)).ref (a := 31) (k := 75) (b := 85) (by decide)).new (k := 14) (m := 3721) rfl rfl (by decide) (fun _ => rfl)).ref (a := 31) (k := 79) (b := 86) (by decide)).new (k := 13) (m := 60) rfl rfl (by decide) (fun _ => rfl)
  have s15 := (s14).ref (a := 31) (k := 80) (b := 87) (by decide)
  exact s15
