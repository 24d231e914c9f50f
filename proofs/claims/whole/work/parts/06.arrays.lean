section Arrays
variable {E : ZE} {l : Launch} {d nc ns : Nat} {y : MTH} {pc pc' tgt : Nat} {ls ls' : List (Option Value)} {st : List Value} {μ : ZM} {K : Option Value → ZM → Prop}
theorem zAr_at {s : State} {H : Heap} (hR : zR E μ s H) {a k : Nat} (h12 : 12 ≤ k) (h21 : k < 21) (hk : zK μ a = k) : ∃ cell : Cell, H[phi E a]? = some cell ∧ s.isArrayOf cell (aTy k) ∧ cell.vm ≠ .unknown ∧ (11 ≤ a → cell = arrV (E.2.1 k) (zL μ a) (zEl E μ a k)) ∧ (zL μ a ≤ cell.slots.size ∧ cell.slots.size.toInt32 = nI (zL μ a)) ∧ ∀ j, j < zL μ a → cell.slots[j]? = some (zEl E μ a k j) := by
  subst hk
  exact (hR.2.2.1 a (hR.lt (by omega))).2.1 h12 h21
theorem vp_in_lt {i : Int32} {n : Nat} (h : vp_in i n) : i.toNatClampNeg < n := Nat.not_le.mp fun q => h (Or.inr q)
theorem vp_in_ge {i : Int32} {n N : Nat} (h : vp_in i n) (hN : n ≤ N) : ¬ (i < 0 ∨ N ≤ i.toNatClampNeg) := fun q => h (q.elim Or.inl (fun z => Or.inr (Nat.le_trans hN z)))
theorem aw_iald {a : Nat} {i : Int32} (hd : decode y.2.1 pc = .ok (.iaload, 1)) (hp : pc + 1 = pc') (hk : zK μ a = 13) (hin : vp_in i (zL μ a)) (kk : AW E l d nc ns y pc' ls (.int (zI μ a i.toNatClampNeg) :: st) μ K) : AW E l d nc ns y pc ls (.int i :: .ref a :: st) μ K := by
  intro p e R s m args below meth c H locs cells slots lsC Q hC hR hO h1 h2 hl hq
  subst hp
  obtain ⟨cell, c1, c2, c3, c4, c5, c6⟩ := zAr_at hR (by omega) (by omega) hk
  exact W.iald (v := .int (zI μ a i.toNatClampNeg)) hC.1 hC.2.1 c1 c2 c3 (vp_in_ge hin c5.1) (c6 _ (vp_in_lt hin)) rfl rfl hd (kk p e R s m args below meth c H locs cells slots lsC Q hC hR hO h1 h2 hl hq)
theorem aw_bald {a : Nat} {i : Int32} (hd : decode y.2.1 pc = .ok (.baload, 1)) (hp : pc + 1 = pc') (hk : zK μ a = 12) (hin : vp_in i (zL μ a)) (kk : AW E l d nc ns y pc' ls (.int (zI μ a i.toNatClampNeg) :: st) μ K) : AW E l d nc ns y pc ls (.int i :: .ref a :: st) μ K := by
  intro p e R s m args below meth c H locs cells slots lsC Q hC hR hO h1 h2 hl hq
  subst hp
  obtain ⟨cell, c1, c2, c3, c4, c5, c6⟩ := zAr_at hR (by omega) (by omega) hk
  exact W.bald (v := .int (zI μ a i.toNatClampNeg)) hC.1 hC.2.1 c1 c2 c3 (vp_in_ge hin c5.1) (c6 _ (vp_in_lt hin)) rfl rfl hd (kk p e R s m args below meth c H locs cells slots lsC Q hC hR hO h1 h2 hl hq)
theorem aw_zald {a : Nat} {i : Int32} (hd : decode y.2.1 pc = .ok (.baload, 1)) (hp : pc + 1 = pc') (hk : zK μ a = 15) (hin : vp_in i (zL μ a)) (kk : AW E l d nc ns y pc' ls (.int (zI μ a i.toNatClampNeg) :: st) μ K) : AW E l d nc ns y pc ls (.int i :: .ref a :: st) μ K := by
  intro p e R s m args below meth c H locs cells slots lsC Q hC hR hO h1 h2 hl hq
  subst hp
  obtain ⟨cell, c1, c2, c3, c4, c5, c6⟩ := zAr_at hR (by omega) (by omega) hk
  exact W.zald (v := .int (zI μ a i.toNatClampNeg)) hC.1 hC.2.1 c1 c2 c3 (vp_in_ge hin c5.1) (c6 _ (vp_in_lt hin)) rfl rfl hd (kk p e R s m args below meth c H locs cells slots lsC Q hC hR hO h1 h2 hl hq)
theorem aw_lald {a : Nat} {i : Int32} (hd : decode y.2.1 pc = .ok (.laload, 1)) (hp : pc + 1 = pc') (hk : zK μ a = 14) (hin : vp_in i (zL μ a)) (kk : AW E l d nc ns y pc' ls (.long (zJ μ a i.toNatClampNeg) :: st) μ K) : AW E l d nc ns y pc ls (.int i :: .ref a :: st) μ K := by
  intro p e R s m args below meth c H locs cells slots lsC Q hC hR hO h1 h2 hl hq
  subst hp
  obtain ⟨cell, c1, c2, c3, c4, c5, c6⟩ := zAr_at hR (by omega) (by omega) hk
  exact W.lald (v := .long (zJ μ a i.toNatClampNeg)) hC.1 hC.2.1 c1 c2 c3 (vp_in_ge hin c5.1) (c6 _ (vp_in_lt hin)) rfl rfl hd (kk p e R s m args below meth c H locs cells slots lsC Q hC hR hO h1 h2 hl hq)
theorem aw_aald {a k : Nat} {i : Int32} (hd : decode y.2.1 pc = .ok (.aaload, 1)) (h16 : 16 ≤ k) (h21 : k < 21) (hp : pc + 1 = pc') (hk : zK μ a = k) (hin : vp_in i (zL μ a)) (kn : zA μ a i.toNatClampNeg = none → AW E l d nc ns y pc' ls (.null :: st) μ K) (ks : ∀ b, zA μ a i.toNatClampNeg = some b → AW E l d nc ns y pc' ls (.ref b :: st) μ K) : AW E l d nc ns y pc ls (.int i :: .ref a :: st) μ K := by
  intro p e R s m args below meth c H locs cells slots lsC Q hC hR hO h1 h2 hl hq
  subst hp
  obtain ⟨cell, c1, c2, c3, c4, c5, c6⟩ := zAr_at hR (by omega) h21 hk
  have href : (aTy k).isReference = true := by
    rcases (show k = 16 ∨ k = 17 ∨ k = 18 ∨ k = 19 ∨ k = 20 by omega) with rfl | rfl | rfl | rfl | rfl <;> rfl
  have e1 : zEl E μ a k i.toNatClampNeg = va_rf ((zA μ a i.toNatClampNeg).map (phi E)) := by
    unfold zEl; rw [if_neg (by omega), if_neg (by omega)]
  refine W.aald (v := va_rf ((zA μ a i.toNatClampNeg).map (phi E))) hC.1 hC.2.1 c1 c2 href c3 (vp_in_ge hin c5.1) (by rw [c6 _ (vp_in_lt hin), e1]) rfl rfl hd ?_
  show W p l e R s m args below meth c H locs cells slots Q (F0 m (pc + 1) lsC (va_rf ((zA μ a i.toNatClampNeg).map (phi E)) :: st.map (zv E)))
  cases hz : zA μ a i.toNatClampNeg with
  | none => exact kn hz p e R s m args below meth c H locs cells slots lsC Q hC hR hO h1 h2 hl hq
  | some b => exact ks b hz p e R s m args below meth c H locs cells slots lsC Q hC hR hO h1 h2 hl hq
theorem aw_alen {a k : Nat} (hd : decode y.2.1 pc = .ok (.arraylength, 1)) (h12 : 12 ≤ k) (h21 : k < 21) (hp : pc + 1 = pc') (hk : zK μ a = k) (kk : AW E l d nc ns y pc' ls (.int (nI (zL μ a)) :: st) μ K) : AW E l d nc ns y pc ls (.ref a :: st) μ K := by
  intro p e R s m args below meth c H locs cells slots lsC Q hC hR hO h1 h2 hl hq
  subst hp
  obtain ⟨cell, c1, c2, c3, c4, c5, c6⟩ := zAr_at hR h12 h21 hk
  exact W.alen (n := nI (zL μ a)) hC.1 hC.2.1 c1 c2 c5.2 rfl rfl hd (kk p e R s m args below meth c H locs cells slots lsC Q hC hR hO h1 h2 hl hq)
/-- an element is written -/
theorem zR.seta {s : State} {H H' : Heap} (hR : zR E μ s H) {a k j : Nat} {μ2 : ZM} {v : Value} {cell : Cell} (h12 : 12 ≤ k) (h21 : k < 21) (hk : zK μ a = k) (ha : 11 ≤ a) (c1 : H[phi E a]? = some cell) (c2 : s.isArrayOf cell (aTy k)) (c4 : 11 ≤ a → cell = arrV (E.2.1 k) (zL μ a) (zEl E μ a k)) (c5 : zL μ a ≤ cell.slots.size ∧ cell.slots.size.toInt32 = nI (zL μ a)) (c6 : ∀ j, j < zL μ a → cell.slots[j]? = some (zEl E μ a k j))
    (e1 : H'[phi E a]? = some (cell.setSlot j v)) (e2 : H'.size = H.size) (e3 : ∀ q, q ≠ phi E a → H'[q]? = H[q]?) (hN : zN μ2 = zN μ) (hK : zK μ2 = zK μ) (hL : zL μ2 = zL μ) (ho : ∀ b i, (b ≠ a ∨ i ≠ j) → zI μ2 b i = zI μ b i ∧ zJ μ2 b i = zJ μ b i ∧ zA μ2 b i = zA μ b i) (hv : zEl E μ2 a k j = v) : zR E μ2 s H' := by
  refine hR.upd (a := a) hN hK hL (fun b hb j => ho b j (Or.inl hb)) ha e2 e3 ⟨fun q => ?_, fun _ _ => ?_, fun q => ?_⟩
  · rw [hK, hk] at q; omega
  · unfold zAr
    rw [hK, hL, hk]
    refine ⟨_, e1, c2, (by rw [show (cell.setSlot j v).vm = cell.vm from rfl, c4 ha]; exact fun h => (by cases h)), fun z => ?_, (by rw [k2_slotsz]; exact c5), fun i hi => ?_⟩
    · rw [c4 ha, arrV_store]
      congr 1
      funext i
      by_cases hij : i = j
      · subst hij
        simp only [updV, if_true]
        exact hv.symm
      · simp only [updV, if_neg hij]
        unfold zEl
        rw [(ho a i (Or.inr hij)).1, (ho a i (Or.inr hij)).2.1, (ho a i (Or.inr hij)).2.2]
    · show (cell.slots.setIfInBounds j v)[i]? = _
      by_cases hij : i = j
      · subst hij
        rw [Array.getElem?_setIfInBounds, if_pos rfl, if_pos (Nat.lt_of_lt_of_le hi c5.1), hv]
      · rw [Array.getElem?_setIfInBounds, if_neg (fun z => hij z.symm), c6 i hi]
        unfold zEl
        rw [(ho a i (Or.inr hij)).1, (ho a i (Or.inr hij)).2.1, (ho a i (Or.inr hij)).2.2]
  · rw [hK, hk] at q; omega
theorem zO_put {a j : Nat} {locs : List Loc} (hO : zO E locs) (ha : 11 ≤ a) : zO E (locs ++ [⟨phi E a, j⟩]) := by
  intro q hq'
  rcases List.mem_append.mp hq' with h | h
  · exact hO q h
  · rw [List.mem_singleton.mp h]
    show E.2.2.2 ≤ phi E a
    rw [phi_ge ha]; omega
theorem aw_iast {a : Nat} {i x1 : Int32} (hd : decode y.2.1 pc = .ok (.iastore, 1)) (hp : pc + 1 = pc') (hk : zK μ a = 13) (ha : 11 ≤ a) (hin : vp_in i (zL μ a)) (kk : AW E l d nc ns y pc' ls st (sI μ a i.toNatClampNeg x1) K) : AW E l d nc ns y pc ls (.int x1 :: .int i :: .ref a :: st) μ K := by
  intro p e R s m args below meth c H locs cells slots lsC Q hC hR hO h1 h2 hl hq
  subst hp
  obtain ⟨cell, c1, c2, c3, c4, c5, c6⟩ := zAr_at hR (by omega) (by omega) hk
  refine W.iast hC.1 hC.2.1 c1 c2 c3 (vp_in_ge hin c5.1) rfl rfl hd fun H1 e1 e2 e3 => ?_
  exact kk p e R s m args below meth c H1 _ cells slots lsC Q hC (hR.seta (j := i.toNatClampNeg) (by omega) (by omega) hk ha c1 c2 c4 c5 c6 e1 e2 e3 rfl rfl rfl (fun b j h => ⟨up2_n _ _ h, rfl, rfl⟩) (congrArg Value.int (up2_s _ _ _ _))) (zO_put hO ha) h1 h2 hl hq
theorem aw_bast {a : Nat} {i x1 : Int32} (hd : decode y.2.1 pc = .ok (.bastore, 1)) (hp : pc + 1 = pc') (hk : zK μ a = 12) (ha : 11 ≤ a) (hin : vp_in i (zL μ a)) (kk : AW E l d nc ns y pc' ls st (sI μ a i.toNatClampNeg x1.toInt8.toInt32) K) : AW E l d nc ns y pc ls (.int x1 :: .int i :: .ref a :: st) μ K := by
  intro p e R s m args below meth c H locs cells slots lsC Q hC hR hO h1 h2 hl hq
  subst hp
  obtain ⟨cell, c1, c2, c3, c4, c5, c6⟩ := zAr_at hR (by omega) (by omega) hk
  refine W.bast hC.1 hC.2.1 c1 c2 c3 (vp_in_ge hin c5.1) rfl rfl hd fun H1 e1 e2 e3 => ?_
  exact kk p e R s m args below meth c H1 _ cells slots lsC Q hC (hR.seta (j := i.toNatClampNeg) (by omega) (by omega) hk ha c1 c2 c4 c5 c6 e1 e2 e3 rfl rfl rfl (fun b j h => ⟨up2_n _ _ h, rfl, rfl⟩) (congrArg Value.int (up2_s _ _ _ _))) (zO_put hO ha) h1 h2 hl hq
theorem aw_zast {a : Nat} {i x1 : Int32} (hd : decode y.2.1 pc = .ok (.bastore, 1)) (hp : pc + 1 = pc') (hk : zK μ a = 15) (ha : 11 ≤ a) (hin : vp_in i (zL μ a)) (hx : x1 = 0 ∨ x1 = 1) (kk : AW E l d nc ns y pc' ls st (sI μ a i.toNatClampNeg x1) K) : AW E l d nc ns y pc ls (.int x1 :: .int i :: .ref a :: st) μ K := by
  intro p e R s m args below meth c H locs cells slots lsC Q hC hR hO h1 h2 hl hq
  subst hp
  obtain ⟨cell, c1, c2, c3, c4, c5, c6⟩ := zAr_at hR (by omega) (by omega) hk
  have hn : narrow .boolean (.int x1) = .int x1 := by rcases hx with rfl | rfl <;> rfl
  refine W.zast hC.1 hC.2.1 c1 c2 c3 (vp_in_ge hin c5.1) rfl rfl hd fun H1 e1 e2 e3 => ?_
  rw [hn] at e1
  exact kk p e R s m args below meth c H1 _ cells slots lsC Q hC (hR.seta (j := i.toNatClampNeg) (by omega) (by omega) hk ha c1 c2 c4 c5 c6 e1 e2 e3 rfl rfl rfl (fun b j h => ⟨up2_n _ _ h, rfl, rfl⟩) (congrArg Value.int (up2_s _ _ _ _))) (zO_put hO ha) h1 h2 hl hq
theorem aw_last {a : Nat} {i : Int32} {x1 : Int64} (hd : decode y.2.1 pc = .ok (.lastore, 1)) (hp : pc + 1 = pc') (hk : zK μ a = 14) (ha : 11 ≤ a) (hin : vp_in i (zL μ a)) (kk : AW E l d nc ns y pc' ls st (sJ μ a i.toNatClampNeg x1) K) : AW E l d nc ns y pc ls (.long x1 :: .int i :: .ref a :: st) μ K := by
  intro p e R s m args below meth c H locs cells slots lsC Q hC hR hO h1 h2 hl hq
  subst hp
  obtain ⟨cell, c1, c2, c3, c4, c5, c6⟩ := zAr_at hR (by omega) (by omega) hk
  refine W.last hC.1 hC.2.1 c1 c2 c3 (vp_in_ge hin c5.1) rfl rfl hd fun H1 e1 e2 e3 => ?_
  exact kk p e R s m args below meth c H1 _ cells slots lsC Q hC (hR.seta (j := i.toNatClampNeg) (by omega) (by omega) hk ha c1 c2 c4 c5 c6 e1 e2 e3 rfl rfl rfl (fun b j h => ⟨rfl, up2_n _ _ h, rfl⟩) (congrArg Value.long (up2_s _ _ _ _))) (zO_put hO ha) h1 h2 hl hq
theorem aw_aast {a b k ci : Nat} {i : Int32} (hd : decode y.2.1 pc = .ok (.aastore, 1)) (h16 : 16 ≤ k) (h21 : k < 21) (hci : ci < 12) (hT : aTy k = .object (clC ci).1) (hp : pc + 1 = pc') (hk : zK μ a = k) (ha : 11 ≤ a) (hb : zK μ b = ci) (hin : vp_in i (zL μ a)) (kk : AW E l d nc ns y pc' ls st (sA μ a i.toNatClampNeg (some b)) K) : AW E l d nc ns y pc ls (.ref b :: .int i :: .ref a :: st) μ K := by
  intro p e R s m args below meth c H locs cells slots lsC Q hC hR hO h1 h2 hl hq
  subst hp
  obtain ⟨cell, c1, c2, c3, c4, c5, c6⟩ := zAr_at hR (by omega) h21 hk
  obtain ⟨-, -, cv, v1, v2, v3, -⟩ := zOb_at hR hci hb
  obtain ⟨-, hRA⟩ := hC.2.2.2.2.2.1.2.1 k (by omega) h21
  rw [hT] at hRA
  obtain ⟨kA, comp, r1, r2, r3, -⟩ := hRA
  obtain ⟨-, hfc, kC, hkC, -⟩ := hC.2.2.2.2.2.1.1 ci hci
  have ec : comp = E.1.1 ci := Option.some.inj (r3.symm.trans hfc)
  subst ec
  refine W.aast (cv := cv) (comp := E.1.1 ci) (t := .object (clC ci).1) hC.1 hC.2.1 c1 c2.1 c3 (by rw [c4 ha]; exact r1) r2 rfl hkC ⟨fun z => hin (Or.inl z), Nat.lt_of_lt_of_le (vp_in_lt hin) c5.1⟩ v1 (by rw [v3]; exact fun q h => by cases h) (by rw [v2]; exact hkC) (by rw [v2]; exact va_asg _ _) rfl rfl hd fun H1 e1 e2 e3 => ?_
  refine kk p e R s m args below meth c H1 _ cells slots lsC Q hC (hR.seta (j := i.toNatClampNeg) (by omega) h21 hk ha c1 c2 c4 c5 c6 e1 e2 e3 rfl rfl rfl (fun b j h => ⟨rfl, rfl, up2_n _ _ h⟩) ?_) (zO_put hO ha) h1 h2 hl hq
  unfold zEl
  rw [if_neg (by omega), if_neg (by omega)]
  show va_rf ((up2 _ a _ (some b) a _).map _) = _
  rw [up2_s]; rfl
theorem zR.pusha {s : State} {H H' : Heap} (hR : zR E μ s H) {k n : Nat} {v : Value} (h12 : 12 ≤ k) (h21 : k < 21) (hA : ArrOfT s (E.2.1 k) (aTy k)) (e1 : H'[H.size]? = some (arrV (E.2.1 k) n (fun _ => v))) (e2 : H'.size = H.size + 1) (e3 : ∀ q, q < H.size → H'[q]? = H[q]?) (hv : v = if k = 14 then .long 0 else if k < 16 then .int 0 else .null) : zR E (sNew μ k n) s H' := by
  have eK : zK (sNew μ k n) (zN μ) = k := if_pos rfl
  have eL : zL (sNew μ k n) (zN μ) = n := if_pos rfl
  refine hR.push (by omega) e2 e3 ⟨fun q => ?_, fun _ _ => ?_, fun q => ?_⟩
  · rw [eK] at q; omega
  · unfold zAr
    rw [eK, eL, hR.phiN]
    have hz : ∀ j, v = zEl E (sNew μ k n) (zN μ) k j := by
      intro j
      rw [hv]
      have q1 : zI (sNew μ k n) (zN μ) j = 0 := if_pos rfl
      have q2 : zJ (sNew μ k n) (zN μ) j = 0 := if_pos rfl
      have q3 : zA (sNew μ k n) (zN μ) j = none := if_pos rfl
      unfold zEl
      rw [q1, q2, q3]
      split
      · rfl
      · split <;> rfl
    refine ⟨_, e1, hA n _, (fun h => (by cases h)), fun _ => by congr 1; funext j; exact hz j, ⟨Nat.le_of_eq (arrV_size _ _ _).symm, by rw [arrV_size]; rfl⟩, fun j hj => ?_⟩
    rw [arrV_read _ _ hj, ← hz j]
  · rw [eK] at q; omega
theorem aw_newa {k N : Nat} {n : Int32} {atype : ArrayType} (hd : decode y.2.1 pc = .ok (.newarray atype, 2)) (h12 : 12 ≤ k) (h16 : k < 16) (hty : newarray.typeOf atype = aTy k) (hw : Cond.arrayClass (newarray.typeOf atype) ∈ tables_1) (hp : pc + 2 = pc') (hn : ¬ n < 0) (hN : n.toNatClampNeg = N) (hb : N ≤ 60000000) (kk : AW E l d nc ns y pc' ls (.ref (zN μ) :: st) (sNew μ k N) K) : AW E l d (nc + 1) (ns + N) y pc ls (.int n :: st) μ K := by
  intro p e R s m args below meth c H locs cells slots lsC Q hC hR hO h1 h2 hl hq
  subst hp
  obtain ⟨hA, hRA⟩ := hC.2.2.2.2.2.1.2.1 k h12 (by omega)
  refine va_newaK hC.1 hC.2.1 (hC.2.2.2.2.1 _ (List.mem_append_right _ hw) rfl) rfl hd rfl hn hN ?_ (by omega) (by omega) rfl fun H1 cA e1 z1 o1 hAr hNm => ?_
  · have : componentBytes (newarray.typeOf atype) ≤ 8 := by cases atype <;> decide
    calc N * componentBytes (newarray.typeOf atype) ≤ 60000000 * 8 := Nat.mul_le_mul hb this
      _ ≤ 536870912 := by decide
  have ecA : cA = E.2.1 k := by
    rw [hty] at hNm
    rcases (show k = 12 ∨ k = 13 ∨ k = 14 ∨ k = 15 by omega) with rfl | rfl | rfl | rfl <;> exact Option.some.inj (hNm.symm.trans hRA)
  rw [ecA] at e1
  have hR1 : zR E (sNew μ k N) s H1 := by
    refine hR.pusha h12 (by omega) hA e1 z1 o1 ?_
    rw [hty]
    rcases (show k = 12 ∨ k = 13 ∨ k = 14 ∨ k = 15 by omega) with rfl | rfl | rfl | rfl <;> rfl
  have := kk p e R s m args below meth c H1 locs (cells + 1) (slots + N) lsC Q hC hR1 hO (by omega) (by omega) hl (fun v μ' H' locs' cells' slots' pcR lsR a b c2 d2 e2 => hq v μ' H' locs' cells' slots' pcR lsR a b c2 (by omega) (by omega))
  show W p l e R s m args below meth c H1 locs (cells + 1) (slots + N) Q (F0 m (pc + 2) lsC (.ref H.size :: st.map (zv E)))
  have e4 : (Value.ref H.size :: st.map (zv E)) = (.ref (zN μ) :: st).map (zv E) := by rw [← hR.phiN]; rfl
  rw [e4]
  exact this
theorem aw_anew {k ci N idx : Nat} {n : Int32} (hd : decode y.2.1 pc = .ok (.anewarray idx, 3)) (h16 : 16 ≤ k) (h21 : k < 21) (hT : aTy k = .object (clC ci).1) (hw : Cond.classLink y.1.cls idx (clC ci).1 ∈ tables_1) (hw2 : (clC ci).1 ∈ zAO) (hp : pc + 3 = pc') (hn : ¬ n < 0) (hN : n.toNatClampNeg = N) (hb : N ≤ 60000000) (kk : AW E l d nc ns y pc' ls (.ref (zN μ) :: st) (sNew μ k N) K) : AW E l d (nc + 1) (ns + N) y pc ls (.int n :: st) μ K := by
  intro p e R s m args below meth c H locs cells slots lsC Q hC hR hO h1 h2 hl hq
  subst hp
  subst hN
  obtain ⟨hA, hRA⟩ := hC.2.2.2.2.2.1.2.1 k (by omega) h21
  refine W.anew hC.1 hC.2.1 hC.2.2.2.1 (hC.2.2.2.2.1 _ (List.mem_append_right _ hw) rfl) (va_AO.use (hC.2.2.2.2.2.1.2.2.2.2 _ hw2)) rfl hd rfl hn (by omega) (by omega) (by omega) fun cA kA comp g1 g2 g3 g4 => ?_
  have ecA : cA = E.2.1 k := by
    rw [hT] at hRA
    obtain ⟨_, _, _, _, _, r4⟩ := hRA
    exact Option.some.inj (g1.symm.trans r4)
  rw [ecA]
  have hR1 : zR E (sNew μ k n.toNatClampNeg) s (H.push { cls := E.2.1 k, slots := Array.replicate n.toNatClampNeg .null, vm := .none }) := by
    refine hR.pusha (v := .null) (by omega) h21 hA ?_ ?_ ?_ ?_
    · rw [← arrV_new]; simp
    · simp
    · intro q hq
      rw [Array.getElem?_push, if_neg (Nat.ne_of_lt hq)]
    · rw [if_neg (by omega), if_neg (by omega)]
  have := kk p e R s m args below meth c _ locs (cells + 1) (slots + n.toNatClampNeg) lsC Q hC hR1 hO (by omega) (by omega) hl (fun v μ' H' locs' cells' slots' pcR lsR a b c2 d2 e2 => hq v μ' H' locs' cells' slots' pcR lsR a b c2 (by omega) (by omega))
  show W p l e R s m args below meth c (H.push { cls := E.2.1 k, slots := Array.replicate n.toNatClampNeg .null, vm := .none }) locs (cells + 1) (slots + n.toNatClampNeg) Q (F0 m (pc + 3) lsC (.ref H.size :: st.map (zv E)))
  have e4 : (Value.ref H.size :: st.map (zv E)) = (.ref (zN μ) :: st).map (zv E) := by rw [← hR.phiN]; rfl
  rw [e4]
  exact this
/-! statics -/
theorem aw_gets {idx : Nat} {C n dd : String} {v : Value} (hZ : ∀ (s : State) (H : Heap), zSf E s H → va_Z C n dd (zv E v) (zNu E) s H) (hd : decode y.2.1 pc = .ok (.getstatic idx, 3)) (hw : Cond.fieldLink y.1.cls idx C n dd ∈ tables_1) (hp : pc + 3 = pc') (kk : AW E l d nc ns y pc' ls (v :: st) μ K) : AW E l d nc ns y pc ls st μ K := by
  intro p e R s m args below meth c H locs cells slots lsC Q hC hR hO h1 h2 hl hq
  subst hp
  obtain ⟨cf, kf, fi, f, a, cell, g1, g2, g3, g4, g5, g6, g7, g8⟩ := hZ s H hR.2.2.2.2.2
  exact W.gets hC.1 hC.2.1 hC.2.2.2.1 (hC.2.2.2.2.1 _ (List.mem_append_right _ hw) rfl) g1 g2 g3 g4 g5 (fun e => by rw [e] at g6; cases g6) g7 rfl hd (kk p e R s m args below meth c H locs cells slots lsC Q hC hR hO h1 h2 hl hq)
theorem aw_getNAMES {idx : Nat} (hd : decode y.2.1 pc = .ok (.getstatic idx, 3)) (hw : Cond.fieldLink y.1.cls idx "ReturnDeskModel" "NAMES" "[J" ∈ tables_1) (hp : pc + 3 = pc') (kk : AW E l d nc ns y pc' ls (.ref 10 :: st) μ K) : AW E l d nc ns y pc ls st μ K := aw_gets (v := .ref 10) (fun _ _ h => h.2.1) hd hw hp kk
theorem aw_getCS {idx : Nat} (hd : decode y.2.1 pc = .ok (.getstatic idx, 3)) (hw : Cond.fieldLink y.1.cls idx "java/lang/String" "COMPACT_STRINGS" "Z" ∈ tables_1) (hp : pc + 3 = pc') (kk : AW E l d nc ns y pc' ls (.int 1 :: st) μ K) : AW E l d nc ns y pc ls st μ K := aw_gets (v := .int 1) (fun _ _ h => h.2.2.1) hd hw hp kk
theorem aw_getTENTHS (hd : decode y.2.1 pc = .ok (.getstatic 44, 3)) (hy : y.1.cls = "ReturnDesk$Judgement") (hp : pc + 3 = pc') (kk : AW E l d nc ns y pc' ls (.ref 9 :: st) μ K) : AW E l d nc ns y pc ls st μ K := by
  intro p e R s m args below meth c H locs cells slots lsC Q hC hR hO h1 h2 hl hq
  subst hp
  obtain ⟨cf, kf, fi, f, a, cell, g1, g2, g3, g4, g5, g6, g7, g8⟩ := hR.2.2.2.2.2.1
  have hw : va_Nw (.fieldLinkNest "ReturnDesk$Judgement" 44 "ReturnDesk" "TENTHS" "[I" "ReturnDesk") s := hC.2.2.2.2.2.1.2.2.1 _ (by simp [zNst])
  exact va_WgetsN hC.1 hC.2.1 (by rw [← hy]; exact hC.2.2.2.1) (va_Nw.use rfl hw) g1 g2 g3 g4 g5 (fun e => by rw [e] at g6; cases g6) g7 rfl hd (kk p e R s m args below meth c H locs cells slots lsC Q hC hR hO h1 h2 hl hq)
/-! String's own fields -/
theorem zSt_at {s : State} {H : Heap} (hR : zR E μ s H) {a : Nat} (hk : zK μ a = 21) : zSt E μ s H a := (hR.2.2.1 a (hR.lt (by omega))).2.2 hk
theorem aw_getSV {idx a : Nat} (hd : decode y.2.1 pc = .ok (.getfield idx, 3)) (hw : Cond.fieldLink y.1.cls idx "java/lang/String" "value" "[B" ∈ tables_1) (hp : pc + 3 = pc') (hk : zK μ a = 21) (kk : ∀ b, zA μ a 0 = some b → AW E l d nc ns y pc' ls (.ref b :: st) μ K) : AW E l d nc ns y pc ls (.ref a :: st) μ K := by
  intro p e R s m args below meth c H locs cells slots lsC Q hC hR hO h1 h2 hl hq
  subst hp
  obtain ⟨b, z0, z1, -, -, cf, k, fi, f, cell, g1, g2, g3, g4, g5, g6⟩ := zSt_at hR hk
  exact W.getf hC.1 hC.2.1 hC.2.2.2.1 (hC.2.2.2.2.1 _ (List.mem_append_right _ hw) rfl) g1 g2 g3 g4 (v := .ref (phi E b)) g5 rfl rfl hd (kk b z0 p e R s m args below meth c H locs cells slots lsC Q hC hR hO h1 h2 hl hq)
theorem aw_getSC {idx a : Nat} (hd : decode y.2.1 pc = .ok (.getfield idx, 3)) (hw : Cond.fieldLink y.1.cls idx "java/lang/String" "coder" "B" ∈ tables_1) (hp : pc + 3 = pc') (hk : zK μ a = 21) (kk : AW E l d nc ns y pc' ls (.int 0 :: st) μ K) : AW E l d nc ns y pc ls (.ref a :: st) μ K := by
  intro p e R s m args below meth c H locs cells slots lsC Q hC hR hO h1 h2 hl hq
  subst hp
  obtain ⟨b, z0, z1, -, ⟨cf, k, fi, f, cell, g1, g2, g3, g4, g5, g6⟩, -⟩ := zSt_at hR hk
  exact W.getf hC.1 hC.2.1 hC.2.2.2.1 (hC.2.2.2.2.1 _ (List.mem_append_right _ hw) rfl) g1 g2 g3 g4 (v := .int 0) g5 rfl rfl hd (kk p e R s m args below meth c H locs cells slots lsC Q hC hR hO h1 h2 hl hq)
end Arrays
