section Fields
variable {E : ZE} {l : Launch} {d nc ns : Nat} {y : MTH} {pc pc' tgt : Nat} {ls ls' : List (Option Value)} {st : List Value} {μ : ZM} {K : Option Value → ZM → Prop}
/-- what a class's object is: its cell -/
theorem zOb_at {s : State} {H : Heap} (hR : zR E μ s H) {a ci : Nat} (hci : ci < 12) (hk : zK μ a = ci) : a < zN μ ∧ 11 ≤ a ∧ t_OB (phi E a) (E.1.1 ci) (clC ci).2.2 (E.1.2 ci) H (fun k => zF E μ a ci k) := by
  subst hk
  have h := hR.lt (a := a) (by omega)
  exact ⟨h, hR.new11 hci, (hR.2.2.1 a h).1 hci⟩
theorem aw_get {idx ci k a : Nat} (hd : decode y.2.1 pc = .ok (.getfield idx, 3)) (hf : FL y.1.cls idx ci k) (hk : zK μ a = ci) (hp : pc + 3 = pc')
    (kk : ∀ (p : Program) (e : Env) (R : Room) (s : State) (m : MethodId) (args : Array Value) (below : List Frame) (meth : Method) (c : Code) (H : Heap) (locs : List Loc) (cells slots : Nat) (lsC : Array Slot) (Q : State → Prop),
    zC E d y p R s m args meth c → zR E μ s H → zO E locs → cells + nc ≤ R.cells → slots + ns ≤ R.slots → zLv E ls lsC y.2.2.1 →
    (∀ (v : Option Value) (μ' : ZM) (H' : Heap) (locs' : List Loc) (cells' slots' pcR : Nat) (lsR : Array Slot), K v μ' → zR E μ' s H' → zO E locs' → cells' ≤ cells + nc → slots' ≤ slots + ns → zRet y pcR v →
      W p l e R s m args below meth c H' locs' cells' slots' Q (F0 m pcR lsR (v.toList.map (zv E)))) →
    W p l e R s m args below meth c H locs cells slots Q (F0 m pc' lsC (zF E μ a ci k :: st.map (zv E)))) : AW E l d nc ns y pc ls (.ref a :: st) μ K := by
  intro p e R s m args below meth c H locs cells slots lsC Q hC hR hO h1 h2 hl hq
  subst hp
  obtain ⟨hci, hkN, hw⟩ := hf
  obtain ⟨-, -, cell, q1, q2, q3, q4⟩ := zOb_at hR hci hk
  obtain ⟨hS, hfc, kC, hkC, hkind⟩ := hC.2.2.2.2.2.1.1 ci hci
  obtain ⟨cf, kf, fi, f, hi, hsl⟩ := hS k hkN
  have hts : ∀ w ∈ u_ws (clC ci).1 (clC ci).2.1 (clC ci).2.2, w.before args s = true := fun w h => hC.2.2.2.2.1 w (cl_in hci h).1 (cl_in hci h).2
  refine W.getf hC.1 hC.2.1 hC.2.2.2.1 (hC.2.2.2.2.1 _ (List.mem_append_right _ hw) rfl) hi (u_facts hfc hkC (u_lays hts (fun w h => h) hkN) hi).1 q1 (by rw [q3]; exact fun h => by cases h) (v := zF E μ a ci k) (by rw [hsl, q4 k hkN]) rfl rfl hd ?_
  exact kk p e R s m args below meth c H locs cells slots lsC Q hC hR hO h1 h2 hl hq
theorem aw_getI {idx ci k a : Nat} (hd : decode y.2.1 pc = .ok (.getfield idx, 3)) (hf : FL y.1.cls idx ci k) (ht : isRf (tyC ci k) = false) (hp : pc + 3 = pc') (hk : zK μ a = ci) (kk : AW E l d nc ns y pc' ls (.int (zI μ a k) :: st) μ K) : AW E l d nc ns y pc ls (.ref a :: st) μ K := by
  refine aw_get hd hf hk hp ?_
  intro p e R s m args below meth c H locs cells slots lsC Q hC hR hO h1 h2 hl hq
  have e1 : zF E μ a ci k = .int (zI μ a k) := by unfold zF; rw [if_neg (by rw [ht]; decide)]
  rw [e1]
  exact kk p e R s m args below meth c H locs cells slots lsC Q hC hR hO h1 h2 hl hq
theorem aw_getA {idx ci k a : Nat} (hd : decode y.2.1 pc = .ok (.getfield idx, 3)) (hf : FL y.1.cls idx ci k) (ht : isRf (tyC ci k) = true) (hp : pc + 3 = pc') (hk : zK μ a = ci) (kn : zA μ a k = none → AW E l d nc ns y pc' ls (.null :: st) μ K) (ks : ∀ b, zA μ a k = some b → AW E l d nc ns y pc' ls (.ref b :: st) μ K) : AW E l d nc ns y pc ls (.ref a :: st) μ K := by
  refine aw_get hd hf hk hp ?_
  intro p e R s m args below meth c H locs cells slots lsC Q hC hR hO h1 h2 hl hq
  have e1 : zF E μ a ci k = va_rf ((zA μ a k).map (phi E)) := by unfold zF; rw [if_pos ht]
  rw [e1]
  cases hz : zA μ a k with
  | none => exact kn hz p e R s m args below meth c H locs cells slots lsC Q hC hR hO h1 h2 hl hq
  | some b => exact ks b hz p e R s m args below meth c H locs cells slots lsC Q hC hR hO h1 h2 hl hq
/-- a field is written -/
theorem aw_put {idx ci k a : Nat} {v : Value} {μ2 : ZM} (hd : decode y.2.1 pc = .ok (.putfield idx, 3)) (hf : FL y.1.cls idx ci k) (hk : zK μ a = ci) (hp : pc + 3 = pc') (hfin : ((clC ci).2.1 k).2.2.2 = false ∨ (((clC ci).2.1 k).2.2.2 = true ∧ y.1.name = "<init>" ∧ ((clC ci).2.1 k).1 = y.1.cls))
    (hn : narrow (tyC ci k) (zv E v) = zv E v) (hfit : fits (tyC ci k) (zv E v) = true) (hN : zN μ2 = zN μ) (hK : zK μ2 = zK μ) (hL : zL μ2 = zL μ) (ho : ∀ b j, (b ≠ a ∨ j ≠ k) → zI μ2 b j = zI μ b j ∧ zJ μ2 b j = zJ μ b j ∧ zA μ2 b j = zA μ b j) (hv : zF E μ2 a ci k = zv E v)
    (kk : AW E l d nc ns y pc' ls st μ2 K) : AW E l d nc ns y pc ls (v :: .ref a :: st) μ K := by
  intro p e R s m args below meth c H locs cells slots lsC Q hC hR hO h1 h2 hl hq
  subst hp
  obtain ⟨hci, hkN, hw⟩ := hf
  obtain ⟨haN, ha11, cell, q1, q2, q3, q4⟩ := zOb_at hR hci hk
  obtain ⟨hS, hfc, kC, hkC, hkind⟩ := hC.2.2.2.2.2.1.1 ci hci
  obtain ⟨cf, kf, fi, f, hi, hsl⟩ := hS k hkN
  have hts : ∀ w ∈ u_ws (clC ci).1 (clC ci).2.1 (clC ci).2.2, w.before args s = true := fun w h => hC.2.2.2.2.1 w (cl_in hci h).1 (cl_in hci h).2
  have hst := (u_facts hfc hkC (u_lays hts (fun w h => h) hkN) hi).1
  have hap : ∀ x y, x < (clC ci).2.2 → y < (clC ci).2.2 → x ≠ y → (E.1.2 ci) x ≠ (E.1.2 ci) y := by
    intro x y hx hy hne
    obtain ⟨_, _, _, fa, hia, ea⟩ := hS x hx
    obtain ⟨_, _, _, fb, hib, eb⟩ := hS y hy
    rw [← ea, ← eb]
    refine u_apart (u_lays hts (fun w h => h) hx) (u_lays hts (fun w h => h) hy) hia hib ?_
    rw [(State.fieldFound?_type hia (cl_ty ci hci x hx)).1, (State.fieldFound?_type hib (cl_ty ci hci y hy)).1]
    exact cl_nm ci hci x hx y hy hne
  have hlay := hts _ (u_in_lay hkN)
  have hlink := hC.2.2.2.2.1 _ (List.mem_append_right _ hw) rfl
  have hslot : f.slot < cell.slots.size := by rw [hsl]; exact k2_hasslot (q4 k hkN)
  have fin : ∀ H' : Heap, H'[phi E a]? = some (cell.setSlot f.slot (zv E v)) → H'.size = H.size → (∀ q, q ≠ phi E a → H'[q]? = H[q]?) → W p l e R s m args below meth c H' (locs ++ [⟨phi E a, f.slot⟩]) cells slots Q (F0 m (pc + 3) lsC (st.map (zv E))) := by
    intro H' e1 e2 e3
    refine kk p e R s m args below meth c H' _ cells slots lsC Q hC ?_ ?_ h1 h2 hl hq
    · refine hR.upd (a := a) hN hK hL (fun b hb j => ho b j (Or.inl hb)) ha11 e2 e3 ⟨fun _ => ?_, fun q _ => ?_, fun q => ?_⟩
      · show t_OB _ _ _ _ _ _
        rw [hK, hk]
        refine ⟨_, e1, q2, q3, fun j hj => ?_⟩
        rw [hsl]
        have := t_set q4 hap hkN (zv E v) j hj
        rw [this]
        by_cases hjk : j = k
        · subst hjk
          simp [updV, hv]
        · have h3 := fun j' => ho a j'
          have : zF E μ2 a ci j = zF E μ a ci j := by
            unfold zF
            rw [(ho a j (Or.inr hjk)).1, (ho a j (Or.inr hjk)).2.2]
          simp [updV, hjk, this]
      · rw [hK, hk] at q; omega
      · rw [hK, hk] at q; omega
    · intro q hq'
      rcases List.mem_append.mp hq' with h | h
      · exact hO q h
      · rw [List.mem_singleton.mp h]
        show E.2.2.2 ≤ phi E a
        rw [phi_ge ha11]; omega
  rcases hfin with hfin | ⟨hfin, hinit, hdecl⟩
  · unfold u_lay at hlay
    rw [if_neg (by rw [hfin]; decide)] at hlay
    have h6 := u_store hfc hkC hkind hlay hi (cl_ty ci hci k hkN) hn hfit
    exact W.putK hC.1 hC.2.1 (f := f) ⟨hC.2.2.2.1, hlink, ⟨_, _, _, hi⟩, hst⟩ (by rw [q2]; exact h6) q1 q3 hslot rfl rfl hd fin
  · unfold u_lay at hlay
    rw [if_pos hfin] at hlay
    have hcf : m.cls = cf := by
      obtain ⟨_, _, c', _, _, _, -, -, hf', -, -, -, hown2, -⟩ := Cond.laysFinal_spec hlay
      have e1 : c' = cf := by have := hi.symm.trans hf'; simp at this; exact this.1.symm
      rw [hdecl] at hown2
      rw [← e1]; exact Option.some.inj (hC.2.2.2.1.symm.trans hown2)
    have h6 := u_fits hfc hkC hkind (Or.inr hlay) hi (cl_ty ci hci k hkN) hn hfit
    exact W.putFinK hC.1 hC.2.1 hC.2.2.2.1 hlink hi hst hcf (hC.2.2.2.2.2.2.2.2.1 hinit) (by rw [q2]; exact h6) q1 q3 hslot rfl rfl hd fin
theorem up2_s {α : Type} (f : Nat → Nat → α) (a k : Nat) (x : α) : up2 f a k x a k = x := by simp [up2]
theorem up2_n {α : Type} (f : Nat → Nat → α) {a k b j : Nat} (x : α) (h : b ≠ a ∨ j ≠ k) : up2 f a k x b j = f b j := by
  unfold up2; rw [if_neg]; rintro ⟨rfl, rfl⟩; simp at h
def zFin (y : MTH) (ci k : Nat) : Bool := !((clC ci).2.1 k).2.2.2 || (((clC ci).2.1 k).2.2.2 && y.1.name == "<init>" && ((clC ci).2.1 k).1 == y.1.cls)
theorem zFin_ok {y : MTH} {ci k : Nat} (h : zFin y ci k = true) : ((clC ci).2.1 k).2.2.2 = false ∨ (((clC ci).2.1 k).2.2.2 = true ∧ y.1.name = "<init>" ∧ ((clC ci).2.1 k).1 = y.1.cls) := by
  unfold zFin at h
  simp only [Bool.or_eq_true, Bool.not_eq_true', Bool.and_eq_true, beq_iff_eq] at h
  rcases h with h | ⟨⟨h1, h2⟩, h3⟩
  · exact Or.inl h
  · exact Or.inr ⟨h1, h2, h3⟩
theorem aw_putI {idx ci k a : Nat} {x1 : Int32} (hd : decode y.2.1 pc = .ok (.putfield idx, 3)) (hf : FL y.1.cls idx ci k) (ht : tyC ci k = .int) (hfin : zFin y ci k = true) (hp : pc + 3 = pc') (hk : zK μ a = ci) (kk : AW E l d nc ns y pc' ls st (sI μ a k x1) K) : AW E l d nc ns y pc ls (.int x1 :: .ref a :: st) μ K := by
  refine aw_put (v := .int x1) (μ2 := sI μ a k x1) hd hf hk hp (zFin_ok hfin) (by rw [ht]; rfl) (by rw [ht]; rfl) rfl rfl rfl (fun b j h => ⟨up2_n _ _ h, rfl, rfl⟩) ?_ kk
  unfold zF
  rw [if_neg (by rw [ht]; decide)]
  exact congrArg Value.int (up2_s _ _ _ _)
theorem aw_putZ {idx ci k a : Nat} {x1 : Int32} (hd : decode y.2.1 pc = .ok (.putfield idx, 3)) (hf : FL y.1.cls idx ci k) (ht : tyC ci k = .boolean) (hfin : zFin y ci k = true) (hp : pc + 3 = pc') (hk : zK μ a = ci) (hx : x1 = 0 ∨ x1 = 1) (kk : AW E l d nc ns y pc' ls st (sI μ a k x1) K) : AW E l d nc ns y pc ls (.int x1 :: .ref a :: st) μ K := by
  refine aw_put (v := .int x1) (μ2 := sI μ a k x1) hd hf hk hp (zFin_ok hfin) (by rw [ht]; rcases hx with rfl | rfl <;> rfl) (by rw [ht]; rcases hx with rfl | rfl <;> rfl) rfl rfl rfl (fun b j h => ⟨up2_n _ _ h, rfl, rfl⟩) ?_ kk
  unfold zF
  rw [if_neg (by rw [ht]; decide)]
  exact congrArg Value.int (up2_s _ _ _ _)
theorem aw_putA {idx ci k a b : Nat} (hd : decode y.2.1 pc = .ok (.putfield idx, 3)) (hf : FL y.1.cls idx ci k) (ht : isRf (tyC ci k) = true) (hfin : zFin y ci k = true) (hp : pc + 3 = pc') (hk : zK μ a = ci) (kk : AW E l d nc ns y pc' ls st (sA μ a k (some b)) K) : AW E l d nc ns y pc ls (.ref b :: .ref a :: st) μ K := by
  refine aw_put (v := .ref b) (μ2 := sA μ a k (some b)) hd hf hk hp (zFin_ok hfin) ?_ ?_ rfl rfl rfl (fun b j h => ⟨rfl, rfl, up2_n _ _ h⟩) ?_ kk
  · cases h : tyC ci k <;> rw [h] at ht <;> first | rfl | cases ht
  · cases h : tyC ci k <;> rw [h] at ht <;> first | rfl | cases ht
  · unfold zF
    rw [if_pos ht]
    show va_rf ((up2 _ a k (some b) a k).map _) = _
    rw [up2_s]; rfl
theorem aw_putAN {idx ci k a : Nat} (hd : decode y.2.1 pc = .ok (.putfield idx, 3)) (hf : FL y.1.cls idx ci k) (ht : isRf (tyC ci k) = true) (hfin : zFin y ci k = true) (hp : pc + 3 = pc') (hk : zK μ a = ci) (kk : AW E l d nc ns y pc' ls st (sA μ a k none) K) : AW E l d nc ns y pc ls (.null :: .ref a :: st) μ K := by
  refine aw_put (v := .null) (μ2 := sA μ a k none) hd hf hk hp (zFin_ok hfin) ?_ ?_ rfl rfl rfl (fun b j h => ⟨rfl, rfl, up2_n _ _ h⟩) ?_ kk
  · cases h : tyC ci k <;> rw [h] at ht <;> first | rfl | cases ht
  · cases h : tyC ci k <;> rw [h] at ht <;> first | rfl | cases ht
  · unfold zF
    rw [if_pos ht]
    show va_rf ((up2 _ a k none a k).map _) = _
    rw [up2_s]; rfl
/-- a new object -/
theorem aw_new {idx ci n : Nat} (hd : decode y.2.1 pc = .ok (.new idx, 3)) (hci : ci < 12) (hn : (clC ci).2.2 = n) (hw : Cond.classLink y.1.cls idx (clC ci).1 ∈ tables_1) (hw2 : Cond.instantiable (clC ci).1 n ∈ tables_1) (hw3 : Cond.initialized (clC ci).1 ∈ tables_1) (hp : pc + 3 = pc') (kk : AW E l d nc ns y pc' ls (.ref (zN μ) :: st) (sNew μ ci 0) K) : AW E l d (nc + 1) (ns + n) y pc ls st μ K := by
  intro p e R s m args below meth c H locs cells slots lsC Q hC hR hO h1 h2 hl hq
  subst hp
  subst hn
  have hKn := hC.2.2.2.2.2.1.1 ci hci
  have hts : ∀ w ∈ u_ws (clC ci).1 (clC ci).2.1 (clC ci).2.2, w.before args s = true := fun w h => hC.2.2.2.2.1 w (cl_in hci h).1 (cl_in hci h).2
  refine W.newcK hC.1 hC.2.1 hC.2.2.2.1 (hC.2.2.2.2.1 _ (List.mem_append_right _ hw) rfl) (hC.2.2.2.2.1 _ (List.mem_append_right _ hw2) rfl) (hC.2.2.2.2.1 _ (List.mem_append_right _ hw3) rfl) rfl hd (by omega) (by omega) hKn.2.1 rfl fun H1 kC hkC e1 z1 o1 => ?_
  have hR1 : zR E (sNew μ ci 0) s H1 := by
    have eK : zK (sNew μ ci 0) (zN μ) = ci := if_pos rfl
    refine hR.push (by omega) z1 o1 ⟨fun _ => ?_, fun q _ => ?_, fun q => ?_⟩
    · show t_OB _ _ _ _ _ _
      rw [eK, hR.phiN]
      refine (u_born (tyC ci) hts (fun w h => h) hKn hkC e1 (cl_ty ci hci)).to (fun k hk => ?_)
      unfold zF
      have e2 : zI (sNew μ ci 0) (zN μ) k = 0 := if_pos rfl
      have e3 : zA (sNew μ ci 0) (zN μ) k = none := if_pos rfl
      rw [e2, e3]
      have : ∀ ci, ci < 12 → ∀ k, k < (clC ci).2.2 → (defaultValue (tyC ci k) = if isRf (tyC ci k) = true then Value.null else .int 0) := by decide +kernel
      rw [this ci hci k hk]
      rfl
    · rw [eK] at q; omega
    · rw [eK] at q; omega
  have := kk p e R s m args below meth c H1 locs (cells + 1) (slots + (clC ci).2.2) lsC Q hC hR1 hO (by omega) (by omega) hl (fun v μ' H' locs' cells' slots' pcR lsR a b c2 d2 e2 => hq v μ' H' locs' cells' slots' pcR lsR a b c2 (by omega) (by omega))
  show W p l e R s m args below meth c H1 locs (cells + 1) (slots + (clC ci).2.2) Q (F0 m (pc + 3) lsC (.ref H.size :: st.map (zv E)))
  have e4 : (Value.ref H.size :: st.map (zv E)) = (.ref (zN μ) :: st).map (zv E) := by rw [← hR.phiN]; rfl
  rw [e4]
  exact this
/-- Object.<init> -/
theorem aw_objInit {idx a : Nat} (hd : decode y.2.1 pc = .ok (.invokespecial idx, 3)) (hw : Cond.methodLink y.1.cls idx Lib.objectInit ∈ tables_1) (hrm : (st.map fun v => v.category).sum ≤ 8) (hp : pc + 3 = pc') (kk : AW E l (d + 1) nc ns y pc' ls st μ K) : AW E l (d + 1) nc ns y pc ls (.ref a :: st) μ K := by
  intro p e R s m args below meth c H locs cells slots lsC Q hC hR hO h1 h2 hl hq
  subst hp
  have hm1 : Cond.instanceMethod Lib.objectInit ∈ tables_1 := by decide +kernel
  have hm2 : Cond.code Lib.objectInit ⟨#[0xb1]⟩ 1 none ∈ tables_1 := by decide +kernel
  have hcat : ((st.map (zv E)).map fun v => v.category).sum = (st.map fun v => v.category).sum := by
    rw [List.map_map]
    congr 1
    exact List.map_congr_left (fun v _ => zv_cat E v)
  have hlo := hC.2.2.2.2.2.2.2.2.2.2
  refine W.objInit hC.1 hC.2.1 hC.2.2.2.1 (hC.2.2.2.2.1 _ (List.mem_append_right _ hw) rfl) (hC.2.2.2.2.1 _ (List.mem_append_right _ hm1) rfl) (hC.2.2.2.2.1 _ (List.mem_append_right _ hm2) rfl) (g := F0 m pc lsC ((.ref a :: st).map (zv E))) rfl (hl.1.trans hC.2.2.1.symm) rfl hd (by have := hC.2.2.2.2.2.2.2.2.2.1; omega) ?_ (kk p e R s m args below meth c H locs cells slots lsC Q hC hR hO h1 h2 hl hq)
  show 2 * 0 + _ + 12 ≤ R.locals
  rw [hcat]
  omega
end Fields
