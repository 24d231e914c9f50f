section Extra
variable {E : ZE} {l : Launch} {d nc ns nc1 ns1 : Nat} {y y2 : MTH} {pc pc' tgt : Nat} {ls ls' : List (Option Value)} {st st' rest As : List Value} {μ : ZM} {K K1 : Option Value → ZM → Prop}
theorem aw_stk (h : st = st') (k : AW E l d nc ns y pc ls st' μ K) : AW E l d nc ns y pc ls st μ K := h ▸ k
theorem aw_loc (h : ls = ls') (k : AW E l d nc ns y pc ls' st μ K) : AW E l d nc ns y pc ls st μ K := h ▸ k
/-- fewer locals are known -/
def zSub : List (Option Value) → List (Option Value) → Prop
  | [], _ => True
  | none :: a, _ :: b => zSub a b
  | none :: a, [] => zSub a []
  | some v :: a, w :: b => w = some v ∧ zSub a b
  | some _ :: _, [] => False
theorem zSub_ok : ∀ {a b : List (Option Value)}, zSub a b → ∀ (i : Nat) (v : Value), a[i]? = some (some v) → b[i]? = some (some v)
  | [], _, _, i, v, h => by simp at h
  | none :: a, w :: b, hs, 0, v, h => by simp at h
  | none :: a, w :: b, hs, i + 1, v, h => by simpa using zSub_ok (a := a) (b := b) hs i v (by simpa using h)
  | none :: a, [], hs, 0, v, h => by simp at h
  | none :: a, [], hs, i + 1, v, h => by
    have := zSub_ok (a := a) (b := []) hs i v (by simpa using h)
    simp at this
  | some u :: a, w :: b, hs, 0, v, h => by
    simp at h
    subst h
    simp [hs.1]
  | some u :: a, w :: b, hs, i + 1, v, h => by simpa using zSub_ok (a := a) (b := b) hs.2 i v (by simpa using h)
theorem aw_drop (h : zSub ls' ls) (k : AW E l d nc ns y pc ls' st μ K) : AW E l d nc ns y pc ls st μ K := by
  intro p e R s m args below meth c H locs cells slots lsC Q hC hR hO h1 h2 hl hq
  exact k p e R s m args below meth c H locs cells slots lsC Q hC hR hO h1 h2 ⟨hl.1, hl.2.1, fun i v hv => hl.2.2 i v (zSub_ok h i v hv)⟩ hq
theorem aw_getAs {idx ci k a b : Nat} (hd : decode y.2.1 pc = .ok (.getfield idx, 3)) (hf : FL y.1.cls idx ci k) (ht : isRf (tyC ci k) = true) (hp : pc + 3 = pc') (hk : zK μ a = ci) (hz : zA μ a k = some b) (kk : AW E l d nc ns y pc' ls (.ref b :: st) μ K) : AW E l d nc ns y pc ls (.ref a :: st) μ K :=
  aw_getA hd hf ht hp hk (fun q => by rw [hz] at q; cases q) (fun c q => by rw [hz] at q; cases q; exact kk)
theorem aw_getAn {idx ci k a : Nat} (hd : decode y.2.1 pc = .ok (.getfield idx, 3)) (hf : FL y.1.cls idx ci k) (ht : isRf (tyC ci k) = true) (hp : pc + 3 = pc') (hk : zK μ a = ci) (hz : zA μ a k = none) (kk : AW E l d nc ns y pc' ls (.null :: st) μ K) : AW E l d nc ns y pc ls (.ref a :: st) μ K :=
  aw_getA hd hf ht hp hk (fun _ => kk) (fun c q => by rw [hz] at q; cases q)
theorem aw_aalds {a k b : Nat} {i : Int32} (hd : decode y.2.1 pc = .ok (.aaload, 1)) (h16 : 16 ≤ k) (h21 : k < 21) (hp : pc + 1 = pc') (hk : zK μ a = k) (hin : vp_in i (zL μ a)) (hz : zA μ a i.toNatClampNeg = some b) (kk : AW E l d nc ns y pc' ls (.ref b :: st) μ K) : AW E l d nc ns y pc ls (.int i :: .ref a :: st) μ K :=
  aw_aald hd h16 h21 hp hk hin (fun q => by rw [hz] at q; cases q) (fun c q => by rw [hz] at q; cases q; exact kk)
theorem vin_eq {a n : Nat} {i : Int32} (h : zL μ a = n) (hin : vp_in i n) : vp_in i (zL μ a) := by rw [h]; exact hin
theorem vlit {i : Int32} {n : Nat} (h : (!decide (i < 0) && decide (i.toNatClampNeg < n)) = true) : vp_in i n := by
  simp only [Bool.and_eq_true, Bool.not_eq_true', decide_eq_false_iff_not, decide_eq_true_eq] at h
  rintro (q | q)
  · exact h.1 q
  · omega
theorem nb01 {x : Int32} (h : x = 0 ∨ x = 1) : narrow .boolean (.int x) = .int x := by rcases h with rfl | rfl <;> rfl
theorem aw_inV {idx a ci : Nat} (hd : decode y.2.1 pc = .ok (.invokevirtual idx, 3)) (hy : zMok y2) (hlink : Cond.methodLink y.1.cls idx y2.1 ∈ tables_1) (hinst : Cond.instanceMethod y2.1 ∈ tables_1) (hsel : Cond.selects y2.1.cls y2.1 y2.1 ∈ lw_tbl) (hpar : (parseMethodDescriptor y2.1.desc).map (fun d => d.parameters.length) = some As.length) (hcls : (ci < 12 ∧ (clC ci).1 = y2.1.cls) ∨ (ci = 21 ∧ y2.1.cls = "java/lang/String"))
    (hst : As.reverse ++ .ref a :: rest = st) (hlen : (zaf (.ref a :: As)).length ≤ y2.2.2.1) (hrm : (rest.map fun v => v.category).sum ≤ 16) (hp : pc + 3 = pc') (hl : zargs y2.2.2.1 (.ref a :: As) = ls') (hk : zK μ a = ci)
    (h : AW E l d nc1 ns1 y2 0 ls' [] μ (fun v μ1 => AW E l (d + 1) nc ns y pc' ls (v.toList ++ rest) μ1 K)) : AW E l (d + 1) (nc + nc1) (ns + ns1) y pc ls st μ K := by
  subst hl
  have := aw_callV (nc := nc) (ns := ns) hd hy hlink hinst hsel hpar hcls hst hlen hrm hp hk h (fun _ _ q => q)
  rw [Nat.add_comm nc, Nat.add_comm ns]
  exact this
theorem aw_inS {idx : Nat} (hd : decode y.2.1 pc = .ok (.invokestatic idx, 3)) (hy : zMok y2) (hlink : Cond.methodLink y.1.cls idx y2.1 ∈ tables_1) (hstat : Cond.static y2.1 ∈ tables_1) (hpar : (parseMethodDescriptor y2.1.desc).map (fun d => d.parameters.length) = some As.length)
    (hst : As.reverse ++ rest = st) (hlen : (zaf As).length ≤ y2.2.2.1) (hrm : (rest.map fun v => v.category).sum ≤ 16) (hp : pc + 3 = pc') (hl : zargs y2.2.2.1 As = ls')
    (h : AW E l d nc1 ns1 y2 0 ls' [] μ (fun v μ1 => AW E l (d + 1) nc ns y pc' ls (v.toList ++ rest) μ1 K)) : AW E l (d + 1) (nc + nc1) (ns + ns1) y pc ls st μ K := by
  subst hl
  have := aw_callS (nc := nc) (ns := ns) hd hy hlink hstat hpar hst hlen hrm hp h (fun _ _ q => q)
  rw [Nat.add_comm nc, Nat.add_comm ns]
  exact this
theorem aw_inSN {idx : Nat} (hd : decode y.2.1 pc = .ok (.invokestatic idx, 3)) (hy : zMok y2) (hlink : Cond.methodLinkNest y.1.cls idx y2.1 "ReturnDesk" ∈ zNst) (hstat : Cond.static y2.1 ∈ tables_1) (hpar : (parseMethodDescriptor y2.1.desc).map (fun d => d.parameters.length) = some As.length)
    (hst : As.reverse ++ rest = st) (hlen : (zaf As).length ≤ y2.2.2.1) (hrm : (rest.map fun v => v.category).sum ≤ 16) (hp : pc + 3 = pc') (hl : zargs y2.2.2.1 As = ls')
    (h : AW E l d nc1 ns1 y2 0 ls' [] μ (fun v μ1 => AW E l (d + 1) nc ns y pc' ls (v.toList ++ rest) μ1 K)) : AW E l (d + 1) (nc + nc1) (ns + ns1) y pc ls st μ K := by
  subst hl
  have := aw_callSN (nc := nc) (ns := ns) hd hy hlink hstat hpar hst hlen hrm hp h (fun _ _ q => q)
  rw [Nat.add_comm nc, Nat.add_comm ns]
  exact this
theorem aw_inI {idx a : Nat} (hd : decode y.2.1 pc = .ok (.invokespecial idx, 3)) (hy : zMok y2) (hnm : y2.1.name = "<init>") (hrt : y2.2.2.2 = none) (hlink : Cond.methodLink y.1.cls idx y2.1 ∈ tables_1) (hinst : Cond.instanceMethod y2.1 ∈ tables_1) (hpar : (parseMethodDescriptor y2.1.desc).map (fun d => d.parameters.length) = some As.length)
    (hst : As.reverse ++ .ref a :: rest = st) (hlen : (zaf (.ref a :: As)).length ≤ y2.2.2.1) (hrm : (rest.map fun v => v.category).sum ≤ 16) (hp : pc + 3 = pc') (hl : zargs y2.2.2.1 (.ref a :: As) = ls')
    (h : AW E l d nc1 ns1 y2 0 ls' [] μ (fun v μ1 => AW E l (d + 1) nc ns y pc' ls (v.toList ++ rest) μ1 K)) : AW E l (d + 1) (nc + nc1) (ns + ns1) y pc ls st μ K := by
  subst hl
  have := aw_callI (nc := nc) (ns := ns) hd hy hnm hrt hlink hinst hpar hst hlen hrm hp h (fun _ _ q => q)
  rw [Nat.add_comm nc, Nat.add_comm ns]
  exact this
theorem aw_inIN {idx a : Nat} (hd : decode y.2.1 pc = .ok (.invokespecial idx, 3)) (hy : zMok y2) (hnm : y2.1.name = "<init>") (hrt : y2.2.2.2 = none) (hlink : Cond.methodLinkNest y.1.cls idx y2.1 "ReturnDesk" ∈ zNst) (hinst : Cond.instanceMethod y2.1 ∈ tables_1) (hpar : (parseMethodDescriptor y2.1.desc).map (fun d => d.parameters.length) = some As.length)
    (hst : As.reverse ++ .ref a :: rest = st) (hlen : (zaf (.ref a :: As)).length ≤ y2.2.2.1) (hrm : (rest.map fun v => v.category).sum ≤ 16) (hp : pc + 3 = pc') (hl : zargs y2.2.2.1 (.ref a :: As) = ls')
    (h : AW E l d nc1 ns1 y2 0 ls' [] μ (fun v μ1 => AW E l (d + 1) nc ns y pc' ls (v.toList ++ rest) μ1 K)) : AW E l (d + 1) (nc + nc1) (ns + ns1) y pc ls st μ K := by
  subst hl
  have := aw_callIN (nc := nc) (ns := ns) hd hy hnm hrt hlink hinst hpar hst hlen hrm hp h (fun _ _ q => q)
  rw [Nat.add_comm nc, Nat.add_comm ns]
  exact this
/-! switches -/
theorem tab_out {x : Int32} {lo : Int} {n : Nat} (hlo : -1000 ≤ lo) (hlo2 : lo ≤ 1000) (hn : n ≤ 1000) (h : ∀ k, k < n → ¬ x = Int32.ofInt (lo + k)) : x.toInt < lo ∨ lo + n - 1 < x.toInt := by
  apply Classical.byContradiction
  intro q
  have q1 : lo ≤ x.toInt ∧ x.toInt < lo + n := by omega
  have hk := h (x.toInt - lo).toNat (by omega)
  apply hk
  rw [show lo + (((x.toInt - lo).toNat : Nat) : Int) = x.toInt by omega]
  exact (Int32.ofInt_toInt x).symm
end Extra
