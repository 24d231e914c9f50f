/-! the reference's rules -/
def LX (ta : Nat) (μ μ' : ZM) (w w' : Nat) (l : List (Int32 × Int32)) : Prop := w' = w + l.length ∧ lst2 (zI μ' 70) (zI μ' 71) (200 * ta + w) l ∧ ∀ j, j < 200 * ta + w → zI μ' 70 j = zI μ 70 j ∧ zI μ' 71 j = zI μ 71 j
def ocR (o : Nat) (y : List Itm) : List (Int32 × Int32) := (if o < 3 then [(1, if o = 0 then 0 else 100)] else y.map (enR 0)) ++ [(4, nI o)]
section RuR
variable {E : ZE} {l : Launch} {by_ : Nat → Int32} {L N ta F : Nat} {μ μ' μ2 : ZM} {a q op w w' w2 d nc ns : Nat} {x y : Int32} {K : Option Value → ZM → Prop}
theorem LD.lx {bs : Nat} {s : List Itm} (h : LD bs ta μ μ' w w' s) : LX ta μ μ' w w' (s.map (enR bs)) := ⟨by rw [List.length_map]; exact h.1, h.2.1, h.2.2⟩
theorem LX.nx (f : Fx WN μ μ') : LX ta μ μ' w w [] := (LD.nx (bs := 0) f).lx
theorem LX.app {s t : List (Int32 × Int32)} (h : LX ta μ μ' w w' s) (g : LX ta μ' μ2 w' w2 t) : LX ta μ μ2 w w2 (s ++ t) := by
  obtain ⟨h1, h2, h3⟩ := h
  obtain ⟨g1, g2, g3⟩ := g
  refine ⟨by rw [List.length_append]; omega, ?_, fun j hj => ⟨(g3 j (by omega)).1.trans (h3 j hj).1, (g3 j (by omega)).2.trans (h3 j hj).2⟩⟩
  refine lst2_app' (lst2_cg (fun j q1 q2 => g3 j (by omega)) h2) ?_
  rw [show 200 * ta + w + s.length = 200 * ta + w' by omega]
  exact g2
theorem LX.lay (h : RB by_ L ta μ w) : LX ta μ (layM μ (200 * ta + w) x y) w (w + 1) [(x, y)] := by
  rw [layM_e h]
  refine ⟨rfl, ⟨?_, ?_, trivial⟩, fun j hj => ⟨?_, ?_⟩⟩
  · rw [zI_ne (by decide), zI_ne (by decide), zI_eq]
  · rw [zI_ne (by decide), zI_eq]
  · rw [zI_ne (by decide), zI_ne (by decide), zI_nk (by omega)]
  · rw [zI_ne (by decide), zI_nk (by omega), zI_ne (by decide)]
theorem TN_N (hT : TN by_ L N) : N ≤ 200 := by
  have : ∀ a, a ≤ N → a ≤ plF by_ L a := by
    intro a
    induction a with
    | zero => exact fun _ => Nat.zero_le _
    | succ a ih =>
      intro h
      have := ih (by omega)
      have := (pl_s hT (show a < N by omega)).1
      omega
  have h1 := this N (Nat.le_refl _)
  have h2 := hT.1
  rw [hT.2.2.1] at h1
  omega
/-- an out's word is two bytes at least -/
theorem pl_2 (hT : TN by_ L N) (ha : a < N) {o : Nat} (ho : o < 5) (hk : kA 1 by_ L a = nI o) : plF by_ L a + 2 ≤ plF by_ L (a + 1) := by
  have w := (kd_w (show o < 8 by omega)).mp hk
  have e := w.2.2.1
  have hl : ∀ o, o < 5 → 2 ≤ (wsW.getD o []).length := by decide
  have := hl o ho
  have ps := hT.2.2.2 a ha
  rw [plF_s ps]
  have := (rN_le (p := isSb) (by_ := by_) (tE_gt (by_ := by_) ps).2).1
  unfold skF
  omega
def RKo (by_ : Nat → Int32) (L ta : Nat) (g : Bool) (a' : Nat) (cs : List (Int32 × Int32)) (μ : ZM) (a w : Nat) (K : Option Value → ZM → Prop) : Prop := ∀ μ' w', Fx (WR ta) μ μ' → RB by_ L ta μ' w' → w' + plF by_ L a ≤ w + plF by_ L a' → (g = true → RG by_ L μ' (plF by_ L a') 0 ∧ LX ta μ μ' w w' cs) → (¬ g = true → zI μ' 31 54 = nI (plF by_ L a')) → K none μ'
theorem b_s {z : Prop} {A B : ZM → Prop} {M : ZM} (h1 : z → A M) (h2 : ¬ z → B M) : (¬ z → B M) ∧ (z → A M) := ⟨h2, h1⟩
theorem r_outT (hT : TN by_ L N) (hta : ta ≤ 21) (hF : 2100 ≤ F) (hd : 75 ≤ d + 3) {o : Nat} (ho : o < 5) (ha : a < N) (hk : kA 1 by_ L a = nI o) (h4 : w ≤ plF by_ L a) (h5 : RB by_ L ta μ w) (hg : RG by_ L μ (plF by_ L a) 0) (k : RKo by_ L ta (rlO (kA 1 by_ L) (iA 1 by_ L) F a).1 (rlO (kA 1 by_ L) (iA 1 by_ L) F a).2.1 (ocR (rlO (kA 1 by_ L) (iA 1 by_ L) F a).2.2.1 (rlO (kA 1 by_ L) (iA 1 by_ L) F a).2.2.2) μ a w K) : AW E l (d + 3) 0 0 mX11_next 0 (zargs 1 [.ref 31]) [] μ (fun v μ9 => v = none ∧ Stat μ9 ∧ ((nI o) < 3 → (¬ (nI o) = 0 → (vp_in ((200 * (zI μ9 31 56)) + (zI μ9 31 57)) 4400) ∧ (vp_in ((200 * (zI (sI μ9 70 ((200 * (zI μ9 31 56)) + (zI μ9 31 57)).toNatClampNeg 1) 31 56)) + (zI (sI μ9 70 ((200 * (zI μ9 31 56)) + (zI μ9 31 57)).toNatClampNeg 1) 31 57)) 4400) ∧ ∀ μ15, μ15 = (sI (sI μ9 70 ((200 * (zI μ9 31 56)) + (zI μ9 31 57)).toNatClampNeg 1) 71 ((200 * (zI (sI μ9 70 ((200 * (zI μ9 31 56)) + (zI μ9 31 57)).toNatClampNeg 1) 31 56)) + (zI (sI μ9 70 ((200 * (zI μ9 31 56)) + (zI μ9 31 57)).toNatClampNeg 1) 31 57)).toNatClampNeg 100) → (vp_in ((200 * (zI (sI μ15 31 57 ((zI μ15 31 57) + 1)) 31 56)) + (zI (sI μ15 31 57 ((zI μ15 31 57) + 1)) 31 57)) 4400) ∧ (vp_in ((200 * (zI (sI (sI μ15 31 57 ((zI μ15 31 57) + 1)) 70 ((200 * (zI (sI μ15 31 57 ((zI μ15 31 57) + 1)) 31 56)) + (zI (sI μ15 31 57 ((zI μ15 31 57) + 1)) 31 57)).toNatClampNeg 4) 31 56)) + (zI (sI (sI μ15 31 57 ((zI μ15 31 57) + 1)) 70 ((200 * (zI (sI μ15 31 57 ((zI μ15 31 57) + 1)) 31 56)) + (zI (sI μ15 31 57 ((zI μ15 31 57) + 1)) 31 57)).toNatClampNeg 4) 31 57)) 4400) ∧ ∀ μ20, μ20 = (sI (sI (sI μ15 31 57 ((zI μ15 31 57) + 1)) 70 ((200 * (zI (sI μ15 31 57 ((zI μ15 31 57) + 1)) 31 56)) + (zI (sI μ15 31 57 ((zI μ15 31 57) + 1)) 31 57)).toNatClampNeg 4) 71 ((200 * (zI (sI (sI μ15 31 57 ((zI μ15 31 57) + 1)) 70 ((200 * (zI (sI μ15 31 57 ((zI μ15 31 57) + 1)) 31 56)) + (zI (sI μ15 31 57 ((zI μ15 31 57) + 1)) 31 57)).toNatClampNeg 4) 31 56)) + (zI (sI (sI μ15 31 57 ((zI μ15 31 57) + 1)) 70 ((200 * (zI (sI μ15 31 57 ((zI μ15 31 57) + 1)) 31 56)) + (zI (sI μ15 31 57 ((zI μ15 31 57) + 1)) 31 57)).toNatClampNeg 4) 31 57)).toNatClampNeg (nI o)) → K none (sI μ20 31 57 ((zI μ20 31 57) + 1))) ∧ ((nI o) = 0 → (vp_in ((200 * (zI μ9 31 56)) + (zI μ9 31 57)) 4400) ∧ (vp_in ((200 * (zI (sI μ9 70 ((200 * (zI μ9 31 56)) + (zI μ9 31 57)).toNatClampNeg 1) 31 56)) + (zI (sI μ9 70 ((200 * (zI μ9 31 56)) + (zI μ9 31 57)).toNatClampNeg 1) 31 57)) 4400) ∧ ∀ μ25, μ25 = (sI (sI μ9 70 ((200 * (zI μ9 31 56)) + (zI μ9 31 57)).toNatClampNeg 1) 71 ((200 * (zI (sI μ9 70 ((200 * (zI μ9 31 56)) + (zI μ9 31 57)).toNatClampNeg 1) 31 56)) + (zI (sI μ9 70 ((200 * (zI μ9 31 56)) + (zI μ9 31 57)).toNatClampNeg 1) 31 57)).toNatClampNeg 0) → (vp_in ((200 * (zI (sI μ25 31 57 ((zI μ25 31 57) + 1)) 31 56)) + (zI (sI μ25 31 57 ((zI μ25 31 57) + 1)) 31 57)) 4400) ∧ (vp_in ((200 * (zI (sI (sI μ25 31 57 ((zI μ25 31 57) + 1)) 70 ((200 * (zI (sI μ25 31 57 ((zI μ25 31 57) + 1)) 31 56)) + (zI (sI μ25 31 57 ((zI μ25 31 57) + 1)) 31 57)).toNatClampNeg 4) 31 56)) + (zI (sI (sI μ25 31 57 ((zI μ25 31 57) + 1)) 70 ((200 * (zI (sI μ25 31 57 ((zI μ25 31 57) + 1)) 31 56)) + (zI (sI μ25 31 57 ((zI μ25 31 57) + 1)) 31 57)).toNatClampNeg 4) 31 57)) 4400) ∧ ∀ μ30, μ30 = (sI (sI (sI μ25 31 57 ((zI μ25 31 57) + 1)) 70 ((200 * (zI (sI μ25 31 57 ((zI μ25 31 57) + 1)) 31 56)) + (zI (sI μ25 31 57 ((zI μ25 31 57) + 1)) 31 57)).toNatClampNeg 4) 71 ((200 * (zI (sI (sI μ25 31 57 ((zI μ25 31 57) + 1)) 70 ((200 * (zI (sI μ25 31 57 ((zI μ25 31 57) + 1)) 31 56)) + (zI (sI μ25 31 57 ((zI μ25 31 57) + 1)) 31 57)).toNatClampNeg 4) 31 56)) + (zI (sI (sI μ25 31 57 ((zI μ25 31 57) + 1)) 70 ((200 * (zI (sI μ25 31 57 ((zI μ25 31 57) + 1)) 31 56)) + (zI (sI μ25 31 57 ((zI μ25 31 57) + 1)) 31 57)).toNatClampNeg 4) 31 57)).toNatClampNeg (nI o)) → K none (sI μ30 31 57 ((zI μ30 31 57) + 1)))) ∧ (¬ (nI o) < 3 → AW E l (d + 3) 0 0 mX11_sum 0 (zargs 3 [.ref 31, .int 0]) [] μ9 (fun v μ33 => v = none ∧ Stat μ33 ∧ (vp_in ((200 * (zI μ33 31 56)) + (zI μ33 31 57)) 4400) ∧ (vp_in ((200 * (zI (sI μ33 70 ((200 * (zI μ33 31 56)) + (zI μ33 31 57)).toNatClampNeg 4) 31 56)) + (zI (sI μ33 70 ((200 * (zI μ33 31 56)) + (zI μ33 31 57)).toNatClampNeg 4) 31 57)) 4400) ∧ ∀ μ37, μ37 = (sI (sI μ33 70 ((200 * (zI μ33 31 56)) + (zI μ33 31 57)).toNatClampNeg 4) 71 ((200 * (zI (sI μ33 70 ((200 * (zI μ33 31 56)) + (zI μ33 31 57)).toNatClampNeg 4) 31 56)) + (zI (sI μ33 70 ((200 * (zI μ33 31 56)) + (zI μ33 31 57)).toNatClampNeg 4) 31 57)).toNatClampNeg (nI o)) → K none (sI μ37 31 57 ((zI μ37 31 57) + 1))))) := by
  have l2 := hT.1
  have n2 := TN_N hT
  have ps := pl_s hT ha
  have p2 := pl_2 hT ha ho hk
  have pL1 := pl_L (by_ := by_) (L := L) (a := a + 1)
  have k4 : kA 1 by_ L a ≤ 4 := by
    rw [hk, show (4 : Int32) = nI 4 from rfl, nI_leI (by omega) (by decide)]
    omega
  have to : tN (kA 1 by_ L a) = o := by rw [hk]; exact tN_n (by omega)
  have z3 : (kA 1 by_ L a < 3) = (o < 3) := by rw [hk, show (3 : Int32) = nI 3 from rfl, nI_ltI (by omega) (by decide)]
  unfold rlO at k
  rw [if_pos k4] at k
  refine r_nx (d := d + 1) l2 hT.2.1 h5 hg.1 ps.2 (fun μ1 f1 b1 r1 => ⟨rfl, b1.st, ?_⟩)
  have hg1 : RG by_ L μ1 (plF by_ L (a + 1)) 0 := RG.nx f1 hg r1
  rw [show (3 : Int32) = nI 3 from rfl, nI_ltI (by omega) (by decide)]
  refine ⟨fun c3 => ?_, fun c3 => ?_⟩
  · rw [if_pos (by rw [z3]; exact c3)] at k
    have fin : ∀ v : Int32, v = (if o = 0 then 0 else 100) → K none (layM (layM μ1 (200 * ta + w) 1 v) (200 * ta + (w + 1)) 4 (nI o)) := by
      intro v hv
      have b2 := b1.lay (x := 1) (y := v)
      refine k _ (w + 2) (((f1.mono WN_R).trans (lay_f b1 (by omega))).trans (lay_f b2 (by omega))) b2.lay ?_ (fun _ => ⟨(hg1.lay b1).lay b2, ?_⟩) (fun z => absurd rfl z)
      · show w + 2 + plF by_ L a ≤ w + plF by_ L (a + 1)
        omega
      · have t1 := (LX.nx (ta := ta) (w := w) f1).app ((LX.lay (x := 1) (y := v) b1).app (LX.lay (x := 4) (y := nI o) b2))
        show LX ta _ _ w (w + 2) (ocR (tN (kA 1 by_ L a)) [])
        rw [to]
        unfold ocR
        rw [if_pos c3, ← hv]
        exact t1
    have b2 : ∀ v, RB by_ L ta (layM μ1 (200 * ta + w) 1 v) (w + 1) := fun v => b1.lay
    rw [show (0 : Int32) = nI 0 from rfl, nI_eq (by omega) (by decide)]
    refine op1 (fun c0 => ?_) (fun c0 => ?_)
    · refine c_lay b1 (bs_l hta (by omega)) ?_
      refine c_lay (b2 (nI 0)) (bs_l hta (by omega)) ?_
      exact fin (nI 0) (by rw [if_pos c0]; rfl)
    · refine c_lay b1 (bs_l hta (by omega)) ?_
      refine c_lay (b2 100) (bs_l hta (by omega)) ?_
      exact fin 100 (by rw [if_neg c0])
  · rw [if_neg (by rw [z3]; exact c3)] at k
    refine (r_rd hT (Or.inl rfl) hta F).2.2.2.1 0 (a + 1) (d + 3) 0 0 μ1 w _ (by omega) (by omega) (by omega) ha (by omega) b1 hg1 (fun μ2 w2 f2 b2 hw2 g2 gb2 => ⟨rfl, b2.st, ?_⟩)
    have pL3 := pl_L (by_ := by_) (L := L) (a := (prs (kA 1 by_ L) (iA 1 by_ L) F 3 0 (a + 1)).2.1)
    refine c_lay b2 (bs_l hta (by omega)) ?_
    show K none (layM μ2 (200 * ta + w2) 4 (nI o))
    refine k _ (w2 + 1) (((f1.mono WN_R).trans f2).trans (lay_f b2 (by omega))) b2.lay ?_ (fun gd => ?_) (fun gd => ?_)
    · show w2 + 1 + plF by_ L a ≤ w + plF by_ L (prs (kA 1 by_ L) (iA 1 by_ L) F 3 0 (a + 1)).2.1
      omega
    · obtain ⟨u1, u2⟩ := g2 gd
      refine ⟨u1.lay b2, ?_⟩
      have t1 := (LX.nx (ta := ta) (w := w) f1).app (u2.lx.app (LX.lay (x := 4) (y := nI o) b2))
      show LX ta _ _ w (w2 + 1) (ocR (tN (kA 1 by_ L a)) (prs (kA 1 by_ L) (iA 1 by_ L) F 3 0 (a + 1)).2.2)
      rw [to]
      unfold ocR
      rw [if_neg c3]
      exact t1
    · exact (lay_i b2 (by decide)).trans (gb2 gd)
theorem r_rule (hT : TN by_ L N) (hta : ta ≤ 21) (hF : 2100 ≤ F) (hd : 78 ≤ d + 3) (ha : a ≤ N) (h4 : w ≤ plF by_ L a) (h5 : RB by_ L ta μ w) (hg : RG by_ L μ (plF by_ L a) 0) (k : RKo by_ L ta (rlR (kA 1 by_ L) (iA 1 by_ L) F a).1 (rlR (kA 1 by_ L) (iA 1 by_ L) F a).2.1 (trR (rlR (kA 1 by_ L) (iA 1 by_ L) F a).2.2) μ a w K) : AW E l (d + 4) nc ns mX11_rule 0 (zargs 2 [.ref 31]) [] μ K := by
  have l2 := hT.1
  have n2 := TN_N hT
  have pL := pl_L (by_ := by_) (L := L) (a := a)
  have hk := hk_A (s := 1) hT.2.1
  unfold rlR at k
  have k4 : ∀ a o, o < 5 → kA 1 by_ L a = nI o → kA 1 by_ L a ≤ 4 ∧ kA 1 by_ L a ≠ 23 := by
    intro a o ho hk
    rw [hk, show (4 : Int32) = nI 4 from rfl, nI_leI (by omega) (by decide)]
    refine ⟨by omega, fun e => ?_⟩
    have := (nI_eq (by omega) (by decide)).mp (show nI o = nI 23 from e)
    omega
  refine t_X11_rule h5.st (r_outOf (s := 1) h5.st l2 hT.2.1 h5.2.1 pL hg.1 (fun o ho z => ⟨_, rfl, h5.st, c_t (nI_pos' (by omega)) ?_⟩) (fun z => ⟨_, rfl, h5.st, c_f (by decide) ?_⟩))
  · have z : kA 1 by_ L a = nI o := z
    obtain ⟨z4, z23⟩ := k4 a o ho z
    have ha' := hN_A hT a ha z23
    rw [if_pos z4] at k
    refine r_outOf (s := 1) h5.st l2 hT.2.1 h5.2.1 pL hg.1 (fun o' ho' z' => ⟨_, rfl, h5.st, c_t (nI_pos' (by omega)) ?_⟩) (fun z' => absurd z (z' o ho))
    have z' : kA 1 by_ L a = nI o' := z'
    exact r_outT hT hta hF (by omega) ho' ha' z' h4 h5 hg k
  · have n4 : ¬ kA 1 by_ L a ≤ 4 := fun y => by
      obtain ⟨o, o1, o2⟩ := hk a y
      exact z o o1 o2
    rw [if_neg n4] at k
    have pp : PP 12 N 8 a (prs (kA 1 by_ L) (iA 1 by_ L) F 8 0 a) := prs_ok (hN_A hT) (hit_A hT (Or.inl rfl)) F 8 0 a ha
    have pL2 := pl_L (by_ := by_) (L := L) (a := (prs (kA 1 by_ L) (iA 1 by_ L) F 8 0 a).2.1)
    refine (r_rd hT (Or.inl rfl) hta F).2.2.2.2.2.2.2.2.1 0 a (d + 3) 0 0 μ w _ (by omega) (by omega) (by omega) ha h4 h5 hg (fun μ1 w1 f1 b1 hw1 g1 gb1 => ⟨rfl, b1.st, ?_⟩)
    by_cases gd : (prs (kA 1 by_ L) (iA 1 by_ L) F 8 0 a).1 = true
    · obtain ⟨q1, q2⟩ := g1 gd
      have t58 : zI μ1 31 52 = 58 ↔ kA 1 by_ L (prs (kA 1 by_ L) (iA 1 by_ L) F 8 0 a).2.1 = 58 := by rw [q1.1.2.2.1]; exact kd_s hT.2.1 (by decide)
      refine c_t (f_good q1.2.1).2 ⟨fun c => ?_, fun c => ?_⟩
      · have c58 := t58.mp c
        rw [if_pos ⟨gd, c58⟩] at k
        have hb := hN_A hT _ pp.1 (by rw [c58]; decide)
        have ps := pl_s hT hb
        have pL3 := pl_L (by_ := by_) (L := L) (a := (prs (kA 1 by_ L) (iA 1 by_ L) F 8 0 a).2.1 + 1)
        refine c_lay b1 (bs_l hta (by omega)) ?_
        have b2 := b1.lay (x := 3) (y := 0)
        refine r_nx (d := d + 1) (μ := layM μ1 (200 * ta + w1) 3 0) l2 hT.2.1 b2 (q1.1.lay b1) ps.2 (fun μ3 f3 b3 r3 => ⟨rfl, b3.st, ?_⟩)
        have hg3 := RG.nx f3 (q1.lay (x := 3) (y := 0) b1) r3
        have fr := (f1.trans (lay_f (x := 3) (y := 0) b1 (by omega))).trans (f3.mono WN_R)
        have lx := q2.lx.app ((LX.lay (x := 3) (y := 0) b1).app (LX.nx f3))
        refine r_outOf (s := 1) b3.st l2 hT.2.1 b3.2.1 pL3 hg3.1 (fun o ho z => ⟨_, rfl, b3.st, c_t (nI_pos' (by omega)) ?_⟩) (fun z => ⟨_, rfl, b3.st, c_f (by decide) ?_⟩)
        · have z : kA 1 by_ L ((prs (kA 1 by_ L) (iA 1 by_ L) F 8 0 a).2.1 + 1) = nI o := z
          have hb2 := hN_A hT ((prs (kA 1 by_ L) (iA 1 by_ L) F 8 0 a).2.1 + 1) hb (k4 _ o ho z).2
          refine r_outT (a := (prs (kA 1 by_ L) (iA 1 by_ L) F 8 0 a).2.1 + 1) (w := w1 + 1) hT hta hF (by omega) ho hb2 z (by omega) b3 hg3 (fun μ5 w5 f5 b5 hw5 g5 gb5 => k μ5 w5 (fr.trans f5) b5 (by show w5 + plF by_ L a ≤ w + plF by_ L (rlO (kA 1 by_ L) (iA 1 by_ L) F ((prs (kA 1 by_ L) (iA 1 by_ L) F 8 0 a).2.1 + 1)).2.1; omega) (fun gd5 => ⟨(g5 gd5).1, ?_⟩) gb5)
          have t1 := lx.app (g5 gd5).2
          show LX ta μ μ5 w w5 (trR ((prs (kA 1 by_ L) (iA 1 by_ L) F 8 0 a).2.2, _, _))
          unfold trR
          obtain ⟨p1, p2, p3⟩ := pp.2.2 gd
          rw [if_neg (by rw [wfE_ne (wfx_0 p3)]; decide)]
          rw [List.append_assoc] at t1
          exact t1
        · have n5 : ¬ kA 1 by_ L ((prs (kA 1 by_ L) (iA 1 by_ L) F 8 0 a).2.1 + 1) ≤ 4 := fun y => by
            obtain ⟨o, o1, o2⟩ := hk _ y
            exact z o o1 o2
          refine c_f (f_good hg3.2.1).1 ?_
          unfold rlO at k
          rw [if_neg n5] at k
          refine k _ (w1 + 1) (fr.trans (w_f (by decide) (by decide))) (b3.w5 (by decide) (by decide) (by decide)) ?_ (fun z => absurd (show false = true from z) (by decide)) (fun _ => ?_)
          · show w1 + 1 + _ ≤ w + plF by_ L ((prs (kA 1 by_ L) (iA 1 by_ L) F 8 0 a).2.1 + 1)
            omega
          · rw [zI_eq]
            exact hg3.1.1
      · rw [if_neg (fun c' => c (t58.mpr c'.2))] at k
        refine c_f (f_good q1.2.1).1 (k _ w1 (f1.trans (w_f (by decide) (by decide))) (b1.w5 (by decide) (by decide) (by decide)) hw1 (fun z => absurd (show false = true from z) (by decide)) (fun _ => ?_))
        rw [zI_eq]
        exact q1.1.1
    · rw [if_neg (fun c => gd c.1)] at k
      have fb := gb1 gd
      have nf : ¬ zI μ1 31 54 < 0 := by
        rw [fb]
        exact nI_pos (by omega)
      exact c_f nf (k μ1 w1 f1 b1 hw1 (fun z => absurd (show false = true from z) (by decide)) (fun _ => fb))
end RuR
