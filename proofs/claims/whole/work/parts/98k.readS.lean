/-! the reference's operand and test -/
section RdS
variable {E : ZE} {l : Launch} {by_ : Nat → Int32} {L N ta s bs : Nat} {μ μ' μ2 : ZM} {a q op w w' w2 : Nat} {x y : Int32} {K : Option Value → ZM → Prop}
theorem RB.w5 (h : RB by_ L ta μ w) {j : Nat} (h1 : j ≠ 41) (h2 : j ≠ 56) (h3 : j ≠ 57) : RB by_ L ta (sI μ 31 j x) w := by
  obtain ⟨a1, ⟨a2, a3⟩, a4, a5, a6⟩ := h
  refine ⟨a1, ⟨?_, fun i hi => ?_⟩, a4, ?_, ?_⟩
  · rw [zI_nk (Ne.symm h1)]
    exact a2
  · rw [zI_ne (by decide)]
    exact a3 i hi
  · rw [zI_nk (Ne.symm h2)]
    exact a5
  · rw [zI_nk (Ne.symm h3)]
    exact a6
theorem RT.wj (g : RT by_ L μ q) {j : Nat} (hj : 54 ≤ j) : RT by_ L (sI μ 31 j x) q := by
  obtain ⟨r1, r2, r3, r4⟩ := g
  refine ⟨?_, ?_, ?_, fun c1 c2 c3 c4 => ?_⟩
  · rw [zI_nk (by omega)]
    exact r1
  · rw [zI_nk (by omega)]
    exact r2
  · rw [zI_nk (by omega)]
    exact r3
  · rw [zI_nk (by omega)]
    exact r4 c1 c2 c3 c4
theorem RT.lay (g : RT by_ L μ q) (h : RB by_ L ta μ w) : RT by_ L (layM μ (200 * ta + w) x y) q := by
  obtain ⟨r1, r2, r3, r4⟩ := g
  exact ⟨(lay_i h (by decide)).trans r1, (lay_i h (by decide)).trans r2, (lay_i h (by decide)).trans r3, fun c1 c2 c3 c4 => (lay_i h (by decide)).trans (r4 c1 c2 c3 c4)⟩
theorem RG.lay (g : RG by_ L μ q op) (h : RB by_ L ta μ w) : RG by_ L (layM μ (200 * ta + w) x y) q op := ⟨g.1.lay h, (lay_i h (by decide)).trans g.2.1, (lay_i h (by decide)).trans g.2.2⟩
theorem RG.nx (f : Fx WN μ μ') (g : RG by_ L μ q op) {q' : Nat} (r : RT by_ L μ' q') : RG by_ L μ' q' op := ⟨r, (f.i (by unfold WN; omega)).trans g.2.1, (f.i (by unfold WN; omega)).trans g.2.2⟩
theorem w_f {j : Nat} (h1 : 50 ≤ j) (h2 : j ≤ 57) : Fx (WR ta) μ (sI μ 31 j x) := Fx.rfl.wi (Or.inl ⟨rfl, h1, h2⟩)
theorem LD.wj {j : Nat} : LD bs ta μ (sI μ 31 j x) w w [] := LD.nil (fun i => ⟨zI_ne (by decide), zI_ne (by decide)⟩)
/-- an item laid and the next token -/
theorem r_item {d nc ns : Nat} (hT : TN by_ L N) (hta : ta ≤ 21) (ha : a < N) (h4 : w ≤ plF by_ L a) (h5 : RB by_ L ta μ w) (hg : RG by_ L μ (plF by_ L a) op) (es : enR bs (iA s by_ L a) = (x, y)) (h6 : RKr by_ L ta bs (true, a + 1, [iA s by_ L a]) μ a w op K) : AW E l (d + 2) nc ns mX11_next 0 (zargs 1 [.ref 31]) [] (layM μ (200 * ta + w) x y) (fun v μ34 => v = none ∧ Stat μ34 ∧ K none μ34) := by
  have ps := pl_s hT ha
  have l2 := hT.1
  refine r_nx l2 hT.2.1 h5.lay (hg.1.lay h5) ps.2 (fun μ' f b r => ⟨rfl, b.st, ?_⟩)
  refine h6 μ' (w + 1) ((lay_f h5 (by omega)).trans (f.mono WN_R)) b ?_ (fun _ => ⟨RG.nx f (hg.lay h5) r, (LD.lay h5 es).app (LD.nx f)⟩) (fun z => absurd rfl z)
  show w + 1 + plF by_ L a ≤ w + plF by_ L (a + 1)
  omega
/-- the fault at this token -/
theorem r_wrong {i : List Itm} (h5 : RB by_ L ta μ w) (hg : RG by_ L μ (plF by_ L a) op) {A : Prop} {a0 w0 : Nat} {μ0 : ZM} (f : Fx (WR ta) μ0 μ) (hw : w + plF by_ L a0 ≤ w0 + plF by_ L a) {op' : Nat} (h6 : RKr by_ L ta bs (false, a, i) μ0 a0 w0 op' K) : (0 ≤ (zI μ 31 54) → A) ∧ (¬ 0 ≤ (zI μ 31 54) → K none (sI μ 31 54 (zI μ 31 50))) := by
  refine c_f (f_good hg.2.1).1 ?_
  refine h6 _ w (f.trans (w_f (by decide) (by decide))) (h5.w5 (by decide) (by decide) (by decide)) hw (fun z => absurd (show false = true from z) (by decide)) (fun _ => ?_)
  rw [zI_eq]
  exact hg.1.1
theorem rh_operand (hT : TN by_ L N) (hs : s = 1 ∨ s = 4) (hta : ta ≤ 21) {n : Nat} (hi : RdE E l s by_ L N ta n 8 mX11_question (so2 s) 0 6) : RdE E l s by_ L N ta (n + 1) 0 mX11_operand (so2 s) 0 1 := by
  intro op a d nc ns μ w K h1 h2 h3 ha h4 h5 hg h6
  obtain ⟨d, rfl⟩ : ∃ d', d = d' + 3 := ⟨d - 3, by omega⟩
  have e : prs (kA s by_ L) (iA s by_ L) (n + 1) 0 op a = pr0 (kA s by_ L) (iA s by_ L) (prs (kA s by_ L) (iA s by_ L) n) op a := rfl
  have l2 := hT.1
  have pL := pl_L (by_ := by_) (L := L) (a := a)
  have k2 := kd_2 (s := s) (q := plF by_ L a) hT.2.1
  have t20 : zI μ 31 52 = 2 ↔ kA s by_ L a = 20 := by rw [hg.1.2.2.1]; exact k2.1
  have t40 : zI μ 31 52 = 40 ↔ kA s by_ L a = 40 := by rw [hg.1.2.2.1]; exact kd_s hT.2.1 (by decide)
  rw [e, pr0] at h6
  refine t_X11_operand h5.st ⟨fun z => ⟨fun z2 => ?_, fun z2 => ?_⟩, fun z => ?_⟩
  · have n20 : ¬ kA s by_ L a = 20 := fun y => z (t20.mpr y)
    have n40 : ¬ kA s by_ L a = 40 := fun y => z2 (t40.mpr y)
    refine r_nameOf h5.st l2 hT.2.1 h5.2.1 h5.2.2.1 hs pL hg.1 (fun y => ⟨_, rfl, h5.st, ?_⟩) (fun y => ⟨_, rfl, h5.st, c_t (by decide) ?_⟩)
    · have y : kA s by_ L a = 21 := y
      have ha' := hN_A hT a ha (by rw [y]; decide)
      have ps := pl_s hT ha'
      obtain ⟨k, k1, k3, k4⟩ := (kd_n hs).mp y
      have mb : bse s + mny s ≤ 17 := by rcases hs with rfl | rfl <;> decide
      rw [if_pos (Or.inr y)] at h6
      have nn : ¬ nI (bse s + (itF s by_ L (plF by_ L a)).2) < 0 := by
        rw [k3]
        exact nI_pos (by omega)
      refine c_f nn (r_nameOf h5.st l2 hT.2.1 h5.2.1 h5.2.2.1 hs pL hg.1 (fun _ => ⟨_, rfl, h5.st, ?_⟩) (fun y' => absurd y y'))
      refine c_lay h5 (bs_l hta (by omega)) ?_
      refine r_item hT hta ha' h4 h5 hg ?_ h6
      unfold iA
      rw [k3]
      rfl
    · rw [if_neg (fun c => c.elim n20 y), if_neg (fun c => n40 c.1)] at h6
      exact r_wrong h5 hg Fx.rfl (Nat.le_refl _) h6
  · have y : kA s by_ L a = 40 := t40.mp z2
    have n2 : ¬ (kA s by_ L a = 20 ∨ kA s by_ L a = 21) := by
      rw [y]
      decide
    have ha' := hN_A hT a ha (by rw [y]; decide)
    have ps := pl_s hT ha'
    rw [if_neg n2] at h6
    rw [hg.2.2, show (10 : Int32) = nI 10 from rfl, nI_eq (by omega) (by decide)]
    refine op1 (fun c => ?_) (fun c => ?_)
    · rw [if_neg (fun c' => by have := c'.2; omega)] at h6
      exact r_wrong h5 hg Fx.rfl (Nat.le_refl _) h6
    · rw [if_pos ⟨y, by omega⟩] at h6
      have b0 : RB by_ L ta (sI μ 31 55 (nI op + 1)) w := h5.w5 (by decide) (by decide) (by decide)
      refine r_nx l2 hT.2.1 b0 (hg.1.wj (by decide)) ps.2 (fun μ1 f1 b1 r1 => ⟨rfl, b1.st, ?_⟩)
      have hg1 : RG by_ L μ1 (plF by_ L (a + 1)) (op + 1) := ⟨r1, (f1.i (by unfold WN; omega)).trans (by rw [zI_nk (by decide)]; exact hg.2.1), (f1.i (by unfold WN; omega)).trans (by rw [zI_eq, nI_1])⟩
      refine hi (op + 1) (a + 1) (d + 2) 0 0 μ1 w _ (by omega) (by omega) (by omega) ha' (by omega) b1 hg1 (fun μ2 w2 f2 b2 hw2 g2 gb2 => ⟨rfl, b2.st, ?_⟩)
      have fr : Fx (WR ta) μ μ2 := ((w_f (by decide) (by decide)).trans (f1.mono WN_R)).trans f2
      have pp : PP (mny s) N 8 (a + 1) (prs (kA s by_ L) (iA s by_ L) n 8 (op + 1) (a + 1)) := prs_ok (hN_A hT) (hit_A hT hs) n 8 (op + 1) (a + 1) ha'
      have pL2 := pl_L (by_ := by_) (L := L) (a := (prs (kA s by_ L) (iA s by_ L) n 8 (op + 1) (a + 1)).2.1)
      by_cases gd : (prs (kA s by_ L) (iA s by_ L) n 8 (op + 1) (a + 1)).1 = true
      · obtain ⟨q1, q2⟩ := g2 gd
        have t41 : zI μ2 31 52 = 41 ↔ kA s by_ L (prs (kA s by_ L) (iA s by_ L) n 8 (op + 1) (a + 1)).2.1 = 41 := by rw [q1.1.2.2.1]; exact kd_s hT.2.1 (by decide)
        refine c_t (f_good q1.2.1).2 ⟨fun c' => ?_, fun c' => ?_⟩
        · have c41 := t41.mp c'
          rw [if_pos ⟨gd, c41⟩] at h6
          have hb := hN_A hT _ pp.1 (by rw [c41]; decide)
          have ps2 := pl_s hT hb
          have b3 : RB by_ L ta (sI μ2 31 55 (zI μ2 31 55 - 1)) w2 := b2.w5 (by decide) (by decide) (by decide)
          refine r_nx l2 hT.2.1 b3 (q1.1.wj (by decide)) ps2.2 (fun μ4 f4 b4 r4 => ⟨rfl, b4.st, ?_⟩)
          refine h6 μ4 w2 ((fr.trans (w_f (by decide) (by decide))).trans (f4.mono WN_R)) b4 ?_ (fun _ => ⟨⟨r4, (f4.i (by unfold WN; omega)).trans (by rw [zI_nk (by decide)]; exact q1.2.1), (f4.i (by unfold WN; omega)).trans (by rw [zI_eq, q1.2.2, nI_pred])⟩, ?_⟩) (fun z => absurd rfl z)
          · show _ ≤ w + plF by_ L ((prs (kA s by_ L) (iA s by_ L) n 8 (op + 1) (a + 1)).2.1 + 1)
            omega
          · have t1 := ((LD.wj (bs := bse s) (ta := ta) (w := w)).app (LD.nx f1)).app (q2.app (LD.wj.app (LD.nx f4)))
            rw [List.append_nil, List.append_nil, List.nil_append] at t1
            exact t1
        · rw [if_neg (fun c => c' (t41.mpr c.2))] at h6
          refine r_wrong b2 q1 fr ?_ h6
          omega
      · rw [if_neg (fun c => gd c.1)] at h6
        have fb := gb2 gd
        have nf : ¬ zI μ2 31 54 < 0 := by
          rw [fb]
          exact nI_pos (by omega)
        refine c_f nf (h6 μ2 w2 fr b2 ?_ (fun z => absurd (show false = true from z) (by decide)) (fun _ => fb))
        show _ ≤ w + plF by_ L (prs (kA s by_ L) (iA s by_ L) n 8 (op + 1) (a + 1)).2.1
        omega
  · have y : kA s by_ L a = 20 := t20.mp z
    have ha' := hN_A hT a ha (by rw [y]; decide)
    have ps := pl_s hT ha'
    rw [if_pos (Or.inl y)] at h6
    obtain ⟨c1, c2, c3, c4⟩ := k2.2.2.2 y
    refine c_lay h5 (bs_l hta (by omega)) ?_
    refine r_item hT hta ha' h4 h5 hg ?_ h6
    unfold iA itF
    rw [if_pos c3, hg.1.2.2.2 c1 c2 c3 c4]
    rfl
theorem rh_base (hT : TN by_ L N) (hs : s = 1 ∨ s = 4) (hta : ta ≤ 21) {n : Nat} (hi : RdE E l s by_ L N ta n 3 mX11_sum (so3 s) 0 3) (ht : RdE E l s by_ L N ta n 5 mX11_base (so3 s) 0 4) : RdE E l s by_ L N ta (n + 1) 5 mX11_base (so3 s) 0 4 := by
  intro op a d nc ns μ w K h1 h2 h3 ha h4 h5 hg h6
  obtain ⟨d, rfl⟩ : ∃ d', d = d' + 3 := ⟨d - 3, by omega⟩
  have e : prs (kA s by_ L) (iA s by_ L) (n + 1) 5 op a = pr5 (kA s by_ L) (prs (kA s by_ L) (iA s by_ L) n) op a := rfl
  have l2 := hT.1
  have pL := pl_L (by_ := by_) (L := L) (a := a)
  rw [e, pr5] at h6
  refine t_X11_base h5.st (r_word (s := s) (k := 7) h5.st l2 hT.2.1 h5.2.1 pL hg.1 (by decide) w_h.2.1.2.2 (fun z => ⟨_, rfl, h5.st, c_f (by decide) ?_⟩) (fun z => ⟨_, rfl, h5.st, c_t rfl ?_⟩))
  · have z : kA s by_ L a = 7 := z
    have ha' := hN_A hT a ha (by rw [z]; decide)
    have ps := pl_s hT ha'
    rw [if_pos z] at h6
    rw [hg.2.2, show (10 : Int32) = nI 10 from rfl, nI_eq (by omega) (by decide)]
    refine op1 (fun c => ?_) (fun c => ?_)
    · rw [if_neg (by omega)] at h6
      exact r_wrong h5 hg Fx.rfl (Nat.le_refl _) h6
    · rw [if_pos (by omega)] at h6
      have b0 : RB by_ L ta (sI μ 31 55 (nI op + 1)) w := h5.w5 (by decide) (by decide) (by decide)
      refine r_nx l2 hT.2.1 b0 (hg.1.wj (by decide)) ps.2 (fun μ1 f1 b1 r1 => ⟨rfl, b1.st, ?_⟩)
      have hg1 : RG by_ L μ1 (plF by_ L (a + 1)) (op + 1) := ⟨r1, (f1.i (by unfold WN; omega)).trans (by rw [zI_nk (by decide)]; exact hg.2.1), (f1.i (by unfold WN; omega)).trans (by rw [zI_eq, nI_1])⟩
      refine ht (op + 1) (a + 1) (d + 2) 0 0 μ1 w _ (by omega) (by omega) (by omega) ha' (by omega) b1 hg1 (fun μ2 w2 f2 b2 hw2 g2 gb2 => ⟨rfl, b2.st, ?_⟩)
      have fr : Fx (WR ta) μ μ2 := ((w_f (by decide) (by decide)).trans (f1.mono WN_R)).trans f2
      have pL2 := pl_L (by_ := by_) (L := L) (a := (prs (kA s by_ L) (iA s by_ L) n 5 (op + 1) (a + 1)).2.1)
      have b3 : RB by_ L ta (sI μ2 31 55 (zI μ2 31 55 - 1)) w2 := b2.w5 (by decide) (by decide) (by decide)
      refine c_lay b3 (bs_l hta (by omega)) ?_
      show K none (layM (sI μ2 31 55 (zI μ2 31 55 - 1)) (200 * ta + w2) 5 0)
      refine h6 _ (w2 + 1) ((fr.trans (w_f (by decide) (by decide))).trans (lay_f b3 (by omega))) b3.lay ?_ (fun gd => ?_) (fun gd => ?_)
      · show _ ≤ w + plF by_ L (prs (kA s by_ L) (iA s by_ L) n 5 (op + 1) (a + 1)).2.1
        omega
      · obtain ⟨q1, q2⟩ := g2 gd
        have q3 : RG by_ L (sI μ2 31 55 (zI μ2 31 55 - 1)) (plF by_ L (prs (kA s by_ L) (iA s by_ L) n 5 (op + 1) (a + 1)).2.1) op := ⟨q1.1.wj (by decide), by rw [zI_nk (by decide)]; exact q1.2.1, by rw [zI_eq, q1.2.2, nI_pred]⟩
        refine ⟨q3.lay b3, ?_⟩
        have t1 := ((LD.wj (bs := bse s) (ta := ta) (w := w)).app (LD.nx f1)).app (q2.app (LD.wj.app (LD.lay (i := (2, 0)) (x := 5) (y := 0) b3 rfl)))
        exact t1
      · exact (lay_i b3 (by decide)).trans (by rw [zI_nk (by decide)]; exact gb2 gd)
  · have z : ¬ kA s by_ L a = 7 := z
    rw [if_neg z] at h6
    have pp : PP (mny s) N 3 a (prs (kA s by_ L) (iA s by_ L) n 3 op a) := prs_ok (hN_A hT) (hit_A hT hs) n 3 op a ha
    have pL2 := pl_L (by_ := by_) (L := L) (a := (prs (kA s by_ L) (iA s by_ L) n 3 op a).2.1)
    refine hi op a (d + 2) 0 0 μ w _ h1 (by omega) (by omega) ha h4 h5 hg (fun μ1 w1 f1 b1 hw1 g1 gb1 => ⟨rfl, b1.st, ?_⟩)
    by_cases gd : (prs (kA s by_ L) (iA s by_ L) n 3 op a).1 = true
    · obtain ⟨q1, q2⟩ := g1 gd
      obtain ⟨p1, p2, p3⟩ := pp.2.2 gd
      have p1 : a + 1 ≤ (prs (kA s by_ L) (iA s by_ L) n 3 op a).2.1 := p1
      have tk : ∀ c : Int32, c ∈ zB3 → (zI μ1 31 52 = c ↔ kA s by_ L (prs (kA s by_ L) (iA s by_ L) n 3 op a).2.1 = c) := fun c hc => by rw [q1.1.2.2.1]; exact kd_s hT.2.1 hc
      have go : ∀ sg : Int32, (kA s by_ L (prs (kA s by_ L) (iA s by_ L) n 3 op a).2.1 = 60 ∨ kA s by_ L (prs (kA s by_ L) (iA s by_ L) n 3 op a).2.1 = 61 ∨ kA s by_ L (prs (kA s by_ L) (iA s by_ L) n 3 op a).2.1 = 62) → enR (bse s) (3, opN (kA s by_ L (prs (kA s by_ L) (iA s by_ L) n 3 op a).2.1)) = (sg, 0) → AW E l (d + 3) nc ns mX11_base 114 [some (.ref 31), some (.int (soF s)), none] [.int sg] μ1 K := by
        intro sg y es
        rw [if_pos ⟨gd, y⟩] at h6
        have hb := hN_A hT _ pp.1 (by rcases y with y | y | y <;> rw [y] <;> decide)
        have ps := pl_s hT hb
        refine t_X11_base_114 b1.st (r_nx l2 hT.2.1 b1 q1.1 ps.2 (fun μ2 f2 b2 r2 => ⟨rfl, b2.st, ?_⟩))
        refine hi op ((prs (kA s by_ L) (iA s by_ L) n 3 op a).2.1 + 1) (d + 2) 0 0 μ2 w1 _ h1 (by omega) (by omega) hb (by omega) b2 (RG.nx f2 q1 r2) (fun μ3 w3 f3 b3 hw3 g3 gb3 => ⟨rfl, b3.st, ?_⟩)
        have pL3 := pl_L (by_ := by_) (L := L) (a := (prs (kA s by_ L) (iA s by_ L) n 3 op ((prs (kA s by_ L) (iA s by_ L) n 3 op a).2.1 + 1)).2.1)
        refine c_lay b3 (bs_l hta (by omega)) ?_
        show K none (layM μ3 (200 * ta + w3) sg 0)
        refine h6 _ (w3 + 1) (((f1.trans (f2.mono WN_R)).trans f3).trans (lay_f b3 (by omega))) b3.lay ?_ (fun gg => ?_) (fun gg => ?_)
        · show _ ≤ w + plF by_ L (prs (kA s by_ L) (iA s by_ L) n 3 op ((prs (kA s by_ L) (iA s by_ L) n 3 op a).2.1 + 1)).2.1
          omega
        · obtain ⟨u1, u2⟩ := g3 gg
          exact ⟨u1.lay b3, q2.app (((LD.nx f2).app u2).app (LD.lay b3 es))⟩
        · exact (lay_i b3 (by decide)).trans (gb3 gg)
      have o1 : ∀ c : Int32, ∀ b : Nat, ∀ sg : Int32, opN c = b → opR b = sg → kA s by_ L (prs (kA s by_ L) (iA s by_ L) n 3 op a).2.1 = c → enR (bse s) (3, opN (kA s by_ L (prs (kA s by_ L) (iA s by_ L) n 3 op a).2.1)) = (sg, 0) := fun c b sg e1 e2 e3 => enR_o (by rw [e3]; exact e1) e2
      refine c_f (f_good q1.2.1).1 ⟨fun y => ?_, fun y => ⟨fun y2 => ?_, fun y2 => ⟨fun y3 => ?_, fun y3 => ?_⟩⟩⟩
      · have k := (tk 60 (by decide)).mp y
        exact t_X11_base_84 b1.st ⟨fun c => absurd y c, fun _ => go 20 (Or.inl k) (o1 60 2 20 (by decide) (by decide) k)⟩
      · have k := (tk 61 (by decide)).mp y2
        exact t_X11_base_84 b1.st ⟨fun _ => ⟨fun c => absurd y2 c, fun _ => go 21 (Or.inr (Or.inl k)) (o1 61 3 21 (by decide) (by decide) k)⟩, fun c => absurd c y⟩
      · have k := (tk 62 (by decide)).mp y3
        exact t_X11_base_84 b1.st ⟨fun _ => ⟨fun _ => go 22 (Or.inr (Or.inr k)) (o1 62 4 22 (by decide) (by decide) k), fun c => absurd c y2⟩, fun c => absurd c y⟩
      · rw [if_neg (fun c => c.2.elim (fun c => y ((tk 60 (by decide)).mpr c)) (fun c => c.elim (fun c => y2 ((tk 61 (by decide)).mpr c)) (fun c => y3 ((tk 62 (by decide)).mpr c))))] at h6
        exact h6 μ1 w1 f1 b1 hw1 g1 gb1
    · rw [if_neg (fun c => gd c.1)] at h6
      exact c_t (f_bad (gb1 gd) (by omega)) (h6 μ1 w1 f1 b1 hw1 g1 gb1)
def RA (E : ZE) (l : Launch) (s : Nat) (by_ : Nat → Int32) (L N ta n : Nat) : Prop := RdE E l s by_ L N ta n 0 mX11_operand (so2 s) 0 1 ∧ RdE E l s by_ L N ta n 1 mX11_product (so3 s) 0 2 ∧ RdE E l s by_ L N ta n 2 mX11_product (so3 s) 5 2 ∧ RdE E l s by_ L N ta n 3 mX11_sum (so3 s) 0 3 ∧ RdE E l s by_ L N ta n 4 mX11_sum (so3 s) 5 3 ∧ RdE E l s by_ L N ta n 5 mX11_base (so3 s) 0 4 ∧ RdE E l s by_ L N ta n 6 mX11_all (so2 s) 0 5 ∧ RdE E l s by_ L N ta n 7 mX11_all (so2 s) 5 5 ∧ RdE E l s by_ L N ta n 8 mX11_question (so2 s) 0 6 ∧ RdE E l s by_ L N ta n 9 mX11_question (so2 s) 5 6
theorem r_rd (hT : TN by_ L N) (hs : s = 1 ∨ s = 4) (hta : ta ≤ 21) : ∀ n, RA E l s by_ L N ta n := by
  intro n
  induction n with
  | zero => refine ⟨?_, ?_, ?_, ?_, ?_, ?_, ?_, ?_, ?_, ?_⟩ <;> (intro _ _; intros; omega)
  | succ n ih =>
    obtain ⟨i0, i1, i2, i3, i4, i5, i6, i7, i8, i9⟩ := ih
    exact ⟨rh_operand hT hs hta i8, rh_product hT hs i0 i2, rl_product hT hs hta i0 i2, rh_sum hT hs i1 i4, rl_sum hT hs hta i1 i4, rh_base hT hs hta i3 i5, rh_all hT hs i5 i7, rl_all hT hs hta i5 i7, rh_question hT hs i6 i9, rl_question hT hs hta i6 i9⟩
end RdS
