/-! the reference's texts -/
def finM (μ : ZM) (n : Nat) (x1 x2 : Int32) (w : Nat) : ZM := sI (sI (sI (sI (sI (sI μ 31 41 0) 66 n x1) 67 n (zI μ 31 1 / 24)) 68 n x2) 69 n (nI w)) 31 42 (nI (n + 1))
section TxR
variable {E : ZE} {l : Launch} {by_ : Nat → Int32} {L N ta F n : Nat} {μ μ' μ2 : ZM} {a w w' w2 d nc ns : Nat} {x1 x2 : Int32} {K : Option Value → ZM → Prop}
theorem r_fin (hn : n < 20) (h42 : zI μ 31 42 = nI n) (h57 : zI μ 31 57 = nI w) (k : K (some (.int (nI (n + 1) - 1))) (finM μ n x1 x2 w)) : (vp_in (zI (sI μ 31 41 0) 31 42) 20) ∧ (vp_in (zI (sI (sI μ 31 41 0) 66 (zI (sI μ 31 41 0) 31 42).toNatClampNeg x1) 31 42) 20) ∧ (vp_in (zI (sI (sI (sI μ 31 41 0) 66 (zI (sI μ 31 41 0) 31 42).toNatClampNeg x1) 67 (zI (sI (sI μ 31 41 0) 66 (zI (sI μ 31 41 0) 31 42).toNatClampNeg x1) 31 42).toNatClampNeg ((zI (sI (sI μ 31 41 0) 66 (zI (sI μ 31 41 0) 31 42).toNatClampNeg x1) 31 1) / 24)) 31 42) 20) ∧ ∀ μ7, μ7 = (sI (sI (sI (sI μ 31 41 0) 66 (zI (sI μ 31 41 0) 31 42).toNatClampNeg x1) 67 (zI (sI (sI μ 31 41 0) 66 (zI (sI μ 31 41 0) 31 42).toNatClampNeg x1) 31 42).toNatClampNeg ((zI (sI (sI μ 31 41 0) 66 (zI (sI μ 31 41 0) 31 42).toNatClampNeg x1) 31 1) / 24)) 68 (zI (sI (sI (sI μ 31 41 0) 66 (zI (sI μ 31 41 0) 31 42).toNatClampNeg x1) 67 (zI (sI (sI μ 31 41 0) 66 (zI (sI μ 31 41 0) 31 42).toNatClampNeg x1) 31 42).toNatClampNeg ((zI (sI (sI μ 31 41 0) 66 (zI (sI μ 31 41 0) 31 42).toNatClampNeg x1) 31 1) / 24)) 31 42).toNatClampNeg x2) → (vp_in (zI μ7 31 42) 22) ∧ K (some (.int ((zI (sI (sI μ7 69 (zI μ7 31 42).toNatClampNeg (zI μ7 31 57)) 31 42 ((zI (sI μ7 69 (zI μ7 31 42).toNatClampNeg (zI μ7 31 57)) 31 42) + 1)) 31 42) - 1))) (sI (sI μ7 69 (zI μ7 31 42).toNatClampNeg (zI μ7 31 57)) 31 42 ((zI (sI μ7 69 (zI μ7 31 42).toNatClampNeg (zI μ7 31 57)) 31 42) + 1)) := by
  have e1 : zI (sI μ 31 41 0) 31 42 = nI n := by rw [zI_nk (by decide)]; exact h42
  have e2 : zI (sI (sI μ 31 41 0) 66 n x1) 31 42 = nI n := by rw [zI_ne (by decide)]; exact e1
  have e3 : zI (sI (sI μ 31 41 0) 66 n x1) 31 1 = zI μ 31 1 := by rw [zI_ne (by decide), zI_nk (by decide)]
  have e4 : zI (sI (sI (sI μ 31 41 0) 66 n x1) 67 n (zI μ 31 1 / 24)) 31 42 = nI n := by rw [zI_ne (by decide)]; exact e2
  rw [e1, nI_clamp (by omega), e2, e3, nI_clamp (by omega), e4, nI_clamp (by omega)]
  refine ⟨vp_in_nI hn (by decide), vp_in_nI hn (by decide), vp_in_nI hn (by decide), fun μ7 e7 => ?_⟩
  have e5 : zI μ7 31 42 = nI n := by rw [e7, zI_ne (by decide)]; exact e4
  have e6 : zI μ7 31 57 = nI w := by rw [e7, zI_ne (by decide), zI_ne (by decide), zI_ne (by decide), zI_nk (by decide)]; exact h57
  rw [e5, e6, nI_clamp (by omega), zI_eq, zI_ne (by decide), e5, nI_1, e7]
  exact ⟨vp_in_nI (by omega) (by decide), k⟩
theorem r_rules (hT : TN by_ L N) (hta : ta < 20) (hF : 2100 ≤ F) (hd : 78 ≤ d + 3) : ∀ m a μ w, N < m + a → a ≤ N → w ≤ plF by_ L a → zI μ 31 42 = nI ta → RB by_ L ta μ w → RG by_ L μ (plF by_ L a) 0 → (∀ μ', Fx (WR ta) μ μ' → ¬ ((rlT (kA 1 by_ L) (iA 1 by_ L) F m a).1 = true ∧ kA 1 by_ L (rlT (kA 1 by_ L) (iA 1 by_ L) F m a).2.1 = 23) → K (some (.int (-100 - nI (plF by_ L (rlT (kA 1 by_ L) (iA 1 by_ L) F m a).2.1)))) (sI μ' 31 41 0)) → ((rlT (kA 1 by_ L) (iA 1 by_ L) F m a).1 = true → kA 1 by_ L (rlT (kA 1 by_ L) (iA 1 by_ L) F m a).2.1 = 23 → ∀ μ' w', Fx (WR ta) μ μ' → RB by_ L ta μ' w' → w' ≤ 200 → LX ta μ μ' w w' (trL (rlT (kA 1 by_ L) (iA 1 by_ L) F m a).2.2) → K (some (.int (nI (ta + 1) - 1))) (finM μ' ta x1 x2 w')) → AW E l (d + 4) 0 0 mX11_rule 0 (zargs 2 [.ref 31]) [] μ (fun v μ8 => v = none ∧ Stat μ8 ∧ AW E l (d + 5) nc ns mX11_text 42 [some (.ref 31), some (.int x1), some (.int x2)] [] μ8 K) := by
  intro m
  induction m with
  | zero =>
    intro a μ w hm ha
    omega
  | succ m ih =>
    intro a μ w hm ha h4 h42 h5 hg kb kg
    have l2 := hT.1
    obtain ⟨r1, r2, r3⟩ := rlR_ok (F := F) (hN_A hT) (hit_A hT (Or.inl rfl)) (hk_A (s := 1) hT.2.1) ha
    have pL := pl_L (by_ := by_) (L := L) (a := (rlR (kA 1 by_ L) (iA 1 by_ L) F a).2.1)
    refine r_rule hT (by omega) hF hd ha h4 h5 hg (fun μ1 w1 f1 b1 hw1 g1 gb1 => ⟨rfl, b1.st, ?_⟩)
    have h42' : zI μ1 31 42 = nI ta := (f1.i (by unfold WR; omega)).trans h42
    unfold rlT at kb kg
    by_cases gd : (rlR (kA 1 by_ L) (iA 1 by_ L) F a).1 = true
    · rw [if_pos gd] at kb kg
      obtain ⟨q1, q2⟩ := g1 gd
      obtain ⟨fg1, fg2⟩ := f_good q1.2.1
      have t59 : zI μ1 31 52 = 59 ↔ kA 1 by_ L (rlR (kA 1 by_ L) (iA 1 by_ L) F a).2.1 = 59 := by rw [q1.1.2.2.1]; exact kd_s hT.2.1 (by decide)
      have t23 : zI μ1 31 52 = 0 ↔ kA 1 by_ L (rlR (kA 1 by_ L) (iA 1 by_ L) F a).2.1 = 23 := by rw [q1.1.2.2.1]; exact (kd_2 hT.2.1).2.1
      refine t_X11_text_42 b1.st (c_f fg1 (op1 (fun c59 => ?_) (fun c59 => c_f fg1 ⟨fun c0 => ?_, fun c0 => c_f fg1 ?_⟩)))
      · have k59 := t59.mp c59
        rw [if_pos k59] at kb kg
        have hb := hN_A hT _ r1 (by rw [k59]; decide)
        have ps := pl_s hT hb
        obtain ⟨p1, p2, p3⟩ := r3 gd
        refine r_nx (d := d + 2) l2 hT.2.1 b1 q1.1 ps.2 (fun μ3 f3 b3 r4 => ⟨rfl, b3.st, ?_⟩)
        have fr := f1.trans (f3.mono WN_R)
        refine ih ((rlR (kA 1 by_ L) (iA 1 by_ L) F a).2.1 + 1) μ3 w1 (by omega) hb (by omega) ((f3.i (by unfold WN; omega)).trans h42') b3 (RG.nx f3 q1 r4) (fun μ4 f4 ng => kb μ4 (fr.trans f4) ng) (fun y1 y2 μ4 w4 f4 b4 h200 x4 => kg y1 y2 μ4 w4 (fr.trans f4) b4 h200 ?_)
        have t1 := q2.app ((LX.nx f3).app x4)
        exact t1
      · have k23 := t23.mp c0
        have n59 : ¬ kA 1 by_ L (rlR (kA 1 by_ L) (iA 1 by_ L) F a).2.1 = 59 := fun y => c59 (t59.mpr y)
        rw [if_neg n59] at kg
        refine c_t (by rw [zI_nk (by decide)]; exact fg2) (r_fin hta h42' b1.2.2.2.2 (kg rfl k23 μ1 w1 f1 b1 (by omega) ?_))
        show LX ta μ μ1 w w1 (trR (rlR (kA 1 by_ L) (iA 1 by_ L) F a).2.2 ++ [])
        rw [List.append_nil]
        exact q2
      · have n23 : ¬ kA 1 by_ L (rlR (kA 1 by_ L) (iA 1 by_ L) F a).2.1 = 23 := fun y => c0 (t23.mpr y)
        have n59 : ¬ kA 1 by_ L (rlR (kA 1 by_ L) (iA 1 by_ L) F a).2.1 = 59 := fun y => c59 (t59.mpr y)
        rw [if_neg n59] at kb
        have e54 : zI (sI (sI μ1 31 54 (zI μ1 31 50)) 31 41 0) 31 54 = nI (plF by_ L (rlR (kA 1 by_ L) (iA 1 by_ L) F a).2.1) := by rw [zI_nk (by decide), zI_eq]; exact q1.1.1
        rw [e54]
        exact c_f (nI_pos (by omega)) (kb _ (f1.trans (w_f (by decide) (by decide))) (fun y => n23 y.2))
    · rw [if_neg gd] at kb
      have fb := gb1 gd
      have f0 := f_bad fb (by omega)
      refine t_X11_text_42 b1.st (c_t f0 (c_t f0 ?_))
      have e54 : zI (sI μ1 31 41 0) 31 54 = nI (plF by_ L (rlR (kA 1 by_ L) (iA 1 by_ L) F a).2.1) := by rw [zI_nk (by decide)]; exact fb
      rw [e54]
      exact c_f (nI_pos (by omega)) (kb μ1 f1 (fun y => absurd (show false = true from y.1) (by decide)))
/-- the reference at the first token -/
theorem r_begin (hS : Stat μ) (hJ : ∀ j, j < 17 → zJ μ 10 j = zNm.getD j 0) (hB : BT by_ L μ) (hT : TN by_ L N) (k : ∀ μ', Fx (WR ta) μ μ' → RB by_ L ta μ' 0 → RG by_ L μ' (plF by_ L 0) 0 → K none μ') : AW E l (d + 3) nc ns mX11_begin 0 (zargs 2 [.ref 31, .int (nI ta)]) [] μ K := by
  refine t_X11_begin hS ?_
  obtain ⟨M, hM⟩ : ∃ M, M = (sI (sI (sI (sI (sI μ 31 56 (nI ta)) 31 57 0) 31 54 (-1)) 31 55 0) 31 51 0) := ⟨_, rfl⟩
  rw [← hM]
  have f0 : Fx (WR ta) μ M := by
    rw [hM]
    exact ((((Fx.rfl.wi (Or.inl ⟨rfl, by decide, by decide⟩)).wi (Or.inl ⟨rfl, by decide, by decide⟩)).wi (Or.inl ⟨rfl, by decide, by decide⟩)).wi (Or.inl ⟨rfl, by decide, by decide⟩)).wi (Or.inl ⟨rfl, by decide, by decide⟩)
  have m1 : zI M 31 56 = nI ta := by rw [hM, zI_nk (by decide), zI_nk (by decide), zI_nk (by decide), zI_nk (by decide), zI_eq]
  have m2 : zI M 31 57 = nI 0 := by rw [hM, zI_nk (by decide), zI_nk (by decide), zI_nk (by decide), zI_eq]; rfl
  have m3 : zI M 31 54 = -1 := by rw [hM, zI_nk (by decide), zI_nk (by decide), zI_eq]
  have m4 : zI M 31 55 = nI 0 := by rw [hM, zI_nk (by decide), zI_eq]; rfl
  have m5 : zI M 31 51 = nI 0 := by rw [hM, zI_eq]; rfl
  have bM : BT by_ L M := hB.fx f0 (by unfold WR; omega) (fun j => by unfold WR; omega)
  refine r_next (f0.st hS) hT.1 hT.2.1 bM (Nat.zero_le _) m5 (fun μ' f r => ⟨rfl, f.st (f0.st hS), ?_⟩)
  have rb : RB by_ L ta M 0 := ⟨f0.st hS, bM, fun j hj => (f0.2.2.2.2.1 _ _).trans (hJ j hj), m1, m2⟩
  exact k μ' (f0.trans (f.mono WN_R)) (rb.fx f) ⟨r, (f.i (by unfold WN; omega)).trans m3, (f.i (by unfold WN; omega)).trans m4⟩
end TxR
