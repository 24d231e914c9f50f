/-! the reference's reader -/
def RB (by_ : Nat → Int32) (L ta : Nat) (μ : ZM) (w : Nat) : Prop := Stat μ ∧ BT by_ L μ ∧ (∀ j, j < 17 → zJ μ 10 j = zNm.getD j 0) ∧ zI μ 31 56 = nI ta ∧ zI μ 31 57 = nI w
def RG (by_ : Nat → Int32) (L : Nat) (μ : ZM) (q op : Nat) : Prop := RT by_ L μ q ∧ zI μ 31 54 = -1 ∧ zI μ 31 55 = nI op
def WR (ta b j : Nat) : Prop := (b = 31 ∧ 50 ≤ j ∧ j ≤ 57) ∨ ((b = 70 ∨ b = 71) ∧ 200 * ta ≤ j ∧ j < 200 * ta + 200)
def LD (bs ta : Nat) (μ μ' : ZM) (w w' : Nat) (l : List Itm) : Prop := w' = w + l.length ∧ lst2 (zI μ' 70) (zI μ' 71) (200 * ta + w) (l.map (enR bs)) ∧ ∀ j, j < 200 * ta + w → zI μ' 70 j = zI μ 70 j ∧ zI μ' 71 j = zI μ 71 j
def lay2 (μ : ZM) (p : Nat) (x y : Int32) : ZM := sI (sI μ 70 p x) 71 p y
def layM (μ : ZM) (p : Nat) (x y : Int32) : ZM := sI (lay2 μ p x y) 31 57 ((zI (lay2 μ p x y) 31 57) + 1)
theorem lst2_app' {f g : Nat → Int32} : ∀ {x y : List (Int32 × Int32)} {p : Nat}, lst2 f g p x → lst2 f g (p + x.length) y → lst2 f g p (x ++ y)
  | [], y, p, _, h => h
  | a :: x, y, p, ⟨h1, h2, h3⟩, h => ⟨h1, h2, lst2_app' h3 (by rw [show p + 1 + x.length = p + (a :: x).length by simp only [List.length_cons]; omega]; exact h)⟩
section RdR
variable {E : ZE} {l : Launch} {by_ : Nat → Int32} {L N ta s bs : Nat} {μ μ' μ2 : ZM} {a q op w w' w2 : Nat} {x y : Int32} {K : Option Value → ZM → Prop}
theorem RB.st (h : RB by_ L ta μ w) : Stat μ := h.1
theorem RB.fx (h : RB by_ L ta μ w) (f : Fx WN μ μ') : RB by_ L ta μ' w := ⟨f.st h.1, h.2.1.fx f (by unfold WN; omega) (by unfold WN; omega), fun j hj => (f.2.2.2.2.1 _ _).trans (h.2.2.1 j hj), (f.i (by unfold WN; omega)).trans h.2.2.2.1, (f.i (by unfold WN; omega)).trans h.2.2.2.2⟩
theorem WN_R (b j : Nat) (h : WN b j) : WR ta b j := Or.inl ⟨h.1, h.2.1, by have := h.2.2; omega⟩
theorem r_nx {d nc ns : Nat} (hL2 : L ≤ 200) (hb : ∀ j, j < L → rng (by_ j) 0 255) (h : RB by_ L ta μ w) (g : RT by_ L μ (plF by_ L a)) (ha : plF by_ L a < L) (k : ∀ μ', Fx WN μ μ' → RB by_ L ta μ' w → RT by_ L μ' (plF by_ L (a + 1)) → K none μ') : AW E l (d + 2) nc ns mX11_next 0 (zargs 1 [.ref 31]) [] μ K := by
  have e := g.2.1
  unfold eE at e
  rw [if_pos ha] at e
  refine r_next h.st hL2 hb h.2.1 (tE_gt ha).2 e (fun μ' f r => ?_)
  rw [← plF_s ha] at r
  exact k μ' f (h.fx f) r
theorem c_lay {Q : ZM → Prop} (h : RB by_ L ta μ w) (hw : 200 * ta + w < 4400) (k : Q (lay2 μ (200 * ta + w) x y)) : (vp_in ((200 * (zI μ 31 56)) + (zI μ 31 57)) 4400) ∧ (vp_in ((200 * (zI (sI μ 70 ((200 * (zI μ 31 56)) + (zI μ 31 57)).toNatClampNeg x) 31 56)) + (zI (sI μ 70 ((200 * (zI μ 31 56)) + (zI μ 31 57)).toNatClampNeg x) 31 57)) 4400) ∧ ∀ μ', μ' = (sI (sI μ 70 ((200 * (zI μ 31 56)) + (zI μ 31 57)).toNatClampNeg x) 71 ((200 * (zI (sI μ 70 ((200 * (zI μ 31 56)) + (zI μ 31 57)).toNatClampNeg x) 31 56)) + (zI (sI μ 70 ((200 * (zI μ 31 56)) + (zI μ 31 57)).toNatClampNeg x) 31 57)).toNatClampNeg y) → Q μ' := by
  have e : (200 * (zI μ 31 56)) + (zI μ 31 57) = nI (200 * ta + w) := by rw [h.2.2.2.1, h.2.2.2.2, show (200 : Int32) = nI 200 from rfl, pk_mul, nI_add]
  rw [zI_ne (by decide), zI_ne (by decide), e, nI_clamp (by omega)]
  refine ⟨vp_in_nI hw (by decide), vp_in_nI hw (by decide), fun μ' e' => ?_⟩
  rw [e']
  exact k
theorem layM_e (h : RB by_ L ta μ w) : layM μ (200 * ta + w) x y = sI (sI (sI μ 70 (200 * ta + w) x) 71 (200 * ta + w) y) 31 57 (nI (w + 1)) := by
  unfold layM lay2
  rw [zI_ne (by decide), zI_ne (by decide), h.2.2.2.2, nI_1]
theorem RB.lay (h : RB by_ L ta μ w) : RB by_ L ta (layM μ (200 * ta + w) x y) (w + 1) := by
  rw [layM_e h]
  obtain ⟨h1, ⟨h2, h3⟩, h4, h5, h6⟩ := h
  refine ⟨h1, ⟨?_, fun j hj => ?_⟩, h4, ?_, zI_eq⟩
  · rw [zI_nk (by decide), zI_ne (by decide), zI_ne (by decide)]
    exact h2
  · rw [zI_ne (by decide), zI_ne (by decide), zI_ne (by decide)]
    exact h3 j hj
  · rw [zI_nk (by decide), zI_ne (by decide), zI_ne (by decide)]
    exact h5
theorem lay_i (h : RB by_ L ta μ w) {j : Nat} (hj : j ≠ 57) : zI (layM μ (200 * ta + w) x y) 31 j = zI μ 31 j := by
  rw [layM_e h, zI_nk hj, zI_ne (by decide), zI_ne (by decide)]
theorem lay_f (h : RB by_ L ta μ w) (hw : w < 200) : Fx (WR ta) μ (layM μ (200 * ta + w) x y) := by
  rw [layM_e h]
  exact ((Fx.rfl.wi (Or.inr ⟨Or.inl rfl, by omega, by omega⟩)).wi (Or.inr ⟨Or.inr rfl, by omega, by omega⟩)).wi (Or.inl ⟨rfl, by decide, by decide⟩)
theorem LD.nil (h : ∀ j, zI μ' 70 j = zI μ 70 j ∧ zI μ' 71 j = zI μ 71 j) : LD bs ta μ μ' w w [] := ⟨rfl, trivial, fun j _ => h j⟩
theorem LD.nx (f : Fx WN μ μ') : LD bs ta μ μ' w w [] := LD.nil (fun j => ⟨f.i (by unfold WN; omega), f.i (by unfold WN; omega)⟩)
theorem LD.app {s t : List Itm} (h : LD bs ta μ μ' w w' s) (g : LD bs ta μ' μ2 w' w2 t) : LD bs ta μ μ2 w w2 (s ++ t) := by
  obtain ⟨h1, h2, h3⟩ := h
  obtain ⟨g1, g2, g3⟩ := g
  refine ⟨by rw [List.length_append]; omega, ?_, fun j hj => ⟨(g3 j (by omega)).1.trans (h3 j hj).1, (g3 j (by omega)).2.trans (h3 j hj).2⟩⟩
  rw [List.map_append]
  refine lst2_app' (lst2_cg (fun j q1 q2 => g3 j ?_) h2) ?_
  · rw [List.length_map] at q2
    omega
  · rw [List.length_map, show 200 * ta + w + s.length = 200 * ta + w' by omega]
    exact g2
theorem LD.lay {i : Itm} (h : RB by_ L ta μ w) (e : enR bs i = (x, y)) : LD bs ta μ (layM μ (200 * ta + w) x y) w (w + 1) [i] := by
  rw [layM_e h]
  refine ⟨rfl, ⟨?_, ?_, trivial⟩, fun j hj => ⟨?_, ?_⟩⟩
  · rw [e, zI_ne (by decide), zI_ne (by decide), zI_eq]
  · rw [e, zI_ne (by decide), zI_eq]
  · rw [zI_ne (by decide), zI_ne (by decide), zI_nk (by omega)]
  · rw [zI_ne (by decide), zI_nk (by omega), zI_ne (by decide)]
/-- what a reading owes -/
def RKr (by_ : Nat → Int32) (L ta bs : Nat) (r : PRr) (μ : ZM) (a w op : Nat) (K : Option Value → ZM → Prop) : Prop := ∀ μ' w', Fx (WR ta) μ μ' → RB by_ L ta μ' w' → w' + plF by_ L a ≤ w + plF by_ L r.2.1 → (r.1 = true → RG by_ L μ' (plF by_ L r.2.1) op ∧ LD bs ta μ μ' w w' r.2.2) → (¬ r.1 = true → zI μ' 31 54 = nI (plF by_ L r.2.1)) → K none μ'
def kA (s : Nat) (by_ : Nat → Int32) (L a : Nat) : Int32 := kdF s by_ L (plF by_ L a)
def iA (s : Nat) (by_ : Nat → Int32) (L a : Nat) : Itm := itF s by_ L (plF by_ L a)
/-- the tape's tokens are N -/
def TN (by_ : Nat → Int32) (L N : Nat) : Prop := L ≤ 200 ∧ (∀ j, j < L → rng (by_ j) 0 255) ∧ plF by_ L N = L ∧ ∀ a, a < N → plF by_ L a < L
def RdE (E : ZE) (l : Launch) (s : Nat) (by_ : Nat → Int32) (L N ta n lv : Nat) (y : MTH) (ar : List (Option Value)) (pc rk : Nat) : Prop := ∀ op a d nc ns μ w K, op ≤ 10 → 7 * (10 - op) + rk + 2 ≤ d → 10 * (N - a) + lv + 1 ≤ n → a ≤ N → w ≤ plF by_ L a → RB by_ L ta μ w → RG by_ L μ (plF by_ L a) op → RKr by_ L ta (bse s) (prs (kA s by_ L) (iA s by_ L) n lv op a) μ a w op K → AW E l d nc ns y pc ar [] μ K
theorem f_bad {q : Nat} (h : zI μ 31 54 = nI q) (hq : q ≤ 200) : 0 ≤ zI μ 31 54 := by
  rw [h]
  exact nI_pos' (by omega)
theorem f_good (h : zI μ 31 54 = -1) : ¬ 0 ≤ zI μ 31 54 ∧ zI μ 31 54 < 0 := by
  rw [h]
  decide
theorem pl_s (h : TN by_ L N) (ha : a < N) : plF by_ L a + 1 ≤ plF by_ L (a + 1) ∧ plF by_ L a < L := ⟨plF_gt (h.2.2.2 a ha), h.2.2.2 a ha⟩
theorem pl_L : plF by_ L a ≤ L := plF_le a
theorem hN_A (h : TN by_ L N) : ∀ a, a ≤ N → kA s by_ L a ≠ 23 → a < N := by
  intro a ha hk
  by_cases c : a = N
  · exfalso
    apply hk
    unfold kA
    rw [c, h.2.2.1]
    exact (kd_2 h.2.1).2.2.1.mpr (Nat.le_refl _)
  · omega
theorem hit_A (h : TN by_ L N) (hs : s = 1 ∨ s = 4) : ∀ a, a < N → kA s by_ L a = 20 ∨ kA s by_ L a = 21 → okI (mny s) (iA s by_ L a) ∧ (iA s by_ L a).1 ≤ 1 := fun a ha hk => ⟨(it_ok h.2.1 hs hk).1, (it_ok h.2.1 hs hk).2.1⟩
theorem bs_l (ht : ta ≤ 21) (hw : w < 200) : 200 * ta + w < 4400 := by omega
theorem enR_o {k : Int32} {b : Nat} {x : Int32} (h : opN k = b) (e : opR b = x) : enR bs (3, opN k) = (x, 0) := by
  rw [h]
  unfold enR
  rw [if_neg (show ¬ 3 = 0 by decide), if_neg (show ¬ 3 = 1 by decide), if_neg (show ¬ 3 = 2 by decide), e]
def so2 (s : Nat) : List (Option Value) := [some (.ref 31), some (.int (soF s))]
def so3 (s : Nat) : List (Option Value) := [some (.ref 31), some (.int (soF s)), none]
theorem rx_product {d nc ns : Nat} (hS : Stat μ) (hf : 0 ≤ zI μ 31 54) (k : K none μ) : AW E l (d + 3) nc ns mX11_product 5 (so3 s) [] μ K := t_X11_product_5 hS (c_t hf k)
theorem rh_product (hT : TN by_ L N) (hs : s = 1 ∨ s = 4) {n : Nat} (hi : RdE E l s by_ L N ta n 0 mX11_operand (so2 s) 0 1) (ht : RdE E l s by_ L N ta n 2 mX11_product (so3 s) 5 2) : RdE E l s by_ L N ta (n + 1) 1 mX11_product (so3 s) 0 2 := by
  intro op a d nc ns μ w K h1 h2 h3 ha h4 h5 hg h6
  obtain ⟨d, rfl⟩ : ∃ d', d = d' + 3 := ⟨d - 3, by omega⟩
  have e : prs (kA s by_ L) (iA s by_ L) (n + 1) 1 op a = prH (prs (kA s by_ L) (iA s by_ L) n) 1 op a := rfl
  have pp : PP (mny s) N 0 a (prs (kA s by_ L) (iA s by_ L) n 0 op a) := prs_ok (hN_A hT) (hit_A hT hs) n 0 op a ha
  have l2 := hT.1
  rw [e, prH, show hd1 1 = 0 from rfl] at h6
  refine t_X11_product h5.st (hi op a (d + 2) 0 0 μ w _ h1 (by omega) (by omega) ha h4 h5 hg (fun μ' w' f b hw g gb => ⟨rfl, b.st, ?_⟩))
  by_cases gd : (prs (kA s by_ L) (iA s by_ L) n 0 op a).1 = true
  · rw [if_pos gd] at h6
    obtain ⟨g1, g2, g3⟩ := pp.2.2 gd
    have g1 : a + 1 ≤ (prs (kA s by_ L) (iA s by_ L) n 0 op a).2.1 := g1
    have pN := pp.1
    exact ht op _ (d + 3) nc ns μ' w' K h1 (by omega) (by omega) pN (by omega) b (g gd).1 (fun μ2 w2 f2 b2 hw2 y2 z2 => h6 μ2 w2 (f.trans f2) b2 (by show _ ≤ w + plF by_ L (prs (kA s by_ L) (iA s by_ L) n 2 op (prs (kA s by_ L) (iA s by_ L) n 0 op a).2.1).2.1; omega) (fun z => ⟨(y2 z).1, (g gd).2.app (y2 z).2⟩) z2)
  · rw [if_neg gd] at h6
    have fb := gb gd
    exact rx_product b.st (f_bad fb (by have := pl_L (by_ := by_) (L := L) (a := (prs (kA s by_ L) (iA s by_ L) n 0 op a).2.1); omega)) (h6 μ' w' f b hw (fun z => absurd (show false = true from z) (by decide)) (fun _ => fb))
theorem rb_product (hT : TN by_ L N) (hs : s = 1 ∨ s = 4) (hta : ta ≤ 21) {n : Nat} (hi : RdE E l s by_ L N ta n 0 mX11_operand (so2 s) 0 1) (ht : RdE E l s by_ L N ta n 2 mX11_product (so3 s) 5 2) {op a d nc ns : Nat} {sg : Int32} (h1 : op ≤ 10) (h2 : 7 * (10 - op) + 2 + 2 ≤ d + 3) (h3 : 10 * (N - a) + 2 + 1 ≤ n + 1) (ha : a < N) (h4 : w ≤ plF by_ L a) (h5 : RB by_ L ta μ w) (hg : RG by_ L μ (plF by_ L a) op) (o : isOp 2 (kA s by_ L a) = true) (es : enR (bse s) (3, opN (kA s by_ L a)) = (sg, 0)) (h6 : RKr by_ L ta (bse s) (prT (kA s by_ L) (prs (kA s by_ L) (iA s by_ L) n) 2 op a) μ a w op K) : AW E l (d + 2) 0 0 mX11_next 0 (zargs 1 [.ref 31]) [] μ (fun v μ4 => v = none ∧ Stat μ4 ∧ AW E l (d + 2) 0 0 mX11_operand 0 (so2 s) [] μ4 (fun v μ6 => v = none ∧ Stat μ6 ∧ (vp_in ((200 * (zI μ6 31 56)) + (zI μ6 31 57)) 4400) ∧ (vp_in ((200 * (zI (sI μ6 70 ((200 * (zI μ6 31 56)) + (zI μ6 31 57)).toNatClampNeg sg) 31 56)) + (zI (sI μ6 70 ((200 * (zI μ6 31 56)) + (zI μ6 31 57)).toNatClampNeg sg) 31 57)) 4400) ∧ ∀ μ10, μ10 = (sI (sI μ6 70 ((200 * (zI μ6 31 56)) + (zI μ6 31 57)).toNatClampNeg sg) 71 ((200 * (zI (sI μ6 70 ((200 * (zI μ6 31 56)) + (zI μ6 31 57)).toNatClampNeg sg) 31 56)) + (zI (sI μ6 70 ((200 * (zI μ6 31 56)) + (zI μ6 31 57)).toNatClampNeg sg) 31 57)).toNatClampNeg 0) → AW E l (d + 3) nc ns mX11_product 5 (so3 s) [] (sI μ10 31 57 ((zI μ10 31 57) + 1)) K)) := by
  have l2 := hT.1
  have ps := pl_s hT ha
  have pp : PP (mny s) N 0 (a + 1) (prs (kA s by_ L) (iA s by_ L) n 0 op (a + 1)) := prs_ok (hN_A hT) (hit_A hT hs) n 0 op (a + 1) ha
  rw [prT, show hd1 (2 - 1) = 0 from rfl, if_pos o] at h6
  refine r_nx l2 hT.2.1 h5 hg.1 ps.2 (fun μ' f b r => ⟨rfl, b.st, ?_⟩)
  have hg' : RG by_ L μ' (plF by_ L (a + 1)) op := ⟨r, (f.i (by unfold WN; omega)).trans hg.2.1, (f.i (by unfold WN; omega)).trans hg.2.2⟩
  refine hi op (a + 1) (d + 2) 0 0 μ' w _ h1 (by omega) (by omega) ha (by omega) b hg' (fun μ2 w2 f2 b2 hw2 g2 gb2 => ⟨rfl, b2.st, ?_⟩)
  have pL := pl_L (by_ := by_) (L := L) (a := (prs (kA s by_ L) (iA s by_ L) n 0 op (a + 1)).2.1)
  refine c_lay b2 (bs_l hta (by omega)) ?_
  show AW E l (d + 3) nc ns mX11_product 5 (so3 s) [] (layM μ2 (200 * ta + w2) sg 0) K
  have b3 := b2.lay (x := sg) (y := 0)
  have f3 : Fx (WR ta) μ2 (layM μ2 (200 * ta + w2) sg 0) := lay_f b2 (by omega)
  have fr := ((f.mono WN_R).trans f2).trans f3
  by_cases gd : (prs (kA s by_ L) (iA s by_ L) n 0 op (a + 1)).1 = true
  · rw [if_pos gd] at h6
    obtain ⟨g1, g3, g4⟩ := pp.2.2 gd
    have g1 : a + 1 + 1 ≤ (prs (kA s by_ L) (iA s by_ L) n 0 op (a + 1)).2.1 := g1
    have pN := pp.1
    obtain ⟨q1, q2⟩ := g2 gd
    have hg3 : RG by_ L (layM μ2 (200 * ta + w2) sg 0) (plF by_ L (prs (kA s by_ L) (iA s by_ L) n 0 op (a + 1)).2.1) op := by
      obtain ⟨⟨r1, r2, r3, r4⟩, r5, r6⟩ := q1
      exact ⟨⟨(lay_i b2 (by decide)).trans r1, (lay_i b2 (by decide)).trans r2, (lay_i b2 (by decide)).trans r3, fun c1 c2 c3 c4 => (lay_i b2 (by decide)).trans (r4 c1 c2 c3 c4)⟩, (lay_i b2 (by decide)).trans r5, (lay_i b2 (by decide)).trans r6⟩
    refine ht op _ (d + 3) nc ns _ (w2 + 1) K h1 (by omega) (by omega) pN (by omega) b3 hg3 (fun μ4 w4 f4 b4 hw4 y4 z4 => h6 μ4 w4 (fr.trans f4) b4 ?_ (fun z => ⟨(y4 z).1, ?_⟩) z4)
    · show _ ≤ w + plF by_ L (prs (kA s by_ L) (iA s by_ L) n 2 op (prs (kA s by_ L) (iA s by_ L) n 0 op (a + 1)).2.1).2.1
      omega
    · have t1 := ((LD.nx (bs := bse s) (ta := ta) (w := w) f).app q2).app ((LD.lay b2 es).app (y4 z).2)
      exact t1
  · rw [if_neg gd] at h6
    have fb : zI (layM μ2 (200 * ta + w2) sg 0) 31 54 = _ := (lay_i b2 (by decide)).trans (gb2 gd)
    exact rx_product b3.st (f_bad fb (by omega)) (h6 _ (w2 + 1) fr b3 (by show w2 + 1 + _ ≤ w + plF by_ L (prs (kA s by_ L) (iA s by_ L) n 0 op (a + 1)).2.1; omega) (fun z => absurd (show false = true from z) (by decide)) (fun _ => fb))
theorem rl_product (hT : TN by_ L N) (hs : s = 1 ∨ s = 4) (hta : ta ≤ 21) {n : Nat} (hi : RdE E l s by_ L N ta n 0 mX11_operand (so2 s) 0 1) (ht : RdE E l s by_ L N ta n 2 mX11_product (so3 s) 5 2) : RdE E l s by_ L N ta (n + 1) 2 mX11_product (so3 s) 5 2 := by
  intro op a d nc ns μ w K h1 h2 h3 ha h4 h5 hg h6
  obtain ⟨d, rfl⟩ : ∃ d', d = d' + 3 := ⟨d - 3, by omega⟩
  have e : prs (kA s by_ L) (iA s by_ L) (n + 1) 2 op a = prT (kA s by_ L) (prs (kA s by_ L) (iA s by_ L) n) 2 op a := rfl
  rw [e] at h6
  have pL := pl_L (by_ := by_) (L := L) (a := a)
  have kx : ¬ isOp 2 (kA s by_ L a) = true → K none μ := by
    intro o
    rw [prT, if_neg o] at h6
    exact h6 μ w Fx.rfl h5 (Nat.le_refl _) (fun _ => ⟨hg, LD.nil (fun _ => ⟨rfl, rfl⟩)⟩) (fun z => absurd rfl z)
  have t1 : zI μ 31 52 = 42 ↔ kA s by_ L a = 42 := by rw [hg.1.2.2.1]; exact kd_s hT.2.1 (by decide)
  have t2 : zI μ 31 52 = 47 ↔ kA s by_ L a = 47 := by rw [hg.1.2.2.1]; exact kd_s hT.2.1 (by decide)
  have bd1 : kA s by_ L a = 42 → AW E l (d + 2) 0 0 mX11_next 0 (zargs 1 [.ref 31]) [] μ (fun v μ4 => v = none ∧ Stat μ4 ∧ AW E l (d + 2) 0 0 mX11_operand 0 (so2 s) [] μ4 (fun v μ6 => v = none ∧ Stat μ6 ∧ (vp_in ((200 * (zI μ6 31 56)) + (zI μ6 31 57)) 4400) ∧ (vp_in ((200 * (zI (sI μ6 70 ((200 * (zI μ6 31 56)) + (zI μ6 31 57)).toNatClampNeg 32) 31 56)) + (zI (sI μ6 70 ((200 * (zI μ6 31 56)) + (zI μ6 31 57)).toNatClampNeg 32) 31 57)) 4400) ∧ ∀ μ10, μ10 = (sI (sI μ6 70 ((200 * (zI μ6 31 56)) + (zI μ6 31 57)).toNatClampNeg 32) 71 ((200 * (zI (sI μ6 70 ((200 * (zI μ6 31 56)) + (zI μ6 31 57)).toNatClampNeg 32) 31 56)) + (zI (sI μ6 70 ((200 * (zI μ6 31 56)) + (zI μ6 31 57)).toNatClampNeg 32) 31 57)).toNatClampNeg 0) → AW E l (d + 3) nc ns mX11_product 5 (so3 s) [] (sI μ10 31 57 ((zI μ10 31 57) + 1)) K)) := fun z => rb_product hT hs hta hi ht h1 h2 h3 (hN_A hT a ha (by rw [z]; decide)) h4 h5 hg (by rw [z]; decide) (enR_o (by rw [z]; decide) (show opR 7 = 32 by decide)) h6
  have bd2 : kA s by_ L a = 47 → AW E l (d + 2) 0 0 mX11_next 0 (zargs 1 [.ref 31]) [] μ (fun v μ4 => v = none ∧ Stat μ4 ∧ AW E l (d + 2) 0 0 mX11_operand 0 (so2 s) [] μ4 (fun v μ6 => v = none ∧ Stat μ6 ∧ (vp_in ((200 * (zI μ6 31 56)) + (zI μ6 31 57)) 4400) ∧ (vp_in ((200 * (zI (sI μ6 70 ((200 * (zI μ6 31 56)) + (zI μ6 31 57)).toNatClampNeg 33) 31 56)) + (zI (sI μ6 70 ((200 * (zI μ6 31 56)) + (zI μ6 31 57)).toNatClampNeg 33) 31 57)) 4400) ∧ ∀ μ10, μ10 = (sI (sI μ6 70 ((200 * (zI μ6 31 56)) + (zI μ6 31 57)).toNatClampNeg 33) 71 ((200 * (zI (sI μ6 70 ((200 * (zI μ6 31 56)) + (zI μ6 31 57)).toNatClampNeg 33) 31 56)) + (zI (sI μ6 70 ((200 * (zI μ6 31 56)) + (zI μ6 31 57)).toNatClampNeg 33) 31 57)).toNatClampNeg 0) → AW E l (d + 3) nc ns mX11_product 5 (so3 s) [] (sI μ10 31 57 ((zI μ10 31 57) + 1)) K)) := fun z => rb_product hT hs hta hi ht h1 h2 h3 (hN_A hT a ha (by rw [z]; decide)) h4 h5 hg (by rw [z]; decide) (enR_o (by rw [z]; decide) (show opR 8 = 33 by decide)) h6
  refine t_X11_product_5 h5.st (c_f (f_good hg.2.1).1 ⟨fun z => ⟨fun y => absurd z y, fun _ => bd1 (t1.mp z)⟩, fun z => ⟨fun y => kx (fun o => ?_), fun y => ⟨fun _ => bd2 (t2.mp y), fun y2 => absurd y2 z⟩⟩⟩)
  have o : kA s by_ L a = 42 ∨ kA s by_ L a = 47 := of_decide_eq_true o
  exact o.elim (fun o => z (t1.mpr o)) (fun o => y (t2.mpr o))
theorem rx_sum {d nc ns : Nat} (hS : Stat μ) (hf : 0 ≤ zI μ 31 54) (k : K none μ) : AW E l (d + 3) nc ns mX11_sum 5 (so3 s) [] μ K := t_X11_sum_5 hS (c_t hf k)
theorem rh_sum (hT : TN by_ L N) (hs : s = 1 ∨ s = 4) {n : Nat} (hi : RdE E l s by_ L N ta n 1 mX11_product (so3 s) 0 2) (ht : RdE E l s by_ L N ta n 4 mX11_sum (so3 s) 5 3) : RdE E l s by_ L N ta (n + 1) 3 mX11_sum (so3 s) 0 3 := by
  intro op a d nc ns μ w K h1 h2 h3 ha h4 h5 hg h6
  obtain ⟨d, rfl⟩ : ∃ d', d = d' + 3 := ⟨d - 3, by omega⟩
  have e : prs (kA s by_ L) (iA s by_ L) (n + 1) 3 op a = prH (prs (kA s by_ L) (iA s by_ L) n) 3 op a := rfl
  have pp : PP (mny s) N 1 a (prs (kA s by_ L) (iA s by_ L) n 1 op a) := prs_ok (hN_A hT) (hit_A hT hs) n 1 op a ha
  have l2 := hT.1
  rw [e, prH, show hd1 3 = 1 from rfl] at h6
  refine t_X11_sum h5.st (hi op a (d + 2) 0 0 μ w _ h1 (by omega) (by omega) ha h4 h5 hg (fun μ' w' f b hw g gb => ⟨rfl, b.st, ?_⟩))
  by_cases gd : (prs (kA s by_ L) (iA s by_ L) n 1 op a).1 = true
  · rw [if_pos gd] at h6
    obtain ⟨g1, g2, g3⟩ := pp.2.2 gd
    have g1 : a + 1 ≤ (prs (kA s by_ L) (iA s by_ L) n 1 op a).2.1 := g1
    have pN := pp.1
    exact ht op _ (d + 3) nc ns μ' w' K h1 (by omega) (by omega) pN (by omega) b (g gd).1 (fun μ2 w2 f2 b2 hw2 y2 z2 => h6 μ2 w2 (f.trans f2) b2 (by show _ ≤ w + plF by_ L (prs (kA s by_ L) (iA s by_ L) n 4 op (prs (kA s by_ L) (iA s by_ L) n 1 op a).2.1).2.1; omega) (fun z => ⟨(y2 z).1, (g gd).2.app (y2 z).2⟩) z2)
  · rw [if_neg gd] at h6
    have fb := gb gd
    exact rx_sum b.st (f_bad fb (by have := pl_L (by_ := by_) (L := L) (a := (prs (kA s by_ L) (iA s by_ L) n 1 op a).2.1); omega)) (h6 μ' w' f b hw (fun z => absurd (show false = true from z) (by decide)) (fun _ => fb))
theorem rb_sum (hT : TN by_ L N) (hs : s = 1 ∨ s = 4) (hta : ta ≤ 21) {n : Nat} (hi : RdE E l s by_ L N ta n 1 mX11_product (so3 s) 0 2) (ht : RdE E l s by_ L N ta n 4 mX11_sum (so3 s) 5 3) {op a d nc ns : Nat} {sg : Int32} (h1 : op ≤ 10) (h2 : 7 * (10 - op) + 3 + 2 ≤ d + 3) (h3 : 10 * (N - a) + 4 + 1 ≤ n + 1) (ha : a < N) (h4 : w ≤ plF by_ L a) (h5 : RB by_ L ta μ w) (hg : RG by_ L μ (plF by_ L a) op) (o : isOp 4 (kA s by_ L a) = true) (es : enR (bse s) (3, opN (kA s by_ L a)) = (sg, 0)) (h6 : RKr by_ L ta (bse s) (prT (kA s by_ L) (prs (kA s by_ L) (iA s by_ L) n) 4 op a) μ a w op K) : AW E l (d + 2) 0 0 mX11_next 0 (zargs 1 [.ref 31]) [] μ (fun v μ4 => v = none ∧ Stat μ4 ∧ AW E l (d + 2) 0 0 mX11_product 0 (so3 s) [] μ4 (fun v μ6 => v = none ∧ Stat μ6 ∧ (vp_in ((200 * (zI μ6 31 56)) + (zI μ6 31 57)) 4400) ∧ (vp_in ((200 * (zI (sI μ6 70 ((200 * (zI μ6 31 56)) + (zI μ6 31 57)).toNatClampNeg sg) 31 56)) + (zI (sI μ6 70 ((200 * (zI μ6 31 56)) + (zI μ6 31 57)).toNatClampNeg sg) 31 57)) 4400) ∧ ∀ μ10, μ10 = (sI (sI μ6 70 ((200 * (zI μ6 31 56)) + (zI μ6 31 57)).toNatClampNeg sg) 71 ((200 * (zI (sI μ6 70 ((200 * (zI μ6 31 56)) + (zI μ6 31 57)).toNatClampNeg sg) 31 56)) + (zI (sI μ6 70 ((200 * (zI μ6 31 56)) + (zI μ6 31 57)).toNatClampNeg sg) 31 57)).toNatClampNeg 0) → AW E l (d + 3) nc ns mX11_sum 5 (so3 s) [] (sI μ10 31 57 ((zI μ10 31 57) + 1)) K)) := by
  have l2 := hT.1
  have ps := pl_s hT ha
  have pp : PP (mny s) N 1 (a + 1) (prs (kA s by_ L) (iA s by_ L) n 1 op (a + 1)) := prs_ok (hN_A hT) (hit_A hT hs) n 1 op (a + 1) ha
  rw [prT, show hd1 (4 - 1) = 1 from rfl, if_pos o] at h6
  refine r_nx l2 hT.2.1 h5 hg.1 ps.2 (fun μ' f b r => ⟨rfl, b.st, ?_⟩)
  have hg' : RG by_ L μ' (plF by_ L (a + 1)) op := ⟨r, (f.i (by unfold WN; omega)).trans hg.2.1, (f.i (by unfold WN; omega)).trans hg.2.2⟩
  refine hi op (a + 1) (d + 2) 0 0 μ' w _ h1 (by omega) (by omega) ha (by omega) b hg' (fun μ2 w2 f2 b2 hw2 g2 gb2 => ⟨rfl, b2.st, ?_⟩)
  have pL := pl_L (by_ := by_) (L := L) (a := (prs (kA s by_ L) (iA s by_ L) n 1 op (a + 1)).2.1)
  refine c_lay b2 (bs_l hta (by omega)) ?_
  show AW E l (d + 3) nc ns mX11_sum 5 (so3 s) [] (layM μ2 (200 * ta + w2) sg 0) K
  have b3 := b2.lay (x := sg) (y := 0)
  have f3 : Fx (WR ta) μ2 (layM μ2 (200 * ta + w2) sg 0) := lay_f b2 (by omega)
  have fr := ((f.mono WN_R).trans f2).trans f3
  by_cases gd : (prs (kA s by_ L) (iA s by_ L) n 1 op (a + 1)).1 = true
  · rw [if_pos gd] at h6
    obtain ⟨g1, g3, g4⟩ := pp.2.2 gd
    have g1 : a + 1 + 1 ≤ (prs (kA s by_ L) (iA s by_ L) n 1 op (a + 1)).2.1 := g1
    have pN := pp.1
    obtain ⟨q1, q2⟩ := g2 gd
    have hg3 : RG by_ L (layM μ2 (200 * ta + w2) sg 0) (plF by_ L (prs (kA s by_ L) (iA s by_ L) n 1 op (a + 1)).2.1) op := by
      obtain ⟨⟨r1, r2, r3, r4⟩, r5, r6⟩ := q1
      exact ⟨⟨(lay_i b2 (by decide)).trans r1, (lay_i b2 (by decide)).trans r2, (lay_i b2 (by decide)).trans r3, fun c1 c2 c3 c4 => (lay_i b2 (by decide)).trans (r4 c1 c2 c3 c4)⟩, (lay_i b2 (by decide)).trans r5, (lay_i b2 (by decide)).trans r6⟩
    refine ht op _ (d + 3) nc ns _ (w2 + 1) K h1 (by omega) (by omega) pN (by omega) b3 hg3 (fun μ4 w4 f4 b4 hw4 y4 z4 => h6 μ4 w4 (fr.trans f4) b4 ?_ (fun z => ⟨(y4 z).1, ?_⟩) z4)
    · show _ ≤ w + plF by_ L (prs (kA s by_ L) (iA s by_ L) n 4 op (prs (kA s by_ L) (iA s by_ L) n 1 op (a + 1)).2.1).2.1
      omega
    · have t1 := ((LD.nx (bs := bse s) (ta := ta) (w := w) f).app q2).app ((LD.lay b2 es).app (y4 z).2)
      exact t1
  · rw [if_neg gd] at h6
    have fb : zI (layM μ2 (200 * ta + w2) sg 0) 31 54 = _ := (lay_i b2 (by decide)).trans (gb2 gd)
    exact rx_sum b3.st (f_bad fb (by omega)) (h6 _ (w2 + 1) fr b3 (by show w2 + 1 + _ ≤ w + plF by_ L (prs (kA s by_ L) (iA s by_ L) n 1 op (a + 1)).2.1; omega) (fun z => absurd (show false = true from z) (by decide)) (fun _ => fb))
theorem rl_sum (hT : TN by_ L N) (hs : s = 1 ∨ s = 4) (hta : ta ≤ 21) {n : Nat} (hi : RdE E l s by_ L N ta n 1 mX11_product (so3 s) 0 2) (ht : RdE E l s by_ L N ta n 4 mX11_sum (so3 s) 5 3) : RdE E l s by_ L N ta (n + 1) 4 mX11_sum (so3 s) 5 3 := by
  intro op a d nc ns μ w K h1 h2 h3 ha h4 h5 hg h6
  obtain ⟨d, rfl⟩ : ∃ d', d = d' + 3 := ⟨d - 3, by omega⟩
  have e : prs (kA s by_ L) (iA s by_ L) (n + 1) 4 op a = prT (kA s by_ L) (prs (kA s by_ L) (iA s by_ L) n) 4 op a := rfl
  rw [e] at h6
  have pL := pl_L (by_ := by_) (L := L) (a := a)
  have kx : ¬ isOp 4 (kA s by_ L a) = true → K none μ := by
    intro o
    rw [prT, if_neg o] at h6
    exact h6 μ w Fx.rfl h5 (Nat.le_refl _) (fun _ => ⟨hg, LD.nil (fun _ => ⟨rfl, rfl⟩)⟩) (fun z => absurd rfl z)
  have t1 : zI μ 31 52 = 43 ↔ kA s by_ L a = 43 := by rw [hg.1.2.2.1]; exact kd_s hT.2.1 (by decide)
  have t2 : zI μ 31 52 = 45 ↔ kA s by_ L a = 45 := by rw [hg.1.2.2.1]; exact kd_s hT.2.1 (by decide)
  have bd1 : kA s by_ L a = 43 → AW E l (d + 2) 0 0 mX11_next 0 (zargs 1 [.ref 31]) [] μ (fun v μ4 => v = none ∧ Stat μ4 ∧ AW E l (d + 2) 0 0 mX11_product 0 (so3 s) [] μ4 (fun v μ6 => v = none ∧ Stat μ6 ∧ (vp_in ((200 * (zI μ6 31 56)) + (zI μ6 31 57)) 4400) ∧ (vp_in ((200 * (zI (sI μ6 70 ((200 * (zI μ6 31 56)) + (zI μ6 31 57)).toNatClampNeg 30) 31 56)) + (zI (sI μ6 70 ((200 * (zI μ6 31 56)) + (zI μ6 31 57)).toNatClampNeg 30) 31 57)) 4400) ∧ ∀ μ10, μ10 = (sI (sI μ6 70 ((200 * (zI μ6 31 56)) + (zI μ6 31 57)).toNatClampNeg 30) 71 ((200 * (zI (sI μ6 70 ((200 * (zI μ6 31 56)) + (zI μ6 31 57)).toNatClampNeg 30) 31 56)) + (zI (sI μ6 70 ((200 * (zI μ6 31 56)) + (zI μ6 31 57)).toNatClampNeg 30) 31 57)).toNatClampNeg 0) → AW E l (d + 3) nc ns mX11_sum 5 (so3 s) [] (sI μ10 31 57 ((zI μ10 31 57) + 1)) K)) := fun z => rb_sum hT hs hta hi ht h1 h2 h3 (hN_A hT a ha (by rw [z]; decide)) h4 h5 hg (by rw [z]; decide) (enR_o (by rw [z]; decide) (show opR 5 = 30 by decide)) h6
  have bd2 : kA s by_ L a = 45 → AW E l (d + 2) 0 0 mX11_next 0 (zargs 1 [.ref 31]) [] μ (fun v μ4 => v = none ∧ Stat μ4 ∧ AW E l (d + 2) 0 0 mX11_product 0 (so3 s) [] μ4 (fun v μ6 => v = none ∧ Stat μ6 ∧ (vp_in ((200 * (zI μ6 31 56)) + (zI μ6 31 57)) 4400) ∧ (vp_in ((200 * (zI (sI μ6 70 ((200 * (zI μ6 31 56)) + (zI μ6 31 57)).toNatClampNeg 31) 31 56)) + (zI (sI μ6 70 ((200 * (zI μ6 31 56)) + (zI μ6 31 57)).toNatClampNeg 31) 31 57)) 4400) ∧ ∀ μ10, μ10 = (sI (sI μ6 70 ((200 * (zI μ6 31 56)) + (zI μ6 31 57)).toNatClampNeg 31) 71 ((200 * (zI (sI μ6 70 ((200 * (zI μ6 31 56)) + (zI μ6 31 57)).toNatClampNeg 31) 31 56)) + (zI (sI μ6 70 ((200 * (zI μ6 31 56)) + (zI μ6 31 57)).toNatClampNeg 31) 31 57)).toNatClampNeg 0) → AW E l (d + 3) nc ns mX11_sum 5 (so3 s) [] (sI μ10 31 57 ((zI μ10 31 57) + 1)) K)) := fun z => rb_sum hT hs hta hi ht h1 h2 h3 (hN_A hT a ha (by rw [z]; decide)) h4 h5 hg (by rw [z]; decide) (enR_o (by rw [z]; decide) (show opR 6 = 31 by decide)) h6
  refine t_X11_sum_5 h5.st (c_f (f_good hg.2.1).1 ⟨fun z => ⟨fun y => absurd z y, fun _ => bd1 (t1.mp z)⟩, fun z => ⟨fun y => kx (fun o => ?_), fun y => ⟨fun _ => bd2 (t2.mp y), fun y2 => absurd y2 z⟩⟩⟩)
  have o : kA s by_ L a = 43 ∨ kA s by_ L a = 45 := of_decide_eq_true o
  exact o.elim (fun o => z (t1.mpr o)) (fun o => y (t2.mpr o))
theorem rx_all {d nc ns : Nat} (hS : Stat μ) (hf : 0 ≤ zI μ 31 54) (k : K none μ) : AW E l (d + 3) nc ns mX11_all 5 (so2 s) [] μ K := t_X11_all_5 hS (c_t hf k)
theorem rh_all (hT : TN by_ L N) (hs : s = 1 ∨ s = 4) {n : Nat} (hi : RdE E l s by_ L N ta n 5 mX11_base (so3 s) 0 4) (ht : RdE E l s by_ L N ta n 7 mX11_all (so2 s) 5 5) : RdE E l s by_ L N ta (n + 1) 6 mX11_all (so2 s) 0 5 := by
  intro op a d nc ns μ w K h1 h2 h3 ha h4 h5 hg h6
  obtain ⟨d, rfl⟩ : ∃ d', d = d' + 3 := ⟨d - 3, by omega⟩
  have e : prs (kA s by_ L) (iA s by_ L) (n + 1) 6 op a = prH (prs (kA s by_ L) (iA s by_ L) n) 6 op a := rfl
  have pp : PP (mny s) N 5 a (prs (kA s by_ L) (iA s by_ L) n 5 op a) := prs_ok (hN_A hT) (hit_A hT hs) n 5 op a ha
  have l2 := hT.1
  rw [e, prH, show hd1 6 = 5 from rfl] at h6
  refine t_X11_all h5.st (hi op a (d + 2) 0 0 μ w _ h1 (by omega) (by omega) ha h4 h5 hg (fun μ' w' f b hw g gb => ⟨rfl, b.st, ?_⟩))
  by_cases gd : (prs (kA s by_ L) (iA s by_ L) n 5 op a).1 = true
  · rw [if_pos gd] at h6
    obtain ⟨g1, g2, g3⟩ := pp.2.2 gd
    have g1 : a + 1 ≤ (prs (kA s by_ L) (iA s by_ L) n 5 op a).2.1 := g1
    have pN := pp.1
    exact ht op _ (d + 3) nc ns μ' w' K h1 (by omega) (by omega) pN (by omega) b (g gd).1 (fun μ2 w2 f2 b2 hw2 y2 z2 => h6 μ2 w2 (f.trans f2) b2 (by show _ ≤ w + plF by_ L (prs (kA s by_ L) (iA s by_ L) n 7 op (prs (kA s by_ L) (iA s by_ L) n 5 op a).2.1).2.1; omega) (fun z => ⟨(y2 z).1, (g gd).2.app (y2 z).2⟩) z2)
  · rw [if_neg gd] at h6
    have fb := gb gd
    exact rx_all b.st (f_bad fb (by have := pl_L (by_ := by_) (L := L) (a := (prs (kA s by_ L) (iA s by_ L) n 5 op a).2.1); omega)) (h6 μ' w' f b hw (fun z => absurd (show false = true from z) (by decide)) (fun _ => fb))
theorem rb_all (hT : TN by_ L N) (hs : s = 1 ∨ s = 4) (hta : ta ≤ 21) {n : Nat} (hi : RdE E l s by_ L N ta n 5 mX11_base (so3 s) 0 4) (ht : RdE E l s by_ L N ta n 7 mX11_all (so2 s) 5 5) {op a d nc ns : Nat} {sg : Int32} (h1 : op ≤ 10) (h2 : 7 * (10 - op) + 5 + 2 ≤ d + 3) (h3 : 10 * (N - a) + 7 + 1 ≤ n + 1) (ha : a < N) (h4 : w ≤ plF by_ L a) (h5 : RB by_ L ta μ w) (hg : RG by_ L μ (plF by_ L a) op) (o : isOp 7 (kA s by_ L a) = true) (es : enR (bse s) (3, opN (kA s by_ L a)) = (sg, 0)) (h6 : RKr by_ L ta (bse s) (prT (kA s by_ L) (prs (kA s by_ L) (iA s by_ L) n) 7 op a) μ a w op K) : AW E l (d + 2) 0 0 mX11_next 0 (zargs 1 [.ref 31]) [] μ (fun v μ4 => v = none ∧ Stat μ4 ∧ AW E l (d + 2) 0 0 mX11_base 0 (so3 s) [] μ4 (fun v μ6 => v = none ∧ Stat μ6 ∧ (vp_in ((200 * (zI μ6 31 56)) + (zI μ6 31 57)) 4400) ∧ (vp_in ((200 * (zI (sI μ6 70 ((200 * (zI μ6 31 56)) + (zI μ6 31 57)).toNatClampNeg sg) 31 56)) + (zI (sI μ6 70 ((200 * (zI μ6 31 56)) + (zI μ6 31 57)).toNatClampNeg sg) 31 57)) 4400) ∧ ∀ μ10, μ10 = (sI (sI μ6 70 ((200 * (zI μ6 31 56)) + (zI μ6 31 57)).toNatClampNeg sg) 71 ((200 * (zI (sI μ6 70 ((200 * (zI μ6 31 56)) + (zI μ6 31 57)).toNatClampNeg sg) 31 56)) + (zI (sI μ6 70 ((200 * (zI μ6 31 56)) + (zI μ6 31 57)).toNatClampNeg sg) 31 57)).toNatClampNeg 0) → AW E l (d + 3) nc ns mX11_all 5 (so2 s) [] (sI μ10 31 57 ((zI μ10 31 57) + 1)) K)) := by
  have l2 := hT.1
  have ps := pl_s hT ha
  have pp : PP (mny s) N 5 (a + 1) (prs (kA s by_ L) (iA s by_ L) n 5 op (a + 1)) := prs_ok (hN_A hT) (hit_A hT hs) n 5 op (a + 1) ha
  rw [prT, show hd1 (7 - 1) = 5 from rfl, if_pos o] at h6
  refine r_nx l2 hT.2.1 h5 hg.1 ps.2 (fun μ' f b r => ⟨rfl, b.st, ?_⟩)
  have hg' : RG by_ L μ' (plF by_ L (a + 1)) op := ⟨r, (f.i (by unfold WN; omega)).trans hg.2.1, (f.i (by unfold WN; omega)).trans hg.2.2⟩
  refine hi op (a + 1) (d + 2) 0 0 μ' w _ h1 (by omega) (by omega) ha (by omega) b hg' (fun μ2 w2 f2 b2 hw2 g2 gb2 => ⟨rfl, b2.st, ?_⟩)
  have pL := pl_L (by_ := by_) (L := L) (a := (prs (kA s by_ L) (iA s by_ L) n 5 op (a + 1)).2.1)
  refine c_lay b2 (bs_l hta (by omega)) ?_
  show AW E l (d + 3) nc ns mX11_all 5 (so2 s) [] (layM μ2 (200 * ta + w2) sg 0) K
  have b3 := b2.lay (x := sg) (y := 0)
  have f3 : Fx (WR ta) μ2 (layM μ2 (200 * ta + w2) sg 0) := lay_f b2 (by omega)
  have fr := ((f.mono WN_R).trans f2).trans f3
  by_cases gd : (prs (kA s by_ L) (iA s by_ L) n 5 op (a + 1)).1 = true
  · rw [if_pos gd] at h6
    obtain ⟨g1, g3, g4⟩ := pp.2.2 gd
    have g1 : a + 1 + 1 ≤ (prs (kA s by_ L) (iA s by_ L) n 5 op (a + 1)).2.1 := g1
    have pN := pp.1
    obtain ⟨q1, q2⟩ := g2 gd
    have hg3 : RG by_ L (layM μ2 (200 * ta + w2) sg 0) (plF by_ L (prs (kA s by_ L) (iA s by_ L) n 5 op (a + 1)).2.1) op := by
      obtain ⟨⟨r1, r2, r3, r4⟩, r5, r6⟩ := q1
      exact ⟨⟨(lay_i b2 (by decide)).trans r1, (lay_i b2 (by decide)).trans r2, (lay_i b2 (by decide)).trans r3, fun c1 c2 c3 c4 => (lay_i b2 (by decide)).trans (r4 c1 c2 c3 c4)⟩, (lay_i b2 (by decide)).trans r5, (lay_i b2 (by decide)).trans r6⟩
    refine ht op _ (d + 3) nc ns _ (w2 + 1) K h1 (by omega) (by omega) pN (by omega) b3 hg3 (fun μ4 w4 f4 b4 hw4 y4 z4 => h6 μ4 w4 (fr.trans f4) b4 ?_ (fun z => ⟨(y4 z).1, ?_⟩) z4)
    · show _ ≤ w + plF by_ L (prs (kA s by_ L) (iA s by_ L) n 7 op (prs (kA s by_ L) (iA s by_ L) n 5 op (a + 1)).2.1).2.1
      omega
    · have t1 := ((LD.nx (bs := bse s) (ta := ta) (w := w) f).app q2).app ((LD.lay b2 es).app (y4 z).2)
      exact t1
  · rw [if_neg gd] at h6
    have fb : zI (layM μ2 (200 * ta + w2) sg 0) 31 54 = _ := (lay_i b2 (by decide)).trans (gb2 gd)
    exact rx_all b3.st (f_bad fb (by omega)) (h6 _ (w2 + 1) fr b3 (by show w2 + 1 + _ ≤ w + plF by_ L (prs (kA s by_ L) (iA s by_ L) n 5 op (a + 1)).2.1; omega) (fun z => absurd (show false = true from z) (by decide)) (fun _ => fb))
theorem rl_all (hT : TN by_ L N) (hs : s = 1 ∨ s = 4) (hta : ta ≤ 21) {n : Nat} (hi : RdE E l s by_ L N ta n 5 mX11_base (so3 s) 0 4) (ht : RdE E l s by_ L N ta n 7 mX11_all (so2 s) 5 5) : RdE E l s by_ L N ta (n + 1) 7 mX11_all (so2 s) 5 5 := by
  intro op a d nc ns μ w K h1 h2 h3 ha h4 h5 hg h6
  obtain ⟨d, rfl⟩ : ∃ d', d = d' + 3 := ⟨d - 3, by omega⟩
  have e : prs (kA s by_ L) (iA s by_ L) (n + 1) 7 op a = prT (kA s by_ L) (prs (kA s by_ L) (iA s by_ L) n) 7 op a := rfl
  rw [e] at h6
  have pL := pl_L (by_ := by_) (L := L) (a := a)
  have kx : ¬ isOp 7 (kA s by_ L a) = true → K none μ := by
    intro o
    rw [prT, if_neg o] at h6
    exact h6 μ w Fx.rfl h5 (Nat.le_refl _) (fun _ => ⟨hg, LD.nil (fun _ => ⟨rfl, rfl⟩)⟩) (fun z => absurd rfl z)
  refine t_X11_all_5 h5.st (c_f (f_good hg.2.1).1 (r_word (s := s) (k := 6) h5.st hT.1 hT.2.1 h5.2.1 pL hg.1 (by decide) w_h.2.1.2.1 (fun z => ⟨_, rfl, h5.st, c_f (by decide) ?_⟩) (fun z => ⟨_, rfl, h5.st, c_t rfl (kx (fun o => ?_))⟩)))
  · have z : kA s by_ L a = 6 := z
    exact rb_all hT hs hta hi ht h1 h2 h3 (hN_A hT a ha (by rw [z]; decide)) h4 h5 hg (by rw [z]; decide) (enR_o (by rw [z]; decide) (show opR 1 = 11 by decide)) h6
  · have o : kA s by_ L a = 6 := of_decide_eq_true o
    exact z o
theorem rx_question {d nc ns : Nat} (hS : Stat μ) (hf : 0 ≤ zI μ 31 54) (k : K none μ) : AW E l (d + 3) nc ns mX11_question 5 (so2 s) [] μ K := t_X11_question_5 hS (c_t hf k)
theorem rh_question (hT : TN by_ L N) (hs : s = 1 ∨ s = 4) {n : Nat} (hi : RdE E l s by_ L N ta n 6 mX11_all (so2 s) 0 5) (ht : RdE E l s by_ L N ta n 9 mX11_question (so2 s) 5 6) : RdE E l s by_ L N ta (n + 1) 8 mX11_question (so2 s) 0 6 := by
  intro op a d nc ns μ w K h1 h2 h3 ha h4 h5 hg h6
  obtain ⟨d, rfl⟩ : ∃ d', d = d' + 3 := ⟨d - 3, by omega⟩
  have e : prs (kA s by_ L) (iA s by_ L) (n + 1) 8 op a = prH (prs (kA s by_ L) (iA s by_ L) n) 8 op a := rfl
  have pp : PP (mny s) N 6 a (prs (kA s by_ L) (iA s by_ L) n 6 op a) := prs_ok (hN_A hT) (hit_A hT hs) n 6 op a ha
  have l2 := hT.1
  rw [e, prH, show hd1 8 = 6 from rfl] at h6
  refine t_X11_question h5.st (hi op a (d + 2) 0 0 μ w _ h1 (by omega) (by omega) ha h4 h5 hg (fun μ' w' f b hw g gb => ⟨rfl, b.st, ?_⟩))
  by_cases gd : (prs (kA s by_ L) (iA s by_ L) n 6 op a).1 = true
  · rw [if_pos gd] at h6
    obtain ⟨g1, g2, g3⟩ := pp.2.2 gd
    have g1 : a + 1 ≤ (prs (kA s by_ L) (iA s by_ L) n 6 op a).2.1 := g1
    have pN := pp.1
    exact ht op _ (d + 3) nc ns μ' w' K h1 (by omega) (by omega) pN (by omega) b (g gd).1 (fun μ2 w2 f2 b2 hw2 y2 z2 => h6 μ2 w2 (f.trans f2) b2 (by show _ ≤ w + plF by_ L (prs (kA s by_ L) (iA s by_ L) n 9 op (prs (kA s by_ L) (iA s by_ L) n 6 op a).2.1).2.1; omega) (fun z => ⟨(y2 z).1, (g gd).2.app (y2 z).2⟩) z2)
  · rw [if_neg gd] at h6
    have fb := gb gd
    exact rx_question b.st (f_bad fb (by have := pl_L (by_ := by_) (L := L) (a := (prs (kA s by_ L) (iA s by_ L) n 6 op a).2.1); omega)) (h6 μ' w' f b hw (fun z => absurd (show false = true from z) (by decide)) (fun _ => fb))
theorem rb_question (hT : TN by_ L N) (hs : s = 1 ∨ s = 4) (hta : ta ≤ 21) {n : Nat} (hi : RdE E l s by_ L N ta n 6 mX11_all (so2 s) 0 5) (ht : RdE E l s by_ L N ta n 9 mX11_question (so2 s) 5 6) {op a d nc ns : Nat} {sg : Int32} (h1 : op ≤ 10) (h2 : 7 * (10 - op) + 6 + 2 ≤ d + 3) (h3 : 10 * (N - a) + 9 + 1 ≤ n + 1) (ha : a < N) (h4 : w ≤ plF by_ L a) (h5 : RB by_ L ta μ w) (hg : RG by_ L μ (plF by_ L a) op) (o : isOp 9 (kA s by_ L a) = true) (es : enR (bse s) (3, opN (kA s by_ L a)) = (sg, 0)) (h6 : RKr by_ L ta (bse s) (prT (kA s by_ L) (prs (kA s by_ L) (iA s by_ L) n) 9 op a) μ a w op K) : AW E l (d + 2) 0 0 mX11_next 0 (zargs 1 [.ref 31]) [] μ (fun v μ4 => v = none ∧ Stat μ4 ∧ AW E l (d + 2) 0 0 mX11_all 0 (so2 s) [] μ4 (fun v μ6 => v = none ∧ Stat μ6 ∧ (vp_in ((200 * (zI μ6 31 56)) + (zI μ6 31 57)) 4400) ∧ (vp_in ((200 * (zI (sI μ6 70 ((200 * (zI μ6 31 56)) + (zI μ6 31 57)).toNatClampNeg sg) 31 56)) + (zI (sI μ6 70 ((200 * (zI μ6 31 56)) + (zI μ6 31 57)).toNatClampNeg sg) 31 57)) 4400) ∧ ∀ μ10, μ10 = (sI (sI μ6 70 ((200 * (zI μ6 31 56)) + (zI μ6 31 57)).toNatClampNeg sg) 71 ((200 * (zI (sI μ6 70 ((200 * (zI μ6 31 56)) + (zI μ6 31 57)).toNatClampNeg sg) 31 56)) + (zI (sI μ6 70 ((200 * (zI μ6 31 56)) + (zI μ6 31 57)).toNatClampNeg sg) 31 57)).toNatClampNeg 0) → AW E l (d + 3) nc ns mX11_question 5 (so2 s) [] (sI μ10 31 57 ((zI μ10 31 57) + 1)) K)) := by
  have l2 := hT.1
  have ps := pl_s hT ha
  have pp : PP (mny s) N 6 (a + 1) (prs (kA s by_ L) (iA s by_ L) n 6 op (a + 1)) := prs_ok (hN_A hT) (hit_A hT hs) n 6 op (a + 1) ha
  rw [prT, show hd1 (9 - 1) = 6 from rfl, if_pos o] at h6
  refine r_nx l2 hT.2.1 h5 hg.1 ps.2 (fun μ' f b r => ⟨rfl, b.st, ?_⟩)
  have hg' : RG by_ L μ' (plF by_ L (a + 1)) op := ⟨r, (f.i (by unfold WN; omega)).trans hg.2.1, (f.i (by unfold WN; omega)).trans hg.2.2⟩
  refine hi op (a + 1) (d + 2) 0 0 μ' w _ h1 (by omega) (by omega) ha (by omega) b hg' (fun μ2 w2 f2 b2 hw2 g2 gb2 => ⟨rfl, b2.st, ?_⟩)
  have pL := pl_L (by_ := by_) (L := L) (a := (prs (kA s by_ L) (iA s by_ L) n 6 op (a + 1)).2.1)
  refine c_lay b2 (bs_l hta (by omega)) ?_
  show AW E l (d + 3) nc ns mX11_question 5 (so2 s) [] (layM μ2 (200 * ta + w2) sg 0) K
  have b3 := b2.lay (x := sg) (y := 0)
  have f3 : Fx (WR ta) μ2 (layM μ2 (200 * ta + w2) sg 0) := lay_f b2 (by omega)
  have fr := ((f.mono WN_R).trans f2).trans f3
  by_cases gd : (prs (kA s by_ L) (iA s by_ L) n 6 op (a + 1)).1 = true
  · rw [if_pos gd] at h6
    obtain ⟨g1, g3, g4⟩ := pp.2.2 gd
    have g1 : a + 1 + 1 ≤ (prs (kA s by_ L) (iA s by_ L) n 6 op (a + 1)).2.1 := g1
    have pN := pp.1
    obtain ⟨q1, q2⟩ := g2 gd
    have hg3 : RG by_ L (layM μ2 (200 * ta + w2) sg 0) (plF by_ L (prs (kA s by_ L) (iA s by_ L) n 6 op (a + 1)).2.1) op := by
      obtain ⟨⟨r1, r2, r3, r4⟩, r5, r6⟩ := q1
      exact ⟨⟨(lay_i b2 (by decide)).trans r1, (lay_i b2 (by decide)).trans r2, (lay_i b2 (by decide)).trans r3, fun c1 c2 c3 c4 => (lay_i b2 (by decide)).trans (r4 c1 c2 c3 c4)⟩, (lay_i b2 (by decide)).trans r5, (lay_i b2 (by decide)).trans r6⟩
    refine ht op _ (d + 3) nc ns _ (w2 + 1) K h1 (by omega) (by omega) pN (by omega) b3 hg3 (fun μ4 w4 f4 b4 hw4 y4 z4 => h6 μ4 w4 (fr.trans f4) b4 ?_ (fun z => ⟨(y4 z).1, ?_⟩) z4)
    · show _ ≤ w + plF by_ L (prs (kA s by_ L) (iA s by_ L) n 9 op (prs (kA s by_ L) (iA s by_ L) n 6 op (a + 1)).2.1).2.1
      omega
    · have t1 := ((LD.nx (bs := bse s) (ta := ta) (w := w) f).app q2).app ((LD.lay b2 es).app (y4 z).2)
      exact t1
  · rw [if_neg gd] at h6
    have fb : zI (layM μ2 (200 * ta + w2) sg 0) 31 54 = _ := (lay_i b2 (by decide)).trans (gb2 gd)
    exact rx_question b3.st (f_bad fb (by omega)) (h6 _ (w2 + 1) fr b3 (by show w2 + 1 + _ ≤ w + plF by_ L (prs (kA s by_ L) (iA s by_ L) n 6 op (a + 1)).2.1; omega) (fun z => absurd (show false = true from z) (by decide)) (fun _ => fb))
theorem rl_question (hT : TN by_ L N) (hs : s = 1 ∨ s = 4) (hta : ta ≤ 21) {n : Nat} (hi : RdE E l s by_ L N ta n 6 mX11_all (so2 s) 0 5) (ht : RdE E l s by_ L N ta n 9 mX11_question (so2 s) 5 6) : RdE E l s by_ L N ta (n + 1) 9 mX11_question (so2 s) 5 6 := by
  intro op a d nc ns μ w K h1 h2 h3 ha h4 h5 hg h6
  obtain ⟨d, rfl⟩ : ∃ d', d = d' + 3 := ⟨d - 3, by omega⟩
  have e : prs (kA s by_ L) (iA s by_ L) (n + 1) 9 op a = prT (kA s by_ L) (prs (kA s by_ L) (iA s by_ L) n) 9 op a := rfl
  rw [e] at h6
  have pL := pl_L (by_ := by_) (L := L) (a := a)
  have kx : ¬ isOp 9 (kA s by_ L a) = true → K none μ := by
    intro o
    rw [prT, if_neg o] at h6
    exact h6 μ w Fx.rfl h5 (Nat.le_refl _) (fun _ => ⟨hg, LD.nil (fun _ => ⟨rfl, rfl⟩)⟩) (fun z => absurd rfl z)
  refine t_X11_question_5 h5.st (c_f (f_good hg.2.1).1 (r_word (s := s) (k := 5) h5.st hT.1 hT.2.1 h5.2.1 pL hg.1 (by decide) w_h.2.1.1 (fun z => ⟨_, rfl, h5.st, c_f (by decide) ?_⟩) (fun z => ⟨_, rfl, h5.st, c_t rfl (kx (fun o => ?_))⟩)))
  · have z : kA s by_ L a = 5 := z
    exact rb_question hT hs hta hi ht h1 h2 h3 (hN_A hT a ha (by rw [z]; decide)) h4 h5 hg (by rw [z]; decide) (enR_o (by rw [z]; decide) (show opR 0 = 10 by decide)) h6
  · have o : kA s by_ L a = 5 := of_decide_eq_true o
    exact z o
end RdR
