/-! the desk's reader -/
def CP (kd ce : Nat → Int32) (N : Nat) (μ : ZM) (a c : Nat) : Prop := Stat μ ∧ zI μ 20 5 = nI (N + 1) ∧ N ≤ 200 ∧ (∀ j, j ≤ N → zI μ 22 j = kd j ∧ zI μ 24 j = ce j) ∧ a ≤ N ∧ zI μ 19 3 = nI a ∧ zI μ 19 4 = kd a ∧ zI μ 19 2 = nI c ∧ c ≤ 400
def WP (b j : Nat) : Prop := (b = 19 ∧ 2 ≤ j) ∨ b = 25
def stM (μ : ZM) : ZM := sI (sI μ 19 3 ((zI μ 19 3) + 1)) 19 4 (zI (sI μ 19 3 ((zI μ 19 3) + 1)) 22 (zI (sI μ 19 3 ((zI μ 19 3) + 1)) 19 3).toNatClampNeg)
def wrM (μ : ZM) (x : Int32) : ZM := sI (sI μ 25 (zI μ 19 2).toNatClampNeg x) 19 2 ((zI (sI μ 25 (zI μ 19 2).toNatClampNeg x) 19 2) + 1)
/-- the code written behind c cells -/
def CD (μ μ' : ZM) (c c' : Nat) (l : List Itm) : Prop := c' = c + l.length ∧ lst (zI μ' 25) c (l.map enC) ∧ ∀ j, j < c → zI μ' 25 j = zI μ 25 j
section RdC
variable {E : ZE} {l : Launch} {kd ce : Nat → Int32} {it : Nat → Itm} {N many : Nat} {μ μ' μ2 : ZM} {a c c' c2 : Nat} {x : Int32} {K : Option Value → ZM → Prop}
theorem CP.st (h : CP kd ce N μ a c) : Stat μ := h.1
theorem CP.aN (h : CP kd ce N μ a c) : a ≤ N := h.2.2.2.2.1
theorem CP.N2 (h : CP kd ce N μ a c) : N ≤ 200 := h.2.2.1
theorem CP.at3 (h : CP kd ce N μ a c) : zI μ 19 3 = nI a := h.2.2.2.2.2.1
theorem CP.tk (h : CP kd ce N μ a c) : zI μ 19 4 = kd a := h.2.2.2.2.2.2.1
theorem CP.len (h : CP kd ce N μ a c) : zI μ 19 2 = nI c := h.2.2.2.2.2.2.2.1
theorem CP.c4 (h : CP kd ce N μ a c) : c ≤ 400 := h.2.2.2.2.2.2.2.2
theorem stM_e (h : CP kd ce N μ a c) (ha : a < N) : stM μ = sI (sI μ 19 3 (nI (a + 1))) 19 4 (kd (a + 1)) := by
  have := h.N2
  unfold stM
  rw [h.at3, nI_1, zI_eq, nI_clamp (by omega), zI_ne (by decide), (h.2.2.2.1 (a + 1) (by omega)).1]
theorem CP.step (h : CP kd ce N μ a c) (ha : a < N) : CP kd ce N (stM μ) (a + 1) c ∧ Fx WP μ (stM μ) ∧ ∀ j, zI (stM μ) 25 j = zI μ 25 j := by
  rw [stM_e h ha]
  obtain ⟨h0, h1, h2, h3, h4, h5, h6, h7, h8⟩ := h
  refine ⟨⟨h0, ?_, h2, fun j hj => ?_, ha, ?_, zI_eq, ?_, h8⟩, (Fx.rfl.wi (Or.inl ⟨rfl, by decide⟩)).wi (Or.inl ⟨rfl, by decide⟩), fun j => by rw [zI_ne (by decide), zI_ne (by decide)]⟩
  · rw [zI_ne (by decide), zI_ne (by decide)]
    exact h1
  · rw [zI_ne (by decide), zI_ne (by decide), zI_ne (by decide), zI_ne (by decide)]
    exact h3 j hj
  · rw [zI_nk (by decide), zI_eq]
  · rw [zI_nk (by decide), zI_nk (by decide)]
    exact h7
theorem wrM_e (h : CP kd ce N μ a c) : wrM μ x = sI (sI μ 25 c x) 19 2 (nI (c + 1)) := by
  have := h.c4
  unfold wrM
  rw [h.len, nI_clamp (by omega), zI_ne (by decide), h.len, nI_1]
theorem CP.wr (h : CP kd ce N μ a c) (hc : c < 400) : CP kd ce N (wrM μ x) a (c + 1) ∧ Fx WP μ (wrM μ x) ∧ zI (wrM μ x) 25 c = x ∧ ∀ j, j < c → zI (wrM μ x) 25 j = zI μ 25 j := by
  rw [wrM_e h]
  obtain ⟨h0, h1, h2, h3, h4, h5, h6, h7, h8⟩ := h
  refine ⟨⟨h0, ?_, h2, fun j hj => ?_, h4, ?_, ?_, zI_eq, by omega⟩, (Fx.rfl.wi (Or.inr rfl)).wi (Or.inl ⟨rfl, by decide⟩), by rw [zI_ne (by decide), zI_eq], fun j hj => by rw [zI_ne (by decide), zI_nk (by omega)]⟩
  · rw [zI_ne (by decide), zI_ne (by decide)]
    exact h1
  · rw [zI_ne (by decide), zI_ne (by decide), zI_ne (by decide), zI_ne (by decide)]
    exact h3 j hj
  · rw [zI_nk (by decide), zI_ne (by decide)]
    exact h5
  · rw [zI_nk (by decide), zI_ne (by decide)]
    exact h6
theorem c_step {A B C : Prop} (h : CP kd ce N μ a c) (ha : a < N) (k : C) : ((zI μ 20 5) ≤ ((zI μ 19 3) + 1) → A) ∧ (¬ (zI μ 20 5) ≤ ((zI μ 19 3) + 1) → (201 ≤ ((zI μ 19 3) + 1) → B) ∧ (¬ 201 ≤ ((zI μ 19 3) + 1) → (vp_in (zI (sI μ 19 3 ((zI μ 19 3) + 1)) 19 3) 201) ∧ C)) := by
  have := h.N2
  rw [h.2.1, h.at3, nI_1, zI_eq]
  refine c_f (by rw [nI_leI (by omega) (by omega)]; omega) (c_f (by rw [show (201 : Int32) = nI 201 from rfl, nI_leI (by decide) (by omega)]; omega) ⟨vp_in_nI (by omega) (by decide), k⟩)
theorem c_write {A C : Prop} (h : CP kd ce N μ a c) (k1 : c = 400 → A) (k2 : c < 400 → C) : (400 ≤ (zI μ 19 2) → A) ∧ (¬ 400 ≤ (zI μ 19 2) → (vp_in (zI μ 19 2) 400) ∧ C) := by
  have := h.c4
  rw [h.len, show (400 : Int32) = nI 400 from rfl, nI_leI (by decide) (by omega)]
  exact ⟨fun z => k1 (by omega), fun z => ⟨vp_in_nI (by omega) (by decide), k2 (by omega)⟩⟩
theorem CD.nil (h : ∀ j, zI μ' 25 j = zI μ 25 j) : CD μ μ' c c [] := ⟨rfl, trivial, fun j _ => h j⟩
theorem CD.app {s t : List Itm} (h : CD μ μ' c c' s) (g : CD μ' μ2 c' c2 t) : CD μ μ2 c c2 (s ++ t) := by
  obtain ⟨h1, h2, h3⟩ := h
  obtain ⟨g1, g2, g3⟩ := g
  refine ⟨by rw [List.length_append]; omega, ?_, fun j hj => (g3 j (by omega)).trans (h3 j hj)⟩
  rw [List.map_append]
  refine lst_app.mpr ⟨lst_cg (fun j q1 q2 => g3 j ?_) h2, ?_⟩
  · rw [List.length_map] at q2
    omega
  · rw [List.length_map, ← h1]
    exact g2
theorem CD.wr {i : Itm} (h : CP kd ce N μ a c) (hc : c < 400) (e : enC i = x) : CD μ (wrM μ x) c (c + 1) [i] := ⟨rfl, ⟨by rw [e]; exact (h.wr hc).2.2.1, trivial⟩, (h.wr hc).2.2.2⟩
theorem CD.st (h : CP kd ce N μ a c) (ha : a < N) : CD μ (stM μ) c c [] := CD.nil (h.step ha).2.2
/-- what a reading owes -/
def CKr (kd ce : Nat → Int32) (N : Nat) (r : PRr) (μ : ZM) (c : Nat) (K : Option Value → ZM → Prop) : Prop := ∀ μ' c', Fx WP μ μ' → CP kd ce N μ' r.2.1 c' → (r.1 = true → CD μ μ' c c' r.2.2) → K (some (.int (if r.1 = true then 1 else 0))) μ'
def CE (E : ZE) (l : Launch) (kd ce : Nat → Int32) (it : Nat → Itm) (N n lv : Nat) (y : MTH) (ar : Nat → List (Option Value)) (rk : Nat) : Prop := ∀ op a d nc ns μ c K, op ≤ 10 → 7 * (10 - op) + rk ≤ d → 10 * (N - a) + lv + 1 ≤ n → c ≤ a → CP kd ce N μ a c → CKr kd ce N (prs kd it n lv op a) μ c K → AW E l d nc ns y 0 (ar op) [] μ K
def CT (E : ZE) (l : Launch) (kd ce : Nat → Int32) (it : Nat → Itm) (N n lv : Nat) (y : MTH) (ar : Nat → Int32 → Nat → List (Option Value)) (rk : Nat) : Prop := ∀ op a i d nc ns μ c K, op ≤ 10 → 7 * (10 - op) + rk ≤ d → 10 * (N - a) + lv + 1 ≤ n → c ≤ a → i ≤ a → CP kd ce N μ a c → CKr kd ce N (prs kd it n lv op a) μ c K → AW E l d nc ns y 8 (ar op 1 i) [] μ K
theorem op2 {c1 c2 B X : Prop} (hb : c1 ∨ c2 → B) (hx : ¬ (c1 ∨ c2) → X) : (c1 → B) ∧ (¬ c1 → (¬ c2 → X) ∧ (c2 → B)) := ⟨fun z => hb (Or.inl z), fun z => ⟨fun y => hx (fun w => w.elim z y), fun y => hb (Or.inr y)⟩⟩
theorem op1 {c B X : Prop} (hb : c → B) (hx : ¬ c → X) : (¬ c → X) ∧ (c → B) := ⟨hx, hb⟩
theorem opC_2 {k : Int32} (h : isOp 2 k = true) : enC (3, opN k) = -k := by
  have h : k = 42 ∨ k = 47 := of_decide_eq_true h
  rcases h with rfl | rfl <;> decide
theorem opC_4 {k : Int32} (h : isOp 4 k = true) : enC (3, opN k) = -k := by
  have h : k = 43 ∨ k = 45 := of_decide_eq_true h
  rcases h with rfl | rfl <;> decide
theorem opC_7 {k : Int32} (h : isOp 7 k = true) : enC (3, opN k) = -2 := by
  have h : k = 6 := of_decide_eq_true h
  rw [h]
  decide
theorem opC_9 {k : Int32} (h : isOp 9 k = true) : enC (3, opN k) = -3 := by
  have h : k = 5 := of_decide_eq_true h
  rw [h]
  decide
theorem prs_s {n lv op a : Nat} : prs kd it (n + 1) lv op a = prS kd it (prs kd it n) lv op a := rfl
def aO (op : Nat) : List (Option Value) := zargs 2 [.ref 19, .int (nI op)]
def aF (op : Nat) : List (Option Value) := zargs 4 [.ref 19, .int (nI op)]
def aV (op : Nat) : List (Option Value) := zargs 5 [.ref 19, .int (nI op)]
def tF (op : Nat) (x : Int32) (i : Nat) : List (Option Value) := [some (.ref 19), some (.int (nI op)), some (.int x), some (.int (nI i))]
def tV (op : Nat) (x : Int32) (i : Nat) : List (Option Value) := [some (.ref 19), some (.int (nI op)), some (.int x), some (.int (nI i)), none]
theorem x_readProduct {op i d nc ns : Nat} (hS : Stat μ) (k : K (some (.int 0)) μ) : AW E l (d + 1) nc ns mX6_readProduct 8 (tV op 0 i) [] μ K := t_X6_readProduct_8 hS ⟨fun _ => ⟨Or.inl rfl, k⟩, fun _ => c_t rfl ⟨Or.inl rfl, k⟩⟩
theorem h_readProduct (hN : ∀ a, a ≤ N → kd a ≠ 23 → a < N) (hit : ∀ a, a < N → kd a = 20 ∨ kd a = 21 → okI many (it a) ∧ (it a).1 ≤ 1) {n : Nat} (hi : CE E l kd ce it N n 0 mX6_readOperand aO 1) (ht : CT E l kd ce it N n 2 mX6_readProduct tV 2) : CE E l kd ce it N (n + 1) 1 mX6_readProduct aV 2 := by
  intro op a d nc ns μ c K h1 h2 h3 h4 h5 h6
  obtain ⟨d, rfl⟩ : ∃ d', d = d' + 1 := ⟨d - 1, by omega⟩
  have e : prs kd it (n + 1) 1 op a = prH (prs kd it n) 1 op a := rfl
  have pp : PP many N 0 a (prs kd it n 0 op a) := prs_ok hN hit n 0 op a h5.aN
  rw [e, prH, show hd1 1 = 0 from rfl] at h6
  refine t_X6_readProduct h5.st (hi op a d 0 0 μ c _ h1 (by omega) (by omega) h4 h5 (fun μ' c' f q g => ⟨_, rfl, q.st, ?_⟩))
  by_cases gd : (prs kd it n 0 op a).1 = true
  · rw [if_pos gd] at h6 ⊢
    obtain ⟨g1, g2, g3⟩ := pp.2.2 gd
    have g1 : a + 1 ≤ (prs kd it n 0 op a).2.1 := g1
    have cc := (g gd).1
    have pN := pp.1
    exact ht op _ 0 (d + 1) nc ns μ' c' K h1 (by omega) (by omega) (by omega) (by omega) q (fun μ2 c2 f2 q2 y2 => h6 μ2 c2 (f.trans f2) q2 (fun z => (g gd).app (y2 z)))
  · rw [if_neg gd] at h6 ⊢
    exact x_readProduct (i := 0) q.st (h6 μ' c' f q (fun z => absurd (show false = true from z) (by decide)))
theorem l_readProduct (hN : ∀ a, a ≤ N → kd a ≠ 23 → a < N) (hit : ∀ a, a < N → kd a = 20 ∨ kd a = 21 → okI many (it a) ∧ (it a).1 ≤ 1) {n : Nat} (hi : CE E l kd ce it N n 0 mX6_readOperand aO 1) (ht : CT E l kd ce it N n 2 mX6_readProduct tV 2) : CT E l kd ce it N (n + 1) 2 mX6_readProduct tV 2 := by
  intro op a i d nc ns μ c K h1 h2 h3 h4 hi5 h5 h6
  obtain ⟨d, rfl⟩ : ∃ d', d = d' + 1 := ⟨d - 1, by omega⟩
  have e : prs kd it (n + 1) 2 op a = prT kd (prs kd it n) 2 op a := rfl
  have n2 := h5.N2
  rw [e, prT, show hd1 (2 - 1) = 0 from rfl] at h6
  by_cases o : isOp 2 (kd a) = true
  · have ha := hN a h5.aN (isOp_ne o)
    have pp : PP many N 0 (a + 1) (prs kd it n 0 op (a + 1)) := prs_ok hN hit n 0 op (a + 1) ha
    obtain ⟨s1, s2, s3⟩ := h5.step ha
    rw [if_pos o] at h6
    refine t_X6_readProduct_8 h5.st (c_f (by rw [show (200 : Int32) = nI 200 from rfl, nI_leI (by decide) (by omega)]; omega) (c_f (by decide) ?_))
    refine op2 (fun z => ?_) (fun z => absurd (by rw [h5.tk]; exact of_decide_eq_true o) z)
    refine c_step h5 ha (hi op (a + 1) d 0 0 (stM μ) c _ h1 (by omega) (by omega) (by omega) s1 (fun μ' c' f q g => ⟨_, rfl, q.st, ?_⟩))
    have cp := pp.2.2
    by_cases gd : (prs kd it n 0 op (a + 1)).1 = true
    · rw [if_pos gd] at h6 ⊢
      obtain ⟨g1, g2, g3⟩ := cp gd
      have g1 : a + 1 + 1 ≤ (prs kd it n 0 op (a + 1)).2.1 := g1
      have cc := (g gd).1
      have pN := pp.1
      refine c_write q (fun z => absurd z (by omega)) (fun z => ?_)
      obtain ⟨w1, w2, w3⟩ := q.wr (x := (-(zI μ 19 4))) z
      rw [nI_1]
      refine ht op _ (i + 1) (d + 1) nc ns (wrM μ' (-(zI μ 19 4))) (c' + 1) K h1 (by omega) (by omega) (by omega) (by omega) w1 (fun μ2 c2 f2 q2 y2 => h6 μ2 c2 (((s2.trans f).trans w2).trans f2) q2 (fun z' => ?_))
      have t1 := (CD.st h5 ha).app (g gd)
      have t2 := t1.app ((CD.wr (i := (3, opN (kd a))) q z (by rw [h5.tk]; exact opC_2 o)).app (y2 z'))
      exact t2
    · rw [if_neg gd] at h6 ⊢
      refine c_write q (fun z => ?_) (fun z => ?_)
      · rw [nI_1]
        exact x_readProduct (i := i + 1) q.st (h6 μ' c' (s2.trans f) q (fun z => absurd (show false = true from z) (by decide)))
      · obtain ⟨w1, w2, w3⟩ := q.wr (x := (-(zI μ 19 4))) z
        rw [nI_1]
        exact x_readProduct (i := i + 1) w1.st (h6 _ (c' + 1) ((s2.trans f).trans w2) w1 (fun z => absurd (show false = true from z) (by decide)))
  · rw [if_neg o] at h6
    have kx : K (some (.int 1)) μ := h6 μ c Fx.rfl h5 (fun _ => CD.nil (fun _ => rfl))
    exact t_X6_readProduct_8 h5.st ⟨fun _ => ⟨Or.inr rfl, kx⟩, fun _ => c_f (by decide) (op2 (fun z => absurd (by rw [h5.tk] at z; exact decide_eq_true z) o) (fun z => ⟨Or.inr rfl, kx⟩))⟩
theorem x_readSum {op i d nc ns : Nat} (hS : Stat μ) (k : K (some (.int 0)) μ) : AW E l (d + 1) nc ns mX6_readSum 8 (tV op 0 i) [] μ K := t_X6_readSum_8 hS ⟨fun _ => ⟨Or.inl rfl, k⟩, fun _ => c_t rfl ⟨Or.inl rfl, k⟩⟩
theorem h_readSum (hN : ∀ a, a ≤ N → kd a ≠ 23 → a < N) (hit : ∀ a, a < N → kd a = 20 ∨ kd a = 21 → okI many (it a) ∧ (it a).1 ≤ 1) {n : Nat} (hi : CE E l kd ce it N n 1 mX6_readProduct aV 2) (ht : CT E l kd ce it N n 4 mX6_readSum tV 3) : CE E l kd ce it N (n + 1) 3 mX6_readSum aV 3 := by
  intro op a d nc ns μ c K h1 h2 h3 h4 h5 h6
  obtain ⟨d, rfl⟩ : ∃ d', d = d' + 1 := ⟨d - 1, by omega⟩
  have e : prs kd it (n + 1) 3 op a = prH (prs kd it n) 3 op a := rfl
  have pp : PP many N 1 a (prs kd it n 1 op a) := prs_ok hN hit n 1 op a h5.aN
  rw [e, prH, show hd1 3 = 1 from rfl] at h6
  refine t_X6_readSum h5.st (hi op a d 0 0 μ c _ h1 (by omega) (by omega) h4 h5 (fun μ' c' f q g => ⟨_, rfl, q.st, ?_⟩))
  by_cases gd : (prs kd it n 1 op a).1 = true
  · rw [if_pos gd] at h6 ⊢
    obtain ⟨g1, g2, g3⟩ := pp.2.2 gd
    have g1 : a + 1 ≤ (prs kd it n 1 op a).2.1 := g1
    have cc := (g gd).1
    have pN := pp.1
    exact ht op _ 0 (d + 1) nc ns μ' c' K h1 (by omega) (by omega) (by omega) (by omega) q (fun μ2 c2 f2 q2 y2 => h6 μ2 c2 (f.trans f2) q2 (fun z => (g gd).app (y2 z)))
  · rw [if_neg gd] at h6 ⊢
    exact x_readSum (i := 0) q.st (h6 μ' c' f q (fun z => absurd (show false = true from z) (by decide)))
theorem l_readSum (hN : ∀ a, a ≤ N → kd a ≠ 23 → a < N) (hit : ∀ a, a < N → kd a = 20 ∨ kd a = 21 → okI many (it a) ∧ (it a).1 ≤ 1) {n : Nat} (hi : CE E l kd ce it N n 1 mX6_readProduct aV 2) (ht : CT E l kd ce it N n 4 mX6_readSum tV 3) : CT E l kd ce it N (n + 1) 4 mX6_readSum tV 3 := by
  intro op a i d nc ns μ c K h1 h2 h3 h4 hi5 h5 h6
  obtain ⟨d, rfl⟩ : ∃ d', d = d' + 1 := ⟨d - 1, by omega⟩
  have e : prs kd it (n + 1) 4 op a = prT kd (prs kd it n) 4 op a := rfl
  have n2 := h5.N2
  rw [e, prT, show hd1 (4 - 1) = 1 from rfl] at h6
  by_cases o : isOp 4 (kd a) = true
  · have ha := hN a h5.aN (isOp_ne o)
    have pp : PP many N 1 (a + 1) (prs kd it n 1 op (a + 1)) := prs_ok hN hit n 1 op (a + 1) ha
    obtain ⟨s1, s2, s3⟩ := h5.step ha
    rw [if_pos o] at h6
    refine t_X6_readSum_8 h5.st (c_f (by rw [show (200 : Int32) = nI 200 from rfl, nI_leI (by decide) (by omega)]; omega) (c_f (by decide) ?_))
    refine op2 (fun z => ?_) (fun z => absurd (by rw [h5.tk]; exact of_decide_eq_true o) z)
    refine c_step h5 ha (hi op (a + 1) d 0 0 (stM μ) c _ h1 (by omega) (by omega) (by omega) s1 (fun μ' c' f q g => ⟨_, rfl, q.st, ?_⟩))
    have cp := pp.2.2
    by_cases gd : (prs kd it n 1 op (a + 1)).1 = true
    · rw [if_pos gd] at h6 ⊢
      obtain ⟨g1, g2, g3⟩ := cp gd
      have g1 : a + 1 + 1 ≤ (prs kd it n 1 op (a + 1)).2.1 := g1
      have cc := (g gd).1
      have pN := pp.1
      refine c_write q (fun z => absurd z (by omega)) (fun z => ?_)
      obtain ⟨w1, w2, w3⟩ := q.wr (x := (-(zI μ 19 4))) z
      rw [nI_1]
      refine ht op _ (i + 1) (d + 1) nc ns (wrM μ' (-(zI μ 19 4))) (c' + 1) K h1 (by omega) (by omega) (by omega) (by omega) w1 (fun μ2 c2 f2 q2 y2 => h6 μ2 c2 (((s2.trans f).trans w2).trans f2) q2 (fun z' => ?_))
      have t1 := (CD.st h5 ha).app (g gd)
      have t2 := t1.app ((CD.wr (i := (3, opN (kd a))) q z (by rw [h5.tk]; exact opC_4 o)).app (y2 z'))
      exact t2
    · rw [if_neg gd] at h6 ⊢
      refine c_write q (fun z => ?_) (fun z => ?_)
      · rw [nI_1]
        exact x_readSum (i := i + 1) q.st (h6 μ' c' (s2.trans f) q (fun z => absurd (show false = true from z) (by decide)))
      · obtain ⟨w1, w2, w3⟩ := q.wr (x := (-(zI μ 19 4))) z
        rw [nI_1]
        exact x_readSum (i := i + 1) w1.st (h6 _ (c' + 1) ((s2.trans f).trans w2) w1 (fun z => absurd (show false = true from z) (by decide)))
  · rw [if_neg o] at h6
    have kx : K (some (.int 1)) μ := h6 μ c Fx.rfl h5 (fun _ => CD.nil (fun _ => rfl))
    exact t_X6_readSum_8 h5.st ⟨fun _ => ⟨Or.inr rfl, kx⟩, fun _ => c_f (by decide) (op2 (fun z => absurd (by rw [h5.tk] at z; exact decide_eq_true z) o) (fun z => ⟨Or.inr rfl, kx⟩))⟩
theorem x_readAll {op i d nc ns : Nat} (hS : Stat μ) (k : K (some (.int 0)) μ) : AW E l (d + 1) nc ns mX6_readAll 8 (tF op 0 i) [] μ K := t_X6_readAll_8 hS ⟨fun _ => ⟨Or.inl rfl, k⟩, fun _ => c_t rfl ⟨Or.inl rfl, k⟩⟩
theorem h_readAll (hN : ∀ a, a ≤ N → kd a ≠ 23 → a < N) (hit : ∀ a, a < N → kd a = 20 ∨ kd a = 21 → okI many (it a) ∧ (it a).1 ≤ 1) {n : Nat} (hi : CE E l kd ce it N n 5 mX6_readTest aF 4) (ht : CT E l kd ce it N n 7 mX6_readAll tF 5) : CE E l kd ce it N (n + 1) 6 mX6_readAll aF 5 := by
  intro op a d nc ns μ c K h1 h2 h3 h4 h5 h6
  obtain ⟨d, rfl⟩ : ∃ d', d = d' + 1 := ⟨d - 1, by omega⟩
  have e : prs kd it (n + 1) 6 op a = prH (prs kd it n) 6 op a := rfl
  have pp : PP many N 5 a (prs kd it n 5 op a) := prs_ok hN hit n 5 op a h5.aN
  rw [e, prH, show hd1 6 = 5 from rfl] at h6
  refine t_X6_readAll h5.st (hi op a d 0 0 μ c _ h1 (by omega) (by omega) h4 h5 (fun μ' c' f q g => ⟨_, rfl, q.st, ?_⟩))
  by_cases gd : (prs kd it n 5 op a).1 = true
  · rw [if_pos gd] at h6 ⊢
    obtain ⟨g1, g2, g3⟩ := pp.2.2 gd
    have g1 : a + 1 ≤ (prs kd it n 5 op a).2.1 := g1
    have cc := (g gd).1
    have pN := pp.1
    exact ht op _ 0 (d + 1) nc ns μ' c' K h1 (by omega) (by omega) (by omega) (by omega) q (fun μ2 c2 f2 q2 y2 => h6 μ2 c2 (f.trans f2) q2 (fun z => (g gd).app (y2 z)))
  · rw [if_neg gd] at h6 ⊢
    exact x_readAll (i := 0) q.st (h6 μ' c' f q (fun z => absurd (show false = true from z) (by decide)))
theorem l_readAll (hN : ∀ a, a ≤ N → kd a ≠ 23 → a < N) (hit : ∀ a, a < N → kd a = 20 ∨ kd a = 21 → okI many (it a) ∧ (it a).1 ≤ 1) {n : Nat} (hi : CE E l kd ce it N n 5 mX6_readTest aF 4) (ht : CT E l kd ce it N n 7 mX6_readAll tF 5) : CT E l kd ce it N (n + 1) 7 mX6_readAll tF 5 := by
  intro op a i d nc ns μ c K h1 h2 h3 h4 hi5 h5 h6
  obtain ⟨d, rfl⟩ : ∃ d', d = d' + 1 := ⟨d - 1, by omega⟩
  have e : prs kd it (n + 1) 7 op a = prT kd (prs kd it n) 7 op a := rfl
  have n2 := h5.N2
  rw [e, prT, show hd1 (7 - 1) = 5 from rfl] at h6
  by_cases o : isOp 7 (kd a) = true
  · have ha := hN a h5.aN (isOp_ne o)
    have pp : PP many N 5 (a + 1) (prs kd it n 5 op (a + 1)) := prs_ok hN hit n 5 op (a + 1) ha
    obtain ⟨s1, s2, s3⟩ := h5.step ha
    rw [if_pos o] at h6
    refine t_X6_readAll_8 h5.st (c_f (by rw [show (200 : Int32) = nI 200 from rfl, nI_leI (by decide) (by omega)]; omega) (c_f (by decide) ?_))
    refine op1 (fun z => ?_) (fun z => absurd (by rw [h5.tk]; exact of_decide_eq_true o) z)
    refine c_step h5 ha (hi op (a + 1) d 0 0 (stM μ) c _ h1 (by omega) (by omega) (by omega) s1 (fun μ' c' f q g => ⟨_, rfl, q.st, ?_⟩))
    have cp := pp.2.2
    by_cases gd : (prs kd it n 5 op (a + 1)).1 = true
    · rw [if_pos gd] at h6 ⊢
      obtain ⟨g1, g2, g3⟩ := cp gd
      have g1 : a + 1 + 1 ≤ (prs kd it n 5 op (a + 1)).2.1 := g1
      have cc := (g gd).1
      have pN := pp.1
      refine c_write q (fun z => absurd z (by omega)) (fun z => ?_)
      obtain ⟨w1, w2, w3⟩ := q.wr (x := (-2)) z
      rw [nI_1]
      refine ht op _ (i + 1) (d + 1) nc ns (wrM μ' (-2)) (c' + 1) K h1 (by omega) (by omega) (by omega) (by omega) w1 (fun μ2 c2 f2 q2 y2 => h6 μ2 c2 (((s2.trans f).trans w2).trans f2) q2 (fun z' => ?_))
      have t1 := (CD.st h5 ha).app (g gd)
      have t2 := t1.app ((CD.wr (i := (3, opN (kd a))) q z (opC_7 o)).app (y2 z'))
      exact t2
    · rw [if_neg gd] at h6 ⊢
      refine c_write q (fun z => ?_) (fun z => ?_)
      · rw [nI_1]
        exact x_readAll (i := i + 1) q.st (h6 μ' c' (s2.trans f) q (fun z => absurd (show false = true from z) (by decide)))
      · obtain ⟨w1, w2, w3⟩ := q.wr (x := (-2)) z
        rw [nI_1]
        exact x_readAll (i := i + 1) w1.st (h6 _ (c' + 1) ((s2.trans f).trans w2) w1 (fun z => absurd (show false = true from z) (by decide)))
  · rw [if_neg o] at h6
    have kx : K (some (.int 1)) μ := h6 μ c Fx.rfl h5 (fun _ => CD.nil (fun _ => rfl))
    exact t_X6_readAll_8 h5.st ⟨fun _ => ⟨Or.inr rfl, kx⟩, fun _ => c_f (by decide) (op1 (fun z => absurd (by rw [h5.tk] at z; exact decide_eq_true z) o) (fun z => ⟨Or.inr rfl, kx⟩))⟩
theorem x_readAny {op i d nc ns : Nat} (hS : Stat μ) (k : K (some (.int 0)) μ) : AW E l (d + 1) nc ns mX6_readAny 8 (tF op 0 i) [] μ K := t_X6_readAny_8 hS ⟨fun _ => ⟨Or.inl rfl, k⟩, fun _ => c_t rfl ⟨Or.inl rfl, k⟩⟩
theorem h_readAny (hN : ∀ a, a ≤ N → kd a ≠ 23 → a < N) (hit : ∀ a, a < N → kd a = 20 ∨ kd a = 21 → okI many (it a) ∧ (it a).1 ≤ 1) {n : Nat} (hi : CE E l kd ce it N n 6 mX6_readAll aF 5) (ht : CT E l kd ce it N n 9 mX6_readAny tF 6) : CE E l kd ce it N (n + 1) 8 mX6_readAny aF 6 := by
  intro op a d nc ns μ c K h1 h2 h3 h4 h5 h6
  obtain ⟨d, rfl⟩ : ∃ d', d = d' + 1 := ⟨d - 1, by omega⟩
  have e : prs kd it (n + 1) 8 op a = prH (prs kd it n) 8 op a := rfl
  have pp : PP many N 6 a (prs kd it n 6 op a) := prs_ok hN hit n 6 op a h5.aN
  rw [e, prH, show hd1 8 = 6 from rfl] at h6
  refine t_X6_readAny h5.st (hi op a d 0 0 μ c _ h1 (by omega) (by omega) h4 h5 (fun μ' c' f q g => ⟨_, rfl, q.st, ?_⟩))
  by_cases gd : (prs kd it n 6 op a).1 = true
  · rw [if_pos gd] at h6 ⊢
    obtain ⟨g1, g2, g3⟩ := pp.2.2 gd
    have g1 : a + 1 ≤ (prs kd it n 6 op a).2.1 := g1
    have cc := (g gd).1
    have pN := pp.1
    exact ht op _ 0 (d + 1) nc ns μ' c' K h1 (by omega) (by omega) (by omega) (by omega) q (fun μ2 c2 f2 q2 y2 => h6 μ2 c2 (f.trans f2) q2 (fun z => (g gd).app (y2 z)))
  · rw [if_neg gd] at h6 ⊢
    exact x_readAny (i := 0) q.st (h6 μ' c' f q (fun z => absurd (show false = true from z) (by decide)))
theorem l_readAny (hN : ∀ a, a ≤ N → kd a ≠ 23 → a < N) (hit : ∀ a, a < N → kd a = 20 ∨ kd a = 21 → okI many (it a) ∧ (it a).1 ≤ 1) {n : Nat} (hi : CE E l kd ce it N n 6 mX6_readAll aF 5) (ht : CT E l kd ce it N n 9 mX6_readAny tF 6) : CT E l kd ce it N (n + 1) 9 mX6_readAny tF 6 := by
  intro op a i d nc ns μ c K h1 h2 h3 h4 hi5 h5 h6
  obtain ⟨d, rfl⟩ : ∃ d', d = d' + 1 := ⟨d - 1, by omega⟩
  have e : prs kd it (n + 1) 9 op a = prT kd (prs kd it n) 9 op a := rfl
  have n2 := h5.N2
  rw [e, prT, show hd1 (9 - 1) = 6 from rfl] at h6
  by_cases o : isOp 9 (kd a) = true
  · have ha := hN a h5.aN (isOp_ne o)
    have pp : PP many N 6 (a + 1) (prs kd it n 6 op (a + 1)) := prs_ok hN hit n 6 op (a + 1) ha
    obtain ⟨s1, s2, s3⟩ := h5.step ha
    rw [if_pos o] at h6
    refine t_X6_readAny_8 h5.st (c_f (by rw [show (200 : Int32) = nI 200 from rfl, nI_leI (by decide) (by omega)]; omega) (c_f (by decide) ?_))
    refine op1 (fun z => ?_) (fun z => absurd (by rw [h5.tk]; exact of_decide_eq_true o) z)
    refine c_step h5 ha (hi op (a + 1) d 0 0 (stM μ) c _ h1 (by omega) (by omega) (by omega) s1 (fun μ' c' f q g => ⟨_, rfl, q.st, ?_⟩))
    have cp := pp.2.2
    by_cases gd : (prs kd it n 6 op (a + 1)).1 = true
    · rw [if_pos gd] at h6 ⊢
      obtain ⟨g1, g2, g3⟩ := cp gd
      have g1 : a + 1 + 1 ≤ (prs kd it n 6 op (a + 1)).2.1 := g1
      have cc := (g gd).1
      have pN := pp.1
      refine c_write q (fun z => absurd z (by omega)) (fun z => ?_)
      obtain ⟨w1, w2, w3⟩ := q.wr (x := (-3)) z
      rw [nI_1]
      refine ht op _ (i + 1) (d + 1) nc ns (wrM μ' (-3)) (c' + 1) K h1 (by omega) (by omega) (by omega) (by omega) w1 (fun μ2 c2 f2 q2 y2 => h6 μ2 c2 (((s2.trans f).trans w2).trans f2) q2 (fun z' => ?_))
      have t1 := (CD.st h5 ha).app (g gd)
      have t2 := t1.app ((CD.wr (i := (3, opN (kd a))) q z (opC_9 o)).app (y2 z'))
      exact t2
    · rw [if_neg gd] at h6 ⊢
      refine c_write q (fun z => ?_) (fun z => ?_)
      · rw [nI_1]
        exact x_readAny (i := i + 1) q.st (h6 μ' c' (s2.trans f) q (fun z => absurd (show false = true from z) (by decide)))
      · obtain ⟨w1, w2, w3⟩ := q.wr (x := (-3)) z
        rw [nI_1]
        exact x_readAny (i := i + 1) w1.st (h6 _ (c' + 1) ((s2.trans f).trans w2) w1 (fun z => absurd (show false = true from z) (by decide)))
  · rw [if_neg o] at h6
    have kx : K (some (.int 1)) μ := h6 μ c Fx.rfl h5 (fun _ => CD.nil (fun _ => rfl))
    exact t_X6_readAny_8 h5.st ⟨fun _ => ⟨Or.inr rfl, kx⟩, fun _ => c_f (by decide) (op1 (fun z => absurd (by rw [h5.tk] at z; exact decide_eq_true z) o) (fun z => ⟨Or.inr rfl, kx⟩))⟩
theorem h_readOperand (hN : ∀ a, a ≤ N → kd a ≠ 23 → a < N) (hit : ∀ a, a < N → kd a = 20 ∨ kd a = 21 → okI many (it a) ∧ (it a).1 ≤ 1) (hce : ∀ a, a < N → kd a = 20 ∨ kd a = 21 → enC (it a) = ce a) {n : Nat} (hi : CE E l kd ce it N n 8 mX6_readAny aF 6) : CE E l kd ce it N (n + 1) 0 mX6_readOperand aO 1 := by
  intro op a d nc ns μ c K h1 h2 h3 h4 h5 h6
  obtain ⟨d, rfl⟩ : ∃ d', d = d' + 1 := ⟨d - 1, by omega⟩
  have e : prs kd it (n + 1) 0 op a = pr0 kd it (prs kd it n) op a := rfl
  have n2 := h5.N2
  rw [e, pr0] at h6
  have num : kd a = 20 ∨ kd a = 21 → AW E l (d + 1) nc ns mX6_readOperand 18 [some (.ref 19), none] [] μ K := by
    intro z
    rw [if_pos z] at h6
    have ha := hN a h5.aN (by rcases z with z | z <;> rw [z] <;> decide)
    refine t_X6_readOperand_18 h5.st ?_
    rw [h5.at3]
    refine c_f (by rw [show (201 : Int32) = nI 201 from rfl, nI_leI (by decide) (by omega)]; omega) ⟨vp_in_nI (by omega) (by decide), ?_⟩
    rw [nI_clamp (by omega), (h5.2.2.2.1 a h5.aN).2]
    refine t_X6_readOperand_50 h5.st (c_write h5 (fun z => absurd z (by omega)) (fun z' => ?_))
    obtain ⟨w1, w2, w3⟩ := h5.wr (x := ce a) z'
    obtain ⟨s1, s2, s3⟩ := w1.step ha
    refine c_step w1 ha (fun μ9 e9 => ?_)
    have e9 : μ9 = stM (wrM μ (ce a)) := e9
    rw [e9]
    have := h6 _ (c + 1) (w2.trans s2) s1 (fun _ => (CD.wr h5 z' (hce a ha z)).app (CD.st w1 ha))
    exact this
  refine t_X6_readOperand h5.st ?_
  rw [h5.tk]
  refine ⟨fun z => num (Or.inl z), fun z => ⟨fun z2 => ⟨fun z3 => ?_, fun z3 => ⟨fun z4 => ?_, fun z4 => ?_⟩⟩, fun z2 => num (Or.inr z2)⟩⟩
  · rw [if_neg (fun y => y.elim z z2), if_neg (fun y => z3 y.1)] at h6
    exact h6 μ c Fx.rfl h5 (fun z => absurd (show false = true from z) (by decide))
  · rw [show (10 : Int32) = nI 10 from rfl, nI_ltI (by omega) (by decide)] at z4
    rw [if_neg (fun y => y.elim z z2), if_pos ⟨z3, z4⟩] at h6
    have ha := hN a h5.aN (by rw [z3]; decide)
    obtain ⟨s1, s2, s3⟩ := h5.step ha
    rw [nI_1]
    refine c_step h5 ha (hi (op + 1) (a + 1) d 0 0 (stM μ) c _ (by omega) (by omega) (by omega) (by omega) s1 (fun μ' c' f q g => ⟨_, rfl, q.st, ?_⟩))
    by_cases gd : (prs kd it n 8 (op + 1) (a + 1)).1 = true
    · rw [if_pos gd]
      refine c_f (by decide) ?_
      rw [q.tk]
      refine ⟨fun y => ?_, fun y => ?_⟩
      · rw [if_pos ⟨gd, y⟩] at h6
        have hb := hN _ q.aN (by rw [y]; decide)
        obtain ⟨t1, t2, t3⟩ := q.step hb
        refine c_step q hb ?_
        exact h6 _ c' ((s2.trans f).trans t2) t1 (fun _ => by
          have := ((CD.st h5 ha).app (g gd)).app (CD.st q hb)
          rw [List.append_nil] at this
          exact this)
      · rw [if_neg (fun w => y w.2)] at h6
        exact h6 μ' c' (s2.trans f) q (fun z => absurd (show false = true from z) (by decide))
    · rw [if_neg gd]
      rw [if_neg (fun w => gd w.1)] at h6
      exact c_t rfl (h6 μ' c' (s2.trans f) q (fun z => absurd (show false = true from z) (by decide)))
  · rw [show (10 : Int32) = nI 10 from rfl, nI_ltI (by omega) (by decide)] at z4
    rw [if_neg (fun y => y.elim z z2), if_neg (fun y => z4 y.2)] at h6
    exact h6 μ c Fx.rfl h5 (fun z => absurd (show false = true from z) (by decide))
theorem b01 {p : Prop} {_ : Decidable p} : (if p then (1 : Int32) else 0) = 0 ∨ (if p then (1 : Int32) else 0) = 1 := by
  split
  · exact Or.inr rfl
  · exact Or.inl rfl
theorem h_readTest (hN : ∀ a, a ≤ N → kd a ≠ 23 → a < N) (hit : ∀ a, a < N → kd a = 20 ∨ kd a = 21 → okI many (it a) ∧ (it a).1 ≤ 1) {n : Nat} (hi : CE E l kd ce it N n 3 mX6_readSum aV 3) (ht : CE E l kd ce it N n 5 mX6_readTest aF 4) : CE E l kd ce it N (n + 1) 5 mX6_readTest aF 4 := by
  intro op a d nc ns μ c K h1 h2 h3 h4 h5 h6
  obtain ⟨d, rfl⟩ : ∃ d', d = d' + 2 := ⟨d - 2, by omega⟩
  have e : prs kd it (n + 1) 5 op a = pr5 kd (prs kd it n) op a := rfl
  have n2 := h5.N2
  rw [e, pr5] at h6
  refine t_X6_readTest h5.st ?_
  rw [h5.tk]
  refine ⟨fun z => ?_, fun z => ?_⟩
  · rw [if_neg z] at h6
    have pp : PP many N 3 a (prs kd it n 3 op a) := prs_ok hN hit n 3 op a h5.aN
    refine hi op a (d + 1) 0 0 μ c _ h1 (by omega) (by omega) h4 h5 (fun μ' c' f q g => ⟨_, rfl, q.st, ?_⟩)
    by_cases gd : (prs kd it n 3 op a).1 = true
    · obtain ⟨g1, g2, g3⟩ := pp.2.2 gd
      have g1 : a + 1 ≤ (prs kd it n 3 op a).2.1 := g1
      have cc := (g gd).1
      have go : (kd (prs kd it n 3 op a).2.1 = 60 ∨ kd (prs kd it n 3 op a).2.1 = 61 ∨ kd (prs kd it n 3 op a).2.1 = 62) → AW E l (d + 2) nc ns mX6_readTest 52 [some (.ref 19), some (.int (nI op)), none, none] [] μ' K := by
        intro y
        rw [if_pos ⟨gd, y⟩] at h6
        have hb := hN _ q.aN (by rcases y with y | y | y <;> rw [y] <;> decide)
        have eo : enC (3, opN (kd (prs kd it n 3 op a).2.1)) = -(zI μ' 19 4) := by
          rw [q.tk]
          rcases y with y | y | y <;> rw [y] <;> decide
        have pp2 : PP many N 3 _ (prs kd it n 3 op ((prs kd it n 3 op a).2.1 + 1)) := prs_ok hN hit n 3 op _ hb
        obtain ⟨s1, s2, s3⟩ := q.step hb
        refine t_X6_readTest_52 q.st (c_step q hb (hi op _ (d + 1) 0 0 (stM μ') c' _ h1 (by omega) (by omega) (by omega) s1 (fun μ2 c2 f2 q2 y2 => ⟨_, rfl, q2.st, c_write q2 (fun z' => ⟨b01, ?_⟩) (fun z' => ⟨b01, ?_⟩)⟩)))
        · refine h6 μ2 c2 ((f.trans s2).trans f2) q2 (fun gg => ?_)
          have := (y2 gg).1
          have := (pp2.2.2 gg).2.1
          have := pp2.1
          omega
        · obtain ⟨w1, w2, w3⟩ := q2.wr (x := -(zI μ' 19 4)) z'
          refine h6 _ (c2 + 1) (((f.trans s2).trans f2).trans w2) w1 (fun gg => ?_)
          have t1 := (g gd).app ((CD.st q hb).app ((y2 gg).app (CD.wr q2 z' eo)))
          exact t1
      rw [if_pos gd]
      rw [q.tk]
      refine c_f (by decide) ⟨fun y => go (Or.inl y), fun y => ⟨fun y2 => go (Or.inr (Or.inl y2)), fun y2 => ⟨fun y3 => ⟨Or.inr rfl, ?_⟩, fun y3 => go (Or.inr (Or.inr y3))⟩⟩⟩
      rw [if_neg (fun w => w.2.elim y (fun w => w.elim y2 y3))] at h6
      have := h6 μ' c' f q g
      rw [if_pos gd] at this
      exact this
    · rw [if_neg (fun w => gd w.1)] at h6
      rw [if_neg gd]
      refine c_t rfl ⟨Or.inl rfl, ?_⟩
      have := h6 μ' c' f q g
      rw [if_neg gd] at this
      exact this
  · rw [if_pos z] at h6
    have ha := hN a h5.aN (by rw [z]; decide)
    obtain ⟨s1, s2, s3⟩ := h5.step ha
    refine t_X6_readNot h5.st ?_
    rw [show (10 : Int32) = nI 10 from rfl, nI_ltI (by omega) (by decide)]
    refine ⟨fun z4 => ?_, fun z4 => ?_⟩
    · rw [if_pos z4] at h6
      have pp : PP many N 5 (a + 1) (prs kd it n 5 (op + 1) (a + 1)) := prs_ok hN hit n 5 (op + 1) (a + 1) ha
      rw [nI_1]
      refine c_step h5 ha (ht (op + 1) (a + 1) d 0 0 (stM μ) c _ (by omega) (by omega) (by omega) (by omega) s1 (fun μ2 c2 f2 q2 y2 => ⟨_, rfl, q2.st, c_write q2 (fun z' => ⟨b01, _, rfl, q2.st, b01, ?_⟩) (fun z' => ⟨b01, _, rfl, ?_, b01, ?_⟩)⟩))
      · refine h6 μ2 c2 (s2.trans f2) q2 (fun gg => ?_)
        have := (y2 gg).1
        have := (pp.2.2 gg).2.1
        have := pp.1
        omega
      · exact q2.st
      · obtain ⟨w1, w2, w3⟩ := q2.wr (x := -1) z'
        refine h6 _ (c2 + 1) ((s2.trans f2).trans w2) w1 (fun gg => ?_)
        have t1 := (CD.st h5 ha).app ((y2 gg).app (CD.wr (i := (2, 0)) (x := -1) q2 z' (by decide)))
        exact t1
    · rw [if_neg z4] at h6
      exact ⟨_, rfl, h5.st, Or.inl rfl, h6 μ c Fx.rfl h5 (fun z => absurd (show false = true from z) (by decide))⟩
def CA (E : ZE) (l : Launch) (kd ce : Nat → Int32) (it : Nat → Itm) (N n : Nat) : Prop := CE E l kd ce it N n 0 mX6_readOperand aO 1 ∧ CE E l kd ce it N n 1 mX6_readProduct aV 2 ∧ CT E l kd ce it N n 2 mX6_readProduct tV 2 ∧ CE E l kd ce it N n 3 mX6_readSum aV 3 ∧ CT E l kd ce it N n 4 mX6_readSum tV 3 ∧ CE E l kd ce it N n 5 mX6_readTest aF 4 ∧ CE E l kd ce it N n 6 mX6_readAll aF 5 ∧ CT E l kd ce it N n 7 mX6_readAll tF 5 ∧ CE E l kd ce it N n 8 mX6_readAny aF 6 ∧ CT E l kd ce it N n 9 mX6_readAny tF 6
theorem c_rd (hN : ∀ a, a ≤ N → kd a ≠ 23 → a < N) (hit : ∀ a, a < N → kd a = 20 ∨ kd a = 21 → okI many (it a) ∧ (it a).1 ≤ 1) (hce : ∀ a, a < N → kd a = 20 ∨ kd a = 21 → enC (it a) = ce a) : ∀ n, CA E l kd ce it N n := by
  intro n
  induction n with
  | zero => refine ⟨?_, ?_, ?_, ?_, ?_, ?_, ?_, ?_, ?_, ?_⟩ <;> (intro _ _; intros; omega)
  | succ n ih =>
    obtain ⟨i0, i1, i2, i3, i4, i5, i6, i7, i8, i9⟩ := ih
    exact ⟨h_readOperand hN hit hce i8, h_readProduct hN hit i0 i2, l_readProduct hN hit i0 i2, h_readSum hN hit i1 i4, l_readSum hN hit i1 i4, h_readTest hN hit i3 i5, h_readAll hN hit i5 i7, l_readAll hN hit i5 i7, h_readAny hN hit i6 i9, l_readAny hN hit i6 i9⟩
end RdC
