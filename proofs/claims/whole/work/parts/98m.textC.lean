/-! the desk's texts -/
section TxC
variable {E : ZE} {l : Launch} {kd ce : Nat → Int32} {it : Nat → Itm} {N many F : Nat} {μ μ' μ2 : ZM} {a c c' c2 d nc ns : Nat} {x y : Int32} {K : Option Value → ZM → Prop}
theorem c_step2 {A B : Prop} {C : ZM → Prop} (h : CP kd ce N μ a c) (ha : a < N) (k : C (sI μ 19 3 ((zI μ 19 3) + 1))) : ((zI μ 20 5) ≤ ((zI μ 19 3) + 1) → A) ∧ (¬ (zI μ 20 5) ≤ ((zI μ 19 3) + 1) → (201 ≤ ((zI μ 19 3) + 1) → B) ∧ (¬ 201 ≤ ((zI μ 19 3) + 1) → ∀ m, m = (sI μ 19 3 ((zI μ 19 3) + 1)) → (vp_in (zI m 19 3) 201) ∧ C m)) := by
  obtain ⟨t1, t2⟩ := c_step (A := A) (B := B) (C := C (sI μ 19 3 ((zI μ 19 3) + 1))) h ha k
  refine ⟨t1, fun z => ⟨(t2 z).1, fun z2 m e => ?_⟩⟩
  rw [e]
  exact (t2 z).2 z2
theorem CP.w25 (h : CP kd ce N μ a c) {j : Nat} : CP kd ce N (sI μ 25 j x) a c := by
  obtain ⟨h0, h1, h2, h3, h4, h5, h6, h7, h8⟩ := h
  refine ⟨h0, ?_, h2, fun j hj => ?_, h4, ?_, ?_, ?_, h8⟩
  · rw [zI_ne (by decide)]
    exact h1
  · rw [zI_ne (by decide), zI_ne (by decide)]
    exact h3 j hj
  · rw [zI_ne (by decide)]
    exact h5
  · rw [zI_ne (by decide)]
    exact h6
  · rw [zI_ne (by decide)]
    exact h7
theorem CX.mid {s t : List Int32} (h : CX μ μ' c c' (s ++ (x :: t))) : CX μ (sI μ' 25 (c + s.length) y) c c' (s ++ (y :: t)) := by
  obtain ⟨h1, h2, h3⟩ := h
  rw [List.length_append, List.length_cons] at h1
  obtain ⟨l1, l2, l3⟩ := lst_app.mp h2
  refine ⟨by rw [List.length_append, List.length_cons]; exact h1, lst_app.mpr ⟨lst_cg (fun j q1 q2 => zI_nk (by omega)) l1, zI_eq, lst_cg (fun j q1 q2 => zI_nk (by omega)) l3⟩, fun j hj => (zI_nk (by omega)).trans (h3 j hj)⟩
theorem c_rule (hN : ∀ a, a ≤ N → kd a ≠ 23 → a < N) (hit : ∀ a, a < N → kd a = 20 ∨ kd a = 21 → okI 12 (it a) ∧ (it a).1 ≤ 1) (hce : ∀ a, a < N → kd a = 20 ∨ kd a = 21 → enC (it a) = ce a) (hk : ∀ a, kd a ≤ 4 → ∃ o, o < 5 ∧ kd a = nI o) (hF : 2100 ≤ F) (hd : 76 ≤ d + 2) (h5 : CP kd ce N μ a c) (hc : c ≤ a) (k : ∀ μ' c', Fx WP μ μ' → CP kd ce N μ' (rlR kd it F a).2.1 c' → ((rlR kd it F a).1 = true → CX μ μ' c c' (tcR c (rlR kd it F a).2.2)) → K (some (.int (if (rlR kd it F a).1 = true then 1 else 0))) μ') : AW E l (d + 3) nc ns mX6_readRule 0 (zargs 2 [.ref 19]) [] μ K := by
  have n2 := h5.N2
  have aN := h5.aN
  refine t_X6_readRule h5.st ?_
  rw [h5.tk]
  unfold rlR at k
  by_cases z : kd a ≤ 4
  · rw [if_pos z] at k
    refine c_f (by rw [Int32.not_lt]; exact z) (c_out hN hit hce hk hF (by omega) h5 hc (fun μ2 c2 f2 q2 y2 => ⟨_, rfl, q2.st, b01, k μ2 c2 f2 q2 (fun gd => ?_)⟩))
    exact y2 gd
  · rw [if_neg z] at k
    refine c_t (Int32.not_le.mp z) ((c_rd hN hit hce F).2.2.2.2.2.2.2.2.1 0 a (d + 2) 0 0 μ c _ (by omega) (by omega) (by omega) hc h5 (fun μ1 c1 f1 q1 y1 => ⟨_, rfl, q1.st, ?_⟩))
    have pp : PP 12 N 8 a (prs kd it F 8 0 a) := prs_ok hN hit F 8 0 a aN
    by_cases gd : (prs kd it F 8 0 a).1 = true
    · rw [if_pos gd]
      obtain ⟨p1, p2, p3⟩ := pp.2.2 gd
      have pN := pp.1
      have e1 := (y1 gd).1
      refine c_f (by decide) ?_
      rw [q1.tk]
      refine ⟨fun c58 => ?_, fun c58 => ?_⟩
      · rw [if_pos ⟨gd, c58⟩] at k
        have hb := hN _ q1.aN (by rw [c58]; decide)
        refine c_write q1 (fun y => absurd y (by omega)) (fun y => ?_)
        obtain ⟨w1, w2, w3⟩ := q1.wr (x := -1000) y
        obtain ⟨s1, s2, s3⟩ := w1.step hb
        refine c_step2 w1 hb ?_
        refine c_out (μ := stM (wrM μ1 (-1000))) hN hit hce hk hF (by omega) s1 (by omega) (fun μ3 c3 f3 q3 y3 => ⟨_, rfl, q3.st, ?_⟩)
        by_cases gd3 : (rlO kd it F ((prs kd it F 8 0 a).2.1 + 1)).1 = true
        · rw [if_pos gd3]
          refine op1 (fun y => absurd y (by decide)) (fun _ => c_write q1 (fun y => absurd y (by omega)) (fun _ => ?_))
          have t1 := (y1 gd).cx.app ((CX.wr (x := -1000) q1 y).app ((CX.st w1 hb).app (y3 gd3)))
          have t2 : CX μ μ3 c c3 ((prs kd it F 8 0 a).2.2.map enC ++ (-1000 :: ((rlO kd it F ((prs kd it F 8 0 a).2.1 + 1)).2.2.2.map enC ++ [-500 - nI (rlO kd it F ((prs kd it F 8 0 a).2.1 + 1)).2.2.1]))) := t1
          have e3 := t2.1
          rw [List.length_append, List.length_cons, List.length_append, List.length_map, List.length_map, List.length_cons, List.length_nil] at e3
          rw [q1.len, nI_clamp (by omega), q3.len]
          have t3 := t2.mid (y := -1000 - nI c3)
          rw [List.length_map, ← e1] at t3
          have := k (sI μ3 25 c1 (-1000 - nI c3)) c3 ((((f1.trans w2).trans s2).trans f3).wi (Or.inr rfl)) q3.w25 (fun _ => ?_)
          · have this : K (some (.int (if (rlO kd it F ((prs kd it F 8 0 a).2.1 + 1)).1 = true then 1 else 0))) (sI μ3 25 c1 (-1000 - nI c3)) := this
            rw [if_pos gd3] at this
            exact this
          · show CX _ _ _ _ (tcR c ((prs kd it F 8 0 a).2.2, (rlO kd it F ((prs kd it F 8 0 a).2.1 + 1)).2.2.1, (rlO kd it F ((prs kd it F 8 0 a).2.1 + 1)).2.2.2))
            unfold tcR
            rw [if_neg (by rw [wfE_ne (wfx_0 p3)]; decide), show c + (prs kd it F 8 0 a).2.2.length + (rlO kd it F ((prs kd it F 8 0 a).2.1 + 1)).2.2.2.length + 2 = c3 by omega]
            exact t3
        · rw [if_neg gd3]
          refine op1 (fun _ => ?_) (fun y => absurd rfl y)
          have := k μ3 c3 (((f1.trans w2).trans s2).trans f3) q3 (fun y => absurd (show (rlO kd it F ((prs kd it F 8 0 a).2.1 + 1)).1 = true from y) gd3)
          have this : K (some (.int (if (rlO kd it F ((prs kd it F 8 0 a).2.1 + 1)).1 = true then 1 else 0))) μ3 := this
          rw [if_neg gd3] at this
          exact this
      · rw [if_neg (fun w => c58 w.2)] at k
        exact k μ1 c1 f1 q1 (fun y => absurd (show false = true from y) (by decide))
    · rw [if_neg gd]
      rw [if_neg (fun w => gd w.1)] at k
      exact c_t rfl (k μ1 c1 f1 q1 (fun y => absurd (show false = true from y) (by decide)))
/-- one rule and those behind it -/
theorem c_rules (hN : ∀ a, a ≤ N → kd a ≠ 23 → a < N) (hit : ∀ a, a < N → kd a = 20 ∨ kd a = 21 → okI 12 (it a) ∧ (it a).1 ≤ 1) (hce : ∀ a, a < N → kd a = 20 ∨ kd a = 21 → enC (it a) = ce a) (hk : ∀ a, kd a ≤ 4 → ∃ o, o < 5 ∧ kd a = nI o) (hF : 2100 ≤ F) (hd : 76 ≤ d + 7) : ∀ m a i μ c, N < m + a → i ≤ a → CP kd ce N μ a c → c ≤ a → (∀ μ' c', Fx WP μ μ' → CP kd ce N μ' (rlT kd it F m a).2.1 c' → ((rlT kd it F m a).1 = true → CX μ μ' c c' (tcL c (rlT kd it F m a).2.2)) → K (some (.int (if (rlT kd it F m a).1 = true ∧ kd (rlT kd it F m a).2.1 = 23 then 1 else 0))) μ') → AW E l (d + 8) 0 0 mX6_readRule 0 (zargs 2 [.ref 19]) [] μ (fun v μ3 => ∃ r5 : Int32, v = some (.int r5) ∧ Stat μ3 ∧ AW E l (d + 9) nc ns mX6_readText 13 [some (.ref 19), some (.int r5), some (.int (nI i))] [] μ3 K) := by
  intro m
  induction m with
  | zero =>
    intro a i μ c hm hi h5 hc k
    have := h5.aN
    omega
  | succ m ih =>
    intro a i μ c hm hi h5 hc k
    have n2 := h5.N2
    refine c_rule (d := d + 5) hN hit hce hk hF (by omega) h5 hc (fun μ1 c1 f1 q1 y1 => ⟨_, rfl, q1.st, ?_⟩)
    obtain ⟨r1, r2, r3⟩ := rlR_ok (F := F) hN hit hk h5.aN
    unfold rlT at k
    by_cases gd : (rlR kd it F a).1 = true
    · rw [if_pos gd] at k ⊢
      obtain ⟨g1, g2, g3⟩ := r3 gd
      have e1 := (y1 gd).1
      rw [tcR_len 0 c] at g1 g2
      by_cases c59 : kd (rlR kd it F a).2.1 = 59
      · rw [if_pos c59] at k
        have hb := hN _ r1 (by rw [c59]; decide)
        obtain ⟨s1, s2, s3⟩ := q1.step hb
        refine t_X6_readText_13 q1.st (c_f (by rw [show (200 : Int32) = nI 200 from rfl, nI_leI (by decide) (by omega)]; omega) (c_f (by decide) (op1 (fun _ => c_step q1 hb ?_) (fun y => absurd (by rw [q1.tk]; exact c59) y))))
        rw [nI_1]
        refine ih ((rlR kd it F a).2.1 + 1) (i + 1) (stM μ1) c1 (by omega) (by omega) s1 (by omega) (fun μ4 c4 f4 q4 y4 => ?_)
        refine k μ4 c4 ((f1.trans s2).trans f4) q4 (fun z => ?_)
        have t1 := (y1 gd).app ((CX.st q1 hb).app (y4 z))
        rw [e1] at t1
        exact t1
      · rw [if_neg c59] at k
        have kk := k μ1 c1 f1 q1 (fun _ => by
          show CX _ _ _ _ (tcR c (rlR kd it F a).2.2 ++ [])
          rw [List.append_nil]
          exact y1 gd)
        have ex : ((1 : Int32) = 0 → K (some (.int 0)) μ1) ∧ (¬ (1 : Int32) = 0 → (¬ (zI μ1 19 4) = 23 → K (some (.int 0)) μ1) ∧ ((zI μ1 19 4) = 23 → K (some (.int 1)) μ1)) := by
          refine c_f (by decide) ?_
          rw [q1.tk]
          refine op1 (fun z => ?_) (fun z => ?_)
          · rw [if_pos ⟨rfl, z⟩] at kk
            exact kk
          · rw [if_neg (fun w => z w.2)] at kk
            exact kk
        exact t_X6_readText_13 q1.st ⟨fun _ => ex, fun _ => c_f (by decide) (op1 (fun y => absurd (by rw [q1.tk] at y; exact y) c59) (fun _ => ex))⟩
    · rw [if_neg gd] at k ⊢
      have kk := k μ1 c1 f1 q1 (fun y => absurd (show false = true from y) (by decide))
      rw [if_neg (fun w => absurd (show false = true from w.1) (by decide))] at kk
      exact t_X6_readText_13 q1.st ⟨fun _ => c_t rfl kk, fun _ => c_t rfl (c_t rfl kk)⟩
end TxC
def WQ (b j : Nat) : Prop := WT b j ∨ WP b j
section TxD
variable {E : ZE} {l : Launch} {F : Nat} {μ : ZM} {d nc ns L s : Nat} {K : Option Value → ZM → Prop} {by_ : Nat → Int32}
theorem hk_A (hb : ∀ j, j < L → rng (by_ j) 0 255) : ∀ a, kA s by_ L a ≤ 4 → ∃ o, o < 5 ∧ kA s by_ L a = nI o := by
  intro a h
  unfold kA at h ⊢
  revert h
  generalize plF by_ L a = q
  intro h
  by_cases c : q < L ∧ isLb (by_ q) = true
  · have := kd_lt (s := s) c.1 c.2
    have l8 : wsW.length = 8 := by decide
    cases h1 : pIx by_ q (tE by_ L q) 0 wsW with
    | some j =>
      rw [h1] at this
      have j8 := (pIx_some h1).2.1
      have this : kdF s by_ L q = nI j := this
      rw [this, show (4 : Int32) = nI 4 from rfl, nI_leI (by omega) (by decide)] at h
      exact ⟨j, by omega, this⟩
    | none =>
      rw [h1] at this
      have this : kdF s by_ L q = (match pIx by_ q (tE by_ L q) 0 (wdS s) with
        | some _ => (21 : Int32)
        | none => 22) := this
      cases h2 : pIx by_ q (tE by_ L q) 0 (wdS s) with
      | some j =>
        rw [h2] at this
        rw [this] at h
        exact absurd h (show ¬ (21 : Int32) ≤ 4 by decide)
      | none =>
        rw [h2] at this
        rw [this] at h
        exact absurd h (show ¬ (22 : Int32) ≤ 4 by decide)
  · exfalso
    revert h
    unfold kdF
    split
    · exact (by decide)
    · split
      · next c1 c2 => exact absurd ⟨by omega, c2⟩ c
      · split
        · split <;> decide
        · split
          · next c5 =>
            have : ∀ x ∈ zB3, ¬ x ≤ 4 := by decide +kernel
            exact this _ c5
          · decide
def cA (s : Nat) (by_ : Nat → Int32) (L a : Nat) : Int32 := ceF s by_ L (plF by_ L a)
theorem hce_A {N : Nat} (h : TN by_ L N) (hs : s = 1 ∨ s = 4) : ∀ a, a < N → kA s by_ L a = 20 ∨ kA s by_ L a = 21 → enC (iA s by_ L a) = cA s by_ L a := fun a ha hk => (it_ok h.2.1 hs hk).2.2
/-- the tape split, and the reader at its first token -/
theorem c_start (hS : Stat μ) (hc : CST μ) (hs : s = 1 ∨ s = 4) (hL : zI μ 20 1 = nI L) (hL2 : L ≤ 200) (hb : ∀ j, j < L → rng (zI μ 21 j) 0 255) (k : ∀ N μ', TN (zI μ 21) L N → Fx WQ μ μ' → CP (kA s (zI μ 21) L) (cA s (zI μ 21) L) N μ' 0 0 → (∀ a, a ≤ N → zI μ' 23 a = nI (plF (zI μ 21) L a)) → K none μ') : AW E l (d + 8) nc ns mX6_start 0 (zargs 2 [.ref 19, .ref s]) [] μ K := by
  refine t_X6_start hS (c_split hS hc hs hL hL2 hb (fun N μ1 s1 f1 t1 => ⟨rfl, s1, ?_⟩))
  obtain ⟨t1, t2, t3, t4, t5⟩ := t1
  have e22 : zI (sI (sI μ1 19 2 0) 19 3 0) 22 0 = zI μ1 22 0 := by rw [zI_ne (by decide), zI_ne (by decide)]
  rw [e22]
  have fq : Fx WQ μ μ1 := f1.mono (fun b j z => Or.inl z)
  have w19 : WQ 19 2 := Or.inr (Or.inl ⟨rfl, by decide⟩)
  have w19' : WQ 19 3 := Or.inr (Or.inl ⟨rfl, by decide⟩)
  have w19'' : WQ 19 4 := Or.inr (Or.inl ⟨rfl, by decide⟩)
  refine k N _ ⟨hL2, hb, t3, t4⟩ (((fq.wi w19).wi w19').wi w19'') ⟨s1, ?_, by omega, fun j hj => ?_, Nat.zero_le _, ?_, ?_, ?_, by omega⟩ (fun a ha => ?_)
  · rw [zI_ne (by decide), zI_ne (by decide), zI_ne (by decide)]
    exact t1
  · rw [zI_ne (by decide), zI_ne (by decide), zI_ne (by decide), zI_ne (by decide), zI_ne (by decide), zI_ne (by decide)]
    exact ⟨(t5 j hj).1, (t5 j hj).2.2⟩
  · rw [zI_nk (by decide), zI_eq]
    rfl
  · rw [zI_eq]
    exact (t5 0 (Nat.zero_le _)).1
  · rw [zI_nk (by decide), zI_nk (by decide), zI_eq]
    rfl
  · rw [zI_ne (by decide), zI_ne (by decide), zI_ne (by decide)]
    exact (t5 a ha).2.1
theorem WQ_p (b j : Nat) (h : WP b j) : WQ b j := Or.inr h
theorem c_readText (hS : Stat μ) (hc : CST μ) (hL : zI μ 20 1 = nI L) (hL2 : L ≤ 200) (hb : ∀ j, j < L → rng (zI μ 21 j) 0 255) (hF : 2100 ≤ F) (hd : 76 ≤ d + 7) (k : ∀ N μ' c', TN (zI μ 21) L N → Fx WQ μ μ' → CP (kA 1 (zI μ 21) L) (cA 1 (zI μ 21) L) N μ' (rlT (kA 1 (zI μ 21) L) (iA 1 (zI μ 21) L) F 201 0).2.1 c' → (∀ a, a ≤ N → zI μ' 23 a = nI (plF (zI μ 21) L a)) → ((rlT (kA 1 (zI μ 21) L) (iA 1 (zI μ 21) L) F 201 0).1 = true → c' = (tcL 0 (rlT (kA 1 (zI μ 21) L) (iA 1 (zI μ 21) L) F 201 0).2.2).length ∧ lst (zI μ' 25) 0 (tcL 0 (rlT (kA 1 (zI μ 21) L) (iA 1 (zI μ 21) L) F 201 0).2.2)) → K (some (.int (if (rlT (kA 1 (zI μ 21) L) (iA 1 (zI μ 21) L) F 201 0).1 = true ∧ kA 1 (zI μ 21) L (rlT (kA 1 (zI μ 21) L) (iA 1 (zI μ 21) L) F 201 0).2.1 = 23 then 1 else 0))) μ') : AW E l (d + 9) nc ns mX6_readText 0 (zargs 3 [.ref 19]) [] μ K := by
  refine t_X6_readText hS (c_start hS hc (Or.inl rfl) hL hL2 hb (fun N μ1 hT f1 q1 p1 => ⟨rfl, q1.st, ?_⟩))
  refine c_rules (hN_A hT) (hit_A hT (Or.inl rfl)) (hce_A hT (Or.inl rfl)) (hk_A hb) hF hd 201 0 0 μ1 0 (by have := q1.N2; omega) (Nat.le_refl _) q1 (Nat.le_refl _) (fun μ2 c2 f2 q2 y2 => ?_)
  refine k N μ2 c2 hT (f1.trans (f2.mono WQ_p)) q2 (fun a ha => (f2.i (by unfold WP; omega)).trans (p1 a ha)) (fun z => ?_)
  obtain ⟨y3, y4, -⟩ := y2 z
  exact ⟨by omega, y4⟩
theorem c_readLimit (hS : Stat μ) (hc : CST μ) (hL : zI μ 20 1 = nI L) (hL2 : L ≤ 200) (hb : ∀ j, j < L → rng (zI μ 21 j) 0 255) (hF : 2100 ≤ F) (hd : 76 ≤ d + 8) (k : ∀ N μ' c', TN (zI μ 21) L N → Fx WQ μ μ' → CP (kA 4 (zI μ 21) L) (cA 4 (zI μ 21) L) N μ' (prs (kA 4 (zI μ 21) L) (iA 4 (zI μ 21) L) F 8 0 0).2.1 c' → (∀ a, a ≤ N → zI μ' 23 a = nI (plF (zI μ 21) L a)) → ((prs (kA 4 (zI μ 21) L) (iA 4 (zI μ 21) L) F 8 0 0).1 = true → c' = (prs (kA 4 (zI μ 21) L) (iA 4 (zI μ 21) L) F 8 0 0).2.2.length ∧ lst (zI μ' 25) 0 ((prs (kA 4 (zI μ 21) L) (iA 4 (zI μ 21) L) F 8 0 0).2.2.map enC)) → K (some (.int (if (prs (kA 4 (zI μ 21) L) (iA 4 (zI μ 21) L) F 8 0 0).1 = true ∧ kA 4 (zI μ 21) L (prs (kA 4 (zI μ 21) L) (iA 4 (zI μ 21) L) F 8 0 0).2.1 = 23 then 1 else 0))) μ') : AW E l (d + 9) nc ns mX6_readLimit 0 (zargs 1 [.ref 19]) [] μ K := by
  refine t_X6_readLimit hS (c_start hS hc (Or.inr rfl) hL hL2 hb (fun N μ1 hT f1 q1 p1 => ⟨rfl, q1.st, ?_⟩))
  have n2 := q1.N2
  refine (c_rd (hN_A hT) (hit_A hT (Or.inr rfl)) (hce_A hT (Or.inr rfl)) F).2.2.2.2.2.2.2.2.1 0 0 (d + 8) 0 0 μ1 0 _ (by omega) (by omega) (by omega) (Nat.le_refl _) q1 (fun μ2 c2 f2 q2 y2 => ⟨_, rfl, q2.st, ?_⟩)
  have kk := k N μ2 c2 hT (f1.trans (f2.mono WQ_p)) q2 (fun a ha => (f2.i (by unfold WP; omega)).trans (p1 a ha)) (fun z => by
    obtain ⟨y3, y4, -⟩ := y2 z
    exact ⟨by omega, y4⟩)
  rw [q2.tk]
  by_cases gd : (prs (kA 4 (zI μ 21) L) (iA 4 (zI μ 21) L) F 8 0 0).1 = true
  · rw [if_pos gd]
    refine c_f (by decide) (op1 (fun z => ?_) (fun z => ?_))
    · rw [if_pos ⟨gd, z⟩] at kk
      exact kk
    · rw [if_neg (fun w => z w.2)] at kk
      exact kk
  · rw [if_neg gd]
    rw [if_neg (fun w => gd w.1)] at kk
    exact c_t rfl kk
end TxD
