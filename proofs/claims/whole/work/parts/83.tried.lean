def isF (r : Int32) : Int32 := if r = 0 then 2 else if r = 2 then 0 else 1
def fTr (g : Gh) (ρ : RV) (x1 : Int32) (b : Nat) : Int32 := if (x1 = 3 ∨ x1 = isF (ρ 87 b)) ∧ ¬ sS (fBo ρ (nI b)) (nS ρ) = 0 ∧ ¬ htV g ρ (nI b) = 0 then 1 else 0
theorem isF_ho {h : Int32} (hh : rng h 0 2) : isF (hoF h) = if h = 1 then 0 else if h = 0 then 1 else 2 := by
  rcases three_of hh with rfl | rfl | rfl <;> decide
theorem sBo_pos {ρ : RV} {x : Int32} : ∀ {n : Nat}, n ≤ 300 → (sS (fBo ρ x) n = 0 ↔ ∀ i, i < n → ¬ ρ 53 i = x)
  | 0, _ => ⟨fun _ i hi => absurd hi (by omega), fun _ => rfl⟩
  | n + 1, hn => by
    obtain ⟨c, hc, e⟩ := sS_cnt (p := fun i => ρ 53 i = x) n
    have e : sS (fBo ρ x) n = nI c := e
    have ih := sBo_pos (ρ := ρ) (x := x) (n := n) (by omega)
    unfold sS
    by_cases q : ρ 53 n = x
    · have e2 : fBo ρ x n = 1 := by unfold fBo; rw [if_pos q]
      rw [e2, e, nI_1]
      refine ⟨fun z => ?_, fun z => absurd q (z n (by omega))⟩
      rw [show (0 : Int32) = nI 0 from rfl, nI_eq (by omega) (by decide)] at z
      omega
    · have e2 : fBo ρ x n = 0 := by unfold fBo; rw [if_neg q]
      rw [e2, Int32.add_zero, ih]
      refine ⟨fun z i hi => ?_, fun z i hi => z i (by omega)⟩
      by_cases c : i = n
      · rw [c]
        exact q
      · exact z i (by omega)
section Tried
variable {E : ZE} {l : Launch} {d nc ns : Nat} {g : Gh} {L : Nat} {X : Nat → Int32} {t : Nat} {μ : ZM} {ρ : RV} {K : Option Value → ZM → Prop} {x1 : Int32}
theorem r_hasBought (hS : Stat μ) (hr : RIg g t ρ) (hR : RE ρ (rf μ)) {x : Int32} (k1 : sS (fBo ρ x) (nS ρ) = 0 → K (some (.int 0)) μ) (k2 : ¬ sS (fBo ρ x) (nS ρ) = 0 → K (some (.int 1)) μ) : AW E l d nc ns mX11_hasBought 0 (zargs 3 [.ref 31, .int x]) [] μ K := by
  have R : ∀ a j, 31 ≤ a → a < 88 → a ≠ 72 → a ≠ 73 → (a = 31 → j < 76) → zI μ a j = ρ a j := fun a j h1 h2 h3 h4 h5 => by rw [← rf_z h1 h2]; exact hR a j h3 h4 h5
  obtain ⟨b1, b2, b3, b4, b5, b6, b7, b8⟩ := hr.s
  have b300 := b3.2
  refine t_X11_hasBought hS ?_
  refine lpd (P := fun j => (∀ i, i < j → ¬ ρ 53 i = x) → AW E l d nc ns mX11_hasBought 2 [some (.ref 31), some (.int x), some (.int (nI j))] [] μ K) (n := nS ρ) ?_ ?_ (fun i hi => absurd hi (by omega))
  · intro hn
    have lE : ρ 31 22 ≤ nI (nS ρ) := by rw [← b3.1]; exact Int32.le_refl _
    refine t_X11_hasBought_2 hS ?_
    simp (disch := omega) only [R, lE, true_implies, false_implies, implies_true, not_true_eq_false, not_false_eq_true, and_true, true_and, Option.some.injEq, reduceCtorEq, forall_eq', forall_eq]
    exact k1 ((sBo_pos b300).mpr hn)
  · intro j hj ih hn
    have l1 : ¬ ρ 31 22 ≤ nI j := by rw [b3.1]; exact nI_ge hj (by omega)
    have l3 : vp_in (nI j) 300 := vp_in_nI (by omega) (by decide)
    have l4 : (nI j).toNatClampNeg = j := nI_clamp (by omega)
    refine t_X11_hasBought_2 hS ?_
    simp (disch := omega) only [R, l1, l3, l4, true_implies, false_implies, implies_true, not_true_eq_false, not_false_eq_true, and_true, true_and, Option.some.injEq, reduceCtorEq, forall_eq', forall_eq]
    refine ⟨fun q => ?_, fun q => ?_⟩
    · rw [nI_1]
      refine ih (fun i hi => ?_)
      by_cases c : i = j
      · rw [c]
        exact q
      · exact hn i (by omega)
    · exact k2 (fun z => (sBo_pos b300).mp z j hj q)
theorem c_isAmong {M : ZM} {w h : Int32} {j : Nat} (hS : Stat M) (hj : j < 60) (eh : zI M 30 j = h) (hh : h = 0 ∨ h = 1 ∨ h = 2) (hw : w = 0 ∨ w = 1 ∨ w = 2 ∨ w = 3) (k : ∀ r4 : Int32, (r4 = 0 → ¬ (w = 3 ∨ w = if h = 1 then 0 else if h = 0 then 1 else 2)) → (¬ r4 = 0 → (w = 3 ∨ w = if h = 1 then 0 else if h = 0 then 1 else 2)) → K (some (.int r4)) M) : AW E l d nc ns mX10_isAmong 0 (zargs 4 [.ref 11, .int (nI j), .int w]) [] M K := by
  have l3 : vp_in (nI j) 60 := vp_in_nI hj (by decide)
  have l4 : (nI j).toNatClampNeg = j := nI_clamp (by omega)
  refine t_X10_isAmong hS ?_
  rw [l4, eh]
  rcases hw with rfl | rfl | rfl | rfl <;> rcases hh with rfl | rfl | rfl
  all_goals
    simp +decide only [l3, if_true, if_false, true_or, or_true, false_or, or_false, and_false, false_and, and_self, or_self, Int32.add_zero, true_implies, false_implies, implies_true, not_true_eq_false, not_false_eq_true, and_true, true_and, Option.some.injEq, reduceCtorEq, forall_eq', forall_eq]
    exact k _ (by decide) (by decide)
theorem c_tried (hI : IV g L X t μ) (hρ : rf μ = ρ) (lim : ρ 31 49 = 1) (hx : rng x1 0 3) (k : ∀ M, Stat M → EqX μ M (fun b _ => 22 ≤ b ∧ b ≤ 29) (fun _ _ => False) → (∀ j, zJ M 86 j = zJ μ 86 j) → K (some (.int (sS (fTr g ρ x1) 60))) M) : AW E l (d + 6) nc ns mX10_tried 25 [some (.ref 11), some (.int x1), some (.int 0), some (.int 0)] [] μ K := by
  have b300 := (hI.r hρ).s.2.2.1.2
  have x4 : x1 = 0 ∨ x1 = 1 ∨ x1 = 2 ∨ x1 = 3 := by
    obtain ⟨h1, h2⟩ := hx
    rw [i_eq, i_eq, i_eq, i_eq]
    have e0 : (0 : Int32).toInt = 0 := by decide
    have e1 : (1 : Int32).toInt = 1 := by decide
    have e2 : (2 : Int32).toInt = 2 := by decide
    have e3 : (3 : Int32).toInt = 3 := by decide
    omega
  refine lpd (P := fun j => ∀ M, Stat M → EqX μ M (fun b _ => 22 ≤ b ∧ b ≤ 29) (fun _ _ => False) → (∀ j, zJ M 86 j = zJ μ 86 j) → AW E l (d + 6) nc ns mX10_tried 25 [some (.ref 11), some (.int x1), some (.int (sS (fTr g ρ x1) j)), some (.int (nI j))] [] M K) (n := 60) ?_ ?_ μ hI.st EqX.rfl (fun _ => rfl)
  · intro M hSM hxM hjM
    exact t_X10_tried_25 hSM (br_t (by decide) (k M hSM hxM hjM))
  · intro j hj ih M hSM hxM hjM
    obtain ⟨IM, rM⟩ := hI.csc hρ hxM hjM hSM
    have hr := IM.r rM
    have hc := IM.c rM
    obtain ⟨k1, k2⟩ := hc.h j hj
    have l1 : ¬ (60 : Int32) ≤ nI j := by rw [show (60 : Int32) = nI 60 from rfl]; exact nI_ge hj (by omega)
    have l3 : vp_in (nI j) 60 := vp_in_nI hj (by decide)
    have l4 : (nI j).toNatClampNeg = j := nI_clamp (by omega)
    simp only [sS, ← nI_1] at ih
    refine t_X10_tried_25 hSM (br_f l1 ?_)
    obtain ⟨c, hc300, ec⟩ : ∃ c, c ≤ nS ρ ∧ sS (fBo ρ (nI j)) (nS ρ) = nI c := sS_cnt (p := fun i => ρ 53 i = nI j) (nS ρ)
    have cz : (nI c ≤ 0) = (c = 0) := by rw [show (0 : Int32) = nI 0 from rfl, nI_leI (by omega) (by decide)]; simp
    have cz' : (nI c = 0) = (c = 0) := by rw [show (0 : Int32) = nI 0 from rfl, nI_eq (by omega) (by decide)]
    -- behind isAmong
    have rest : ∀ r4 : Int32, (r4 = 0 → ¬ (x1 = 3 ∨ x1 = isF (ρ 87 j))) → (¬ r4 = 0 → (x1 = 3 ∨ x1 = isF (ρ 87 j))) → ∃ r4' : Int32, some (Value.int r4) = some (.int r4') ∧ Stat M ∧ (r4' = 0 → AW E l (d + 6) nc ns mX10_tried 25 [some (.ref 11), some (.int x1), some (.int (sS (fTr g ρ x1) j)), some (.int (nI j + 1))] [] M K) ∧ (¬ r4' = 0 → AW E l (d + 5) 0 0 mX10_boughtBy 0 (zargs 4 [.ref 11, .int (nI j)]) [] M (fun v μ6 => ∃ r8 : Int32, v = some (.int r8) ∧ Stat μ6 ∧ (r8 ≤ 0 → AW E l (d + 6) nc ns mX10_tried 25 [some (.ref 11), some (.int x1), some (.int (sS (fTr g ρ x1) j)), some (.int (nI j + 1))] [] μ6 K) ∧ (¬ r8 ≤ 0 → AW E l (d + 5) 0 0 mX10_isHit 0 (zargs 4 [.ref 11, .int (nI j)]) [] μ6 (fun v μ10 => ∃ r12 : Int32, v = some (.int r12) ∧ Stat μ10 ∧ (r12 = 0 → AW E l (d + 6) nc ns mX10_tried 25 [some (.ref 11), some (.int x1), some (.int (sS (fTr g ρ x1) j)), some (.int (nI j + 1))] [] μ10 K) ∧ (¬ r12 = 0 → AW E l (d + 6) nc ns mX10_tried 25 [some (.ref 11), some (.int x1), some (.int (sS (fTr g ρ x1) j + 1)), some (.int (nI j + 1))] [] μ10 K))))) := by
      intro r4 a1 a2
      refine ⟨r4, rfl, hSM, fun z => ?_, fun z => ?_⟩
      · have e2 : fTr g ρ x1 j = 0 := by unfold fTr; rw [if_neg (fun y => a1 z y.1)]
        have := ih M hSM hxM hjM
        rw [e2, Int32.add_zero] at this
        exact this
      · refine t_X10_boughtBy hSM (c_boughtBy4 hSM hr hc ⟨_, rfl, hSM, fun y => ?_, fun y => ?_⟩)
        · rw [ec, cz] at y
          have e2 : fTr g ρ x1 j = 0 := by unfold fTr; rw [if_neg (fun w => w.2.1 (by rw [ec, cz']; exact y))]
          have := ih M hSM hxM hjM
          rw [e2, Int32.add_zero] at this
          exact this
        · rw [ec, cz] at y
          refine c_isHit IM rM lim (fun M2 hS2 hx2 hj2 => ⟨_, rfl, hS2, fun w => ?_, fun w => ?_⟩)
          · have h0 : htV g ρ (nI j) = 0 := Classical.byContradiction fun v => by rw [if_neg v] at w; exact absurd w (by decide)
            have e2 : fTr g ρ x1 j = 0 := by unfold fTr; rw [if_neg (fun v => v.2.2 h0)]
            have := ih M2 hS2 (hxM.trans hx2) (fun i => (hj2 i).trans (hjM i))
            rw [e2, Int32.add_zero] at this
            exact this
          · have h0 : ¬ htV g ρ (nI j) = 0 := fun v => by rw [if_pos v] at w; exact absurd rfl w
            have e2 : fTr g ρ x1 j = 1 := by unfold fTr; rw [if_pos ⟨a2 z, by rw [ec, cz']; exact y, h0⟩]
            have := ih M2 hS2 (hxM.trans hx2) (fun i => (hj2 i).trans (hjM i))
            rw [e2] at this
            exact this
    rw [k2, isF_ho k1] at rest
    exact c_isAmong hSM hj rfl (three_of k1) x4 rest
theorem r_tried (hS : Stat μ) (hr : RIg g t ρ) (hR : RE ρ (rf μ)) (lim : ρ 31 49 = 1) (hb : ∀ b, b < 60 → rng (ρ 87 b) 0 2) (k : ∀ M, Stat M → EqX μ M (fun b _ => b = 72 ∨ b = 73) (fun _ _ => False) → (∀ j, zJ M 86 j = zJ μ 86 j) → K (some (.int (sS (fTr g ρ x1) 60))) M) : AW E l (d + 3) nc ns mX11_tried 25 [some (.ref 31), some (.int x1), some (.int 0), some (.int 0), none] [] μ K := by
  refine lpd (P := fun j => ∀ M, Stat M → EqX μ M (fun b _ => b = 72 ∨ b = 73) (fun _ _ => False) → (∀ j, zJ M 86 j = zJ μ 86 j) → AW E l (d + 3) nc ns mX11_tried 25 [some (.ref 31), some (.int x1), some (.int (sS (fTr g ρ x1) j)), some (.int (nI j)), none] [] M K) (n := 60) ?_ ?_ μ hS EqX.rfl (fun _ => rfl)
  · intro M hSM hxM hjM
    exact t_X11_tried_25 hSM (br_t (by decide) (k M hSM hxM hjM))
  · intro j hj ih M hSM hxM hjM
    have hRM := RE_x hS hR hxM
    have l1 : ¬ (60 : Int32) ≤ nI j := by rw [show (60 : Int32) = nI 60 from rfl]; exact nI_ge hj (by omega)
    have l3 : vp_in (nI j) 60 := vp_in_nI hj (by decide)
    have l4 : (nI j).toNatClampNeg = j := nI_clamp (by omega)
    simp only [sS, ← nI_1] at ih
    refine t_X11_tried_25 hSM (br_f l1 ?_)
    have zero : ∀ M2, Stat M2 → EqX μ M2 (fun b _ => b = 72 ∨ b = 73) (fun _ _ => False) → (∀ j, zJ M2 86 j = zJ μ 86 j) → fTr g ρ x1 j = 0 → AW E l (d + 3) nc ns mX11_tried 25 [some (.ref 31), some (.int x1), some (.int (sS (fTr g ρ x1) j)), some (.int (nI j + 1)), none] [] M2 K := fun M2 a1 a2 a3 e => by
      have := ih M2 a1 a2 a3
      rw [e, Int32.add_zero] at this
      exact this
    have one : ∀ M2, Stat M2 → EqX μ M2 (fun b _ => b = 72 ∨ b = 73) (fun _ _ => False) → (∀ j, zJ M2 86 j = zJ μ 86 j) → fTr g ρ x1 j = 1 → AW E l (d + 3) nc ns mX11_tried 25 [some (.ref 31), some (.int x1), some (.int (sS (fTr g ρ x1) j + 1)), some (.int (nI j + 1)), none] [] M2 K := fun M2 a1 a2 a3 e => by
      have := ih M2 a1 a2 a3
      rw [e] at this
      exact this
    refine r_hasBought hSM hr hRM (fun z => ⟨_, rfl, hSM, fun _ => ?_, fun y => absurd rfl y⟩) (fun z => ⟨_, rfl, hSM, fun y => absurd y (by decide), fun _ => ?_⟩)
    · exact zero M hSM hxM hjM (by unfold fTr; rw [if_neg (fun y => y.2.1 z)])
    · refine r_isHit hSM hr hRM lim (fun M2 hS2 hx2 hj2 => ⟨_, rfl, hS2, fun w => ?_, fun w => ?_⟩)
      · have h0 : ¬ htV g ρ (nI j) = 0 := fun v => by rw [if_pos v] at w; exact absurd rfl w
        have hx3 := hxM.trans hx2
        have hj3 : ∀ i, zJ M2 86 i = zJ μ 86 i := fun i => (hj2 i).trans (hjM i)
        have hRM2 := RE_x hS hR hx3
        have e87 : zI M2 87 j = ρ 87 j := by rw [← rf_z (by decide) (by decide)]; exact hRM2 87 j (by decide) (by decide) (by omega)
        have f1 : (x1 = 3 ∨ x1 = isF (ρ 87 j)) → fTr g ρ x1 j = 1 := fun y => by unfold fTr; rw [if_pos ⟨y, z, h0⟩]
        have f0 : ¬ (x1 = 3 ∨ x1 = isF (ρ 87 j)) → fTr g ρ x1 j = 0 := fun y => by unfold fTr; rw [if_neg (fun v => y v.1)]
        have Z := zero M2 hS2 hx3 hj3
        have O := one M2 hS2 hx3 hj3
        have n20 : ¬ (2 : Int32) = 0 := by decide
        have n10 : ¬ (1 : Int32) = 0 := by decide
        have n12 : ¬ (1 : Int32) = 2 := by decide
        have i0 : isF 0 = 2 := by decide
        have i1 : isF 1 = 1 := by decide
        have i2 : isF 2 = 0 := by decide
        rcases three_of (hb j hj) with h | h | h
        all_goals
          rw [h] at f1 f0
          simp only [l3, l4, e87, h, n20, n10, n12, i0, i1, i2, Int32.add_zero, true_implies, false_implies, implies_true, not_true_eq_false, not_false_eq_true, and_true, true_and, Option.some.injEq, reduceCtorEq, forall_eq', forall_eq] at f1 f0 ⊢
          refine ⟨fun y => O (f1 (Or.inl y)), fun y => ⟨fun y2 => Z (f0 (fun v => v.elim y y2)), fun y2 => O (f1 (Or.inr y2))⟩⟩
      · have h0 : htV g ρ (nI j) = 0 := Classical.byContradiction fun v => by rw [if_neg v] at w; exact absurd w (by decide)
        exact zero M2 hS2 (hxM.trans hx2) (fun i => (hj2 i).trans (hjM i)) (by unfold fTr; rw [if_neg (fun v => v.2.2 h0)])
end Tried
section TriedP
variable {E : ZE} {l : Launch} {d : Nat} {g : Gh} {L : Nat} {X : Nat → Int32} {t : Nat} {μ : ZM} {x1 x2 x3 : Int32}
theorem IV.endS {g : Gh} {L : Nat} {X : Nat → Int32} {t : Nat} {M M2 : ZM} {ρ : RV} (IM : IV g L X t M) (rM : rf M = ρ) (x2 : EqX M M2 (fun b _ => b = 72 ∨ b = 73) (fun _ _ => False)) (hS2 : Stat M2) (j2 : ∀ j, zJ M2 86 j = zJ M 86 j) : IV g L X (t + 1) M2 :=
  IM.scr rM (x2.mono (fun b j h => Or.inr (Or.inr (Or.inr (Or.inr (Or.inl (by omega)))))) (fun _ _ h => h)) hS2 (IM.w.cg j2) (Nat.le_succ t)
theorem pr_hits (hI : IV g L X t μ) : PRp E l d L X t mX10_hits mX11_hits [some (.ref 11), some (.int x1)] [some (.ref 31), some (.int x1)] μ := by
  obtain ⟨ρ, hρ⟩ : ∃ ρ, rf μ = ρ := ⟨_, rfl⟩
  have hS := hI.st
  have hr := hI.r hρ
  have hc := hI.c hρ
  have R : ∀ a j, 31 ≤ a → a < 88 → zI μ a j = ρ a j := fun a j h1 h2 => rfz hρ h1 h2
  obtain ⟨s1, s2, s3, s4, s5, s6, s7, s8, s9, s10, s11⟩ := hc.s
  obtain ⟨b1, b2, b3, b4, b5, b6, b7, b8⟩ := hr.s
  have hU : IV g L X (t + 1) μ := hI.up (Nat.le_succ t)
  refine PRp.mk fun K hK => ?_
  by_cases y1 : x1 < 0
  · refine t_X10_hits hS ?_
    simp (disch := omega) only [y1, true_implies, false_implies, implies_true, not_true_eq_false, not_false_eq_true, and_true, true_and, Option.some.injEq, reduceCtorEq, forall_eq', forall_eq]
    refine hK _ _ hS hI.s0 fun Q hQ => t_X11_hits hS ?_
    simp (disch := omega) only [y1, R, true_implies, false_implies, implies_true, not_true_eq_false, not_false_eq_true, and_true, true_and, Option.some.injEq, reduceCtorEq, forall_eq', forall_eq]
    exact hQ _ _ hU
  by_cases y2 : 59 < x1
  · refine t_X10_hits hS ?_
    simp (disch := omega) only [y1, y2, true_implies, false_implies, implies_true, not_true_eq_false, not_false_eq_true, and_true, true_and, Option.some.injEq, reduceCtorEq, forall_eq', forall_eq]
    refine hK _ _ hS hI.s0 fun Q hQ => t_X11_hits hS ?_
    simp (disch := omega) only [y1, y2, R, true_implies, false_implies, implies_true, not_true_eq_false, not_false_eq_true, and_true, true_and, Option.some.injEq, reduceCtorEq, forall_eq', forall_eq]
    exact hQ _ _ hU
  have n10 : ¬ (1 : Int32) = 0 := by decide
  rcases hc.lm with ⟨z1, z2⟩ | ⟨z1, lc, z2, -⟩
  · refine t_X10_hits hS ?_
    simp (disch := omega) only [y1, y2, z1, z2, true_implies, false_implies, implies_true, not_true_eq_false, not_false_eq_true, and_true, true_and, Option.some.injEq, reduceCtorEq, forall_eq', forall_eq]
    refine hK _ _ hS hI.s0 fun Q hQ => t_X11_hits hS ?_
    simp (disch := omega) only [y1, y2, z1, R, true_implies, false_implies, implies_true, not_true_eq_false, not_false_eq_true, and_true, true_and, Option.some.injEq, reduceCtorEq, forall_eq', forall_eq]
    exact hQ _ _ hU
  · refine t_X10_hits hS ?_
    simp (disch := omega) only [y1, y2, z2, true_implies, false_implies, implies_true, not_true_eq_false, not_false_eq_true, and_true, true_and, Option.some.injEq, reduceCtorEq, forall_eq', forall_eq]
    refine c_isHit hI hρ z1 (fun M hSM hxM hjM => ⟨_, rfl, hSM, ?_⟩)
    obtain ⟨IM, rM⟩ := hI.csc hρ hxM hjM hSM
    have RM : ∀ a j, 31 ≤ a → a < 88 → zI M a j = ρ a j := fun a j h1 h2 => rfz rM h1 h2
    have fin : ∀ Q : Option Value → ZM → Prop, (∀ (g' : Gh) (μ2 : ZM), IV g' L X (t + 1) μ2 → Q (some (.int (if (if htV g ρ x1 = 0 then (0 : Int32) else 1) = 0 then 0 else 1))) μ2) → AW E l (d + 299) 0 0 mX11_hits 0 [some (.ref 31), some (.int x1)] [] M Q := by
      intro Q hQ
      refine t_X11_hits hSM ?_
      simp (disch := omega) only [y1, y2, RM, z1, n10, true_implies, false_implies, implies_true, not_true_eq_false, not_false_eq_true, and_true, true_and, Option.some.injEq, reduceCtorEq, forall_eq', forall_eq]
      refine r_isHit hSM hr (fun b j _ _ _ => by rw [rM]) z1 (fun M2 hS2 hx2 hj2 => ⟨_, rfl, hS2, fun w => ?_, fun w => ?_⟩)
      · rw [if_pos w] at hQ
        exact hQ g _ (IM.endS rM hx2 hS2 hj2)
      · rw [if_neg w] at hQ
        exact hQ g _ (IM.endS rM hx2 hS2 hj2)
    refine ⟨fun w => ?_, fun w => ?_⟩
    · rw [if_pos w] at fin
      exact hK _ _ hSM IM.s0 fin
    · rw [if_neg w] at fin
      exact hK _ _ hSM IM.s0 fin
theorem pr_tried (hI : IV g L X t μ) : PRp E l d L X t mX10_tried mX11_tried [some (.ref 11), some (.int x1), none, none] [some (.ref 31), some (.int x1), none, none, none] μ := by
  obtain ⟨ρ, hρ⟩ : ∃ ρ, rf μ = ρ := ⟨_, rfl⟩
  have hS := hI.st
  have hr := hI.r hρ
  have hc := hI.c hρ
  have R : ∀ a j, 31 ≤ a → a < 88 → zI μ a j = ρ a j := fun a j h1 h2 => rfz hρ h1 h2
  obtain ⟨s1, s2, s3, s4, s5, s6, s7, s8, s9, s10, s11⟩ := hc.s
  obtain ⟨b1, b2, b3, b4, b5, b6, b7, b8⟩ := hr.s
  have hU : IV g L X (t + 1) μ := hI.up (Nat.le_succ t)
  refine PRp.mk fun K hK => ?_
  by_cases y1 : x1 < 0
  · refine t_X10_tried hS ?_
    simp (disch := omega) only [y1, true_implies, false_implies, implies_true, not_true_eq_false, not_false_eq_true, and_true, true_and, Option.some.injEq, reduceCtorEq, forall_eq', forall_eq]
    refine hK _ _ hS hI.s0 fun Q hQ => t_X11_tried hS ?_
    simp (disch := omega) only [y1, R, true_implies, false_implies, implies_true, not_true_eq_false, not_false_eq_true, and_true, true_and, Option.some.injEq, reduceCtorEq, forall_eq', forall_eq]
    exact hQ _ _ hU
  by_cases y2 : 3 < x1
  · refine t_X10_tried hS ?_
    simp (disch := omega) only [y1, y2, true_implies, false_implies, implies_true, not_true_eq_false, not_false_eq_true, and_true, true_and, Option.some.injEq, reduceCtorEq, forall_eq', forall_eq]
    refine hK _ _ hS hI.s0 fun Q hQ => t_X11_tried hS ?_
    simp (disch := omega) only [y1, y2, R, true_implies, false_implies, implies_true, not_true_eq_false, not_false_eq_true, and_true, true_and, Option.some.injEq, reduceCtorEq, forall_eq', forall_eq]
    exact hQ _ _ hU
  have n10 : ¬ (1 : Int32) = 0 := by decide
  rcases hc.lm with ⟨z1, z2⟩ | ⟨z1, lc, z2, -⟩
  · refine t_X10_tried hS ?_
    simp (disch := omega) only [y1, y2, z1, z2, true_implies, false_implies, implies_true, not_true_eq_false, not_false_eq_true, and_true, true_and, Option.some.injEq, reduceCtorEq, forall_eq', forall_eq]
    refine hK _ _ hS hI.s0 fun Q hQ => t_X11_tried hS ?_
    simp (disch := omega) only [y1, y2, z1, R, true_implies, false_implies, implies_true, not_true_eq_false, not_false_eq_true, and_true, true_and, Option.some.injEq, reduceCtorEq, forall_eq', forall_eq]
    exact hQ _ _ hU
  · refine t_X10_tried hS ?_
    simp (disch := omega) only [y1, y2, z2, true_implies, false_implies, implies_true, not_true_eq_false, not_false_eq_true, and_true, true_and, Option.some.injEq, reduceCtorEq, forall_eq', forall_eq]
    refine c_tried hI hρ z1 (rng_x 3 rfl (by decide) y1 y2) (fun M hSM hxM hjM => ?_)
    obtain ⟨IM, rM⟩ := hI.csc hρ hxM hjM hSM
    have RM : ∀ a j, 31 ≤ a → a < 88 → zI M a j = ρ a j := fun a j h1 h2 => rfz rM h1 h2
    refine hK _ _ hSM IM.s0 fun Q hQ => t_X11_tried hSM ?_
    simp (disch := omega) only [y1, y2, RM, z1, n10, true_implies, false_implies, implies_true, not_true_eq_false, not_false_eq_true, and_true, true_and, Option.some.injEq, reduceCtorEq, forall_eq', forall_eq]
    refine r_tried hSM hr (fun b j _ _ _ => by rw [rM]) z1 (fun b hb => ?_) (fun M2 hS2 hx2 hj2 => hQ g _ (IM.endS rM hx2 hS2 hj2))
    obtain ⟨k1, k2⟩ := hc.h b hb
    rw [k2]
    rcases three_of k1 with h | h | h <;> rw [h] <;> exact ⟨by decide, by decide⟩
end TriedP
