theorem wW_le {P : Nat} {v : Int32} (hP : P ≤ 99999) (hv : vok v) : wW P v ≤ 99999 := by
  obtain ⟨o, e, ho, he, rfl⟩ := hv
  unfold wW tN
  rw [nI_clamp (by omega)]
  have h1 : (1000 * o + e) % 1000 = e := by omega
  have h2 : (1000 * o + e) / 1000 = o := by omega
  rw [h1, h2]
  have ht : ten o ≤ 10 := by
    have : o = 0 ∨ o = 1 ∨ o = 2 ∨ o = 3 ∨ o = 4 := by omega
    rcases this with rfl | rfl | rfl | rfl | rfl <;> decide
  have : P * e * ten o ≤ 99999 * 100 * 10 := Nat.mul_le_mul (Nat.mul_le_mul hP he) ht
  omega
def JR (P : Nat) (J : JS) (M : ZM) : Prop := zI M 29 0 = nI P ∧ match J with
  | none => zI M 29 1 = 0
  | some (b, s, w) => zI M 29 1 = 1 ∧ zI M 29 2 = b ∧ zI M 29 3 = nI (wW P b) ∧ zI M 29 4 = s ∧ zI M 29 5 = w ∧ zI M 29 6 = nI (wW P w) ∧ vok b ∧ vok w
section HearC
variable {E : ZE} {l : Launch} {d nc ns : Nat} {M : ZM} {K : Option Value → ZM → Prop} {P : Nat} {J : JS} {v x1 x2 : Int32}
theorem c_worthOf (hS : Stat M) (h9 : ∀ j, j < 5 → zI M 9 j = zTe.getD j 0) (hp : zI M 29 0 = nI P) (hP : P ≤ 99999) (hv : vok v) (k : K (some (.int (nI (wW P v)))) M) : AW E l d nc ns mX1_worthOf 0 (zargs 4 [.ref 29, .int v]) [] M K := by
  obtain ⟨o, e, ho, he, rfl⟩ := hv
  have a1 : nI (1000 * o + e) / 1000 = nI o := by
    rw [show (1000 : Int32) = nI 1000 from rfl, pk_div (by omega) (by decide) (by decide)]
    congr 1
    omega
  have a2 : nI (1000 * o + e) - nI (1000 * o + e) / 1000 * 1000 = nI e := by
    rw [show (1000 : Int32) = nI 1000 from rfl, pk_rem (by omega) (by decide) (by decide)]
    congr 1
    omega
  rw [a1] at a2
  have a3 : ¬ nI o < 0 := nI_pos (by omega)
  have a4 : ¬ (5 : Int32) ≤ nI o := by rw [show (5 : Int32) = nI 5 from rfl]; exact nI_ge ho (by omega)
  have a5 : vp_in (nI o) 5 := vp_in_nI ho (by decide)
  have a6 : (nI o).toNatClampNeg = o := nI_clamp (by omega)
  have a7 : zI M 9 o = nI (ten o) := by
    rw [h9 o ho]
    have : o = 0 ∨ o = 1 ∨ o = 2 ∨ o = 3 ∨ o = 4 := by omega
    rcases this with rfl | rfl | rfl | rfl | rfl <;> rfl
  have ht : ten o ≤ 10 := by
    have : o = 0 ∨ o = 1 ∨ o = 2 ∨ o = 3 ∨ o = 4 := by omega
    rcases this with rfl | rfl | rfl | rfl | rfl <;> decide
  have hb : P * e * ten o ≤ 99999 * 100 * 10 := Nat.mul_le_mul (Nat.mul_le_mul hP he) ht
  have a8 : nI P * nI e * nI (ten o) / 1000 = nI (wW P (nI (1000 * o + e))) := by
    rw [pk_mul, pk_mul, show (1000 : Int32) = nI 1000 from rfl, pk_div (by omega) (by decide) (by decide)]
    unfold wW tN
    rw [nI_clamp (by omega), show (1000 * o + e) % 1000 = e by omega, show (1000 * o + e) / 1000 = o by omega]
  refine t_X1_worthOf hS ?_
  simp only [a1, a2, a3, a4, a5, a6, a7, hp, a8, true_implies, false_implies, implies_true, not_true_eq_false, not_false_eq_true, and_true, true_and, Option.some.injEq, reduceCtorEq, forall_eq', forall_eq]
  exact k
theorem c_hear (hS : Stat M) (h9 : ∀ j, j < 5 → zI M 9 j = zTe.getD j 0) (hJ : JR P J M) (hP : P ≤ 99999) (v1 : vok x1) (v2 : vok x2) (k : ∀ M', Stat M' → EqX M M' (fun b j => b = 29 ∧ 1 ≤ j) (fun _ _ => False) → (∀ j, zJ M' 86 j = zJ M 86 j) → JR P (hear P J (x1, x2)) M' → K none M') : AW E l (d + 1) nc ns mX1_hear 0 (zargs 8 [.ref 29, .int x1, .int x2]) [] M K := by
  have b1 := wW_le hP v1
  have b2 := wW_le hP v2
  refine t_X1_hear hS ?_
  refine c_worthOf hS h9 hJ.1 hP v1 ⟨_, rfl, hS, ?_⟩
  refine c_worthOf hS h9 hJ.1 hP v2 ⟨_, rfl, hS, ?_⟩
  have lt12 : (nI (wW P x1) < nI (wW P x2)) = (wW P x1 < wW P x2) := by rw [nI_ltI (by omega) (by omega)]
  have le21 : (nI (wW P x2) ≤ nI (wW P x1)) = (wW P x2 ≤ wW P x1) := by rw [nI_leI (by omega) (by omega)]
  have n10 : ¬ (1 : Int32) = 0 := by decide
  obtain ⟨hp, hJ⟩ := hJ
  have vO : vok (oW P (x1, x2)) := by unfold oW; split <;> assumption
  cases J with
  | none =>
    have h1 : zI M 29 1 = 0 := hJ
    by_cases c : wW P x1 < wW P x2
    · have c' : ¬ wW P x2 ≤ wW P x1 := by omega
      have o1 : oW P (x1, x2) = x2 := by unfold oW; rw [if_pos c]
      have s1 : sW P (x1, x2) = 1 := by unfold sW; rw [if_pos c]
      simp (disch := omega) only [le21, lt12, c, c', h1, zI_nk, zI_eq, if_true, true_implies, false_implies, implies_true, not_true_eq_false, not_false_eq_true, and_true, true_and, Option.some.injEq, reduceCtorEq, forall_eq', forall_eq]
      refine k _ (by repeat' (with_reducible first | exact hS | refine Stat.wI ?_)) ?_ (fun _ => rfl) ⟨by simp (disch := omega) only [zI_nk]; exact hp, ?_⟩
      · repeat' (with_reducible first | exact EqX.rfl | refine EqX.wi ?_ (Or.inl ⟨rfl, by decide⟩))
      · show zI _ 29 1 = 1 ∧ _
        rw [o1, s1]
        simp (disch := omega) only [zI_nk, zI_eq, true_implies, false_implies, implies_true, not_true_eq_false, not_false_eq_true, and_true, true_and, Option.some.injEq, reduceCtorEq, forall_eq', forall_eq]
        exact ⟨v2, v2⟩
    · have c' : wW P x2 ≤ wW P x1 := by omega
      have o1 : oW P (x1, x2) = x1 := by unfold oW; rw [if_neg c]
      have s1 : sW P (x1, x2) = 0 := by unfold sW; rw [if_neg c]
      simp (disch := omega) only [le21, lt12, c, c', h1, zI_nk, zI_eq, if_false, true_implies, false_implies, implies_true, not_true_eq_false, not_false_eq_true, and_true, true_and, Option.some.injEq, reduceCtorEq, forall_eq', forall_eq]
      refine k _ (by repeat' (with_reducible first | exact hS | refine Stat.wI ?_)) ?_ (fun _ => rfl) ⟨by simp (disch := omega) only [zI_nk]; exact hp, ?_⟩
      · repeat' (with_reducible first | exact EqX.rfl | refine EqX.wi ?_ (Or.inl ⟨rfl, by decide⟩))
      · show zI _ 29 1 = 1 ∧ _
        rw [o1, s1]
        simp (disch := omega) only [zI_nk, zI_eq, true_implies, false_implies, implies_true, not_true_eq_false, not_false_eq_true, and_true, true_and, Option.some.injEq, reduceCtorEq, forall_eq', forall_eq]
        exact ⟨v1, v1⟩
  | some q =>
    obtain ⟨b, s, w⟩ := q
    obtain ⟨h1, h2, h3, h4, h5, h6, vb, vw⟩ := hJ
    have bb := wW_le hP vb
    have bw := wW_le hP vw
    have fin : ∀ (out sd : Int32), oW P (x1, x2) = out → sW P (x1, x2) = sd → wW P out ≤ 99999 → ((nI (wW P out) ≤ nI (wW P b) → (zI M 29 6 ≤ nI (wW P out) → K none (sI M 29 1 1)) ∧ (¬ zI M 29 6 ≤ nI (wW P out) → K none (sI (sI (sI M 29 5 out) 29 6 (nI (wW P out))) 29 1 1))) ∧ (¬ nI (wW P out) ≤ nI (wW P b) → (zI M 29 6 ≤ nI (wW P out) → K none (sI (sI (sI (sI M 29 2 out) 29 3 (nI (wW P out))) 29 4 sd) 29 1 1)) ∧ (¬ zI M 29 6 ≤ nI (wW P out) → K none (sI (sI (sI (sI (sI (sI M 29 2 out) 29 3 (nI (wW P out))) 29 4 sd) 29 5 out) 29 6 (nI (wW P out))) 29 1 1)))) := by
      intro out sd eo es bo
      rw [eo] at vO
      rw [h6, nI_leI (by omega) (by omega), nI_leI (by omega) (by omega)]
      have hh : hear P (some (b, s, w)) (x1, x2) = some (if wW P b < wW P out then out else b, if wW P b < wW P out then sd else s, if wW P out < wW P w then out else w) := by
        unfold hear
        rw [eo, es]
      rw [hh] at k
      refine ⟨fun z1 => ⟨fun z2 => ?_, fun z2 => ?_⟩, fun z1 => ⟨fun z2 => ?_, fun z2 => ?_⟩⟩
      · rw [if_neg (show ¬ wW P b < wW P out by omega), if_neg (show ¬ wW P b < wW P out by omega), if_neg (show ¬ wW P out < wW P w by omega)] at k
        refine k _ hS.wI (EqX.rfl.wi (Or.inl ⟨rfl, by decide⟩)) (fun _ => rfl) ⟨by simp (disch := omega) only [zI_nk]; exact hp, ?_⟩
        show zI _ 29 1 = 1 ∧ _
        simp (disch := omega) only [zI_nk, zI_eq, true_implies, false_implies, implies_true, not_true_eq_false, not_false_eq_true, and_true, true_and, Option.some.injEq, reduceCtorEq, forall_eq', forall_eq]
        exact ⟨h2, h3, h4, h5, h6, vb, vw⟩
      · rw [if_neg (show ¬ wW P b < wW P out by omega), if_neg (show ¬ wW P b < wW P out by omega), if_pos (show wW P out < wW P w by omega)] at k
        refine k _ hS.wI.wI.wI (((EqX.rfl.wi (Or.inl ⟨rfl, by decide⟩)).wi (Or.inl ⟨rfl, by decide⟩)).wi (Or.inl ⟨rfl, by decide⟩)) (fun _ => rfl) ⟨by simp (disch := omega) only [zI_nk]; exact hp, ?_⟩
        show zI _ 29 1 = 1 ∧ _
        simp (disch := omega) only [zI_nk, zI_eq, true_implies, false_implies, implies_true, not_true_eq_false, not_false_eq_true, and_true, true_and, Option.some.injEq, reduceCtorEq, forall_eq', forall_eq]
        exact ⟨h2, h3, h4, vb, vO⟩
      · rw [if_pos (show wW P b < wW P out by omega), if_pos (show wW P b < wW P out by omega), if_neg (show ¬ wW P out < wW P w by omega)] at k
        refine k _ hS.wI.wI.wI.wI ((((EqX.rfl.wi (Or.inl ⟨rfl, by decide⟩)).wi (Or.inl ⟨rfl, by decide⟩)).wi (Or.inl ⟨rfl, by decide⟩)).wi (Or.inl ⟨rfl, by decide⟩)) (fun _ => rfl) ⟨by simp (disch := omega) only [zI_nk]; exact hp, ?_⟩
        show zI _ 29 1 = 1 ∧ _
        simp (disch := omega) only [zI_nk, zI_eq, true_implies, false_implies, implies_true, not_true_eq_false, not_false_eq_true, and_true, true_and, Option.some.injEq, reduceCtorEq, forall_eq', forall_eq]
        exact ⟨h5, h6, vO, vw⟩
      · rw [if_pos (show wW P b < wW P out by omega), if_pos (show wW P b < wW P out by omega), if_pos (show wW P out < wW P w by omega)] at k
        refine k _ (by repeat' (with_reducible first | exact hS | refine Stat.wI ?_)) ?_ (fun _ => rfl) ⟨by simp (disch := omega) only [zI_nk]; exact hp, ?_⟩
        · repeat' (with_reducible first | exact EqX.rfl | refine EqX.wi ?_ (Or.inl ⟨rfl, by decide⟩))
        show zI _ 29 1 = 1 ∧ _
        simp (disch := omega) only [zI_nk, zI_eq, true_implies, false_implies, implies_true, not_true_eq_false, not_false_eq_true, and_true, true_and, Option.some.injEq, reduceCtorEq, forall_eq', forall_eq]
        exact ⟨vO, vO⟩
    by_cases c : wW P x1 < wW P x2
    · have c' : ¬ wW P x2 ≤ wW P x1 := by omega
      have F := fin x2 1 (by unfold oW; rw [if_pos c]) (by unfold sW; rw [if_pos c]) b2
      simp (disch := omega) only [le21, lt12, c, c', h1, h3, zI_nk, zI_eq, if_true, n10, true_implies, false_implies, implies_true, not_true_eq_false, not_false_eq_true, and_true, true_and, Option.some.injEq, reduceCtorEq, forall_eq', forall_eq]
      exact F
    · have c' : wW P x2 ≤ wW P x1 := by omega
      have F := fin x1 0 (by unfold oW; rw [if_neg c]) (by unfold sW; rw [if_neg c]) b1
      simp (disch := omega) only [le21, lt12, c, c', h1, h3, zI_nk, zI_eq, if_false, n10, true_implies, false_implies, implies_true, not_true_eq_false, not_false_eq_true, and_true, true_and, Option.some.injEq, reduceCtorEq, forall_eq', forall_eq]
      exact F
end HearC
