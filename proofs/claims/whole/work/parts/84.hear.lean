/-! judging: what is heard -/
def ten (o : Nat) : Nat := [0, 6, 8, 9, 10].getD o 0
def vok (v : Int32) : Prop := ∃ o e, o < 5 ∧ e ≤ 100 ∧ v = nI (1000 * o + e)
def wW (P : Nat) (v : Int32) : Nat := P * (tN v % 1000) * ten (tN v / 1000) / 1000
abbrev JS : Type := Option (Int32 × Int32 × Int32)
def oW (P : Nat) (x : Int32 × Int32) : Int32 := if wW P x.1 < wW P x.2 then x.2 else x.1
def sW (P : Nat) (x : Int32 × Int32) : Int32 := if wW P x.1 < wW P x.2 then 1 else 0
def hear (P : Nat) (J : JS) (x : Int32 × Int32) : JS := match J with
  | none => some (oW P x, sW P x, oW P x)
  | some (b, s, w) => some (if wW P b < wW P (oW P x) then oW P x else b, if wW P b < wW P (oW P x) then sW P x else s, if wW P (oW P x) < wW P w then oW P x else w)
def covI (P : Nat) (J : JS) (x : Int32 × Int32) : Prop := ∃ b s w, J = some (b, s, w) ∧ wW P (oW P x) ≤ wW P b ∧ wW P w ≤ wW P (oW P x)
theorem hear_cov {P : Nat} {J : JS} {x : Int32 × Int32} (h : covI P J x) : hear P J x = J := by
  obtain ⟨b, s, w, rfl, h1, h2⟩ := h
  unfold hear
  simp only [show ¬ wW P b < wW P (oW P x) by omega, show ¬ wW P (oW P x) < wW P w by omega, if_false]
theorem cov_self (P : Nat) (J : JS) (x : Int32 × Int32) : covI P (hear P J x) x := by
  cases J with
  | none => exact ⟨_, _, _, rfl, Nat.le_refl _, Nat.le_refl _⟩
  | some q =>
    obtain ⟨b, s, w⟩ := q
    refine ⟨_, _, _, rfl, ?_, ?_⟩
    · split <;> omega
    · split <;> omega
theorem cov_hear {P : Nat} {J : JS} {x y : Int32 × Int32} (h : covI P J x) : covI P (hear P J y) x := by
  obtain ⟨b, s, w, rfl, h1, h2⟩ := h
  refine ⟨_, _, _, rfl, ?_, ?_⟩
  · split <;> omega
  · split <;> omega
theorem cov_fold {P : Nat} {x : Int32 × Int32} : ∀ {l : List (Int32 × Int32)} {J : JS}, covI P J x → covI P (l.foldl (hear P) J) x
  | [], _, h => h
  | _ :: l, _, h => cov_fold (l := l) (cov_hear h)
theorem cov_mem {P : Nat} {x : Int32 × Int32} : ∀ {l : List (Int32 × Int32)} {J : JS}, x ∈ l → covI P (l.foldl (hear P) J) x
  | y :: l, J, h => by
    rcases List.mem_cons.mp h with rfl | h
    · exact cov_fold (l := l) (cov_self P J x)
    · exact cov_mem (l := l) h
theorem fold_cov {P : Nat} : ∀ {l : List (Int32 × Int32)} {J : JS}, (∀ x ∈ l, covI P J x) → l.foldl (hear P) J = J
  | [], _, _ => rfl
  | x :: l, J, h => by
    rw [List.foldl_cons, hear_cov (h x (by simp))]
    exact fold_cov (fun y hy => h y (by simp [hy]))
theorem fold_twice {P : Nat} (l : List (Int32 × Int32)) (J : JS) : l.foldl (hear P) (l.foldl (hear P) J) = l.foldl (hear P) J := fold_cov (fun _ hx => cov_mem hx)
/-- numbers from lo on -/
def rl (lo n : Nat) : List Nat := (List.range n).map (fun i => lo + i)
theorem rl_s (lo n : Nat) : rl lo (n + 1) = lo :: rl (lo + 1) n := by
  unfold rl
  rw [List.range_succ_eq_map, List.map_cons, List.map_map]
  congr 1
  refine List.map_congr_left fun i _ => ?_
  show lo + (i + 1) = lo + 1 + i
  omega
theorem fold_const {P : Nat} {f : Nat → List (Int32 × Int32)} {l : List (Int32 × Int32)} : ∀ (n lo : Nat) (J : JS), (∀ i, lo ≤ i → i ≤ lo + n → f i = l) → ((rl lo (n + 1)).flatMap f).foldl (hear P) J = l.foldl (hear P) J
  | 0, lo, J, h => by
    rw [rl_s]
    show ([lo].flatMap f).foldl _ _ = _
    rw [List.flatMap_cons, List.flatMap_nil, List.append_nil, h lo (Nat.le_refl _) (by omega)]
  | n + 1, lo, J, h => by
    rw [rl_s, List.flatMap_cons, List.foldl_append, h lo (Nat.le_refl _) (by omega), fold_const n (lo + 1) _ (fun i h1 h2 => h i (by omega) (by omega)), fold_twice]
theorem fold_congr {P : Nat} {f f' : Nat → List (Int32 × Int32)} : ∀ (n lo : Nat) (J : JS), (∀ i J, lo ≤ i → i < lo + n → (f i).foldl (hear P) J = (f' i).foldl (hear P) J) → ((rl lo n).flatMap f).foldl (hear P) J = ((rl lo n).flatMap f').foldl (hear P) J
  | 0, _, _, _ => rfl
  | n + 1, lo, J, h => by
    rw [rl_s, List.flatMap_cons, List.flatMap_cons, List.foldl_append, List.foldl_append, h lo J (Nat.le_refl _) (by omega)]
    exact fold_congr n (lo + 1) _ (fun i J h1 h2 => h i J (by omega) (by omega))
/-- a loop that is cut to its first turn where the pairs don't change, and the whole loop -/
theorem fold_lvl {P : Nat} {f f' : Nat → List (Int32 × Int32)} {lo n m : Nat} (J : JS) (hm : m = n + 1 ∨ (m = 1 ∧ ∀ i, lo ≤ i → i ≤ lo + n → f' i = f' lo)) (h : ∀ i J, lo ≤ i → i ≤ lo + n → (f i).foldl (hear P) J = (f' i).foldl (hear P) J) : ((rl lo m).flatMap f).foldl (hear P) J = ((rl lo (n + 1)).flatMap f').foldl (hear P) J := by
  rcases hm with rfl | ⟨rfl, hc⟩
  · exact fold_congr (n + 1) lo J (fun i J h1 h2 => h i J h1 (by omega))
  · rw [fold_const n lo J hc, rl_s]
    show ([lo].flatMap f).foldl _ _ = _
    rw [List.flatMap_cons, List.flatMap_nil, List.append_nil]
    exact h lo J (Nat.le_refl _) (by omega)
theorem clp_b (v : Int32) : ∃ e, e ≤ 100 ∧ clp v = nI e := by
  obtain ⟨c1, c2, c3⟩ := clp_r v
  by_cases z1 : 0 ≤ v
  · by_cases z2 : v ≤ 100
    · rw [c1 z1 z2]
      rw [i_le] at z1 z2
      have e0 : (0 : Int32).toInt = 0 := by decide
      have e1 : (100 : Int32).toInt = 100 := by decide
      obtain ⟨x1, x2, x3⟩ := nn_of (x := v) (by omega)
      exact ⟨tN v, by omega, x1⟩
    · rw [c2 z1 z2]
      exact ⟨100, Nat.le_refl _, rfl⟩
  · rw [c3 z1]
    exact ⟨0, by decide, rfl⟩
theorem giv_ok {o : Nat} (ho : o < 5) (v : Int32) : vok (giv o v) := by
  unfold giv
  have e1 : (1000 : Int32) * nI o = nI (1000 * o) := by rw [show (1000 : Int32) = nI 1000 from rfl, pk_mul]
  split
  · split
    · exact ⟨0, 0, by decide, by decide, rfl⟩
    · refine ⟨o, 100, ho, by decide, ?_⟩
      rw [e1, show (100 : Int32) = nI 100 from rfl, nI_add]
  · obtain ⟨e, he, ee⟩ := clp_b v
    exact ⟨o, e, ho, he, by rw [e1, ee, nI_add]⟩
theorem evT_ok {N : Nat → Int32} : ∀ {R : List Rul}, (∀ r ∈ R, okR r) → vok (evT N R)
  | [], _ => ⟨0, 0, by decide, by decide, rfl⟩
  | r :: R, h => by
    unfold evT
    split
    · exact giv_ok (h r (by simp)).2.1 _
    · exact evT_ok (fun r hr => h r (by simp [hr]))
theorem syV_ok {g : Gh} {t : Nat} {ρ : RV} (hr : RIg g t ρ) {N : Nat → Int32} {x1 x3 : Int32} {s : Nat} : vok (syV g ρ N x1 s x3) := by
  unfold syV
  cases hf : foT ρ x1 s x3 (nT ρ) with
  | none => exact ⟨0, 0, by decide, by decide, rfl⟩
  | some i => exact evT_ok (hr.tx (foF_lt hf)).1.1
/-- a name that no rule says changes nothing -/
theorem exI_no {N N' : Nat → Int32} {k0 : Nat} (h : ∀ k, k ≠ k0 → N k = N' k) : ∀ {es : List Itm} {st : List Int32}, (1, k0) ∉ es → exI N es st = exI N' es st
  | [], _, _ => rfl
  | i :: r, st, hn => by
    unfold exI
    have hi : stp N i st = stp N' i st := by
      unfold stp
      by_cases c1 : i.1 = 1
      · have c0 : ¬ i.1 = 0 := by omega
        have : i.2 ≠ k0 := fun z => hn (by
          have : i = (1, k0) := by rw [← c1, ← z]
          rw [this]
          simp)
        rw [if_neg c0, if_neg c0, if_pos c1, if_pos c1, h _ this]
      · simp only [c1, if_false]
    rw [hi]
    exact exI_no h (fun z => hn (List.mem_cons_of_mem _ z))
theorem evT_no {N N' : Nat → Int32} {k0 : Nat} (h : ∀ k, k ≠ k0 → N k = N' k) : ∀ {R : List Rul}, nNm k0 R → evT N R = evT N' R
  | [], _ => rfl
  | r :: R, hn => by
    unfold evT
    have h1 := hn r (by simp)
    rw [exI_no h h1.1, exI_no h h1.2, evT_no h (fun r hr => hn r (by simp [hr]))]
