/-! reading the constant strings -/
def sB (a : Nat) : List Int32 := if a = 1 then zB1 else if a = 2 then zB2 else if a = 3 then zB3 else zB4
theorem sB_ok : ∀ a, a < 5 → 1 ≤ a → ∀ x ∈ sB a, (((x &&& 255)).toUInt32 % 65536).toInt32 = x := by decide +kernel
theorem getD_mem {l : List Int32} {j : Nat} (h : j < l.length) : l.getD j 0 ∈ l := by
  rw [List.getD_eq_getElem?_getD, List.getElem?_eq_getElem h]
  exact List.getElem_mem h
section Str
variable {E : ZE} {l : Launch} {d nc ns : Nat} {M : ZM} {K : Option Value → ZM → Prop} {a q : Nat}
theorem CST.sb (hc : CST M) (h1 : 1 ≤ a) (h2 : a < 5) {j : Nat} (hj : j < (sB a).length) : zI M (a + 4) j = (sB a).getD j 0 := by
  obtain ⟨c1, c2, c3, c4, -⟩ := hc
  have : a = 1 ∨ a = 2 ∨ a = 3 ∨ a = 4 := by omega
  rcases this with rfl | rfl | rfl | rfl
  · exact c1 j hj
  · exact c2 j hj
  · exact c3 j hj
  · exact c4 j hj
theorem st_s (hS : Stat M) (h1 : 1 ≤ a) (h2 : a < 5) : zK M a = 21 ∧ zA M a 0 = some (a + 4) ∧ zK M (a + 4) = 12 ∧ zL M (a + 4) = (sB a).length := by
  have : a = 1 ∨ a = 2 ∨ a = 3 ∨ a = 4 := by omega
  rcases this with rfl | rfl | rfl | rfl
  · exact ⟨sk_1 hS, hS.2.2.1 (1, 0, 5) (by decide), sk_5 hS, (sl_5 hS).trans (by decide)⟩
  · exact ⟨sk_2 hS, hS.2.2.1 (2, 0, 6) (by decide), sk_6 hS, (sl_6 hS).trans (by decide)⟩
  · exact ⟨sk_3 hS, hS.2.2.1 (3, 0, 7) (by decide), sk_7 hS, (sl_7 hS).trans (by decide)⟩
  · exact ⟨sk_4 hS, hS.2.2.1 (4, 0, 8) (by decide), sk_8 hS, (sl_8 hS).trans (by decide)⟩
theorem sB_len : ∀ a, a < 5 → (sB a).length ≤ 68 := by decide
theorem c_length (hS : Stat M) (h1 : 1 ≤ a) (h2 : a < 5) (k : K (some (.int (nI (sB a).length))) M) : AW E l (d + 1) nc ns mJ0_length_8abf5 0 (zargs 1 [.ref a]) [] M K := by
  obtain ⟨k1, k2, k3, k4⟩ := st_s hS h1 h2
  refine t_J0_length_8abf5 hS ⟨k1, fun b hb => ?_⟩
  rw [k2] at hb
  cases hb
  refine ⟨k3, ?_⟩
  rw [k4]
  have : ∀ a, a < 5 → (nI (sB a).length) >>> ((0 : Int32) &&& 31) = nI (sB a).length := by decide +kernel
  rw [this a h2]
  exact k
theorem c_charAt (hS : Stat M) (hc : CST M) (h1 : 1 ≤ a) (h2 : a < 5) (hq : q < (sB a).length) (k : K (some (.int ((sB a).getD q 0))) M) : AW E l (d + 4) nc ns mJ0_charAt_5068e 0 (zargs 2 [.ref a, .int (nI q)]) [] M K := by
  obtain ⟨k1, k2, k3, k4⟩ := st_s hS h1 h2
  have bl := sB_len a h2
  have e1 := hc.sb h1 h2 hq
  have e2 := sB_ok a h2 h1 _ (getD_mem hq)
  have nr : ∀ a, a < 5 → 1 ≤ a → ∀ x ∈ sB a, narrow .char (.int x) = .int x := by decide +kernel
  have e3 := nr a h2 h1 _ (getD_mem hq)
  refine t_J0_charAt_5068e hS ⟨k1, fun b hb => ?_⟩
  rw [k2] at hb
  cases hb
  refine t_J1_charAt_3b067 hS ⟨k3, ?_⟩
  rw [k4]
  refine aw_ck hq (by omega) ⟨rfl, hS, k3, by rw [k4]; exact vp_in_nI hq (by omega), ?_⟩
  rw [nI_clamp (by omega), e1, e2]
  exact ⟨e3, _, rfl, hS, e3, k⟩
end Str
/-! a word of a list -/
def wEq (by_ : Nat → Int32) (f t : Nat) (w : List Int32) : Prop := t = f + w.length ∧ ∀ i, i < w.length → by_ (f + i) = w.getD i 0
def sAt (S : List Int32) (p : Nat) : List (List Int32) → Prop
  | [] => p = S.length + 1
  | w :: r => (∀ i, i < w.length → p + i < S.length ∧ S.getD (p + i) 0 = w.getD i 0 ∧ ¬ w.getD i 0 = 32) ∧ (p + w.length = S.length ∨ (p + w.length < S.length ∧ S.getD (p + w.length) 0 = 32)) ∧ sAt S (p + w.length + 1) r
def mtP (by_ : Nat → Int32) (f t : Nat) (w : List Int32) (i : Nat) : Prop := ∀ q, q < i → f + q < t ∧ by_ (f + q) = w.getD q 0
section Place
variable {E : ZE} {l : Launch} {d nc ns : Nat} {M : ZM} {K : Option Value → ZM → Prop} {a f t L : Nat}
def PSt (E : ZE) (l : Launch) (d nc ns : Nat) (M : ZM) (K : Option Value → ZM → Prop) (a f t : Nat) (k x5 : Nat) (x6 : Int32) (p : Nat) : Prop := AW E l (d + 5) nc ns mX8_placeInList 12 [some (.ref 20), some (.ref a), some (.int (nI f)), some (.int (nI t)), some (.int (nI k)), some (.int (nI x5)), some (.int x6), some (.int (nI p))] [] M K
/-- behind a word -/
theorem c_plEnd (hS : Stat M) (hc : CST M) (h1 : 1 ≤ a) (h2 : a < 5) {w : List Int32} {p k : Nat} {x6 : Int32} (hf : f ≤ 200) (ht : t ≤ 200) (hk : k < 1000) (hp : p + w.length = (sB a).length ∨ (p + w.length < (sB a).length ∧ (sB a).getD (p + w.length) 0 = 32)) (hm : (x6 = 1 ∧ mtP (zI M 21) f t w w.length) ∨ (x6 = 0 ∧ ¬ mtP (zI M 21) f t w w.length)) (k1 : wEq (zI M 21) f t w → K (some (.int (nI k))) M) (k2 : ¬ wEq (zI M 21) f t w → PSt E l d nc ns M K a f t (k + 1) f 1 (p + w.length + 1)) : PSt E l d nc ns M K a f t k (f + w.length) x6 (p + w.length) := by
  obtain ⟨q1, q2, q3, q4⟩ := st_s hS h1 h2
  have bl := sB_len a h2
  have wl : w.length ≤ 68 := by omega
  unfold PSt at k2 ⊢
  rw [← nI_1, ← nI_1 (p + w.length)] at k2
  have fin : (x6 = 0 → AW E l (d + 5) nc ns mX8_placeInList 12 [some (.ref 20), some (.ref a), some (.int (nI f)), some (.int (nI t)), some (.int (nI k + 1)), some (.int (nI f)), some (.int 1), some (.int (nI (p + w.length) + 1))] [] M K) ∧ (¬ x6 = 0 → (¬ nI (f + w.length) = nI t → AW E l (d + 5) nc ns mX8_placeInList 12 [some (.ref 20), some (.ref a), some (.int (nI f)), some (.int (nI t)), some (.int (nI k + 1)), some (.int (nI f)), some (.int 1), some (.int (nI (p + w.length) + 1))] [] M K) ∧ (nI (f + w.length) = nI t → K (some (.int (nI k))) M)) := by
    rw [nI_eq (by omega) (by omega)]
    rcases hm with ⟨e, m⟩ | ⟨e, m⟩
    · rw [e]
      refine ⟨fun z => absurd z (by decide), fun _ => ⟨fun z => k2 (fun y => z y.1.symm), fun z => k1 ⟨z.symm, fun i hi => (m i hi).2⟩⟩⟩
    · rw [e]
      refine ⟨fun _ => k2 (fun y => m (fun q hq => ⟨by have := y.1; omega, y.2 q hq⟩)), fun z => absurd rfl z⟩
  refine t_X8_placeInList_12 hS ⟨q1, ?_⟩
  refine c_length hS h1 h2 ⟨_, rfl, hS, c_f (by rw [nI_ltI (by omega) (by omega)]; omega) ⟨q1, ?_⟩⟩
  refine c_length hS h1 h2 ⟨_, rfl, hS, ?_⟩
  rw [nI_eq (by omega) (by omega)]
  refine ⟨fun _ => fin, fun z => ⟨q1, ?_⟩⟩
  rcases hp with hp | ⟨hp, e32⟩
  · exact absurd hp z
  · refine c_charAt hS hc h1 h2 hp ⟨_, rfl, hS, fun y => absurd e32 y, fun _ => fin⟩
theorem c_plWord (hS : Stat M) (hc : CST M) (h1 : 1 ≤ a) (h2 : a < 5) (hL : zI M 20 1 = nI L) (hL2 : L ≤ 200) {w : List Int32} {p k : Nat} (hf : f ≤ t) (ht : t ≤ L) (hk : k < 1000) (hw : ∀ i, i < w.length → p + i < (sB a).length ∧ (sB a).getD (p + i) 0 = w.getD i 0 ∧ ¬ w.getD i 0 = 32) (hp : p + w.length = (sB a).length ∨ (p + w.length < (sB a).length ∧ (sB a).getD (p + w.length) 0 = 32)) (k1 : wEq (zI M 21) f t w → K (some (.int (nI k))) M) (k2 : ¬ wEq (zI M 21) f t w → PSt E l d nc ns M K a f t (k + 1) f 1 (p + w.length + 1)) : PSt E l d nc ns M K a f t k f 1 p := by
  obtain ⟨q1, q2, q3, q4⟩ := st_s hS h1 h2
  have bl := sB_len a h2
  suffices h : ∀ x6 : Int32, ((x6 = 1 ∧ mtP (zI M 21) f t w 0) ∨ (x6 = 0 ∧ ¬ mtP (zI M 21) f t w 0)) → PSt E l d nc ns M K a f t k (f + 0) x6 (p + 0) from h 1 (Or.inl ⟨rfl, fun q hq => by omega⟩)
  refine lpd (P := fun i => ∀ x6 : Int32, ((x6 = 1 ∧ mtP (zI M 21) f t w i) ∨ (x6 = 0 ∧ ¬ mtP (zI M 21) f t w i)) → PSt E l d nc ns M K a f t k (f + i) x6 (p + i)) (n := w.length) ?_ ?_
  · intro x6 hm
    exact c_plEnd hS hc h1 h2 (by omega) (by omega) hk hp hm k1 k2
  · intro i hi ih x6 hm
    obtain ⟨w1, w2, w3⟩ := hw i hi
    unfold PSt
    refine t_X8_placeInList_12 hS ⟨q1, ?_⟩
    refine c_length hS h1 h2 ⟨_, rfl, hS, c_f (by rw [nI_ltI (by omega) (by omega)]; omega) ⟨q1, ?_⟩⟩
    refine c_length hS h1 h2 ⟨_, rfl, hS, ?_⟩
    rw [nI_eq (by omega) (by omega)]
    refine ⟨fun z => absurd z (by omega), fun _ => ⟨q1, ?_⟩⟩
    refine c_charAt hS hc h1 h2 w1 ⟨_, rfl, hS, fun _ => ?_, fun y => absurd y (by rw [w2]; exact w3)⟩
    have no : ¬ mtP (zI M 21) f t w (i + 1) → AW E l (d + 5) nc ns mX8_placeInList 12 [some (.ref 20), some (.ref a), some (.int (nI f)), some (.int (nI t)), some (.int (nI k)), some (.int (nI (f + i) + 1)), some (.int 0), some (.int (nI (p + i) + 1))] [] M K := fun m => by
      have := ih 0 (Or.inr ⟨rfl, m⟩)
      rw [nI_1, nI_1]
      exact this
    have yes : mtP (zI M 21) f t w (i + 1) → AW E l (d + 5) nc ns mX8_placeInList 12 [some (.ref 20), some (.ref a), some (.int (nI f)), some (.int (nI t)), some (.int (nI k)), some (.int (nI (f + i) + 1)), some (.int 1), some (.int (nI (p + i) + 1))] [] M K := fun m => by
      have := ih 1 (Or.inl ⟨rfl, m⟩)
      rw [nI_1, nI_1]
      exact this
    rcases hm with ⟨e, m⟩ | ⟨e, m⟩
    · rw [e]
      refine c_f (by decide) ?_
      rw [nI_leI (by omega) (by omega)]
      refine ⟨fun z => no (fun y => by have := (y i (by omega)).1; omega), fun z => c_f (nI_pos (by omega)) (c_f (by rw [hL, nI_leI (by omega) (by omega)]; omega) (c_f (by rw [show (200 : Int32) = nI 200 from rfl, nI_leI (by decide) (by omega)]; omega) ⟨vp_in_nI (by omega) (by decide), q1, ?_⟩))⟩
      refine c_charAt hS hc h1 h2 w1 ⟨_, rfl, hS, ?_⟩
      rw [nI_clamp (by omega), w2]
      refine ⟨fun y => no (fun y' => y (y' i (by omega)).2), fun y => yes (fun q hq => ?_)⟩
      by_cases c : q = i
      · rw [c]
        exact ⟨by omega, y⟩
      · exact m q (by omega)
    · rw [e]
      exact c_t rfl (no (fun y => m (fun q hq => y q (by omega))))
/-- which word it is -/
def pIx (by_ : Nat → Int32) (f t : Nat) : Nat → List (List Int32) → Option Nat
  | _, [] => none
  | k, w :: r => if t = f + w.length ∧ ∀ i, i < w.length → by_ (f + i) = w.getD i 0 then some k else pIx by_ f t (k + 1) r
def oI (o : Option Nat) : Int32 := match o with
  | none => -1
  | some k => nI k
theorem c_plList (hS : Stat M) (hc : CST M) (h1 : 1 ≤ a) (h2 : a < 5) (hL : zI M 20 1 = nI L) (hL2 : L ≤ 200) (hf : f ≤ t) (ht : t ≤ L) : ∀ (ws : List (List Int32)) (p k : Nat), k + ws.length < 1000 → sAt (sB a) p ws → K (some (.int (oI (pIx (zI M 21) f t k ws)))) M → PSt E l d nc ns M K a f t k f 1 p
  | [], p, k, hk, hw, h => by
    obtain ⟨q1, q2, q3, q4⟩ := st_s hS h1 h2
    have bl := sB_len a h2
    have hw : p = (sB a).length + 1 := hw
    refine t_X8_placeInList_12 hS ⟨q1, c_length hS h1 h2 ⟨_, rfl, hS, c_t ?_ h⟩⟩
    rw [nI_ltI (by omega) (by omega)]
    omega
  | w :: r, p, k, hk, ⟨w1, w2, w3⟩, h => by
    simp only [List.length_cons] at hk
    refine c_plWord hS hc h1 h2 hL hL2 hf ht (by omega) w1 w2 (fun z => ?_) (fun z => ?_)
    · unfold pIx at h
      rw [if_pos (show _ ∧ _ from z)] at h
      exact h
    · unfold pIx at h
      rw [if_neg (show ¬ (_ ∧ _) from z)] at h
      exact c_plList hS hc h1 h2 hL hL2 hf ht r _ (k + 1) (by omega) w3 h
theorem c_place (hS : Stat M) (hc : CST M) (h1 : 1 ≤ a) (h2 : a < 5) (hL : zI M 20 1 = nI L) (hL2 : L ≤ 200) (hf : f ≤ t) (ht : t ≤ L) {ws : List (List Int32)} (hl : ws.length < 1000) (hw : sAt (sB a) 0 ws) (h : K (some (.int (oI (pIx (zI M 21) f t 0 ws)))) M) : AW E l (d + 5) nc ns mX8_placeInList 0 (zargs 8 [.ref 20, .ref a, .int (nI f), .int (nI t)]) [] M K :=
  t_X8_placeInList hS (c_plList hS hc h1 h2 hL hL2 hf ht ws 0 0 (by omega) hw h)
end Place
def wsN : List (List Int32) := [[100, 97, 121, 115], [102, 97, 117, 108, 116], [119, 111, 114, 110], [111, 112, 101, 110, 101, 100], [112, 114, 111, 111, 102], [103, 105, 102, 116], [107, 105, 110, 100], [112, 114, 105, 99, 101], [115, 105, 122, 101], [109, 111, 110, 116, 104], [116, 104, 114, 101, 101, 115], [116, 105, 109, 101, 115]]
def wsW : List (List Int32) := [[110, 111], [109, 101, 110, 100], [115, 119, 97, 112], [110, 111, 116, 101], [114, 101, 102, 117, 110, 100], [111, 114], [97, 110, 100], [110, 111, 116]]
def wsL : List (List Int32) := [[98, 111, 117, 103, 104, 116], [98, 97, 99, 107], [115, 104, 97, 114, 101], [115, 112, 101, 110, 116], [108, 97, 116, 101, 108, 121]]
def wdS (a : Nat) : List (List Int32) := if a = 1 then wsN else if a = 2 then wsW else wsL
def sAtB (S : List Int32) : Nat → List (List Int32) → Bool
  | p, [] => decide (p = S.length + 1)
  | p, w :: r => (List.range w.length).all (fun i => decide (p + i < S.length ∧ S.getD (p + i) 0 = w.getD i 0 ∧ ¬ w.getD i 0 = 32)) && (decide (p + w.length = S.length ∨ (p + w.length < S.length ∧ S.getD (p + w.length) 0 = 32)) && sAtB S (p + w.length + 1) r)
theorem sAtB_ok {S : List Int32} : ∀ {ws : List (List Int32)} {p : Nat}, sAtB S p ws = true → sAt S p ws
  | [], p, h => by
    have h : decide (p = S.length + 1) = true := h
    have h : p = S.length + 1 := of_decide_eq_true h
    exact h
  | w :: r, p, h => by
    unfold sAtB at h
    rw [Bool.and_eq_true, Bool.and_eq_true, List.all_eq_true] at h
    obtain ⟨h1, h2, h3⟩ := h
    exact ⟨fun i hi => of_decide_eq_true (h1 i (List.mem_range.mpr hi)), of_decide_eq_true h2, sAtB_ok h3⟩
theorem ws_ok : sAt (sB 1) 0 (wdS 1) ∧ sAt (sB 2) 0 (wdS 2) ∧ sAt (sB 4) 0 (wdS 4) := ⟨sAtB_ok (by decide +kernel), sAtB_ok (by decide +kernel), sAtB_ok (by decide +kernel)⟩
