theorem on_none {A : Prop} {B : Nat → Prop} (h : A) : ((none : Option Nat) = none → A) ∧ (∀ b, (none : Option Nat) = some b → B b) := ⟨fun _ => h, fun _ z => by cases z⟩
theorem on_some {o : Option Nat} {a : Nat} {A : Prop} {B : Nat → Prop} (e : o = some a) (h : B a) : (o = none → A) ∧ (∀ b, o = some b → B b) := ⟨fun z => (by rw [e] at z; cases z), fun b z => (by rw [e] at z; cases z; exact h)⟩
theorem c_t {c A B : Prop} (hc : c) (h : A) : (c → A) ∧ (¬ c → B) := ⟨fun _ => h, fun z => absurd hc z⟩
theorem c_f {c A B : Prop} (hc : ¬ c) (h : B) : (c → A) ∧ (¬ c → B) := ⟨fun z => absurd z hc, fun _ => h⟩
theorem c_e {c A B : Prop} (h1 : c → A) (h2 : ¬ c → B) : (c → A) ∧ (¬ c → B) := ⟨h1, h2⟩
def jP (g : Gh) (ρ : RV) (s : Nat) (k pf day : Int32) (d f w o : Nat) : Int32 × Int32 := (syV g ρ (nmF ρ s pf day (nI d) (nI f) (nI w) (nI o)) 0 s k, syV g ρ (nmF ρ s pf day (nI d) (nI f) (nI w) (nI o)) 1 s k)
def nMd (g : Gh) (ρ : RV) (s : Nat) (k : Int32) (j : Nat) : Prop := ∀ x i, (x = 0 ∨ x = 1) → foT ρ x s k (nT ρ) = some i → nNm j (g.1 i)
theorem syV_no {g : Gh} {ρ : RV} {s j : Nat} {k x : Int32} {N N' : Nat → Int32} (hn : nMd g ρ s k j) (hx : x = 0 ∨ x = 1) (h : ∀ i, i ≠ j → N i = N' i) : syV g ρ N x s k = syV g ρ N' x s k := by
  unfold syV
  cases hf : foT ρ x s k (nT ρ) with
  | none => rfl
  | some i => exact evT_no h (hn x i hx hf)
theorem jP_no {g : Gh} {ρ : RV} {s j : Nat} {k pf day : Int32} {d f w o d' f' w' o' : Nat} (hn : nMd g ρ s k j) (h : ∀ i, i ≠ j → nmF ρ s pf day (nI d) (nI f) (nI w) (nI o) i = nmF ρ s pf day (nI d') (nI f') (nI w') (nI o') i) : jP g ρ s k pf day d f w o = jP g ρ s k pf day d' f' w' o' := by
  unfold jP
  rw [syV_no hn (Or.inl rfl) h, syV_no hn (Or.inr rfl) h]
theorem gD (x y : Int32) (l : List Int32) : ∀ k, k ≠ 0 → (x :: l).getD k 0 = (y :: l).getD k 0
  | 0, h => absurd rfl h
  | _ + 1, _ => rfl
theorem gD1 (a x y : Int32) (l : List Int32) : ∀ k, k ≠ 1 → (a :: x :: l).getD k 0 = (a :: y :: l).getD k 0
  | 0, _ => rfl
  | 1, h => absurd rfl h
  | _ + 2, _ => rfl
theorem gD2 (a b x y : Int32) (l : List Int32) : ∀ k, k ≠ 2 → (a :: b :: x :: l).getD k 0 = (a :: b :: y :: l).getD k 0
  | 0, _ => rfl
  | 1, _ => rfl
  | 2, h => absurd rfl h
  | _ + 3, _ => rfl
theorem gD3 (a b c x y : Int32) (l : List Int32) : ∀ k, k ≠ 3 → (a :: b :: c :: x :: l).getD k 0 = (a :: b :: c :: y :: l).getD k 0
  | 0, _ => rfl
  | 1, _ => rfl
  | 2, _ => rfl
  | 3, h => absurd rfl h
  | _ + 4, _ => rfl
theorem gD4 (a b c e a' b' c' e' : Int32) (l : List Int32) : ∀ k, 4 ≤ k → (a :: b :: c :: e :: l).getD k 0 = (a' :: b' :: c' :: e' :: l).getD k 0
  | 0, h => by omega
  | 1, h => by omega
  | 2, h => by omega
  | 3, h => by omega
  | _ + 4, _ => rfl
theorem nmF_hi {ρ : RV} {s : Nat} {pf day d f w o d' f' w' o' : Int32} {k : Nat} (h : 4 ≤ k) : nmF ρ s pf day d f w o k = nmF ρ s pf day d' f' w' o' k := gD4 _ _ _ _ _ _ _ _ _ _ h
/-- the pairs of all facts, days first -/
def jL (F : Nat → Nat → Nat → Nat → Int32 × Int32) (d0 nd f0 nf w0 nw o0 no : Nat) : List (Int32 × Int32) := (rl d0 nd).flatMap fun d => (rl f0 nf).flatMap fun f => (rl w0 nw).flatMap fun w => (rl o0 no).flatMap fun o => [F d f w o]
theorem jL_eq {P : Nat} {g : Gh} {ρ : RV} {s : Nat} {k pf day : Int32} {d0 nd md f0 nf mf w0 nw mw o0 no mo : Nat} (hd : md = nd + 1 ∨ (md = 1 ∧ nMd g ρ s k 0)) (hf : mf = nf + 1 ∨ (mf = 1 ∧ nMd g ρ s k 1)) (hw : mw = nw + 1 ∨ (mw = 1 ∧ nMd g ρ s k 2)) (ho : mo = no + 1 ∨ (mo = 1 ∧ nMd g ρ s k 3)) (J : JS) : (jL (jP g ρ s k pf day) d0 md f0 mf w0 mw o0 mo).foldl (hear P) J = (jL (jP g ρ s k pf day) d0 (nd + 1) f0 (nf + 1) w0 (nw + 1) o0 (no + 1)).foldl (hear P) J := by
  unfold jL
  refine fold_lvl J (hd.imp id fun z => ⟨z.1, fun i _ _ => ?_⟩) fun d J _ _ => fold_lvl J (hf.imp id fun z => ⟨z.1, fun i _ _ => ?_⟩) fun f J _ _ => fold_lvl J (hw.imp id fun z => ⟨z.1, fun i _ _ => ?_⟩) fun w J _ _ => fold_lvl J (ho.imp id fun z => ⟨z.1, fun i _ _ => ?_⟩) fun o J _ _ => rfl
  · simp only [fun f w o => jP_no (pf := pf) (day := day) (d := i) (d' := d0) (f := f) (f' := f) (w := w) (w' := w) (o := o) (o' := o) z.2 (gD _ _ _)]
  · simp only [fun w o => jP_no (pf := pf) (day := day) (d := d) (d' := d) (f := i) (f' := f0) (w := w) (w' := w) (o := o) (o' := o) z.2 (gD1 _ _ _ _)]
  · simp only [fun o => jP_no (pf := pf) (day := day) (d := d) (d' := d) (f := f) (f' := f) (w := i) (w' := w0) (o := o) (o' := o) z.2 (gD2 _ _ _ _ _)]
  · rw [jP_no (pf := pf) (day := day) (d := d) (d' := d) (f := f) (f' := f) (w := w) (w' := w) (o := i) (o' := o0) z.2 (gD3 _ _ _ _ _ _)]
theorem jL_some {P : Nat} {F : Nat → Nat → Nat → Nat → Int32 × Int32} {d0 nd f0 nf w0 nw o0 no : Nat} : ∃ b s w, (jL F d0 (nd + 1) f0 (nf + 1) w0 (nw + 1) o0 (no + 1)).foldl (hear P) none = some (b, s, w) := by
  have hm : F d0 f0 w0 o0 ∈ jL F d0 (nd + 1) f0 (nf + 1) w0 (nw + 1) o0 (no + 1) := by
    unfold jL
    rw [rl_s, rl_s, rl_s, rl_s]
    simp
  obtain ⟨b, s, w, h, -⟩ := cov_mem (P := P) (J := none) hm
  exact ⟨b, s, w, h⟩
theorem JR.cg {P : Nat} {J : JS} {M M' : ZM} (h : JR P J M) (e : ∀ j, zI M' 29 j = zI M 29 j) : JR P J M' := by
  unfold JR at h ⊢
  cases J with
  | none => simp only [e] at h ⊢; exact h
  | some q => simp only [e] at h ⊢; exact h
def JI (ρ : RV) (s : Nat) (pf : Int32) (n : Nat) (μ M : ZM) : Prop := Stat M ∧ EqX μ M (fun b _ => 22 ≤ b ∧ b ≤ 29) (fun _ _ => False) ∧ (∀ j, zJ M 86 j = zJ μ 86 j) ∧ ∀ (d f w o : Int32) k, 4 ≤ k → k < 12 → zI M 27 k = nmF ρ s pf (nI n) d f w o k
section Judge
variable {E : ZE} {l : Launch} {d nc ns : Nat} {g : Gh} {L : Nat} {X : Nat → Int32} {t : Nat} {μ M : ZM} {ρ : RV} {K : Option Value → ZM → Prop} {s n P a1 : Nat} {o3 o4 : Option Nat} {J : JS} {x1 x3 x5 x6 x7 x8 pf : Int32} {d0 f0 w0 o0 : Nat}
theorem c_textForO (hS : Stat μ) (hr : RIg g t ρ) (hc : CRg g μ ρ) (hs : s < nS ρ) (k : K (some (va_rf ((foT ρ x1 s x3 (nT ρ)).map (taF μ)))) μ) : AW E l (d + 1) nc ns mX10_textFor 0 (zargs 6 [.ref 11, .int x1, .ref (saF μ s), .int x3]) [] μ K := by
  refine c_textFor hS hr hc hs (fun z => ?_) (fun i z => ?_)
  · rw [z] at k
    exact k
  · rw [z] at k
    exact k
theorem tx_x {i : Nat} (hI : IV g L X t μ) (hρ : rf μ = ρ) (hx : EqX μ M (fun b _ => 22 ≤ b ∧ b ≤ 29) (fun _ _ => False)) (hi : i < nT ρ) : taF M i = taF μ i ∧ zK M (taF μ i) = 9 ∧ zA M (taF μ i) 4 = some (taF μ i + 1) ∧ zI M (taF μ i) 5 = zI μ (taF μ i) 5 ∧ ∀ k, k < 4 → (zI M (taF μ i) 5) &&& ((1 : Int32) <<< (nI k &&& 31)) = 0 → nNm k (g.1 i) := by
  obtain ⟨c1, c2, c3, c4, c5, c6, c7, c8, c9, c10, c11, c12, c13⟩ := (hI.c hρ).tx hi
  have h88 := hI.st.N
  have e5 : zI M (taF μ i) 5 = zI μ (taF μ i) 5 := hx.2.2.1 _ _ (by omega) (by omega)
  refine ⟨?_, ?_, ?_, e5, ?_⟩
  · unfold taF
    rw [hx.2.2.2.1 16 i (by omega) (fun z => z)]
  · rw [(hx.2.1 _ (by omega)).1]; exact c4
  · rw [hx.2.2.2.1 _ _ (by omega) (fun z => z)]; exact c9
  · rw [e5]; exact c13
theorem c_runAt {a i : Nat} (hI : IV g L X t μ) (hρ : rf μ = ρ) (hi : i < nT ρ) (ha : taF μ i = a) (k : ∀ M st, Stat M → MSc μ M st → K (some (.int (evT (zI μ 27) (g.1 i)))) M) : AW E l (d + 3) nc ns mX3_run 0 (zargs 5 [.ref 26, .ref (a + 1)]) [] μ K := by
  subst ha
  exact c_runText hI hρ hi k
theorem lv_gen (hI : IV g L X t μ) (hρ : rf μ = ρ) (hx : EqX μ M (fun b _ => 22 ≤ b ∧ b ≤ 29) (fun _ _ => False)) (h3 : o3 = (foT ρ 0 s x3 (nT ρ)).map (taF μ)) (h4 : o4 = (foT ρ 1 s x3 (nT ρ)).map (taF μ)) {kk : Nat} (hk : kk < 4) {c : Int32} (hc : nI kk = c) {A B : Prop} (hA : nMd g ρ s x3 kk → A) (hB : B) :
  (o3 = none →
    (o4 = none → A) ∧
    (∀ b4, o4 = some b4 →
      (zK M b4 = 9) ∧
      (((zI M b4 5) &&& ((1 : Int32) <<< (c &&& 31))) = 0 → A) ∧
      (¬ ((zI M b4 5) &&& ((1 : Int32) <<< (c &&& 31))) = 0 → B))) ∧
  (∀ b2, o3 = some b2 →
    (zK M b2 = 9) ∧
    (((zI M b2 5) &&& ((1 : Int32) <<< (c &&& 31))) = 0 →
      (o4 = none → A) ∧
      (∀ b12, o4 = some b12 →
        (zK M b12 = 9) ∧
        (((zI M b12 5) &&& ((1 : Int32) <<< (c &&& 31))) = 0 → A) ∧
        (¬ ((zI M b12 5) &&& ((1 : Int32) <<< (c &&& 31))) = 0 → B))) ∧
    (¬ ((zI M b2 5) &&& ((1 : Int32) <<< (c &&& 31))) = 0 → B)) := by
  subst hc
  have nm : ∀ (o : Option Nat) (x : Int32), o = (foT ρ x s x3 (nT ρ)).map (taF μ) → ∀ b, o = some b → ∃ i, foT ρ x s x3 (nT ρ) = some i ∧ b = taF μ i ∧ zK M b = 9 ∧ ((zI M b 5) &&& ((1 : Int32) <<< (nI kk &&& 31)) = 0 → nNm kk (g.1 i)) := by
    intro o x ho b hb
    rw [ho] at hb
    cases hf : foT ρ x s x3 (nT ρ) with
    | none => rw [hf] at hb; cases hb
    | some i =>
      rw [hf] at hb
      cases hb
      obtain ⟨-, q2, -, -, q5⟩ := tx_x hI hρ hx (foF_lt hf)
      exact ⟨i, rfl, rfl, q2, q5 kk hk⟩
  have nn : ∀ (o : Option Nat) (x : Int32), o = (foT ρ x s x3 (nT ρ)).map (taF μ) → o = none → foT ρ x s x3 (nT ρ) = none := by
    intro o x ho hb
    rw [ho] at hb
    cases hf : foT ρ x s x3 (nT ρ) with
    | none => rfl
    | some i => rw [hf] at hb; cases hb
  have mk : (∀ i, foT ρ 0 s x3 (nT ρ) = some i → nNm kk (g.1 i)) → (∀ i, foT ρ 1 s x3 (nT ρ) = some i → nNm kk (g.1 i)) → A := fun u0 u1 => hA (fun x i hx' hf => by
    rcases hx' with rfl | rfl
    · exact u0 i hf
    · exact u1 i hf)
  have w0 : o3 = none → ∀ i, foT ρ 0 s x3 (nT ρ) = some i → nNm kk (g.1 i) := fun z i hf => by rw [nn o3 0 h3 z] at hf; cases hf
  have w1 : o4 = none → ∀ i, foT ρ 1 s x3 (nT ρ) = some i → nNm kk (g.1 i) := fun z i hf => by rw [nn o4 1 h4 z] at hf; cases hf
  have rest : (∀ i, foT ρ 0 s x3 (nT ρ) = some i → nNm kk (g.1 i)) → (o4 = none → A) ∧ (∀ b12, o4 = some b12 → (zK M b12 = 9) ∧ (((zI M b12 5) &&& ((1 : Int32) <<< (nI kk &&& 31))) = 0 → A) ∧ (¬ ((zI M b12 5) &&& ((1 : Int32) <<< (nI kk &&& 31))) = 0 → B)) := by
    intro u0
    refine ⟨fun z => mk u0 (w1 z), fun b hb => ?_⟩
    obtain ⟨i, hf, -, q2, q5⟩ := nm o4 1 h4 b hb
    exact ⟨q2, fun z => mk u0 (fun j hj => by rw [hf] at hj; cases hj; exact q5 z), fun _ => hB⟩
  refine ⟨fun z => rest (w0 z), fun b hb => ?_⟩
  obtain ⟨i, hf, -, q2, q5⟩ := nm o3 0 h3 b hb
  exact ⟨q2, fun z => rest (fun j hj => by rw [hf] at hj; cases hj; exact q5 z), fun _ => hB⟩
theorem c_lv1 {y : Int32} (hI : IV g L X t μ) (hρ : rf μ = ρ) (hS : Stat M) (hx : EqX μ M (fun b _ => 22 ≤ b ∧ b ≤ 29) (fun _ _ => False)) (kA : zK M a1 = 0) (h3 : o3 = (foT ρ 0 s x3 (nT ρ)).map (taF μ)) (h4 : o4 = (foT ρ 1 s x3 (nT ρ)).map (taF μ)) (k1 : AW E l (d + 5) nc ns mX10_judge 111 [some (.ref 11), some (.ref a1), none, some (va_rf o3), some (va_rf o4), some (.int y), none, none, none, none, none, none, none] [.int (zI M a1 6)] M K) (k2 : nMd g ρ s x3 1 → AW E l (d + 5) nc ns mX10_judge 111 [some (.ref 11), some (.ref a1), none, some (va_rf o3), some (va_rf o4), some (.int y), none, none, none, none, none, none, none] [.int (zI M a1 5)] M K) : AW E l (d + 5) nc ns mX10_judge 81 [some (.ref 11), some (.ref a1), none, some (va_rf o3), some (va_rf o4), none, none, none, none, none, none, none, none] [.int y] M K :=
  t_X10_judge_81 hS (lv_gen hI hρ hx h3 h4 (kk := 1) (by decide) rfl (fun z => ⟨kA, k2 z⟩) (t_X10_judge_100 hS ⟨kA, k1⟩))
theorem c_lv2 {y : Int32} (hI : IV g L X t μ) (hρ : rf μ = ρ) (hS : Stat M) (hx : EqX μ M (fun b _ => 22 ≤ b ∧ b ≤ 29) (fun _ _ => False)) (kA : zK M a1 = 0) (h3 : o3 = (foT ρ 0 s x3 (nT ρ)).map (taF μ)) (h4 : o4 = (foT ρ 1 s x3 (nT ρ)).map (taF μ)) (k1 : AW E l (d + 5) nc ns mX10_judge 141 [some (.ref 11), some (.ref a1), none, some (va_rf o3), some (va_rf o4), some (.int x5), some (.int y), none, none, none, none, none, none] [.int (zI M a1 8)] M K) (k2 : nMd g ρ s x3 2 → AW E l (d + 5) nc ns mX10_judge 141 [some (.ref 11), some (.ref a1), none, some (va_rf o3), some (va_rf o4), some (.int x5), some (.int y), none, none, none, none, none, none] [.int (zI M a1 7)] M K) : AW E l (d + 5) nc ns mX10_judge 111 [some (.ref 11), some (.ref a1), none, some (va_rf o3), some (va_rf o4), some (.int x5), none, none, none, none, none, none, none] [.int y] M K :=
  t_X10_judge_111 hS (lv_gen hI hρ hx h3 h4 (kk := 2) (by decide) rfl (fun z => ⟨kA, k2 z⟩) (t_X10_judge_130 hS ⟨kA, k1⟩))
theorem c_lv3 {y : Int32} (hI : IV g L X t μ) (hρ : rf μ = ρ) (hS : Stat M) (hx : EqX μ M (fun b _ => 22 ≤ b ∧ b ≤ 29) (fun _ _ => False)) (kA : zK M a1 = 0) (h3 : o3 = (foT ρ 0 s x3 (nT ρ)).map (taF μ)) (h4 : o4 = (foT ρ 1 s x3 (nT ρ)).map (taF μ)) (k1 : AW E l (d + 5) nc ns mX10_judge 171 [some (.ref 11), some (.ref a1), none, some (va_rf o3), some (va_rf o4), some (.int x5), some (.int x6), some (.int y), none, none, none, none, none] [.int (zI M a1 10)] M K) (k2 : nMd g ρ s x3 3 → AW E l (d + 5) nc ns mX10_judge 171 [some (.ref 11), some (.ref a1), none, some (va_rf o3), some (va_rf o4), some (.int x5), some (.int x6), some (.int y), none, none, none, none, none] [.int (zI M a1 9)] M K) : AW E l (d + 5) nc ns mX10_judge 141 [some (.ref 11), some (.ref a1), none, some (va_rf o3), some (va_rf o4), some (.int x5), some (.int x6), none, none, none, none, none, none] [.int y] M K :=
  t_X10_judge_141 hS (lv_gen hI hρ hx h3 h4 (kk := 3) (by decide) rfl (fun z => ⟨kA, k2 z⟩) (t_X10_judge_160 hS ⟨kA, k1⟩))
theorem c_jbody (hI : IV g L X t μ) (hρ : rf μ = ρ) (hs : s < nS ρ) (h3 : o3 = (foT ρ 0 s x3 (nT ρ)).map (taF μ)) (h4 : o4 = (foT ρ 1 s x3 (nT ρ)).map (taF μ)) (hP : P ≤ 99999) (hM : JI ρ s pf n μ M) (hJ : JR P J M) (dd f w o : Nat) (c : ¬ x8 < nI o) (k : ∀ M', JI ρ s pf n μ M' → JR P (hear P J (jP g ρ s x3 pf (nI n) dd f w o)) M' → AW E l (d + 5) nc ns mX10_judge 218 [some (.ref 11), some (.ref a1), none, some (va_rf o3), some (va_rf o4), some (.int x5), some (.int x6), some (.int x7), some (.int x8), some (.int (nI dd)), some (.int (nI f)), some (.int (nI w)), some (.int (nI o + 1))] [] M' K) : AW E l (d + 5) nc ns mX10_judge 218 [some (.ref 11), some (.ref a1), none, some (va_rf o3), some (va_rf o4), some (.int x5), some (.int x6), some (.int x7), some (.int x8), some (.int (nI dd)), some (.int (nI f)), some (.int (nI w)), some (.int (nI o))] [] M K := by
  refine t_X10_judge_218 hM.1 (c_f c ?_)
  obtain ⟨M4, e4⟩ : ∃ m, m = sI (sI (sI (sI M 27 0 (nI dd)) 27 1 (nI f)) 27 2 (nI w)) 27 3 (nI o) := ⟨_, rfl⟩
  rw [← e4]
  have S4 : Stat M4 := by
    rw [e4]
    exact hM.1.wI.wI.wI.wI
  have x4 : EqX μ M4 (fun b _ => 22 ≤ b ∧ b ≤ 29) (fun _ _ => False) := by
    rw [e4]
    exact (((hM.2.1.wi (Or.inl (by decide))).wi (Or.inl (by decide))).wi (Or.inl (by decide))).wi (Or.inl (by decide))
  have j4 : ∀ j, zJ M4 86 j = zJ μ 86 j := fun j => by
    rw [e4]
    simp only [zJ_sI]
    exact hM.2.2.1 j
  obtain ⟨I4, r4⟩ := hI.csc hρ x4 j4 S4
  have h88 := hI.st.N
  have hr := hI.r hρ
  have N4 : ∀ k, k < 12 → zI M4 27 k = nmF ρ s pf (nI n) (nI dd) (nI f) (nI w) (nI o) k := by
    intro k hk
    rw [e4]
    by_cases c : 4 ≤ k
    · rw [zI_nk (by omega), zI_nk (by omega), zI_nk (by omega), zI_nk (by omega)]
      exact hM.2.2.2 _ _ _ _ k c hk
    · have hk4 : k = 0 ∨ k = 1 ∨ k = 2 ∨ k = 3 := by omega
      rcases hk4 with rfl | rfl | rfl | rfl
      all_goals
        simp (disch := omega) only [zI_nk, zI_eq]
        rfl
  have J4 : JR P J M4 := hJ.cg (fun j => by rw [e4]; simp (disch := omega) only [zI_ne])
  have xr : ∀ Ma, EqX M4 Ma (fun b j => (b = 26 ∧ j = 2) ∨ b = 28) (fun _ _ => False) → EqX μ Ma (fun b _ => 22 ≤ b ∧ b ≤ 29) (fun _ _ => False) := fun Ma h => x4.trans (h.mono (fun b j z => by omega) (fun _ _ z => z))
  have n4 : zN μ ≤ zN M4 := x4.1
  have fin : ∀ Ma, Stat Ma → EqX M4 Ma (fun b j => (b = 26 ∧ j = 2) ∨ b = 28) (fun _ _ => False) → (∀ j, zJ Ma 86 j = zJ M4 86 j) → ∀ v1 v2, v1 = (jP g ρ s x3 pf (nI n) dd f w o).1 → v2 = (jP g ρ s x3 pf (nI n) dd f w o).2 → AW E l (d + 4) 0 0 mX1_hear 0 (zargs 8 [.ref 29, .int v1, .int v2]) [] Ma (fun v μ6 => v = none ∧ Stat μ6 ∧ AW E l (d + 5) nc ns mX10_judge 218 [some (.ref 11), some (.ref a1), none, some (va_rf o3), some (va_rf o4), some (.int x5), some (.int x6), some (.int x7), some (.int x8), some (.int (nI dd)), some (.int (nI f)), some (.int (nI w)), some (.int (nI o + 1))] [] μ6 K) := by
    intro Ma hSa hxa hja v1 v2 e1 e2
    obtain ⟨Ia, ra⟩ := hI.csc hρ (xr Ma hxa) (fun j => (hja j).trans (j4 j)) hSa
    have h9 : ∀ j, j < 5 → zI Ma 9 j = zTe.getD j 0 := Ia.cst.2.2.2.2.1
    refine c_hear (x1 := v1) (x2 := v2) hSa h9 (J4.cg (fun j => hxa.2.2.1 _ _ (by omega) (by omega))) hP (by rw [e1]; exact syV_ok hr) (by rw [e2]; exact syV_ok hr) (fun M' hS' hx' hj' hJ' => ⟨rfl, hS', k M' ⟨hS', (xr Ma hxa).trans (hx'.mono (fun b j z => by omega) (fun _ _ z => z)), fun j => (hj' j).trans ((hja j).trans (j4 j)), fun d1 f1 w1 o1 k hk hk' => ?_⟩ ?_⟩)
    · have na : zN M4 ≤ zN Ma := hxa.1
      rw [hx'.2.2.1 27 k (by omega) (by omega), hxa.2.2.1 27 k (by omega) (by omega), N4 k hk', nmF_hi hk]
    · rw [e1, e2] at hJ'
      exact hJ'
  have evx : ∀ Ma (x : Int32) i, EqX M4 Ma (fun b j => (b = 26 ∧ j = 2) ∨ b = 28) (fun _ _ => False) → foT ρ x s x3 (nT ρ) = some i → evT (zI Ma 27) (g.1 i) = syV g ρ (nmF ρ s pf (nI n) (nI dd) (nI f) (nI w) (nI o)) x s x3 := by
    intro Ma x i hxa hf
    unfold syV
    rw [hf]
    exact evT_cg (fun k hk => by rw [hxa.2.2.1 27 k (by omega) (by omega)]; exact N4 k hk) (hr.tx (foF_lt hf)).1.1
  have sn : ∀ (x : Int32), foT ρ x s x3 (nT ρ) = none → (0 : Int32) = syV g ρ (nmF ρ s pf (nI n) (nI dd) (nI f) (nI w) (nI o)) x s x3 := by
    intro x hf
    unfold syV
    rw [hf]
  cases f0 : foT ρ 0 s x3 (nT ρ) with
  | none =>
    have e3 : o3 = none := by rw [h3, f0]; rfl
    cases f1 : foT ρ 1 s x3 (nT ρ) with
    | none =>
      have e4' : o4 = none := by rw [h4, f1]; rfl
      refine ⟨fun _ => ⟨fun _ => ?_, fun b z => by rw [e4'] at z; cases z⟩, fun b z => by rw [e3] at z; cases z⟩
      exact fin M4 S4 EqX.rfl (fun _ => rfl) _ _ (sn 0 f0) (sn 1 f1)
    | some j =>
      have e4' : o4 = some (taF μ j) := by rw [h4, f1]; rfl
      obtain ⟨t1, t2, t3, -, -⟩ := tx_x hI hρ x4 (foF_lt f1)
      refine ⟨fun _ => on_some e4' ⟨t2, on_some t3 ?_⟩, fun b z => by rw [e3] at z; cases z⟩
      refine c_runAt I4 r4 (foF_lt f1) t1 (fun Ma st hSa hMa => ⟨_, rfl, hSa, ?_⟩)
      exact fin Ma hSa hMa.1 hMa.2.2.1 _ _ (sn 0 f0) (evx M4 1 j EqX.rfl f1)
  | some i =>
    have e3 : o3 = some (taF μ i) := by rw [h3, f0]; rfl
    obtain ⟨t1, t2, t3, -, -⟩ := tx_x hI hρ x4 (foF_lt f0)
    refine ⟨fun z => (by rw [e3] at z; cases z), fun b z => ?_⟩
    rw [e3] at z
    cases z
    refine ⟨t2, on_some t3 ?_⟩
    refine c_runAt I4 r4 (foF_lt f0) t1 (fun Ma st hSa hMa => ⟨_, rfl, hSa, ?_⟩)
    cases f1 : foT ρ 1 s x3 (nT ρ) with
    | none =>
      have e4' : o4 = none := by rw [h4, f1]; rfl
      refine ⟨fun _ => ?_, fun b z => by rw [e4'] at z; cases z⟩
      exact fin Ma hSa hMa.1 hMa.2.2.1 _ _ (evx M4 0 i EqX.rfl f0) (sn 1 f1)
    | some j =>
      have e4' : o4 = some (taF μ j) := by rw [h4, f1]; rfl
      obtain ⟨u1, u2, u3, -, -⟩ := tx_x hI hρ (xr Ma hMa.1) (foF_lt f1)
      obtain ⟨Ia, ra⟩ := hI.csc hρ (xr Ma hMa.1) (fun j => (hMa.2.2.1 j).trans (j4 j)) hSa
      refine on_some e4' ⟨u2, on_some u3 ?_⟩
      refine c_runAt Ia ra (foF_lt f1) u1 (fun Mb st' hSb hMb => ⟨_, rfl, hSb, ?_⟩)
      exact fin Mb hSb (hMa.1.trans hMb.1) (fun j => (hMb.2.2.1 j).trans (hMa.2.2.1 j)) _ _ (evx M4 0 i EqX.rfl f0) (evx Ma 1 j hMa.1 f1)
theorem c_j218 (hI : IV g L X t μ) (hρ : rf μ = ρ) (hs : s < nS ρ) (h3 : o3 = (foT ρ 0 s x3 (nT ρ)).map (taF μ)) (h4 : o4 = (foT ρ 1 s x3 (nT ρ)).map (taF μ)) (hP : P ≤ 99999) (hA : ∀ M, EqX μ M (fun b _ => 22 ≤ b ∧ b ≤ 29) (fun _ _ => False) → zK M a1 = 0 ∧ zI M a1 3 = nI d0 ∧ zI M a1 5 = nI f0 ∧ zI M a1 7 = nI w0 ∧ zI M a1 9 = nI o0) {qo : Nat} (eq : x8 = nI qo) (bq : qo < 5000) (dd : Nat) (f : Nat) (w : Nat) : ∀ (m o : Nat) (M : ZM) (J : JS), o + m = qo + 1 → JI ρ s pf n μ M → JR P J M → (∀ M', JI ρ s pf n μ M' → JR P (((rl o m).flatMap fun o => [jP g ρ s x3 pf (nI n) dd f w o]).foldl (hear P) J) M' → AW E l (d + 5) nc ns mX10_judge 205 [some (.ref 11), some (.ref a1), none, some (va_rf o3), some (va_rf o4), some (.int x5), some (.int x6), some (.int x7), some (.int x8), some (.int (nI dd)), some (.int (nI f)), some (.int (nI w + 1)), none] [] M' K) → AW E l (d + 5) nc ns mX10_judge 218 [some (.ref 11), some (.ref a1), none, some (va_rf o3), some (va_rf o4), some (.int x5), some (.int x6), some (.int x7), some (.int x8), some (.int (nI dd)), some (.int (nI f)), some (.int (nI w)), some (.int (nI o))] [] M K
  | 0, o, M, J, hm, hM, hJ, k => by
    refine t_X10_judge_218 hM.1 (c_t ?_ (k M hM hJ))
    rw [eq, nI_ltI (by omega) (by omega)]
    omega
  | m + 1, o, M, J, hm, hM, hJ, k => by
    have c : ¬ x8 < nI o := by
      rw [eq, nI_ltI (by omega) (by omega)]
      omega
    refine c_jbody hI hρ hs h3 h4 hP hM hJ dd f w o c (fun M' hM' hJ' => ?_)
    rw [nI_1]
    refine c_j218 hI hρ hs h3 h4 hP hA eq bq dd f w m (o + 1) M' _ (by omega) hM' hJ' (fun M2 hM2 hJ2 => k M2 hM2 ?_)
    rw [rl_s, List.flatMap_cons, List.foldl_append]
    exact hJ2
theorem c_j205 (hI : IV g L X t μ) (hρ : rf μ = ρ) (hs : s < nS ρ) (h3 : o3 = (foT ρ 0 s x3 (nT ρ)).map (taF μ)) (h4 : o4 = (foT ρ 1 s x3 (nT ρ)).map (taF μ)) (hP : P ≤ 99999) (hA : ∀ M, EqX μ M (fun b _ => 22 ≤ b ∧ b ≤ 29) (fun _ _ => False) → zK M a1 = 0 ∧ zI M a1 3 = nI d0 ∧ zI M a1 5 = nI f0 ∧ zI M a1 7 = nI w0 ∧ zI M a1 9 = nI o0) {qw qo no : Nat} (hqo : o0 + no = qo + 1) (eqo : x8 = nI qo) (bqo : qo < 5000) (eq : x7 = nI qw) (bq : qw < 5000) (dd : Nat) (f : Nat) : ∀ (m w : Nat) (M : ZM) (J : JS), w + m = qw + 1 → JI ρ s pf n μ M → JR P J M → (∀ M', JI ρ s pf n μ M' → JR P (((rl w m).flatMap fun w => (rl o0 no).flatMap fun o => [jP g ρ s x3 pf (nI n) dd f w o]).foldl (hear P) J) M' → AW E l (d + 5) nc ns mX10_judge 192 [some (.ref 11), some (.ref a1), none, some (va_rf o3), some (va_rf o4), some (.int x5), some (.int x6), some (.int x7), some (.int x8), some (.int (nI dd)), some (.int (nI f + 1)), none, none] [] M' K) → AW E l (d + 5) nc ns mX10_judge 205 [some (.ref 11), some (.ref a1), none, some (va_rf o3), some (va_rf o4), some (.int x5), some (.int x6), some (.int x7), some (.int x8), some (.int (nI dd)), some (.int (nI f)), some (.int (nI w)), none] [] M K
  | 0, w, M, J, hm, hM, hJ, k => by
    refine t_X10_judge_205 hM.1 (c_t ?_ (k M hM hJ))
    rw [eq, nI_ltI (by omega) (by omega)]
    omega
  | m + 1, w, M, J, hm, hM, hJ, k => by
    have c : ¬ x7 < nI w := by
      rw [eq, nI_ltI (by omega) (by omega)]
      omega
    obtain ⟨a0, a3, a5, a7, a9⟩ := hA M hM.2.1
    refine t_X10_judge_205 hM.1 (c_f c ⟨a0, ?_⟩)
    rw [a9]
    refine c_j218 hI hρ hs h3 h4 hP hA  eqo bqo dd f w no o0 M J hqo hM hJ (fun M' hM' hJ' => ?_)
    rw [nI_1]
    refine c_j205 hI hρ hs h3 h4 hP hA hqo eqo bqo eq bq dd f m (w + 1) M' _ (by omega) hM' hJ' (fun M2 hM2 hJ2 => k M2 hM2 ?_)
    rw [rl_s, List.flatMap_cons, List.foldl_append]
    exact hJ2
theorem c_j192 (hI : IV g L X t μ) (hρ : rf μ = ρ) (hs : s < nS ρ) (h3 : o3 = (foT ρ 0 s x3 (nT ρ)).map (taF μ)) (h4 : o4 = (foT ρ 1 s x3 (nT ρ)).map (taF μ)) (hP : P ≤ 99999) (hA : ∀ M, EqX μ M (fun b _ => 22 ≤ b ∧ b ≤ 29) (fun _ _ => False) → zK M a1 = 0 ∧ zI M a1 3 = nI d0 ∧ zI M a1 5 = nI f0 ∧ zI M a1 7 = nI w0 ∧ zI M a1 9 = nI o0) {qf qw qo nw no : Nat} (hqw : w0 + nw = qw + 1) (eqw : x7 = nI qw) (bqw : qw < 5000) (hqo : o0 + no = qo + 1) (eqo : x8 = nI qo) (bqo : qo < 5000) (eq : x6 = nI qf) (bq : qf < 5000) (dd : Nat) : ∀ (m f : Nat) (M : ZM) (J : JS), f + m = qf + 1 → JI ρ s pf n μ M → JR P J M → (∀ M', JI ρ s pf n μ M' → JR P (((rl f m).flatMap fun f => (rl w0 nw).flatMap fun w => (rl o0 no).flatMap fun o => [jP g ρ s x3 pf (nI n) dd f w o]).foldl (hear P) J) M' → AW E l (d + 5) nc ns mX10_judge 179 [some (.ref 11), some (.ref a1), none, some (va_rf o3), some (va_rf o4), some (.int x5), some (.int x6), some (.int x7), some (.int x8), some (.int (nI dd + 1)), none, none, none] [] M' K) → AW E l (d + 5) nc ns mX10_judge 192 [some (.ref 11), some (.ref a1), none, some (va_rf o3), some (va_rf o4), some (.int x5), some (.int x6), some (.int x7), some (.int x8), some (.int (nI dd)), some (.int (nI f)), none, none] [] M K
  | 0, f, M, J, hm, hM, hJ, k => by
    refine t_X10_judge_192 hM.1 (c_t ?_ (k M hM hJ))
    rw [eq, nI_ltI (by omega) (by omega)]
    omega
  | m + 1, f, M, J, hm, hM, hJ, k => by
    have c : ¬ x6 < nI f := by
      rw [eq, nI_ltI (by omega) (by omega)]
      omega
    obtain ⟨a0, a3, a5, a7, a9⟩ := hA M hM.2.1
    refine t_X10_judge_192 hM.1 (c_f c ⟨a0, ?_⟩)
    rw [a7]
    refine c_j205 hI hρ hs h3 h4 hP hA hqo eqo bqo eqw bqw dd f nw w0 M J hqw hM hJ (fun M' hM' hJ' => ?_)
    rw [nI_1]
    refine c_j192 hI hρ hs h3 h4 hP hA hqw eqw bqw hqo eqo bqo eq bq dd m (f + 1) M' _ (by omega) hM' hJ' (fun M2 hM2 hJ2 => k M2 hM2 ?_)
    rw [rl_s, List.flatMap_cons, List.foldl_append]
    exact hJ2
theorem c_j179 (hI : IV g L X t μ) (hρ : rf μ = ρ) (hs : s < nS ρ) (h3 : o3 = (foT ρ 0 s x3 (nT ρ)).map (taF μ)) (h4 : o4 = (foT ρ 1 s x3 (nT ρ)).map (taF μ)) (hP : P ≤ 99999) (hA : ∀ M, EqX μ M (fun b _ => 22 ≤ b ∧ b ≤ 29) (fun _ _ => False) → zK M a1 = 0 ∧ zI M a1 3 = nI d0 ∧ zI M a1 5 = nI f0 ∧ zI M a1 7 = nI w0 ∧ zI M a1 9 = nI o0) {qd qf qw qo nf nw no : Nat} (hqf : f0 + nf = qf + 1) (eqf : x6 = nI qf) (bqf : qf < 5000) (hqw : w0 + nw = qw + 1) (eqw : x7 = nI qw) (bqw : qw < 5000) (hqo : o0 + no = qo + 1) (eqo : x8 = nI qo) (bqo : qo < 5000) (eq : x5 = nI qd) (bq : qd < 5000) : ∀ (m dd : Nat) (M : ZM) (J : JS), dd + m = qd + 1 → JI ρ s pf n μ M → JR P J M → (∀ M', JI ρ s pf n μ M' → JR P (((rl dd m).flatMap fun dd => (rl f0 nf).flatMap fun f => (rl w0 nw).flatMap fun w => (rl o0 no).flatMap fun o => [jP g ρ s x3 pf (nI n) dd f w o]).foldl (hear P) J) M' → K none M') → AW E l (d + 5) nc ns mX10_judge 179 [some (.ref 11), some (.ref a1), none, some (va_rf o3), some (va_rf o4), some (.int x5), some (.int x6), some (.int x7), some (.int x8), some (.int (nI dd)), none, none, none] [] M K
  | 0, dd, M, J, hm, hM, hJ, k => by
    refine t_X10_judge_179 hM.1 (c_t ?_ (k M hM hJ))
    rw [eq, nI_ltI (by omega) (by omega)]
    omega
  | m + 1, dd, M, J, hm, hM, hJ, k => by
    have c : ¬ x5 < nI dd := by
      rw [eq, nI_ltI (by omega) (by omega)]
      omega
    obtain ⟨a0, a3, a5, a7, a9⟩ := hA M hM.2.1
    refine t_X10_judge_179 hM.1 (c_f c ⟨a0, ?_⟩)
    rw [a5]
    refine c_j192 hI hρ hs h3 h4 hP hA hqw eqw bqw hqo eqo bqo eqf bqf dd nf f0 M J hqf hM hJ (fun M' hM' hJ' => ?_)
    rw [nI_1]
    refine c_j179 hI hρ hs h3 h4 hP hA hqf eqf bqf hqw eqw bqw hqo eqo bqo eq bq  m (dd + 1) M' _ (by omega) hM' hJ' (fun M2 hM2 hJ2 => k M2 hM2 ?_)
    rw [rl_s, List.flatMap_cons, List.foldl_append]
    exact hJ2
/-- the bounds of an asking's facts -/
def AB (ρ : RV) (a : Nat) (d0 nd f0 nf w0 nw o0 no : Nat) : Prop := ρ 77 a = nI d0 ∧ ρ 78 a = nI (d0 + nd) ∧ dg (ρ 79 a) 0 = nI f0 ∧ dg (ρ 79 a) 1 = nI (f0 + nf) ∧ dg (ρ 79 a) 2 = nI w0 ∧ dg (ρ 79 a) 3 = nI (w0 + nw) ∧ dg (ρ 79 a) 4 = nI o0 ∧ dg (ρ 79 a) 5 = nI (o0 + no) ∧ d0 + nd < 4000 ∧ f0 + nf < 10 ∧ w0 + nw < 10 ∧ o0 + no < 10
theorem AB_of {a : Nat} (hr : RIg g t ρ) (ha : a < nA ρ) : ∃ d0 nd f0 nf w0 nw o0 no, AB ρ a d0 nd f0 nf w0 nw o0 no := by
  obtain ⟨f1, f2, f3, f4, f5, f6, f7, f8, f9, f10, f11⟩ := hr.a ha
  obtain ⟨x1, x2, x3⟩ := rng_of f5 (by decide)
  have f60 := f6
  have f61 : rng (ρ 78 a) 0 3059 := ⟨by have := f5.1; have := f6.1; omega, by have := f5.2; have := f6.2; omega⟩
  obtain ⟨y1, y2, y3⟩ := rng_of f61 (by decide)
  have hlo : tN (ρ 77 a) ≤ tN (ρ 78 a) := by
    have z1 := (nn_of f5.1).2.1
    have z2 := (nn_of f61.1).2.1
    have := f6.1
    omega
  obtain ⟨g1, g2, g3, g4, g5⟩ := f8
  have dd : ∀ k, ∃ n, n < 10 ∧ dg (ρ 79 a) k = nI n := fun k => dg_lt _ k
  obtain ⟨n0, m0, q0⟩ := dd 0
  obtain ⟨n1, m1, q1⟩ := dd 1
  obtain ⟨n2, m2, q2⟩ := dd 2
  obtain ⟨n3, m3, q3⟩ := dd 3
  obtain ⟨n4, m4, q4⟩ := dd 4
  obtain ⟨n5, m5, q5⟩ := dd 5
  rw [q0, q1, nI_leI (by omega) (by omega)] at g1
  rw [q2, q3, nI_leI (by omega) (by omega)] at g3
  rw [q4, q5, nI_leI (by omega) (by omega)] at g4
  refine ⟨tN (ρ 77 a), tN (ρ 78 a) - tN (ρ 77 a), n0, n1 - n0, n2, n3 - n2, n4, n5 - n4, x1, ?_, q0, ?_, q2, ?_, q4, ?_, by omega, by omega, by omega, by omega⟩
  · rw [show tN (ρ 77 a) + (tN (ρ 78 a) - tN (ρ 77 a)) = tN (ρ 78 a) by omega]; exact y1
  · rw [show n0 + (n1 - n0) = n1 by omega]; exact q1
  · rw [show n2 + (n3 - n2) = n3 by omega]; exact q3
  · rw [show n4 + (n5 - n4) = n5 by omega]; exact q5
theorem c_judge {a nd nf nw no : Nat} (hI : IV g L X t μ) (hρ : rf μ = ρ) (ha : a < nA ρ) (hB : AB ρ a d0 nd f0 nf w0 nw o0 no) (k : ∀ M, Stat M → EqX μ M (fun b _ => 22 ≤ b ∧ b ≤ 29) (fun _ _ => False) → (∀ j, zJ M 86 j = zJ μ 86 j) → JR (tN (ρ 56 (as_ ρ a))) ((jL (jP g ρ (as_ ρ a) x3 (ρ 75 a) (ρ 76 a)) d0 (nd + 1) f0 (nf + 1) w0 (nw + 1) o0 (no + 1)).foldl (hear (tN (ρ 56 (as_ ρ a)))) none) M → K none M) : AW E l (d + 5) nc ns mX10_judge 0 (zargs 13 [.ref 11, .ref (aaF μ a), .int x3]) [] μ K := by
  have hS := hI.st
  have hr := hI.r hρ
  have hc := hI.c hρ
  obtain ⟨e1, e2, e3, e4, e5, e6, e7, e8, e9, e10, e11, e12, e13, e14, e15, e16, e17, e18, e19, e20⟩ := hc.a ha
  obtain ⟨f1, f2, f3, f4, f5, f6, f7, f8, f9, f10, f11⟩ := hr.a ha
  obtain ⟨b1, b2, b3, b4, b5, b6, b7, b8, b9, b10, b11, b12⟩ := hB
  obtain ⟨c1, c2, c3, c4, c5, c6, c7, c8, c9, c10, c11, c12, c13, c14, c15, c16, c17, c18, c19, c20, c21, c22, c23⟩ := hc.sa f2
  obtain ⟨s, es⟩ : ∃ s, s = as_ ρ a := ⟨_, rfl⟩
  rw [← es] at k f2 e5
  have hs : s < nS ρ := f2
  have d8 : rng (ρ 56 s) 0 99999 := (hr.sa hs).2.2.2.2.2.2.2.1
  obtain ⟨p1, p2, p3⟩ := rng_of d8 (by decide)
  obtain ⟨P, eP⟩ : ∃ P, P = tN (ρ 56 s) := ⟨_, rfl⟩
  rw [← eP] at k p1 p2
  obtain ⟨u1, u2⟩ := dv24 hr.s.2.2.2.2.2.2.2
  obtain ⟨v1, v2, v3⟩ := rng_of f4 (by decide)
  have hn : tN (ρ 76 a) ≤ 2999 := by
    have hmx : tN (ρ 31 1) ≤ 71999 := by
      have b8 := hr.s.2.2.2.2.2.2.2
      have a2 := (nn_of b8.1).2.1
      have := b8.2
      omega
    rw [u1, nI_toInt (by omega)] at v2
    omega
  obtain ⟨n, en⟩ : ∃ n, n = tN (ρ 76 a) := ⟨_, rfl⟩
  rw [← en] at v1 hn
  have h88 := hS.N
  refine t_X10_judge hS ⟨e4, on_some e5 ?_⟩
  refine c_textForO hS hr hc hs ⟨_, rfl, hS, e4, on_some e5 ?_⟩
  refine c_textForO hS hr hc hs ⟨_, rfl, hS, e4, on_some e5 ?_⟩
  rw [e6, e7, v1]
  refine c_tellSale hI hρ hs hn (fun M1 hS1 x1' j1 nm1 => ⟨rfl, hS1, ?_⟩)
  have hx1 : EqX μ M1 (fun b _ => 22 ≤ b ∧ b ≤ 29) (fun _ _ => False) := x1'.mono (fun b j h => by omega) (fun _ _ h => h)
  have q0 : zK M1 (aaF μ a) = 0 := by rw [(hx1.2.1 _ (by omega)).1]; exact e4
  have qA : zA M1 (aaF μ a) 0 = some (saF μ s) := by rw [hx1.2.2.2.1 _ _ (by omega) (fun z => z)]; exact e5
  have c2' : 88 ≤ saF μ s := by rw [es]; exact c2
  have c3' : saF μ s < zN μ := by rw [es]; exact c3
  have q7 : zK M1 (saF μ s) = 7 := by rw [(hx1.2.1 _ (by omega)).1, es]; exact c4
  have q9 : zI M1 (saF μ s) 9 = nI P := by rw [hx1.2.2.1 _ _ (by omega) (by omega), ← p1, es]; exact c14
  refine ⟨q0, on_some qA ⟨q7, ?_⟩⟩
  rw [q9]
  obtain ⟨M, eM⟩ : ∃ m, m = sI (sI (sI (sI (sI (sI (sI M1 29 0 (nI P)) 29 1 0) 29 2 0) 29 3 0) 29 4 0) 29 5 0) 29 6 0 := ⟨_, rfl⟩
  rw [← eM]
  have hSM : Stat M := by
    rw [eM]
    exact hS1.wI.wI.wI.wI.wI.wI.wI
  have hxM : EqX μ M (fun b _ => 22 ≤ b ∧ b ≤ 29) (fun _ _ => False) := by
    rw [eM]
    exact ((((((hx1.wi (Or.inl (by decide))).wi (Or.inl (by decide))).wi (Or.inl (by decide))).wi (Or.inl (by decide))).wi (Or.inl (by decide))).wi (Or.inl (by decide))).wi (Or.inl (by decide))
  have hjM : ∀ j, zJ M 86 j = zJ μ 86 j := fun j => by
    rw [eM]
    simp only [zJ_sI]
    exact j1 j
  have hM : JI ρ s (ρ 75 a) n μ M := ⟨hSM, hxM, hjM, fun d f w o k k1 k2 => by
    rw [eM]
    simp (disch := omega) only [zI_ne]
    exact nm1 d f w o k k1 k2⟩
  have hJ : JR P none M := by
    rw [eM]
    refine ⟨by simp (disch := omega) only [zI_nk, zI_eq], ?_⟩
    show zI _ 29 1 = 0
    simp (disch := omega) only [zI_nk, zI_eq]
  have hA : ∀ M, EqX μ M (fun b _ => 22 ≤ b ∧ b ≤ 29) (fun _ _ => False) → zK M (aaF μ a) = 0 ∧ zI M (aaF μ a) 3 = nI d0 ∧ zI M (aaF μ a) 5 = nI f0 ∧ zI M (aaF μ a) 7 = nI w0 ∧ zI M (aaF μ a) 9 = nI o0 := by
    intro M hx
    refine ⟨by rw [(hx.2.1 _ (by omega)).1]; exact e4, ?_, ?_, ?_, ?_⟩ <;> rw [hx.2.2.1 _ _ (by omega) (by omega)]
    · exact e8.trans b1
    · exact e10.trans b3
    · exact e12.trans b5
    · exact e14.trans b7
  have hH : zI M (aaF μ a) 4 = nI (d0 + nd) ∧ zI M (aaF μ a) 6 = nI (f0 + nf) ∧ zI M (aaF μ a) 8 = nI (w0 + nw) ∧ zI M (aaF μ a) 10 = nI (o0 + no) := by
    refine ⟨?_, ?_, ?_, ?_⟩ <;> rw [hxM.2.2.1 _ _ (by omega) (by omega)]
    · exact e9.trans b2
    · exact e11.trans b4
    · exact e13.trans b6
    · exact e15.trans b8
  obtain ⟨a0, a3, a5, a7, a9⟩ := hA M hxM
  obtain ⟨g4, g6, g8, g10⟩ := hH
  rw [v1] at k
  have main : ∀ (qd qf qw qo md mf mw mo : Nat), d0 + md = qd + 1 → f0 + mf = qf + 1 → w0 + mw = qw + 1 → o0 + mo = qo + 1 → qd < 5000 → qf < 5000 → qw < 5000 → qo < 5000 → (md = nd + 1 ∨ (md = 1 ∧ nMd g ρ s x3 0)) → (mf = nf + 1 ∨ (mf = 1 ∧ nMd g ρ s x3 1)) → (mw = nw + 1 ∨ (mw = 1 ∧ nMd g ρ s x3 2)) → (mo = no + 1 ∨ (mo = 1 ∧ nMd g ρ s x3 3)) → AW E l (d + 5) nc ns mX10_judge 171 [some (.ref 11), some (.ref (aaF μ a)), none, some (va_rf ((foT ρ 0 s x3 (nT ρ)).map (taF μ))), some (va_rf ((foT ρ 1 s x3 (nT ρ)).map (taF μ))), some (.int (nI qd)), some (.int (nI qf)), some (.int (nI qw)), none, none, none, none, none] [.int (nI qo)] M K := by
    intro qd qf qw qo md mf mw mo h1 h2 h3 h4 l1 l2 l3 l4 w1 w2 w3 w4
    refine t_X10_judge_171 hSM ⟨a0, ?_⟩
    rw [a3]
    refine c_j179 hI hρ hs rfl rfl (by omega) hA h2 rfl l2 h3 rfl l3 h4 rfl l4 rfl l1 md d0 M none h1 hM hJ (fun M' hM' hJ' => k M' hM'.1 hM'.2.1 hM'.2.2.1 ?_)
    rw [← jL_eq w1 w2 w3 w4]
    exact hJ'
  have lv3 : ∀ (qd qf qw md mf mw : Nat), d0 + md = qd + 1 → f0 + mf = qf + 1 → w0 + mw = qw + 1 → qd < 5000 → qf < 5000 → qw < 5000 → (md = nd + 1 ∨ (md = 1 ∧ nMd g ρ s x3 0)) → (mf = nf + 1 ∨ (mf = 1 ∧ nMd g ρ s x3 1)) → (mw = nw + 1 ∨ (mw = 1 ∧ nMd g ρ s x3 2)) → AW E l (d + 5) nc ns mX10_judge 141 [some (.ref 11), some (.ref (aaF μ a)), none, some (va_rf ((foT ρ 0 s x3 (nT ρ)).map (taF μ))), some (va_rf ((foT ρ 1 s x3 (nT ρ)).map (taF μ))), some (.int (nI qd)), some (.int (nI qf)), none, none, none, none, none, none] [.int (nI qw)] M K := by
    intro qd qf qw md mf mw h1 h2 h3 l1 l2 l3 w1 w2 w3
    refine c_lv3 hI hρ hSM hxM a0 rfl rfl ?_ fun z => ?_
    · rw [g10]
      exact main qd qf qw (o0 + no) md mf mw (no + 1) h1 h2 h3 (by omega) l1 l2 l3 (by omega) w1 w2 w3 (Or.inl rfl)
    · rw [a9]
      exact main qd qf qw o0 md mf mw 1 h1 h2 h3 (by omega) l1 l2 l3 (by omega) w1 w2 w3 (Or.inr ⟨rfl, z⟩)
  have lv2 : ∀ (qd qf md mf : Nat), d0 + md = qd + 1 → f0 + mf = qf + 1 → qd < 5000 → qf < 5000 → (md = nd + 1 ∨ (md = 1 ∧ nMd g ρ s x3 0)) → (mf = nf + 1 ∨ (mf = 1 ∧ nMd g ρ s x3 1)) → AW E l (d + 5) nc ns mX10_judge 111 [some (.ref 11), some (.ref (aaF μ a)), none, some (va_rf ((foT ρ 0 s x3 (nT ρ)).map (taF μ))), some (va_rf ((foT ρ 1 s x3 (nT ρ)).map (taF μ))), some (.int (nI qd)), none, none, none, none, none, none, none] [.int (nI qf)] M K := by
    intro qd qf md mf h1 h2 l1 l2 w1 w2
    refine c_lv2 hI hρ hSM hxM a0 rfl rfl ?_ fun z => ?_
    · rw [g8]
      exact lv3 qd qf (w0 + nw) md mf (nw + 1) h1 h2 (by omega) l1 l2 (by omega) w1 w2 (Or.inl rfl)
    · rw [a7]
      exact lv3 qd qf w0 md mf 1 h1 h2 (by omega) l1 l2 (by omega) w1 w2 (Or.inr ⟨rfl, z⟩)
  have lv1 : ∀ (qd md : Nat), d0 + md = qd + 1 → qd < 5000 → (md = nd + 1 ∨ (md = 1 ∧ nMd g ρ s x3 0)) → AW E l (d + 5) nc ns mX10_judge 81 [some (.ref 11), some (.ref (aaF μ a)), none, some (va_rf ((foT ρ 0 s x3 (nT ρ)).map (taF μ))), some (va_rf ((foT ρ 1 s x3 (nT ρ)).map (taF μ))), none, none, none, none, none, none, none, none] [.int (nI qd)] M K := by
    intro qd md h1 l1 w1
    refine c_lv1 hI hρ hSM hxM a0 rfl rfl ?_ fun z => ?_
    · rw [g6]
      exact lv2 qd (f0 + nf) md (nf + 1) h1 (by omega) l1 (by omega) w1 (Or.inl rfl)
    · rw [a5]
      exact lv2 qd f0 md 1 h1 (by omega) l1 (by omega) w1 (Or.inr ⟨rfl, z⟩)
  refine lv_gen hI hρ hxM rfl rfl (kk := 0) (by decide) rfl (fun z => ?_) ?_
  · rw [a3]
    exact lv1 d0 1 (by omega) (by omega) (Or.inr ⟨rfl, z⟩)
  · refine t_X10_judge_70 hSM ⟨a0, ?_⟩
    rw [g4]
    exact lv1 (d0 + nd) (nd + 1) (by omega) (by omega) (Or.inl rfl)
end Judge
