/-! the reference's judging -/
def JRr (J : JS) (M : ZM) : Prop := match J with
  | none => zI M 31 76 = -1 ∧ zI M 31 77 = -1
  | some (b, s, w) => zI M 31 76 = b ∧ zI M 31 78 = s ∧ zI M 31 77 = w ∧ vok b ∧ vok w
def JIr (ρ : RV) (s : Nat) (pf day : Int32) (μ M : ZM) : Prop := Stat M ∧ EqX μ M (fun b j => b = 72 ∨ b = 73 ∨ (b = 31 ∧ 76 ≤ j ∧ j ≤ 78)) (fun _ _ => False) ∧ (∀ j, zJ M 86 j = zJ μ 86 j) ∧ ∀ (d f w o : Int32) k, 4 ≤ k → k < 12 → zI M 72 k = nmF ρ s pf day d f w o k
def FB (g : Gh) (t : Nat) (ρ : RV) (μ : ZM) (s P a d0 nd f0 nf w0 nw o0 no : Nat) : Prop := Stat μ ∧ RIg g t ρ ∧ RE ρ (rf μ) ∧ s < nS ρ ∧ P ≤ 99999 ∧ ρ 56 s = nI P ∧ a < 200 ∧ rng (ρ 79 a) 0 119911 ∧ AB ρ a d0 nd f0 nf w0 nw o0 no
theorem JRr.cg {J : JS} {M M' : ZM} (h : JRr J M) (e : ∀ j, zI M' 31 j = zI M 31 j) : JRr J M' := by
  unfold JRr at h ⊢
  cases J with
  | none => simp only [e] at h ⊢; exact h
  | some q => simp only [e] at h ⊢; exact h
theorem RE_x3 {μ M : ZM} {ρ : RV} (hS : Stat μ) (h : RE ρ (rf μ)) (hx : EqX μ M (fun b j => b = 72 ∨ b = 73 ∨ (b = 31 ∧ 76 ≤ j ∧ j ≤ 78)) (fun _ _ => False)) : RE ρ (rf M) := RE_x2 hS h (hx.mono (fun b j h => by omega) (fun _ _ h => h))
theorem IV.endR {g : Gh} {L : Nat} {X : Nat → Int32} {t : Nat} {M M2 : ZM} {ρ : RV} (IM : IV g L X t M) (rM : rf M = ρ) (x2 : EqX M M2 (fun b j => b = 72 ∨ b = 73 ∨ (b = 31 ∧ 76 ≤ j ∧ j ≤ 78)) (fun _ _ => False)) (hS2 : Stat M2) (j2 : ∀ j, zJ M2 86 j = zJ M 86 j) : IV g L X (t + 1) M2 :=
  IM.scr rM (x2.mono (fun b j h => by unfold WS; omega) (fun _ _ h => h)) hS2 (IM.w.cg j2) (Nat.le_succ t)
theorem vok_pos {v : Int32} (h : vok v) : ¬ v < 0 := by
  obtain ⟨o, e, ho, he, rfl⟩ := h
  exact nI_pos (by omega)
def nwW (P : Nat) (out : Int32) : Option Int32 → Int32
  | none => out
  | some w => if wW P out < wW P w then out else w
def ow77 (x : Int32) : Option Int32 → Prop
  | none => x = -1
  | some w => x = w ∧ vok w
theorem n_e {c A B : Prop} (h1 : ¬ c → A) (h2 : c → B) : (¬ c → A) ∧ (c → B) := ⟨h1, h2⟩
section FindR
variable {E : ZE} {l : Launch} {d nc ns : Nat} {g : Gh} {t : Nat} {μ M : ZM} {ρ : RV} {K : Option Value → ZM → Prop} {s P a d0 nd f0 nf w0 nw o0 no : Nat} {J : JS} {v x1 x2 x4 x5 x6 x7 x8 sd out pf day : Int32}
theorem r_worthOf (hS : Stat M) (hP : P ≤ 99999) (hv : vok v) (k : K (some (.int (nI (wW P v)))) M) : AW E l d nc ns mX11_worthOf 0 (zargs 4 [.int v, .int (nI P)]) [] M K := by
  obtain ⟨o, e, ho, he, rfl⟩ := hv
  have a1 : nI (1000 * o + e) / 1000 = nI o := by
    rw [show (1000 : Int32) = nI 1000 from rfl, pk_div (by omega) (by decide) (by decide)]
    congr 1
    omega
  have a2 : nI (1000 * o + e) - nI (1000 * o + e) / 1000 * 1000 = nI e := by
    rw [show (1000 : Int32) = nI 1000 from rfl, pk_rem (by omega) (by decide) (by decide)]
    congr 1
    omega
  rw [a1] at a2
  have key : ∀ c, c ≤ 10 → (((nI P).toInt64 * (nI e).toInt64 * (nI c).toInt64 / 1000)).toInt32 = nI (P * e * c / 1000) := by
    intro c hc
    have hb : P * e * c ≤ 99999 * 100 * 10 := Nat.mul_le_mul (Nat.mul_le_mul hP he) hc
    rw [nI_l (by omega), nI_l (by omega), nI_l (by omega), lN_mul, lN_mul, show (1000 : Int64) = lN 1000 from rfl, pk_lDiv (by omega) (by decide) (by decide), lN_i]
  have wv : wW P (nI (1000 * o + e)) = P * e * ten o / 1000 := by
    unfold wW tN
    rw [nI_clamp (by omega), show (1000 * o + e) % 1000 = e by omega, show (1000 * o + e) / 1000 = o by omega]
  rw [wv] at k
  refine t_X11_worthOf hS ?_
  rw [a1, a2]
  have : o = 0 ∨ o = 1 ∨ o = 2 ∨ o = 3 ∨ o = 4 := by omega
  have k0 := key 0 (by decide)
  have k6 := key 6 (by decide)
  have k8 := key 8 (by decide)
  have k9 := key 9 (by decide)
  have k10 := key 10 (by decide)
  have t0 : ten 0 = 0 := rfl
  have t1 : ten 1 = 6 := rfl
  have t2 : ten 2 = 8 := rfl
  have t3 : ten 3 = 9 := rfl
  have t4 : ten 4 = 10 := rfl
  have n0 : (0 : Int32) = nI 0 := rfl
  have n6 : (6 : Int32) = nI 6 := rfl
  have n8 : (8 : Int32) = nI 8 := rfl
  have n9 : (9 : Int32) = nI 9 := rfl
  have n10 : (10 : Int32) = nI 10 := rfl
  rcases this with rfl | rfl | rfl | rfl | rfl
  · refine n_e (fun _ => n_e (fun _ => n_e (fun _ => n_e (fun _ => ?_) ?_) ?_) ?_) ?_
    · rw [n0, k0, ← t0]; exact k
    all_goals exact fun z => absurd z (by decide)
  · refine n_e (fun _ => n_e (fun _ => n_e (fun _ => n_e ?_ (fun _ => ?_)) ?_) ?_) ?_
    · exact fun z => absurd (show nI 1 = 1 from rfl) z
    · rw [n6, k6, ← t1]; exact k
    all_goals exact fun z => absurd z (by decide)
  · refine n_e (fun _ => n_e (fun _ => n_e ?_ (fun _ => ?_)) ?_) ?_
    · exact fun z => absurd (show nI 2 = 2 from rfl) z
    · rw [n8, k8, ← t2]; exact k
    all_goals exact fun z => absurd z (by decide)
  · refine n_e (fun _ => n_e ?_ (fun _ => ?_)) ?_
    · exact fun z => absurd (show nI 3 = 3 from rfl) z
    · rw [n9, k9, ← t3]; exact k
    all_goals exact fun z => absurd z (by decide)
  · refine n_e ?_ (fun _ => ?_)
    · exact fun z => absurd (show nI 4 = 4 from rfl) z
    · rw [n10, k10, ← t4]; exact k
theorem r_dg0 (hS : Stat M) (hv : rng v 0 119911) (k : K (some (.int (dg v 0))) M) : AW E l d nc ns mX11_digit 0 (zargs 4 [.int v, .int 0]) [] M K := by
  obtain ⟨x1, x2, x3⟩ := rng_of hv (by decide)
  obtain ⟨n, hn⟩ : ∃ n, n = tN v := ⟨_, rfl⟩
  unfold dg at k
  rw [← hn] at x1 x2 k
  rw [x1]
  exact r_digit0 hS (by omega) k
theorem r_dg1 (hS : Stat M) (hv : rng v 0 119911) (k : K (some (.int (dg v 1))) M) : AW E l d nc ns mX11_digit 0 (zargs 4 [.int v, .int 1]) [] M K := by
  obtain ⟨x1, x2, x3⟩ := rng_of hv (by decide)
  obtain ⟨n, hn⟩ : ∃ n, n = tN v := ⟨_, rfl⟩
  unfold dg at k
  rw [← hn] at x1 x2 k
  rw [x1]
  exact r_digit1 hS (by omega) k
theorem r_dg2 (hS : Stat M) (hv : rng v 0 119911) (k : K (some (.int (dg v 2))) M) : AW E l d nc ns mX11_digit 0 (zargs 4 [.int v, .int 2]) [] M K := by
  obtain ⟨x1, x2, x3⟩ := rng_of hv (by decide)
  obtain ⟨n, hn⟩ : ∃ n, n = tN v := ⟨_, rfl⟩
  unfold dg at k
  rw [← hn] at x1 x2 k
  rw [x1]
  exact r_digit2 hS (by omega) k
theorem r_dg3 (hS : Stat M) (hv : rng v 0 119911) (k : K (some (.int (dg v 3))) M) : AW E l d nc ns mX11_digit 0 (zargs 4 [.int v, .int 3]) [] M K := by
  obtain ⟨x1, x2, x3⟩ := rng_of hv (by decide)
  obtain ⟨n, hn⟩ : ∃ n, n = tN v := ⟨_, rfl⟩
  unfold dg at k
  rw [← hn] at x1 x2 k
  rw [x1]
  exact r_digit3 hS (by omega) k
theorem r_dg4 (hS : Stat M) (hv : rng v 0 119911) (k : K (some (.int (dg v 4))) M) : AW E l d nc ns mX11_digit 0 (zargs 4 [.int v, .int 4]) [] M K := by
  obtain ⟨x1, x2, x3⟩ := rng_of hv (by decide)
  obtain ⟨n, hn⟩ : ∃ n, n = tN v := ⟨_, rfl⟩
  unfold dg at k
  rw [← hn] at x1 x2 k
  rw [x1]
  exact r_digit4 hS (by omega) k
theorem r_dg5 (hS : Stat M) (hv : rng v 0 119911) (k : K (some (.int (dg v 5))) M) : AW E l d nc ns mX11_digit 0 (zargs 4 [.int v, .int 5]) [] M K := by
  obtain ⟨x1, x2, x3⟩ := rng_of hv (by decide)
  obtain ⟨n, hn⟩ : ∃ n, n = tN v := ⟨_, rfl⟩
  unfold dg at k
  rw [← hn] at x1 x2 k
  rw [x1]
  exact r_digit5 hS (by omega) k
theorem JIr.w31 {k : Nat} {x : Int32} (h : JIr ρ s pf day μ M) (hk : 76 ≤ k ∧ k ≤ 78) : JIr ρ s pf day μ (sI M 31 k x) := ⟨h.1.wI, h.2.1.wi (Or.inl (Or.inr (Or.inr ⟨rfl, hk⟩))), h.2.2.1, fun d f w o k h1 h2 => by rw [zI_ne (by decide)]; exact h.2.2.2 d f w o k h1 h2⟩
theorem FB.pr (hF : FB g t ρ μ s P a d0 nd f0 nf w0 nw o0 no) (hM : JIr ρ s pf day μ M) : zI M 56 (nI s).toNatClampNeg = nI P ∧ vp_in (nI s) 300 := by
  obtain ⟨h1, h2, h3, h4, h5, h6, h7, h8, h9⟩ := hF
  have b300 := h2.s.2.2.1.2
  have h88 := h1.N
  rw [nI_clamp (by omega), ← h6, ← h3 56 s (by decide) (by decide) (by omega), rf_z (by decide) (by decide)]
  exact ⟨hM.2.1.2.2.1 56 s (by omega) (by omega), vp_in_nI (by omega) (by decide)⟩
theorem r_f261 (hF : FB g t ρ μ s P a d0 nd f0 nf w0 nw o0 no) (hM : JIr ρ s pf day μ M) (w' : Option Int32) (h77 : ow77 (zI M 31 77) w') (vo : vok out) (k : ∀ M', JIr ρ s pf day μ M' → zI M' 31 76 = zI M 31 76 → zI M' 31 78 = zI M 31 78 → zI M' 31 77 = nwW P out w' → AW E l (d + 3) nc ns mX11_find 107 [some (.ref 31), some (.int x1), some (.int x2), some (.int (nI s)), some (.int x4), some (.int x5), some (.int x6), some (.int x7), some (.int (x8 + 1)), none, none, none, none] [] M' K) : AW E l (d + 3) nc ns mX11_find 261 [some (.ref 31), some (.int x1), some (.int x2), some (.int (nI s)), some (.int x4), some (.int x5), some (.int x6), some (.int x7), some (.int x8), none, none, none, some (.int out)] [] M K := by
  obtain ⟨p1, p2⟩ := hF.pr hM
  have hP : P ≤ 99999 := hF.2.2.2.2.1
  have st : ∀ (K' : Prop), (zI (sI M 31 77 out) 31 77 = nwW P out w') → AW E l (d + 3) nc ns mX11_find 295 [some (.ref 31), some (.int x1), some (.int x2), some (.int (nI s)), some (.int x4), some (.int x5), some (.int x6), some (.int x7), some (.int x8), none, none, none, some (.int out)] [] M K := fun _ e => t_X11_find_295 hM.1 (t_X11_find_301 hM.1.wI (k _ (hM.w31 (by decide)) (zI_nk (by decide)) (zI_nk (by decide)) e))
  refine t_X11_find_261 hM.1 ?_
  cases w' with
  | none =>
    have e : zI M 31 77 = -1 := h77
    rw [e]
    exact c_t (by decide) (st True zI_eq)
  | some w =>
    obtain ⟨e, vw⟩ := h77
    rw [e]
    refine c_f (vok_pos vw) ⟨p2, ?_⟩
    rw [p1]
    refine r_worthOf hM.1 hP vo ⟨_, rfl, hM.1, p2, ?_⟩
    rw [p1, e]
    refine r_worthOf hM.1 hP vw ⟨_, rfl, hM.1, ?_⟩
    have b1 := wW_le hP vo
    have b2 := wW_le hP vw
    rw [nI_leI (by omega) (by omega)]
    refine ⟨fun z => t_X11_find_301 hM.1 (k M hM rfl rfl ?_), fun z => st True ?_⟩
    · show _ = if _ then _ else _
      rw [if_neg (by omega)]
      exact e
    · show _ = if _ then _ else _
      rw [if_pos (by omega), zI_eq]
theorem r_f213 (hF : FB g t ρ μ s P a d0 nd f0 nf w0 nw o0 no) {x : Int32 × Int32} (hM : JIr ρ s pf day μ M) (hJ : JRr J M) (vo : vok (oW P x)) (k : ∀ M', JIr ρ s pf day μ M' → JRr (hear P J x) M' → AW E l (d + 3) nc ns mX11_find 107 [some (.ref 31), some (.int x1), some (.int x2), some (.int (nI s)), some (.int x4), some (.int x5), some (.int x6), some (.int x7), some (.int (x8 + 1)), none, none, none, none] [] M' K) : AW E l (d + 3) nc ns mX11_find 213 [some (.ref 31), some (.int x1), some (.int x2), some (.int (nI s)), some (.int x4), some (.int x5), some (.int x6), some (.int x7), some (.int x8), none, none, some (.int (sW P x)), none] [.int (oW P x)] M K := by
  obtain ⟨p1, p2⟩ := hF.pr hM
  have hP : P ≤ 99999 := hF.2.2.2.2.1
  refine t_X11_find_213 hM.1 ?_
  cases J with
  | none =>
    obtain ⟨e1, e2⟩ : zI M 31 76 = -1 ∧ zI M 31 77 = -1 := hJ
    rw [e1]
    refine c_t (by decide) (t_X11_find_249 hM.1 (r_f261 hF ((hM.w31 (by decide)).w31 (by decide)) none (by simp (disch := omega) only [zI_nk]; exact e2) vo (fun M' hM' q1 q2 q3 => k M' hM' ?_)))
    show _ ∧ _
    rw [q1, q2, q3]
    exact ⟨by simp (disch := omega) only [zI_nk, zI_eq], by simp (disch := omega) only [zI_nk, zI_eq], rfl, vo, vo⟩
  | some q =>
    obtain ⟨b, sd, w⟩ := q
    obtain ⟨e1, e2, e3, vb, vw⟩ : zI M 31 76 = b ∧ zI M 31 78 = sd ∧ zI M 31 77 = w ∧ vok b ∧ vok w := hJ
    rw [e1]
    refine c_f (vok_pos vb) ⟨p2, ?_⟩
    rw [p1]
    refine r_worthOf hM.1 hP vo ⟨_, rfl, hM.1, p2, ?_⟩
    rw [p1, e1]
    refine r_worthOf hM.1 hP vb ⟨_, rfl, hM.1, ?_⟩
    have b1 := wW_le hP vo
    have b2 := wW_le hP vb
    rw [nI_leI (by omega) (by omega)]
    have vv : vok (if wW P (oW P x) < wW P w then oW P x else w) := by split <;> assumption
    refine ⟨fun z => r_f261 hF hM (some w) ⟨e3, vw⟩ vo (fun M' hM' q1 q2 q3 => k M' hM' ?_), fun z => t_X11_find_249 hM.1 (r_f261 hF ((hM.w31 (by decide)).w31 (by decide)) (some w) ⟨by simp (disch := omega) only [zI_nk]; exact e3, vw⟩ vo (fun M' hM' q1 q2 q3 => k M' hM' ?_))⟩
    · have n : ¬ wW P b < wW P (oW P x) := by omega
      show _ ∧ _
      rw [q1, q2, q3, if_neg n, if_neg n]
      exact ⟨e1, e2, rfl, vb, vv⟩
    · have n : wW P b < wW P (oW P x) := by omega
      show _ ∧ _
      rw [q1, q2, q3, if_pos n, if_pos n]
      exact ⟨by simp (disch := omega) only [zI_nk, zI_eq], by simp (disch := omega) only [zI_nk, zI_eq], rfl, vo, vv⟩
theorem r_fbody (hF : FB g t ρ μ s P a d0 nd f0 nf w0 nw o0 no) (hM : JIr ρ s pf day μ M) (hJ : JRr J M) (dd f w o : Nat) (g5 : ¬ dg (ρ 79 a) 5 < nI o) (k : ∀ M', JIr ρ s pf day μ M' → JRr (hear P J (jP g ρ s x2 pf day dd f w o)) M' → AW E l (d + 3) nc ns mX11_find 107 [some (.ref 31), some (.int (nI a)), some (.int x2), some (.int (nI s)), some (.int (ρ 79 a)), some (.int (nI dd)), some (.int (nI f)), some (.int (nI w)), some (.int (nI o + 1)), none, none, none, none] [] M' K) : AW E l (d + 3) nc ns mX11_find 107 [some (.ref 31), some (.int (nI a)), some (.int x2), some (.int (nI s)), some (.int (ρ 79 a)), some (.int (nI dd)), some (.int (nI f)), some (.int (nI w)), some (.int (nI o)), none, none, none, none] [] M K := by
  have hF' := hF
  obtain ⟨h1, h2, h3, h4, h5, h6, h7, h8, h9⟩ := hF'
  refine t_X11_find_107 hM.1 (r_dg5 hM.1 h8 ⟨_, rfl, hM.1, c_f g5 ?_⟩)
  obtain ⟨M4, e4⟩ : ∃ m, m = sI (sI (sI (sI M 72 0 (nI dd)) 72 1 (nI f)) 72 2 (nI w)) 72 3 (nI o) := ⟨_, rfl⟩
  rw [← e4]
  have S4 : Stat M4 := by
    rw [e4]
    exact hM.1.wI.wI.wI.wI
  have x4 : EqX μ M4 (fun b j => b = 72 ∨ b = 73 ∨ (b = 31 ∧ 76 ≤ j ∧ j ≤ 78)) (fun _ _ => False) := by
    rw [e4]
    exact (((hM.2.1.wi (Or.inl (Or.inl rfl))).wi (Or.inl (Or.inl rfl))).wi (Or.inl (Or.inl rfl))).wi (Or.inl (Or.inl rfl))
  have j4 : ∀ j, zJ M4 86 j = zJ μ 86 j := fun j => by
    rw [e4]
    simp only [zJ_sI]
    exact hM.2.2.1 j
  have h88 := h1.N
  have N4 : ∀ k, k < 12 → zI M4 72 k = nmF ρ s pf day (nI dd) (nI f) (nI w) (nI o) k := by
    intro k hk
    rw [e4]
    by_cases c : 4 ≤ k
    · rw [zI_nk (by omega), zI_nk (by omega), zI_nk (by omega), zI_nk (by omega)]
      exact hM.2.2.2 _ _ _ _ k c hk
    · have hk4 : k = 0 ∨ k = 1 ∨ k = 2 ∨ k = 3 := by omega
      rcases hk4 with rfl | rfl | rfl | rfl
      all_goals
        simp (disch := omega) only [zI_nk, zI_eq]
        rfl
  have J4 : JRr J M4 := hJ.cg (fun j => by rw [e4]; simp (disch := omega) only [zI_ne])
  have cg : ∀ (N N' : Nat → Int32) (x : Int32), (∀ k, k < 12 → N k = N' k) → syV g ρ N x s x2 = syV g ρ N' x s x2 := by
    intro N N' x hN
    unfold syV
    cases hf : foT ρ x s x2 (nT ρ) with
    | none => rfl
    | some i => exact evT_cg hN (h2.tx (foF_lt hf)).1.1
  refine r_sideSays S4 h2 (RE_x3 h1 h3 x4) h4 (fun M5 st5 S5 m5 => ⟨_, rfl, S5, ?_⟩)
  have x5 : EqX μ M5 (fun b j => b = 72 ∨ b = 73 ∨ (b = 31 ∧ 76 ≤ j ∧ j ≤ 78)) (fun _ _ => False) := x4.trans (m5.1.mono (fun b j h => Or.inr (Or.inl h)) (fun _ _ h => h))
  have n45 := x4.1
  have N5 : ∀ k, k < 12 → zI M5 72 k = nmF ρ s pf day (nI dd) (nI f) (nI w) (nI o) k := fun k hk => by rw [m5.1.2.2.1 72 k (by omega) (by omega)]; exact N4 k hk
  refine r_sideSays S5 h2 (RE_x3 h1 h3 x5) h4 (fun M6 st6 S6 m6 => ⟨_, rfl, S6, ?_⟩)
  have n56 := x5.1
  have x6 : EqX μ M6 (fun b j => b = 72 ∨ b = 73 ∨ (b = 31 ∧ 76 ≤ j ∧ j ≤ 78)) (fun _ _ => False) := x5.trans (m6.1.mono (fun b j h => Or.inr (Or.inl h)) (fun _ _ h => h))
  have M6i : JIr ρ s pf day μ M6 := ⟨S6, x6, fun j => (m6.2.2.1 j).trans ((m5.2.2.1 j).trans (j4 j)), fun d f w o k h1 h2 => by rw [m6.1.2.2.1 72 k (by omega) (by omega), N5 k h2, nmF_hi h1]⟩
  have J6 : JRr J M6 := J4.cg (fun j => by rw [m6.1.2.2.1 31 j (by omega) (by omega), m5.1.2.2.1 31 j (by omega) (by omega)])
  obtain ⟨p1, p2⟩ := hF.pr M6i
  refine ⟨p2, ?_⟩
  rw [p1, show syV g ρ (zI M4 72) 0 s x2 = (jP g ρ s x2 pf day dd f w o).1 from cg _ _ 0 N4, show syV g ρ (zI M5 72) 1 s x2 = (jP g ρ s x2 pf day dd f w o).2 from cg _ _ 1 N5]
  have v1 : vok (jP g ρ s x2 pf day dd f w o).1 := syV_ok h2
  have v2 : vok (jP g ρ s x2 pf day dd f w o).2 := syV_ok h2
  obtain ⟨x, ex⟩ : ∃ x, x = jP g ρ s x2 pf day dd f w o := ⟨_, rfl⟩
  rw [← ex] at v1 v2 k ⊢
  refine r_worthOf S6 h5 v2 ⟨_, rfl, S6, p2, ?_⟩
  rw [p1]
  refine r_worthOf S6 h5 v1 ⟨_, rfl, S6, ?_⟩
  have b1 := wW_le h5 v1
  have b2 := wW_le h5 v2
  rw [nI_leI (by omega) (by omega)]
  refine ⟨fun z => t_X11_find_198 S6 (n_e (fun _ => ?_) (fun y => absurd y (by decide))), fun z => t_X11_find_198 S6 (n_e (fun y => absurd rfl y) (fun _ => ?_))⟩
  · have o1 : oW P x = x.1 := by unfold oW; rw [if_neg (by omega)]
    have s1 : sW P x = 0 := by unfold sW; rw [if_neg (by omega)]
    rw [← o1, ← s1]
    exact r_f213 hF M6i J6 (by rw [o1]; exact v1) k
  · have o1 : oW P x = x.2 := by unfold oW; rw [if_pos (by omega)]
    have s1 : sW P x = 1 := by unfold sW; rw [if_pos (by omega)]
    rw [← o1, ← s1]
    exact r_f213 hF M6i J6 (by rw [o1]; exact v2) k
theorem r_f107 (hF : FB g t ρ μ s P a d0 nd f0 nf w0 nw o0 no) (dd : Nat) (f : Nat) (w : Nat) : ∀ (m o : Nat) (M : ZM) (J : JS), o + m = o0 + no + 1 → JIr ρ s pf day μ M → JRr J M → (∀ M', JIr ρ s pf day μ M' → JRr (((rl o m).flatMap fun o => [jP g ρ s x2 pf day dd f w o]).foldl (hear P) J) M' → AW E l (d + 3) nc ns mX11_find 88 [some (.ref 31), some (.int (nI a)), some (.int x2), some (.int (nI s)), some (.int (ρ 79 a)), some (.int (nI dd)), some (.int (nI f)), some (.int (nI w + 1)), none, none, none, none, none] [] M' K) → AW E l (d + 3) nc ns mX11_find 107 [some (.ref 31), some (.int (nI a)), some (.int x2), some (.int (nI s)), some (.int (ρ 79 a)), some (.int (nI dd)), some (.int (nI f)), some (.int (nI w)), some (.int (nI o)), none, none, none, none] [] M K
  | 0, o, M, J, hm, hM, hJ, k => by
    have hF' := hF
    obtain ⟨h1, h2, h3, h4, h5, h6, h7, h8, h9⟩ := hF'
    obtain ⟨b1, b2, b3, b4, b5, b6, b7, b8, b9, b10, b11, b12⟩ := h9
    refine t_X11_find_107 hM.1 (r_dg5 hM.1 h8 ⟨_, rfl, hM.1, c_t ?_ (k M hM hJ)⟩)
    rw [b8, nI_ltI (by omega) (by omega)]
    omega
  | m + 1, o, M, J, hm, hM, hJ, k => by
    have hF' := hF
    obtain ⟨h1, h2, h3, h4, h5, h6, h7, h8, h9⟩ := hF'
    obtain ⟨b1, b2, b3, b4, b5, b6, b7, b8, b9, b10, b11, b12⟩ := h9
    have c : ¬ dg (ρ 79 a) 5 < nI o := by
      rw [b8, nI_ltI (by omega) (by omega)]
      omega
    refine r_fbody hF hM hJ dd f w o c (fun M' hM' hJ' => ?_)
    rw [nI_1]
    refine r_f107 hF dd f w m (o + 1) M' _ (by omega) hM' hJ' (fun M2 hM2 hJ2 => k M2 hM2 ?_)
    rw [rl_s o m, List.flatMap_cons, List.foldl_append]
    exact hJ2
theorem r_f88 (hF : FB g t ρ μ s P a d0 nd f0 nf w0 nw o0 no) (dd : Nat) (f : Nat) : ∀ (m w : Nat) (M : ZM) (J : JS), w + m = w0 + nw + 1 → JIr ρ s pf day μ M → JRr J M → (∀ M', JIr ρ s pf day μ M' → JRr (((rl w m).flatMap fun w => (rl o0 (no + 1)).flatMap fun o => [jP g ρ s x2 pf day dd f w o]).foldl (hear P) J) M' → AW E l (d + 3) nc ns mX11_find 69 [some (.ref 31), some (.int (nI a)), some (.int x2), some (.int (nI s)), some (.int (ρ 79 a)), some (.int (nI dd)), some (.int (nI f + 1)), none, none, none, none, none, none] [] M' K) → AW E l (d + 3) nc ns mX11_find 88 [some (.ref 31), some (.int (nI a)), some (.int x2), some (.int (nI s)), some (.int (ρ 79 a)), some (.int (nI dd)), some (.int (nI f)), some (.int (nI w)), none, none, none, none, none] [] M K
  | 0, w, M, J, hm, hM, hJ, k => by
    have hF' := hF
    obtain ⟨h1, h2, h3, h4, h5, h6, h7, h8, h9⟩ := hF'
    obtain ⟨b1, b2, b3, b4, b5, b6, b7, b8, b9, b10, b11, b12⟩ := h9
    refine t_X11_find_88 hM.1 (r_dg3 hM.1 h8 ⟨_, rfl, hM.1, c_t ?_ (k M hM hJ)⟩)
    rw [b6, nI_ltI (by omega) (by omega)]
    omega
  | m + 1, w, M, J, hm, hM, hJ, k => by
    have hF' := hF
    obtain ⟨h1, h2, h3, h4, h5, h6, h7, h8, h9⟩ := hF'
    obtain ⟨b1, b2, b3, b4, b5, b6, b7, b8, b9, b10, b11, b12⟩ := h9
    have c : ¬ dg (ρ 79 a) 3 < nI w := by
      rw [b6, nI_ltI (by omega) (by omega)]
      omega
    refine t_X11_find_88 hM.1 (r_dg3 hM.1 h8 ⟨_, rfl, hM.1, c_f c (r_dg4 hM.1 h8 ⟨_, rfl, hM.1, ?_⟩)⟩)
    rw [b7]
    refine r_f107 hF dd f w (no + 1) o0 M J (by omega) hM hJ (fun M' hM' hJ' => ?_)
    rw [nI_1]
    refine r_f88 hF dd f m (w + 1) M' _ (by omega) hM' hJ' (fun M2 hM2 hJ2 => k M2 hM2 ?_)
    rw [rl_s w m, List.flatMap_cons, List.foldl_append]
    exact hJ2
theorem r_f69 (hF : FB g t ρ μ s P a d0 nd f0 nf w0 nw o0 no) (dd : Nat) : ∀ (m f : Nat) (M : ZM) (J : JS), f + m = f0 + nf + 1 → JIr ρ s pf day μ M → JRr J M → (∀ M', JIr ρ s pf day μ M' → JRr (((rl f m).flatMap fun f => (rl w0 (nw + 1)).flatMap fun w => (rl o0 (no + 1)).flatMap fun o => [jP g ρ s x2 pf day dd f w o]).foldl (hear P) J) M' → AW E l (d + 3) nc ns mX11_find 50 [some (.ref 31), some (.int (nI a)), some (.int x2), some (.int (nI s)), some (.int (ρ 79 a)), some (.int (nI dd + 1)), none, none, none, none, none, none, none] [] M' K) → AW E l (d + 3) nc ns mX11_find 69 [some (.ref 31), some (.int (nI a)), some (.int x2), some (.int (nI s)), some (.int (ρ 79 a)), some (.int (nI dd)), some (.int (nI f)), none, none, none, none, none, none] [] M K
  | 0, f, M, J, hm, hM, hJ, k => by
    have hF' := hF
    obtain ⟨h1, h2, h3, h4, h5, h6, h7, h8, h9⟩ := hF'
    obtain ⟨b1, b2, b3, b4, b5, b6, b7, b8, b9, b10, b11, b12⟩ := h9
    refine t_X11_find_69 hM.1 (r_dg1 hM.1 h8 ⟨_, rfl, hM.1, c_t ?_ (k M hM hJ)⟩)
    rw [b4, nI_ltI (by omega) (by omega)]
    omega
  | m + 1, f, M, J, hm, hM, hJ, k => by
    have hF' := hF
    obtain ⟨h1, h2, h3, h4, h5, h6, h7, h8, h9⟩ := hF'
    obtain ⟨b1, b2, b3, b4, b5, b6, b7, b8, b9, b10, b11, b12⟩ := h9
    have c : ¬ dg (ρ 79 a) 1 < nI f := by
      rw [b4, nI_ltI (by omega) (by omega)]
      omega
    refine t_X11_find_69 hM.1 (r_dg1 hM.1 h8 ⟨_, rfl, hM.1, c_f c (r_dg2 hM.1 h8 ⟨_, rfl, hM.1, ?_⟩)⟩)
    rw [b5]
    refine r_f88 hF dd f (nw + 1) w0 M J (by omega) hM hJ (fun M' hM' hJ' => ?_)
    rw [nI_1]
    refine r_f69 hF dd m (f + 1) M' _ (by omega) hM' hJ' (fun M2 hM2 hJ2 => k M2 hM2 ?_)
    rw [rl_s f m, List.flatMap_cons, List.foldl_append]
    exact hJ2
theorem r_f50 (hF : FB g t ρ μ s P a d0 nd f0 nf w0 nw o0 no) : ∀ (m dd : Nat) (M : ZM) (J : JS), dd + m = d0 + nd + 1 → JIr ρ s pf day μ M → JRr J M → (∀ M', JIr ρ s pf day μ M' → JRr (((rl dd m).flatMap fun dd => (rl f0 (nf + 1)).flatMap fun f => (rl w0 (nw + 1)).flatMap fun w => (rl o0 (no + 1)).flatMap fun o => [jP g ρ s x2 pf day dd f w o]).foldl (hear P) J) M' → K none M') → AW E l (d + 3) nc ns mX11_find 50 [some (.ref 31), some (.int (nI a)), some (.int x2), some (.int (nI s)), some (.int (ρ 79 a)), some (.int (nI dd)), none, none, none, none, none, none, none] [] M K
  | 0, dd, M, J, hm, hM, hJ, k => by
    have hF' := hF
    obtain ⟨h1, h2, h3, h4, h5, h6, h7, h8, h9⟩ := hF'
    obtain ⟨b1, b2, b3, b4, b5, b6, b7, b8, b9, b10, b11, b12⟩ := h9
    have h88 := h1.N
    have v200 : vp_in (nI a) 200 := vp_in_nI h7 (by decide)
    have e78 : zI M 78 (nI a).toNatClampNeg = nI (d0 + nd) := by
      rw [nI_clamp (by omega), hM.2.1.2.2.1 78 a (by omega) (by omega), ← rf_z (by decide) (by decide), h3 78 a (by decide) (by decide) (by omega)]
      exact b2
    refine t_X11_find_50 hM.1 ⟨v200, c_t ?_ (k M hM hJ)⟩
    rw [e78, nI_ltI (by omega) (by omega)]
    omega
  | m + 1, dd, M, J, hm, hM, hJ, k => by
    have hF' := hF
    obtain ⟨h1, h2, h3, h4, h5, h6, h7, h8, h9⟩ := hF'
    obtain ⟨b1, b2, b3, b4, b5, b6, b7, b8, b9, b10, b11, b12⟩ := h9
    have h88 := h1.N
    have v200 : vp_in (nI a) 200 := vp_in_nI h7 (by decide)
    have e78 : zI M 78 (nI a).toNatClampNeg = nI (d0 + nd) := by
      rw [nI_clamp (by omega), hM.2.1.2.2.1 78 a (by omega) (by omega), ← rf_z (by decide) (by decide), h3 78 a (by decide) (by decide) (by omega)]
      exact b2
    have c : ¬ zI M 78 (nI a).toNatClampNeg < nI dd := by
      rw [e78, nI_ltI (by omega) (by omega)]
      omega
    refine t_X11_find_50 hM.1 ⟨v200, c_f c (r_dg0 hM.1 h8 ⟨_, rfl, hM.1, ?_⟩)⟩
    rw [b3]
    refine r_f69 hF dd (nf + 1) f0 M J (by omega) hM hJ (fun M' hM' hJ' => ?_)
    rw [nI_1]
    refine r_f50 hF  m (dd + 1) M' _ (by omega) hM' hJ' (fun M2 hM2 hJ2 => k M2 hM2 ?_)
    rw [rl_s dd m, List.flatMap_cons, List.foldl_append]
    exact hJ2
theorem r_find (hS : Stat μ) (hr : RIg g t ρ) (hR : RE ρ (rf μ)) (ha : a < nA ρ) (hB : AB ρ a d0 nd f0 nf w0 nw o0 no) (k : ∀ M, Stat M → EqX μ M (fun b j => b = 72 ∨ b = 73 ∨ (b = 31 ∧ 76 ≤ j ∧ j ≤ 78)) (fun _ _ => False) → (∀ j, zJ M 86 j = zJ μ 86 j) → JRr ((jL (jP g ρ (as_ ρ a) x2 (ρ 75 a) (ρ 76 a)) d0 (nd + 1) f0 (nf + 1) w0 (nw + 1) o0 (no + 1)).foldl (hear (tN (ρ 56 (as_ ρ a)))) none) M → K none M) : AW E l (d + 3) nc ns mX11_find 0 (zargs 13 [.ref 31, .int (nI a), .int x2]) [] μ K := by
  obtain ⟨f1, f2, f3, f4, f5, f6, f7, f8, f9, f10, f11⟩ := hr.a ha
  have b200 := hr.s.2.2.2.1.2
  have h88 := hS.N
  obtain ⟨s, es⟩ : ∃ s, s = as_ ρ a := ⟨_, rfl⟩
  rw [← es] at k f1 f2
  have d8 : rng (ρ 56 s) 0 99999 := (hr.sa f2).2.2.2.2.2.2.2.1
  obtain ⟨p1, p2, p3⟩ := rng_of d8 (by decide)
  have R : ∀ a j, 31 ≤ a → a < 88 → a ≠ 72 → a ≠ 73 → (a = 31 → j < 76) → zI μ a j = ρ a j := fun a j h1 h2 h3 h4 h5 => by rw [← rf_z h1 h2]; exact hR a j h3 h4 h5
  have v200 : vp_in (nI a) 200 := vp_in_nI (by omega) (by decide)
  have c200 : (nI a).toNatClampNeg = a := nI_clamp (by omega)
  refine t_X11_find hS ⟨v200, v200, v200, v200, ?_⟩
  rw [c200]
  simp (disch := omega) only [zI_ne, R]
  rw [f1]
  have xA : EqX μ (sI (sI μ 31 76 (-1)) 31 77 (-1)) (fun b j => b = 72 ∨ b = 73 ∨ (b = 31 ∧ 76 ≤ j ∧ j ≤ 78)) (fun _ _ => False) := (EqX.rfl.wi (Or.inl (Or.inr (Or.inr ⟨rfl, by decide⟩)))).wi (Or.inl (Or.inr (Or.inr ⟨rfl, by decide⟩)))
  refine r_factsOf hS.wI.wI hr (RE_x3 hS hR xA) f2 (fun M1 hS1 x1' j1 nm1 => ⟨rfl, hS1, v200, ?_⟩)
  have nA' := xA.1
  have x1 : EqX μ M1 (fun b j => b = 72 ∨ b = 73 ∨ (b = 31 ∧ 76 ≤ j ∧ j ≤ 78)) (fun _ _ => False) := xA.trans (x1'.mono (fun b j h => Or.inl h.1) (fun _ _ h => h))
  have e77 : zI M1 77 a = nI d0 := by
    rw [x1.2.2.1 77 a (by omega) (by omega), R _ _ (by decide) (by decide) (by decide) (by decide) (by omega)]
    exact hB.1
  rw [e77]
  have J1 : JRr none M1 := by
    have n1 : zN μ = zN (sI (sI μ 31 76 (-1)) 31 77 (-1)) := rfl
    refine ⟨?_, ?_⟩
    · rw [x1'.2.2.1 31 76 (by omega) (by omega), zI_nk (by decide), zI_eq]
    · rw [x1'.2.2.1 31 77 (by omega) (by omega), zI_eq]
  have F : FB g t ρ μ s (tN (ρ 56 s)) a d0 nd f0 nf w0 nw o0 no := ⟨hS, hr, hR, f2, by omega, p1, by omega, f7, hB⟩
  exact r_f50 F (nd + 1) d0 M1 none (by omega) ⟨hS1, x1, fun j => j1 j, nm1⟩ J1 (fun M' hM' hJ' => k M' hM'.1 hM'.2.1 hM'.2.2.1 hJ')
end FindR
