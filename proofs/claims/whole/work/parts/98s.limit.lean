/-! the limit -/
def WL (b j : Nat) : Prop := (b = 70 ∨ b = 71) ∧ 4000 ≤ j ∧ j < 4200
def LmD (μ D : ZM) (ρ : RV) (I : List Itm) : Prop := EqX μ D (W5 ρ) (WA5 ρ) ∧ Stat D ∧ (∀ b j, b < zN μ → zJ D b j = zJ μ b j) ∧ zN D = zN μ + 1 ∧ zI D 20 1 = 0 ∧ zA D 11 11 = some (zN μ) ∧ zK D (zN μ) = 13 ∧ zL D (zN μ) = I.length ∧ lst (zI D (zN μ)) 0 (I.map enC) ∧ (∀ b j, 31 ≤ b → b < 88 → zI D b j = zI μ b j) ∧ ∀ b j, b = 11 → zI D b j = zI μ b j
theorem lst2_sh {f g f' g' : Nat → Int32} : ∀ {l : List (Int32 × Int32)} {p q : Nat}, (∀ j, j < l.length → f' (q + j) = f (p + j) ∧ g' (q + j) = g (p + j)) → lst2 f g p l → lst2 f' g' q l
  | [], p, q, _, _ => trivial
  | x :: r, p, q, h, ⟨h1, h2, h3⟩ => by
    have h0 := h 0 (by simp)
    refine ⟨h0.1.trans h1, h0.2.trans h2, lst2_sh (p := p + 1) (q := q + 1) (fun j hj => ?_) h3⟩
    have := h (j + 1) (by simpa using hj)
    rw [show q + 1 + j = q + (j + 1) by omega, show p + 1 + j = p + (j + 1) by omega]
    exact this
section Lmt
variable {E : ZE} {l : Launch} {d nc ns : Nat} {g : Gh} {L : Nat} {X : Nat → Int32} {t w : Nat} {μ D M m0 : ZM} {ρ : RV} {I : List Itm} {K : Option Value → ZM → Prop}
theorem r_copy (hS0 : Stat m0) (h57 : zI m0 31 57 = nI w) (hw : w ≤ 200) (k : ∀ m, Fx WL m0 m → (∀ j, j < w → zI m 70 (4000 + j) = zI m0 70 (4200 + j) ∧ zI m 71 (4000 + j) = zI m0 71 (4200 + j)) → K (some (.int 1)) (sI (sI m 69 20 (nI w)) 31 49 1)) : AW E l (d + 4) nc ns mX11_limit 51 [some (.ref 31), some (.int 0)] [] m0 K := by
  suffices h : ∀ m, Fx WL m0 m → (∀ j, j < 0 → zI m 70 (4000 + j) = zI m0 70 (4200 + j) ∧ zI m 71 (4000 + j) = zI m0 71 (4200 + j)) → AW E l (d + 4) nc ns mX11_limit 51 [some (.ref 31), some (.int (nI 0))] [] m K from h m0 Fx.rfl (fun j hj => by omega)
  refine lpd (P := fun i => ∀ m, Fx WL m0 m → (∀ j, j < i → zI m 70 (4000 + j) = zI m0 70 (4200 + j) ∧ zI m 71 (4000 + j) = zI m0 71 (4200 + j)) → AW E l (d + 4) nc ns mX11_limit 51 [some (.ref 31), some (.int (nI i))] [] m K) (n := w) ?_ ?_
  · intro m f h
    have e57 : zI m 31 57 = nI w := (f.i (by unfold WL; omega)).trans h57
    refine t_X11_limit_51 (f.st hS0) ?_
    rw [e57]
    exact c_t (Int32.le_refl _) (k m f h)
  · intro i hi ih m f h
    have e57 : zI m 31 57 = nI w := (f.i (by unfold WL; omega)).trans h57
    have a1 : (4200 : Int32) + nI i = nI (4200 + i) := by rw [show (4200 : Int32) = nI 4200 from rfl, nI_add]
    have a2 : (4000 : Int32) + nI i = nI (4000 + i) := by rw [show (4000 : Int32) = nI 4000 from rfl, nI_add]
    refine t_X11_limit_51 (f.st hS0) ?_
    rw [e57, a1, a2, nI_clamp (by omega), nI_clamp (by omega), nI_1]
    refine c_f (by rw [nI_leI (by omega) (by omega)]; omega) ⟨vp_in_nI (by omega) (by decide), vp_in_nI (by omega) (by decide), vp_in_nI (by omega) (by decide), vp_in_nI (by omega) (by decide), ?_⟩
    refine ih _ ((f.wi ⟨Or.inl rfl, by omega, by omega⟩).wi ⟨Or.inr rfl, by omega, by omega⟩) (fun j hj => ?_)
    by_cases c : j = i
    · rw [c]
      refine ⟨?_, ?_⟩
      · rw [zI_ne (by decide), zI_eq, f.i (by unfold WL; omega)]
      · rw [zI_eq, zI_ne (by decide), f.i (by unfold WL; omega)]
    · have hj' := h j (by omega)
      refine ⟨?_, ?_⟩
      · rw [zI_ne (by decide), zI_nk (by omega)]
        exact hj'.1
      · rw [zI_nk (by omega), zI_ne (by decide)]
        exact hj'.2
theorem IV.limit (hI : IV g L X t μ) (hρ : rf μ = ρ) (hD : LmD μ D ρ I) (hok : wfE 5 0 I) (hok2 : I.length ≤ 200) (f : Fx (WR 21) D M) (lx : LD 12 21 D M 0 w I) {m : ZM} (fm : Fx WL (sI M 31 41 0) m) (hm : ∀ j, j < w → zI m 70 (4000 + j) = zI (sI M 31 41 0) 70 (4200 + j) ∧ zI m 71 (4000 + j) = zI (sI M 31 41 0) 71 (4200 + j)) : IV (g.1, I) L X (t + 1) (sI (sI m 69 20 (nI w)) 31 49 1) := by
  have hr := hI.r hρ
  have hc := hI.c hρ
  have h88 := hI.st.N
  obtain ⟨s1, s2, s3, s4, s5, s6, s7, s8, s9, s10, s11⟩ := hc.s
  obtain ⟨b1, b2, b3, b4, b5, b6, b7, b8⟩ := hr.s
  obtain ⟨dx, dS, dJ, dN, d20, dA11, dK, dL, dl, dlo, d11⟩ := hD
  obtain ⟨w1, w2, -⟩ := lx
  obtain ⟨P, hP⟩ : ∃ P, P = sI (sI m 69 20 (nI w)) 31 49 1 := ⟨_, rfl⟩
  rw [← hP]
  have b20 := b5.2
  have pI : ∀ b j, ¬ (b = 31 ∧ (j = 41 ∨ j = 49)) → ¬ (b = 69 ∧ j = 20) → ¬ WL b j → zI P b j = zI M b j := fun b j n1 n2 n3 => by
    rw [hP, zI_sI, if_neg (by omega), zI_sI, if_neg (by omega), fm.i n3, zI_sI, if_neg (by omega)]
  have pA : ∀ b j, zA P b j = zA D b j := fun b j => by rw [hP]; exact (fm.2.2.2.1 b j).trans (f.2.2.2.1 b j)
  have pK : ∀ b, zK P b = zK D b := fun b => by rw [hP]; exact (fm.2.1 b).trans (f.2.1 b)
  have pL : ∀ b, zL P b = zL D b := fun b => by rw [hP]; exact (fm.2.2.1 b).trans (f.2.2.1 b)
  have pJ : ∀ b j, zJ P b j = zJ D b j := fun b j => by rw [hP]; exact (fm.2.2.2.2.1 b j).trans (f.2.2.2.2.1 b j)
  have pN : zN P = zN D := by rw [hP]; exact fm.1.trans f.1
  have p41 : zI P 31 41 = 0 := by rw [hP, zI_nk (by decide), zI_ne (by decide), fm.i (by unfold WL; omega), zI_eq]
  have p49 : zI P 31 49 = 1 := by rw [hP, zI_eq]
  have p69 : zI P 69 20 = nI w := by rw [hP, zI_ne (by decide), zI_eq]
  have mD : ∀ b j, ¬ WR 21 b j → zI M b j = zI D b j := fun b j h => f.i h
  have pD : ∀ b j, b ≠ 31 → b < 69 ∨ 71 < b → zI P b j = zI D b j := fun b j b1 b2 => by rw [pI b j (by omega) (by omega) (by unfold WL; omega), mD b j (by unfold WR; omega)]
  have sP : Stat P := by rw [hP]; exact fm.st (f.st dS)
  have sc : ∀ j, j < 50 ∨ 58 ≤ j → j ≠ 41 → j ≠ 49 → rf P 31 j = ρ 31 j := fun j j1 j2 j3 => by
    rw [rf_z (by decide) (by decide), pI _ _ (by omega) (by omega) (by unfold WL; omega), mD _ _ (by unfold WR; omega), dlo _ _ (by decide) (by decide), rfz hρ (by decide) (by decide)]
  have r41 : rf P 31 41 = 0 := by rw [rf_z (by decide) (by decide)]; exact p41
  have t0 : tL (rf P) = 0 := by unfold tL; rw [r41]; rfl
  have rl : ∀ b j, 31 ≤ b → b < 88 → b ≠ 31 → b < 69 ∨ 71 < b → rf P b j = ρ b j := fun b j b1 b2 b3 b4 => by
    rw [rf_z b1 b2, pD b j b3 b4, dlo _ _ b1 b2, rfz hρ b1 b2]
  have pdI : ∀ b j, 88 ≤ b → zI P b j = zI D b j := fun b j hb => pD b j (by omega) (by omega)
  have nt : nT (rf P) = nT ρ := by unfold nT; rw [sc _ (by decide) (by decide) (by decide)]
  have nm : nM (rf P) = nM ρ := by unfold nM; rw [sc _ (by decide) (by decide) (by decide)]
  have eqx : EqX μ P (W5 ρ) (WA5 ρ) := by
    refine EqX.trans dx ?_
    rw [hP]
    have e0 : EqX D M (W5 ρ) (WA5 ρ) := f.eqx.mono (fun b j z => Or.inl (WR_S (by omega) (Or.inr rfl) z)) (fun _ _ z => z.elim)
    have e1 : EqX D (sI M 31 41 0) (W5 ρ) (WA5 ρ) := e0.wi (Or.inl (Or.inr (Or.inr (Or.inl ⟨rfl, Or.inl rfl⟩))))
    have e2 : EqX D m (W5 ρ) (WA5 ρ) := e1.trans (fm.eqx.mono (fun b j z => by unfold WL at z; unfold W5; omega) (fun _ _ z => z.elim))
    exact (e2.wi (Or.inl (Or.inr (Or.inr (Or.inr (Or.inr (Or.inl ⟨by decide, by decide, by omega⟩))))))).wi (Or.inl (Or.inr (Or.inr (Or.inl ⟨rfl, Or.inr (Or.inr rfl)⟩))))
  refine IV.fr5 (g' := (g.1, I)) hI sP eqx hρ rfl (Nat.le_succ t) (fun i hi => rfl) (by omega) ?_ (fun i h1 h2 => by omega) (Or.inr ⟨?_, hok, hok2, ?_, ?_⟩) ?_ ?_ (Or.inr ⟨?_, zN μ, by rw [pA]; exact dA11, h88, by rw [pN, dN]; omega, (pK _).trans dK, (pL _).trans dL, ?_, fun i hi => ?_⟩) (hI.w.cg (fun j => by rw [pJ, dJ _ _ (by omega)]))
  · refine ⟨?_, ?_, ?_, ?_, ?_, ?_, ?_, ?_⟩
    · unfold nM; rw [sc _ (by decide) (by decide) (by decide)]; exact b1
    · unfold nL; rw [sc _ (by decide) (by decide) (by decide)]; exact b2
    · unfold nS; rw [sc _ (by decide) (by decide) (by decide)]; exact b3
    · unfold nA; rw [sc _ (by decide) (by decide) (by decide)]; exact b4
    · unfold nT; rw [sc _ (by decide) (by decide) (by decide)]; exact b5
    · unfold nN; rw [sc _ (by decide) (by decide) (by decide)]; exact b6
    · rw [t0, r41]; exact ⟨rfl, by decide⟩
    · rw [sc _ (by decide) (by decide) (by decide)]; exact b8
  · rw [rf_z (by decide) (by decide)]
    exact p49
  · rw [rf_z (by decide) (by decide), p69, w1]
    congr 1
    show 0 + I.length = I.length
    omega
  · refine lst2_sh (f := zI M 70) (g := zI M 71) (p := 4200) (fun j hj => ?_) w2
    rw [List.length_map] at hj
    have hj : j < I.length := hj
    have h4 := hm j (by omega)
    rw [zI_ne (by decide), zI_ne (by decide)] at h4
    have e : ∀ b, b = 70 ∨ b = 71 → zI P b (4000 + j) = zI m b (4000 + j) := fun b hb => by rw [hP, zI_ne (by omega), zI_ne (by omega)]
    rw [rf_z (by decide) (by decide), rf_z (by decide) (by decide), e _ (by decide), e _ (by decide)]
    exact h4
  · have e : ∀ b j, b = 11 ∨ b = 17 → zI P b j = zI μ b j := fun b j hb => by
      rw [pD _ _ (by omega) (by omega)]
      rcases hb with hb | hb
      · exact d11 b j hb
      · exact dx.2.2.1 b j (by omega) (by unfold W5 WS; omega)
    refine ⟨?_, ?_, ?_, ?_, ?_, ?_, ?_, ?_, ?_, ?_, ?_⟩
    · rw [e _ _ (by decide), sc _ (by decide) (by decide) (by decide)]; exact s1
    · rw [e _ _ (by decide), sc _ (by decide) (by decide) (by decide)]; exact s2
    · rw [e _ _ (by decide), sc _ (by decide) (by decide) (by decide)]; exact s3
    · rw [e _ _ (by decide), sc _ (by decide) (by decide) (by decide)]; exact s4
    · rw [e _ _ (by decide), sc _ (by decide) (by decide) (by decide)]; exact s5
    · rw [e _ _ (by decide), sc _ (by decide) (by decide) (by decide)]; exact s6
    · rw [e _ _ (by decide), sc _ (by decide) (by decide) (by decide)]; exact s7
    · rw [e _ _ (by decide), sc _ (by decide) (by decide) (by decide)]; exact s8
    · rw [e _ _ (by decide), sc _ (by decide) (by decide) (by decide)]; exact s9
    · rw [e _ _ (by decide), sc _ (by decide) (by decide) (by decide)]; exact s10
    · rw [pD _ _ (by decide) (by decide), d20, r41]
  · refine ⟨fun j hj => ?_, fun j hj => by rw [t0] at hj; omega⟩
    have nn : nN (rf P) = nN ρ := by unfold nN; rw [sc _ (by decide) (by decide) (by decide)]
    rw [nn] at hj
    rw [pD _ _ (by decide) (by decide), dx.2.2.1 _ _ (by omega) (by unfold W5 WS; omega), rl 85 j (by decide) (by decide) (by decide) (by decide)]
    exact hc.n.1 j hj
  · rw [rf_z (by decide) (by decide)]
    exact p49
  · have e25 : zI P (zN μ) = zI D (zN μ) := funext fun j => pdI _ _ (by omega)
    rw [e25]
    exact dl
  · rw [nm] at hi
    have k := k_ma hc hi
    have fM : maF P i = maF μ i := by unfold maF; rw [pA, dx.2.2.2.1 12 i (by omega) (by unfold WA5; omega)]
    rw [fM]
    omega
theorem pr_limit (hI : IV g L X t μ) : PRp E l d L X t mX10_limit mX11_limit [some (.ref 11), none] [some (.ref 31), none] μ := by
  obtain ⟨ρ, hρ⟩ : ∃ ρ, rf μ = ρ := ⟨_, rfl⟩
  have hS := hI.st
  have hr := hI.r hρ
  have hc := hI.c hρ
  have R : ∀ a j, 31 ≤ a → a < 88 → zI μ a j = ρ a j := fun a j h1 h2 => rfz hρ h1 h2
  obtain ⟨s1, s2, s3, s4, s5, s6, s7, s8, s9, s10, s11⟩ := hc.s
  obtain ⟨b1, b2, b3, b4, b5, b6, b7, b8⟩ := hr.s
  have hU : IV g L X (t + 1) μ := hI.up (Nat.le_succ t)
  refine PRp.mk fun K hK => ?_
  have b20 := b5.2
  have hL : zI μ 20 1 = nI (tL ρ) := by rw [s11, b7.1]
  have hb : ∀ j, j < tL ρ → rng (zI μ 21 j) 0 255 := fun j hj => (hc.n.2 j hj).1
  have h88 := hS.N
  refine t_X10_limit hS ?_
  refine c_readLimit (F := 2100) hS hI.cst hL b7.2 hb (Nat.le_refl _) (by omega) (fun N M1 c' hT f1 q1 p1 g1 => ⟨_, rfl, q1.st, ?_⟩)
  have n2 := q1.N2
  have aN := q1.aN
  have pp : PP 5 N 8 0 (prs (kA 4 (zI μ 21) (tL ρ)) (iA 4 (zI μ 21) (tL ρ)) 2100 8 0 0) := prs_ok (hN_A hT) (hit_A hT (Or.inr rfl)) 2100 8 0 0 (Nat.zero_le _)
  have fA : Fx (fun b j => WQ b j ∨ (b = 20 ∧ j = 1)) μ (sI M1 20 1 0) := (f1.mono (fun b j z => Or.inl z)).wi (Or.inr ⟨rfl, rfl⟩)
  have rfp : ∀ (D : ZM) (Q : Option Value → ZM → Prop), Stat D → (∀ b j, 31 ≤ b → b < 88 → zI D b j = zI μ b j) → (∀ j, zJ D 10 j = zJ μ 10 j) → (∀ μ', Fx (WR 21) D μ' → ¬ ((prs (kA 4 (zI μ 21) (tL ρ)) (iA 4 (zI μ 21) (tL ρ)) 2100 8 0 0).1 = true ∧ kA 4 (zI μ 21) (tL ρ) (prs (kA 4 (zI μ 21) (tL ρ)) (iA 4 (zI μ 21) (tL ρ)) 2100 8 0 0).2.1 = 23) → Q (some (.int (-100 - nI (plF (zI μ 21) (tL ρ) (prs (kA 4 (zI μ 21) (tL ρ)) (iA 4 (zI μ 21) (tL ρ)) 2100 8 0 0).2.1)))) (sI μ' 31 41 0)) → ((prs (kA 4 (zI μ 21) (tL ρ)) (iA 4 (zI μ 21) (tL ρ)) 2100 8 0 0).1 = true → kA 4 (zI μ 21) (tL ρ) (prs (kA 4 (zI μ 21) (tL ρ)) (iA 4 (zI μ 21) (tL ρ)) 2100 8 0 0).2.1 = 23 → ∀ μ' w' m, Fx (WR 21) D μ' → LD 12 21 D μ' 0 w' (prs (kA 4 (zI μ 21) (tL ρ)) (iA 4 (zI μ 21) (tL ρ)) 2100 8 0 0).2.2 → Fx WL (sI μ' 31 41 0) m → (∀ j, j < w' → zI m 70 (4000 + j) = zI (sI μ' 31 41 0) 70 (4200 + j) ∧ zI m 71 (4000 + j) = zI (sI μ' 31 41 0) 71 (4200 + j)) → Q (some (.int 1)) (sI (sI m 69 20 (nI w')) 31 49 1)) → AW E l (d + 299) 0 0 mX11_limit 0 [some (.ref 31), none] [] D Q := by
    intro D Q sD dlo dj kb kg
    refine t_X11_limit sD (r_begin (ta := 21) (by_ := zI μ 21) (L := tL ρ) sD (fun j hj => (dj j).trans (hI.cst.2.2.2.2.2 j hj)) ⟨by rw [dlo _ _ (by decide) (by decide), R _ _ (by decide) (by decide), b7.1], fun j hj => by rw [dlo _ _ (by decide) (by decide), R _ _ (by decide) (by decide)]; exact (hc.n.2 j hj).2⟩ hT (fun μ2 f2 b2 r2 => ⟨rfl, b2.st, ?_⟩))
    refine (r_rd hT (Or.inr rfl) (by decide) 2100).2.2.2.2.2.2.2.2.1 0 0 (d + 298) 0 0 μ2 0 _ (by omega) (by omega) (by omega) (Nat.zero_le _) (Nat.zero_le _) b2 r2 (fun μ3 w3 f3 b3 hw3 g3 gb3 => ⟨rfl, b3.st, ?_⟩)
    have pL := pl_L (by_ := zI μ 21) (L := tL ρ) (a := (prs (kA 4 (zI μ 21) (tL ρ)) (iA 4 (zI μ 21) (tL ρ)) 2100 8 0 0).2.1)
    have tl2 := b7.2
    by_cases gd : (prs (kA 4 (zI μ 21) (tL ρ)) (iA 4 (zI μ 21) (tL ρ)) 2100 8 0 0).1 = true
    · obtain ⟨u1, u2⟩ := g3 gd
      obtain ⟨fg1, fg2⟩ := f_good u1.2.1
      have t23 : zI μ3 31 52 = 0 ↔ kA 4 (zI μ 21) (tL ρ) (prs (kA 4 (zI μ 21) (tL ρ)) (iA 4 (zI μ 21) (tL ρ)) 2100 8 0 0).2.1 = 23 := by rw [u1.1.2.2.1]; exact (kd_2 hT.2.1).2.1
      refine c_f fg1 ⟨fun c0 => ?_, fun c0 => c_f fg1 ?_⟩
      · refine c_t (by rw [zI_nk (by decide)]; exact fg2) (r_copy (w := w3) b3.st (by rw [zI_nk (by decide)]; exact b3.2.2.2.2) ?_ (fun m fm hm => kg gd (t23.mp c0) μ3 w3 m (f2.trans f3) ?_ fm hm))
        · have := u2.1
          have := (pp.2.2 gd).2.1
          have := pp.1
          omega
        · refine ⟨u2.1, u2.2.1, fun j hj => ?_⟩
          have e1 := u2.2.2 j hj
          rw [e1.1, e1.2]
          exact ⟨f2.i (by unfold WR; omega), f2.i (by unfold WR; omega)⟩
      · have e54 : zI (sI (sI μ3 31 54 (zI μ3 31 50)) 31 41 0) 31 54 = nI (plF (zI μ 21) (tL ρ) (prs (kA 4 (zI μ 21) (tL ρ)) (iA 4 (zI μ 21) (tL ρ)) 2100 8 0 0).2.1) := by rw [zI_nk (by decide), zI_eq]; exact u1.1.1
        rw [e54]
        exact c_f (nI_pos (by omega)) (kb _ ((f2.trans f3).trans (w_f (by decide) (by decide))) (fun y => c0 (t23.mpr y.2)))
    · have fb := gb3 gd
      have f0 := f_bad fb (by omega)
      have e54 : zI (sI μ3 31 41 0) 31 54 = nI (plF (zI μ 21) (tL ρ) (prs (kA 4 (zI μ 21) (tL ρ)) (iA 4 (zI μ 21) (tL ρ)) 2100 8 0 0).2.1) := by rw [zI_nk (by decide)]; exact fb
      refine c_t f0 ?_
      rw [e54]
      exact c_f (nI_pos (by omega)) (kb μ3 (f2.trans f3) (fun y => gd y.1))
  by_cases gd : (prs (kA 4 (zI μ 21) (tL ρ)) (iA 4 (zI μ 21) (tL ρ)) 2100 8 0 0).1 = true ∧ kA 4 (zI μ 21) (tL ρ) (prs (kA 4 (zI μ 21) (tL ρ)) (iA 4 (zI μ 21) (tL ρ)) 2100 8 0 0).2.1 = 23
  · rw [if_pos gd]
    refine op1 (fun z => absurd z (by decide)) (fun _ => ?_)
    obtain ⟨g2, g3⟩ := g1 gd.1
    obtain ⟨p2, p3, p4⟩ := pp.2.2 gd.1
    have pN := pp.1
    have eN : zN (sI M1 20 1 0) = zN μ := fA.1
    have e19 : zI (sI M1 20 1 0) 19 2 = nI c' := by rw [zI_ne (by decide)]; exact q1.len
    have z1 : zI (sNew (sI M1 20 1 0) 13 c') 19 2 = nI c' := by rw [zI_nn (by omega)]; exact e19
    have l25 : zL (sNew (sI M1 20 1 0) 13 c') 25 = 400 := by rw [zL_nn (by omega)]; exact sl_25 (fA.st hS)
    have l2 : zL (sNew (sI M1 20 1 0) 13 c') (zN μ) = c' := by rw [zL_ne' eN.symm]
    rw [e19, nI_clamp (by omega), z1, nI_clamp (by omega), l25, eN, l2]
    refine ⟨nI_pos (by omega), by omega, by omega, nI_pos (by omega), by omega, by omega, ?_⟩
    refine nmI (P := fun D => K (some (.int 1)) D) fun D hD => ?_
    have dI : ∀ b j, b < zN μ → zI D b j = zI (sI M1 20 1 0) b j := fun b j hb => by rw [hD, zI_sA, zI_sCpy, if_neg (by omega), zI_nn (by omega)]
    have sD : Stat D := by rw [hD]; exact ((fA.st hS).wNew.wCpy).wA (by decide)
    have lD : LmD μ D ρ (prs (kA 4 (zI μ 21) (tL ρ)) (iA 4 (zI μ 21) (tL ρ)) 2100 8 0 0).2.2 := by
      refine ⟨⟨?_, fun b hb => ?_, fun b j hb hw => ?_, fun b j hb hw => ?_, fun b j hb _ => ?_⟩, sD, fun b j hb => ?_, ?_, ?_, ?_, ?_, ?_, ?_, fun b j b1 b2 => ?_, fun b j hb => ?_⟩
      · rw [hD]
        show _ ≤ zN (sNew (sI M1 20 1 0) 13 c')
        rw [zN_sNew, eN]
        omega
      · rw [hD]
        show zK (sNew (sI M1 20 1 0) 13 c') b = _ ∧ zL (sNew (sI M1 20 1 0) 13 c') b = _
        rw [zK_nn (by omega), zL_nn (by omega)]
        exact ⟨fA.2.1 b, fA.2.2.1 b⟩
      · rw [dI b j hb]
        refine fA.i (fun z => hw ?_)
        rcases z with z | z
        · exact Or.inl (WQ_S z)
        · exact Or.inr (Or.inl z)
      · rw [hD, zA_sA, if_neg (fun z => hw (Or.inl z))]
        show zA (sNew (sI M1 20 1 0) 13 c') b j = _
        rw [zA_nn (by omega)]
        exact fA.2.2.2.1 b j
      · rw [hD]
        show zJ (sNew (sI M1 20 1 0) 13 c') b j = _
        rw [zJ_sNew, if_neg (by omega)]
        exact fA.2.2.2.2.1 b j
      · rw [hD]
        show zJ (sNew (sI M1 20 1 0) 13 c') b j = _
        rw [zJ_sNew, if_neg (by omega)]
        exact fA.2.2.2.2.1 b j
      · rw [hD]
        show zN (sNew (sI M1 20 1 0) 13 c') = _
        rw [zN_sNew, eN]
      · rw [dI _ _ (by omega), zI_eq]
      · rw [hD, zA_eq]
      · rw [hD]
        show zK (sNew (sI M1 20 1 0) 13 c') _ = _
        rw [zK_ne' eN.symm]
      · rw [hD]
        show zL (sNew (sI M1 20 1 0) 13 c') _ = _
        rw [l2, g2]
      · refine lst_cg (fun j j1 j2 => ?_) g3
        rw [List.length_map] at j2
        rw [hD, zI_sA, zI_sCpy, if_pos ⟨rfl, by omega, by omega⟩, zI_nn (by omega), zI_ne (by decide)]
        congr 1
        omega
      · rw [dI _ _ (by omega)]
        exact fA.i (by unfold WQ WT WP; omega)
      · rw [dI _ _ (by omega)]
        exact fA.i (by unfold WQ WT WP; omega)
    have hs0 : S0 L X D := ⟨(lD.1.2.1 0 (by omega)).2.trans hI.s0.1, fun j => (lD.1.2.2.1 0 j (by omega) (by unfold W5 WS; omega)).trans (hI.s0.2 j)⟩
    refine hK _ _ sD hs0 fun Q hQ => rfp D Q sD lD.2.2.2.2.2.2.2.2.2.1 (fun j => lD.2.2.1 10 j (by omega)) (fun _ _ ng => absurd gd ng) (fun _ _ μ3 w3 m f3 x3 fm hm => ?_)
    exact hQ _ _ (IV.limit hI hρ lD (wfx_0 p4) (by omega) f3 x3 fm hm)
  · rw [if_neg gd]
    refine op1 (fun _ => ?_) (fun z => absurd rfl z)
    have e3 : zI (sI M1 20 1 0) 19 3 = nI (prs (kA 4 (zI μ 21) (tL ρ)) (iA 4 (zI μ 21) (tL ρ)) 2100 8 0 0).2.1 := by rw [zI_ne (by decide)]; exact q1.at3
    rw [e3, nI_clamp (by omega), zI_ne (b := 23) (by decide), p1 _ aN]
    refine c_f (by rw [show (201 : Int32) = nI 201 from rfl, nI_leI (by decide) (by omega)]; omega) ⟨vp_in_nI (by omega) (by decide), ?_⟩
    have fB : Fx (W6 ρ) μ (sI M1 20 1 0) := fA.mono (fun b j z => z.elim (fun z => Or.inl (WQ_S z)) (fun z => Or.inr (Or.inl z)))
    refine hK _ _ (fA.st hS) (fA.s0 (fun b j z => by unfold WQ WT WP at z; omega) hI.s0) fun Q hQ => rfp _ Q (fA.st hS) (fun b j b1 b2 => fA.i (by unfold WQ WT WP; omega)) (fun j => fA.2.2.2.2.1 _ _) (fun μ3 f3 _ => ?_) (fun z1 z2 => absurd ⟨z1, z2⟩ gd)
    have fC : Fx (W6 ρ) μ (sI μ3 31 41 0) := (fB.trans (f3.mono (fun b j z => Or.inl (WR_S (by omega) (Or.inr rfl) z)))).wi (Or.inr (Or.inr ⟨rfl, rfl⟩))
    refine hQ g _ (hI.tape hρ fC ?_ zI_eq (Nat.le_succ t))
    rw [zI_ne (by decide), f3.i (by unfold WR; omega), zI_eq]
end Lmt
