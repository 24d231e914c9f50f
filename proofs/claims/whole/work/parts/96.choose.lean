section Choose
variable {E : ZE} {l : Launch} {d nc ns : Nat} {M : ZM} {K : Option Value → ZM → Prop} {n k : Nat}
theorem c_choose (hS : Stat M) (hn : n ≤ 60) (hk : k < 2 ^ 30) (h : K (some (.long (lN (ncr n k)))) M) : AW E l d nc ns mX10_choose 0 (zargs 5 [.int (nI n), .int (nI k)]) [] M K := by
  refine t_X10_choose hS (c_f (nI_pos (by omega)) ?_)
  rw [nI_leI (by omega) (by omega)]
  refine ⟨fun hkn => ?_, fun z => ?_⟩
  · suffices L : AW E l d nc ns mX10_choose 16 [some (.int (nI n)), some (.int (nI k)), some (.long (lN (ncr n 0))), none, some (.int (nI 0))] [] M K by
      rw [ncr_0] at L
      exact L
    refine lpd (P := fun j => AW E l d nc ns mX10_choose 16 [some (.int (nI n)), some (.int (nI k)), some (.long (lN (ncr n j))), none, some (.int (nI j))] [] M K) (n := k) ?_ ?_
    · exact t_X10_choose_16 hS (c_t (Int32.le_refl _) h)
    · intro j hj ih
      have e1 : (nI j + 1).toInt64 = lN (j + 1) := by rw [nI_1, nI_l (by omega)]
      have e2 : (nI n - nI j).toInt64 = lN (n - j) := by rw [pk_sub (by omega), nI_l (by omega)]
      refine t_X10_choose_16 hS (c_f (by rw [nI_leI (by omega) (by omega)]; omega) ⟨?_, ?_⟩)
      · rw [e1, show (0 : Int64) = lN 0 from rfl, pk_lEQ (by omega) (by decide)]
        omega
      · have b1 := ncr_le (k := j) hn
        have b2 : ncr n j * (n - j) ≤ 118264581564861424 * 60 := Nat.mul_le_mul b1 (by omega)
        have e3 : ncr n j * (n - j) / (j + 1) = ncr n (j + 1) := by
          have h1 := ncr_id n j
          have h2 : ncr n j * (n - j) = ncr n (j + 1) * (j + 1) := by
            rw [Nat.mul_sub]
            omega
          rw [h2, Nat.mul_div_cancel _ (by omega)]
        rw [e1, e2, lN_mul, pk_lDiv (by omega) (by omega) (by omega), e3, nI_1]
        exact ih
  · rw [ncr_gt (by omega)] at h
    exact h
/-- the reference's table so far -/
def tbl (M : ZM) (i j : Nat) : Prop := ∀ r c, c ≤ r → (r < i ∨ (r = i ∧ c < j)) → zJ M 86 (61 * r + c) = lN (ncr r c)
def EqJ (M M' : ZM) : Prop := EqX M M' (fun _ _ => False) (fun _ _ => False)
theorem EqJ.zi {M M' : ZM} (h : EqJ M M') {b j : Nat} (hb : b < zN M) : zI M' b j = zI M b j := h.2.2.1 b j hb (fun z => z)
theorem tbl_w {i j : Nat} {x : Int64} (hi : i ≤ 60) (hj : j ≤ i) (h : tbl M i j) (hx : x = lN (ncr i j)) : tbl (sJ M 86 (61 * i + j) x) i (j + 1) := by
  intro r c hc hr
  rw [zJ_sJ]
  split
  · next z =>
    have z := z.2
    have : r = i ∧ c = j := by
      rcases hr with hr | ⟨hr, hc'⟩
      · omega
      · omega
    rw [this.1, this.2, hx]
  · next z => exact h r c hc (by
      rcases hr with hr | ⟨hr, hc'⟩
      · exact Or.inl hr
      · refine Or.inr ⟨hr, ?_⟩
        have : ¬ (61 * r + c = 61 * i + j) := fun y => z ⟨rfl, y⟩
        omega)
theorem r_choEnd (hS : Stat M) (hn : n ≤ 60) (hk : k < 2 ^ 30) (ht : ∀ r c, r ≤ 60 → c ≤ r → zJ M 86 (61 * r + c) = lN (ncr r c)) (h : K (some (.long (lN (ncr n k)))) M) : (nI k < 0 → K (some (.long 0)) M) ∧ (¬ nI k < 0 → (nI k ≤ nI n → (vp_in ((61 * nI n) + nI k) 3721) ∧ K (some (.long (zJ M 86 ((61 * nI n) + nI k).toNatClampNeg))) M) ∧ (¬ nI k ≤ nI n → K (some (.long 0)) M)) := by
  refine c_f (nI_pos (by omega)) ?_
  rw [nI_leI (by omega) (by omega)]
  have e : 61 * nI n + nI k = nI (61 * n + k) := by rw [show (61 : Int32) = nI 61 from rfl, pk_mul, nI_add]
  refine ⟨fun z => ?_, fun z => ?_⟩
  · rw [e, nI_clamp (by omega), ht n k hn z]
    exact ⟨vp_in_nI (by omega) (by decide), h⟩
  · rw [ncr_gt (by omega)] at h
    exact h
theorem r_cho22 {x1 x2 : Int32} {i : Nat} (hi : i ≤ 60) (k0 : ∀ M', Stat M' → EqJ M M' → tbl M' (i + 1) 0 → AW E l d nc ns mX11_choose 13 [some (.ref 31), some (.int x1), some (.int x2), some (.int (nI (i + 1))), none] [] M' K) (hS : Stat M) (ht : tbl M i 0) : AW E l d nc ns mX11_choose 22 [some (.ref 31), some (.int x1), some (.int x2), some (.int (nI i)), some (.int 0)] [] M K := by
  refine lpd (P := fun j => ∀ M', Stat M' → EqJ M M' → tbl M' i j → AW E l d nc ns mX11_choose 22 [some (.ref 31), some (.int x1), some (.int x2), some (.int (nI i)), some (.int (nI j))] [] M' K) (n := i + 1) ?_ ?_ M hS EqX.rfl ht
  · intro M' hS' hx' ht'
    refine t_X11_choose_22 hS' (c_t (by rw [nI_ltI (by omega) (by omega)]; omega) ?_)
    rw [nI_1]
    refine k0 M' hS' hx' (fun r c hc hr => ht' r c hc ?_)
    omega
  · intro j hj ih M' hS' hx' ht'
    have e1 : 61 * nI i + nI j = nI (61 * i + j) := by rw [show (61 : Int32) = nI 61 from rfl, pk_mul, nI_add]
    have v1 : vp_in (nI (61 * i + j)) 3721 := vp_in_nI (by omega) (by decide)
    have c1 : (nI (61 * i + j)).toNatClampNeg = 61 * i + j := nI_clamp (by omega)
    refine t_X11_choose_22 hS' (c_f (by rw [nI_ltI (by omega) (by omega)]; omega) ?_)
    rw [e1, c1, nI_1]
    have z0 : (nI j = 0) = (j = 0) := by rw [show (0 : Int32) = nI 0 from rfl, nI_eq (by omega) (by decide)]
    have z1 : (nI j = nI i) = (j = i) := by rw [nI_eq (by omega) (by omega)]
    rw [z0, z1]
    refine ⟨fun z => ⟨v1, ?_⟩, fun z => ⟨fun y => ?_, fun y => ⟨v1, ?_⟩⟩⟩
    · exact ih _ hS'.wJ hx'.wj (tbl_w hi (by omega) ht' (by rw [z, ncr_0]; rfl))
    · obtain ⟨i', rfl⟩ : ∃ q, i = q + 1 := ⟨i - 1, by omega⟩
      obtain ⟨j', rfl⟩ : ∃ q, j = q + 1 := ⟨j - 1, by omega⟩
      have e2 : 61 * (nI (i' + 1) - 1) + nI (j' + 1) = nI (61 * i' + j' + 1) := by
        rw [nI_pred, show (61 : Int32) = nI 61 from rfl, pk_mul, nI_add]
        rfl
      have v2 : vp_in (nI (61 * i' + j' + 1)) 3721 := vp_in_nI (by omega) (by decide)
      have v3 : vp_in (nI (61 * i' + j')) 3721 := vp_in_nI (by omega) (by decide)
      have c2 : (nI (61 * i' + j' + 1)).toNatClampNeg = 61 * i' + (j' + 1) := nI_clamp (by omega)
      have c3 : (nI (61 * i' + j')).toNatClampNeg = 61 * i' + j' := nI_clamp (by omega)
      rw [e2, nI_pred, c2, c3]
      refine ⟨v3, v2, v1, ih _ hS'.wJ hx'.wj (tbl_w hi (by omega) ht' ?_)⟩
      rw [ht' i' j' (by omega) (by omega), ht' i' (j' + 1) (by omega) (by omega), lN_add]
      rfl
    · exact ih _ hS'.wJ hx'.wj (tbl_w hi (by omega) ht' (by rw [y, ncr_nn]; rfl))
theorem r_choose (hS : Stat M) (hw : CRw M) (hn : n ≤ 60) (hk : k < 2 ^ 30) (h : ∀ M', Stat M' → EqJ M M' → CRw M' → K (some (.long (lN (ncr n k)))) M') : AW E l d nc ns mX11_choose 0 (zargs 5 [.ref 31, .int (nI n), .int (nI k)]) [] M K := by
  refine t_X11_choose hS ?_
  have fill : AW E l d nc ns mX11_choose 13 [some (.ref 31), some (.int (nI n)), some (.int (nI k)), some (.int 0), none] [] M K := by
    refine lpd (P := fun i => ∀ M', Stat M' → EqJ M M' → tbl M' i 0 → AW E l d nc ns mX11_choose 13 [some (.ref 31), some (.int (nI n)), some (.int (nI k)), some (.int (nI i)), none] [] M' K) (n := 61) ?_ ?_ M hS EqX.rfl (fun r c hc hr => by omega)
    · intro M' hS' hx' ht'
      have tt : ∀ r c, r ≤ 60 → c ≤ r → zJ M' 86 (61 * r + c) = lN (ncr r c) := fun r c hr hc => ht' r c hc (by omega)
      exact t_X11_choose_13 hS' (c_t (by decide) (r_choEnd hS' hn hk tt (h M' hS' hx' (Or.inr tt))))
    · intro i hi ih M' hS' hx' ht'
      refine t_X11_choose_13 hS' (c_f (by rw [show (60 : Int32) = nI 60 from rfl, nI_ltI (by decide) (by omega)]; omega) ?_)
      exact r_cho22 (by omega) (fun M2 hS2 hx2 ht2 => ih M2 hS2 (hx'.trans hx2) ht2) hS' ht'
  rw [lg_cmp_eq]
  rcases hw with z | z
  · exact ⟨fun y => absurd z y, fun _ => fill⟩
  · exact ⟨fun _ => r_choEnd hS hn hk z (h M hS EqX.rfl (Or.inr z)), fun _ => fill⟩
theorem c_deals {A B c : Nat} (hS : Stat M) (hAB : A + B ≤ 60) (hn : n ≤ 60) : ∀ (q i x : Nat), i + q = n + 1 → c ≤ i → K (some (.long (lN (x + mS A B n i q)))) M → AW E l (d + 1) nc ns mX10_dealsWith 6 [some (.int (nI (A + B))), some (.int (nI B)), some (.int (nI n)), none, some (.long (lN x)), none, some (.int (nI i))] [] M K
  | 0, i, x, hi, hc, h => by
    refine t_X10_dealsWith_6 hS ⟨fun _ => h, fun _ => c_t ?_ h⟩
    rw [nI_ltI (by omega) (by omega)]
    omega
  | q + 1, i, x, hi, hc, h => by
    refine t_X10_dealsWith_6 hS ?_
    rw [nI_ltI (by omega) (by omega)]
    refine ⟨fun z => ?_, fun z => c_f ?_ ?_⟩
    · rw [mS_0 _ _ z] at h
      exact h
    · rw [nI_ltI (by omega) (by omega)]
      omega
    · refine c_choose hS (by omega) (by omega) ⟨_, rfl, hS, ?_⟩
      rw [pk_sub (by omega), pk_sub (by omega), show A + B - B = A by omega]
      refine c_choose hS (by omega) (by omega) ⟨_, rfl, hS, ?_⟩
      rw [lN_mul, lN_add, nI_1]
      refine c_deals (A := A) (B := B) (c := c) hS hAB hn q (i + 1) _ (by omega) (by omega) ?_
      rw [Nat.add_assoc]
      exact h
theorem r_isB63 {A B : Nat} {p : Nat} (hAB : A + B ≤ 60) (hn : n ≤ 60) (hp : 1 ≤ p ∧ p ≤ 9999) : ∀ (q i x : Nat) (M : ZM), Stat M → CRw M → i + q = n + 1 → x + mS A B n i q ≤ 2 ^ 61 → (∀ M', Stat M' → EqJ M M' → CRw M' → K (some (.int (if x + mS A B n i q < ncr (A + B) n / 10000 * p + (ncr (A + B) n % 10000 * p + 9999) / 10000 then 1 else 0))) M') → AW E l (d + 3) nc ns mX11_isBeyond 63 [some (.ref 31), none, some (.int (nI p)), none, some (.int (nI (A + B))), some (.int (nI B)), some (.int (nI n)), none, some (.long (lN x)), none, some (.int (nI i)), none, none, none] [] M K
  | 0, i, x, M, hS, hw, hi, hb, h => by
    refine t_X11_isBeyond_63 hS (c_t (by rw [nI_ltI (by omega) (by omega)]; omega) ?_)
    refine r_choose hS hw (by omega) (by omega) (fun M2 hS2 hx2 hw2 => ⟨_, rfl, hS2, ?_⟩)
    have h := h M2 hS2 hx2 hw2
    have hb : x ≤ 2 ^ 61 := hb
    have e0 : x + mS A B n i 0 = x := rfl
    rw [e0] at h
    have bW := ncr_le (n := A + B) (k := n) hAB
    obtain ⟨W, eW⟩ : ∃ W, W = ncr (A + B) n := ⟨_, rfl⟩
    rw [← eW] at h bW ⊢
    have q1 : W / 10000 * p ≤ W / 10000 * 9999 := Nat.mul_le_mul_left _ hp.2
    have q2 : W % 10000 * p ≤ 9999 * 9999 := Nat.mul_le_mul (by omega) hp.2
    have be := bey_eq (x := x) (W := W) hp.2
    have ep : (nI p).toInt64 = lN p := nI_l (by omega)
    have e1 : lN p * (lN W / 10000) = lN (W / 10000 * p) := by rw [show (10000 : Int64) = lN 10000 from rfl, pk_lDiv (by omega) (by decide) (by decide), lN_mul, Nat.mul_comm]
    have e2 : lN p * (lN W - lN W / 10000 * 10000) = lN (W % 10000 * p) := by rw [show (10000 : Int64) = lN 10000 from rfl, pk_lRem (by omega) (by decide) (by decide), lN_mul, Nat.mul_comm]
    rw [ep, e1, e2, lg_cmp_ge, lg_cmp_ge, lg_cmp_ge]
    obtain ⟨qp, eq⟩ : ∃ q, q = W / 10000 * p := ⟨_, rfl⟩
    obtain ⟨rp, er⟩ : ∃ q, q = W % 10000 * p := ⟨_, rfl⟩
    rw [← eq, ← er] at be h ⊢
    rw [← eq] at q1
    rw [← er] at q2
    by_cases c : qp ≤ x
    · have es : lN x - lN qp = lN (x - qp) := lN_sub c
      rw [es, show (0 : Int64) = lN 0 from rfl, show (10000 : Int64) = lN 10000 from rfl, lN_mul, pk_lLE (by decide) (by omega), pk_lLE (by decide) (by omega)]
      refine ⟨fun _ => ⟨fun z => ?_, fun z => ?_⟩, fun z => absurd (Nat.zero_le _) z⟩
      · rw [if_neg (by rw [be]; omega)] at h
        exact h
      · rw [pk_lLE (by omega) (by omega)]
        refine ⟨fun y => ?_, fun y => ?_⟩
        · rw [if_neg (by rw [be]; omega)] at h
          exact h
        · rw [if_pos (by rw [be]; omega)] at h
          exact h
    · have neg : ¬ (0 : Int64) ≤ lN x - lN qp := by
        rw [Int64.le_iff_toInt_le, Int64.toInt_sub, pk_lT (by omega), pk_lT (by omega), Int.bmod_eq_of_le (by omega) (by omega), show (0 : Int64).toInt = 0 from by decide]
        omega
      refine ⟨fun z => absurd z neg, fun _ => ?_⟩
      rw [if_pos (by rw [be]; omega)] at h
      exact h
  | q + 1, i, x, M, hS, hw, hi, hb, h => by
    refine t_X11_isBeyond_63 hS (c_f (by rw [nI_ltI (by omega) (by omega)]; omega) ?_)
    refine r_choose hS hw (by omega) (by omega) (fun M2 hS2 hx2 hw2 => ⟨_, rfl, hS2, ?_⟩)
    rw [pk_sub (by omega), pk_sub (by omega), show A + B - B = A by omega]
    refine r_choose hS2 hw2 (by omega) (by omega) (fun M3 hS3 hx3 hw3 => ⟨_, rfl, hS3, ?_⟩)
    rw [lN_mul, lN_add, nI_1]
    have e0 : x + mS A B n i (q + 1) = x + ncr B i * ncr A (n - i) + mS A B n (i + 1) q := by
      rw [Nat.add_assoc]
      rfl
    rw [e0] at h hb
    exact r_isB63 hAB hn hp q (i + 1) _ M3 hS3 hw3 (by omega) hb (fun M' hS' hx' hw' => h M' hS' (hx2.trans (hx3.trans hx')) hw')
theorem c_least {p W : Nat} (hS : Stat M) (hp : p ≤ 9999) (hW : W ≤ 118264581564861424) (h : K (some (.long (lN (W / 10000 * p + (W % 10000 * p + 9999) / 10000)))) M) : AW E l d nc ns mX10_leastNotBelow 0 [some (.long (lN W)), none, some (.int (nI p))] [] M K := by
  have q1 : W / 10000 * p ≤ W / 10000 * 9999 := Nat.mul_le_mul_left _ hp
  have q2 : W % 10000 * p ≤ 9999 * 9999 := Nat.mul_le_mul (by omega) hp
  refine t_X10_leastNotBelow hS ?_
  rw [nI_l (by omega), show (10000 : Int64) = lN 10000 from rfl, show (9999 : Int64) = lN 9999 from rfl, pk_lRem (by omega) (by decide) (by decide), pk_lDiv (by omega) (by decide) (by decide), lN_mul, lN_mul, lN_add, pk_lDiv (by omega) (by decide) (by decide), lN_add]
  exact h
end Choose
