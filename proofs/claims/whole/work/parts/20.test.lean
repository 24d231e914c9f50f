theorem t_X11_priceAt_0 {E : ZE} {l : Launch} {d nc ns : Nat} (m : Int32) (day : Int32) {μ : ZM} {K : Option Value → ZM → Prop} (hS : Stat μ) (h :
  AW E l d nc ns mX11_priceAt 8 [some (.ref 31), some (.int m), some (.int day), some (.int (-1)), some (.int (20 * m))] [] μ K) : AW E l d nc ns mX11_priceAt 0 [some (.ref 31), some (.int m), some (.int day), none, none] [] μ K := by
  refine aw_iconst (pc' := 1) (v := (-1)) (dt_X11_priceAt 0 (0, .iconst (-1), 1) rfl) (by decide) rfl (aw_istore_n (pc' := 2) (ls' := [some (.ref 31), some (.int m), some (.int day), some (.int (-1)), none]) (dt_X11_priceAt 1 (1, .istore_n 3, 1) rfl) (by decide) rfl rfl (aw_bipush (pc' := 4) (v := 20) (dt_X11_priceAt 2 (2, .bipush 20, 2) rfl) (by decide) rfl (aw_iload_n (pc' := 5) (dt_X11_priceAt 3 (4, .iload_n 1, 1) rfl) rfl rfl (aw_imul (pc' := 6) (dt_X11_priceAt 4 (5, .imul, 1) rfl) rfl (aw_istore (pc' := 8) (ls' := [some (.ref 31), some (.int m), some (.int day), some (.int (-1)), some (.int (20 * m))]) (dt_X11_priceAt 5 (6, .istore 4, 2) rfl) (by decide) rfl rfl ?_)))))
  exact h

theorem t_X11_priceAt_8 {E : ZE} {l : Launch} {d nc ns : Nat} (m : Int32) (day : Int32) (best : Int32) (k : Int32) {μ : ZM} {K : Option Value → ZM → Prop} (hS : Stat μ) (h :
  (vp_in m 20) ∧
  (((20 * m) + (zI μ 35 m.toNatClampNeg)) ≤ k →
    (0 ≤ best →
      (vp_in best 400) ∧
      K (some (.int (zI μ 37 best.toNatClampNeg))) μ) ∧
    (¬ 0 ≤ best →
      K (some (.int 0)) μ)) ∧
  (¬ ((20 * m) + (zI μ 35 m.toNatClampNeg)) ≤ k →
    (vp_in k 400) ∧
    (day < (zI μ 36 k.toNatClampNeg) →
      AW E l d nc ns mX11_priceAt 8 [some (.ref 31), some (.int m), some (.int day), some (.int best), some (.int (k + 1))] [] μ K) ∧
    (¬ day < (zI μ 36 k.toNatClampNeg) →
      (best < 0 →
        AW E l d nc ns mX11_priceAt 8 [some (.ref 31), some (.int m), some (.int day), some (.int k), some (.int (k + 1))] [] μ K) ∧
      (¬ best < 0 →
        (vp_in k 400) ∧
        (vp_in best 400) ∧
        ((zI μ 36 k.toNatClampNeg) < (zI μ 36 best.toNatClampNeg) →
          AW E l d nc ns mX11_priceAt 8 [some (.ref 31), some (.int m), some (.int day), some (.int best), some (.int (k + 1))] [] μ K) ∧
        (¬ (zI μ 36 k.toNatClampNeg) < (zI μ 36 best.toNatClampNeg) →
          AW E l d nc ns mX11_priceAt 8 [some (.ref 31), some (.int m), some (.int day), some (.int k), some (.int (k + 1))] [] μ K))))) : AW E l d nc ns mX11_priceAt 8 [some (.ref 31), some (.int m), some (.int day), some (.int best), some (.int k)] [] μ K := by
  obtain ⟨g1, h⟩ := h
  refine aw_iload (pc' := 10) (dt_X11_priceAt 6 (8, .iload 4, 2) rfl) rfl rfl (aw_bipush (pc' := 12) (v := 20) (dt_X11_priceAt 7 (10, .bipush 20, 2) rfl) (by decide) rfl (aw_iload_n (pc' := 13) (dt_X11_priceAt 8 (12, .iload_n 1, 1) rfl) rfl rfl (aw_imul (pc' := 14) (dt_X11_priceAt 9 (13, .imul, 1) rfl) rfl (aw_aload_n (pc' := 15) (dt_X11_priceAt 10 (14, .aload_n 0, 1) rfl) rfl rfl (aw_getAs (pc' := 18) (dt_X11_priceAt 11 (15, .getfield 19, 3) rfl) fl_ReturnDeskModel_19 rfl rfl (sk_31 hS) (sa_31_7 hS) (aw_iload_n (pc' := 19) (dt_X11_priceAt 12 (18, .iload_n 1, 1) rfl) rfl rfl (aw_iald (pc' := 20) (dt_X11_priceAt 13 (19, .iaload, 1) rfl) rfl (sk_35 hS) (vin_eq (sl_35 hS) g1) (aw_iadd (pc' := 21) (dt_X11_priceAt 14 (20, .iadd, 1) rfl) rfl (aw_icmp_ge (pc' := 24) (tgt := 64) (dt_X11_priceAt 15 (21, .if_icmp .ge 43, 3) rfl) (by decide) rfl ?_ ?_)))))))))
  · intro q2
    have h := h.1 q2
    refine aw_iload_n (pc' := 65) (dt_X11_priceAt 37 (64, .iload_n 3, 1) rfl) rfl rfl (aw_if_ge (pc' := 68) (tgt := 72) (dt_X11_priceAt 38 (65, .ifCond .ge 7, 3) rfl) (by decide) rfl ?_ ?_)
    · intro q3
      have h := h.1 q3
      obtain ⟨g4, h⟩ := h
      refine aw_aload_n (pc' := 73) (dt_X11_priceAt 41 (72, .aload_n 0, 1) rfl) rfl rfl (aw_getAs (pc' := 76) (dt_X11_priceAt 42 (73, .getfield 25, 3) rfl) fl_ReturnDeskModel_25 rfl rfl (sk_31 hS) (sa_31_9 hS) (aw_iload_n (pc' := 77) (dt_X11_priceAt 43 (76, .iload_n 3, 1) rfl) rfl rfl (aw_iald (pc' := 78) (dt_X11_priceAt 44 (77, .iaload, 1) rfl) rfl (sk_37 hS) (vin_eq (sl_37 hS) g4) (aw_iret (dt_X11_priceAt 45 (78, .ireturn, 1) rfl) rfl rfl ?_))))
      exact h
    · intro q3
      have h := h.2 q3
      refine aw_iconst (pc' := 69) (v := 0) (dt_X11_priceAt 39 (68, .iconst 0, 1) rfl) (by decide) rfl (aw_goto (tgt := 78) (dt_X11_priceAt 40 (69, .goto 9, 3) rfl) (by decide) (aw_iret (dt_X11_priceAt 45 (78, .ireturn, 1) rfl) rfl rfl ?_))
      exact h
  · intro q2
    have h := h.2 q2
    obtain ⟨g5, h⟩ := h
    refine aw_aload_n (pc' := 25) (dt_X11_priceAt 16 (24, .aload_n 0, 1) rfl) rfl rfl (aw_getAs (pc' := 28) (dt_X11_priceAt 17 (25, .getfield 22, 3) rfl) fl_ReturnDeskModel_22 rfl rfl (sk_31 hS) (sa_31_8 hS) (aw_iload (pc' := 30) (dt_X11_priceAt 18 (28, .iload 4, 2) rfl) rfl rfl (aw_iald (pc' := 31) (dt_X11_priceAt 19 (30, .iaload, 1) rfl) rfl (sk_36 hS) (vin_eq (sl_36 hS) g5) (aw_iload_n (pc' := 32) (dt_X11_priceAt 20 (31, .iload_n 2, 1) rfl) rfl rfl (aw_icmp_gt (pc' := 35) (tgt := 58) (dt_X11_priceAt 21 (32, .if_icmp .gt 26, 3) rfl) (by decide) rfl ?_ ?_)))))
    · intro q6
      have h := h.1 q6
      refine aw_iinc (pc' := 61) (v := 1) (ls' := [some (.ref 31), some (.int m), some (.int day), some (.int best), some (.int (k + 1))]) (dt_X11_priceAt 35 (58, .iinc 4 1, 3) rfl) rfl (by decide) (by decide) rfl rfl (aw_goto (tgt := 8) (dt_X11_priceAt 36 (61, .goto (-53), 3) rfl) (by decide) ?_)
      exact h
    · intro q6
      have h := h.2 q6
      refine aw_iload_n (pc' := 36) (dt_X11_priceAt 22 (35, .iload_n 3, 1) rfl) rfl rfl (aw_if_lt (pc' := 39) (tgt := 55) (dt_X11_priceAt 23 (36, .ifCond .lt 19, 3) rfl) (by decide) rfl ?_ ?_)
      · intro q7
        have h := h.1 q7
        refine aw_iload (pc' := 57) (dt_X11_priceAt 33 (55, .iload 4, 2) rfl) rfl rfl (aw_istore_n (pc' := 58) (ls' := [some (.ref 31), some (.int m), some (.int day), some (.int k), some (.int k)]) (dt_X11_priceAt 34 (57, .istore_n 3, 1) rfl) (by decide) rfl rfl (aw_iinc (pc' := 61) (v := 1) (ls' := [some (.ref 31), some (.int m), some (.int day), some (.int k), some (.int (k + 1))]) (dt_X11_priceAt 35 (58, .iinc 4 1, 3) rfl) rfl (by decide) (by decide) rfl rfl (aw_goto (tgt := 8) (dt_X11_priceAt 36 (61, .goto (-53), 3) rfl) (by decide) ?_)))
        exact h
      · intro q7
        have h := h.2 q7
        obtain ⟨g8, h⟩ := h
        obtain ⟨g9, h⟩ := h
        refine aw_aload_n (pc' := 40) (dt_X11_priceAt 24 (39, .aload_n 0, 1) rfl) rfl rfl (aw_getAs (pc' := 43) (dt_X11_priceAt 25 (40, .getfield 22, 3) rfl) fl_ReturnDeskModel_22 rfl rfl (sk_31 hS) (sa_31_8 hS) (aw_iload (pc' := 45) (dt_X11_priceAt 26 (43, .iload 4, 2) rfl) rfl rfl (aw_iald (pc' := 46) (dt_X11_priceAt 27 (45, .iaload, 1) rfl) rfl (sk_36 hS) (vin_eq (sl_36 hS) g8) (aw_aload_n (pc' := 47) (dt_X11_priceAt 28 (46, .aload_n 0, 1) rfl) rfl rfl (aw_getAs (pc' := 50) (dt_X11_priceAt 29 (47, .getfield 22, 3) rfl) fl_ReturnDeskModel_22 rfl rfl (sk_31 hS) (sa_31_8 hS) (aw_iload_n (pc' := 51) (dt_X11_priceAt 30 (50, .iload_n 3, 1) rfl) rfl rfl (aw_iald (pc' := 52) (dt_X11_priceAt 31 (51, .iaload, 1) rfl) rfl (sk_36 hS) (vin_eq (sl_36 hS) g9) (aw_icmp_lt (pc' := 55) (tgt := 58) (dt_X11_priceAt 32 (52, .if_icmp .lt 6, 3) rfl) (by decide) rfl ?_ ?_))))))))
        · intro q10
          have h := h.1 q10
          refine aw_iinc (pc' := 61) (v := 1) (ls' := [some (.ref 31), some (.int m), some (.int day), some (.int best), some (.int (k + 1))]) (dt_X11_priceAt 35 (58, .iinc 4 1, 3) rfl) rfl (by decide) (by decide) rfl rfl (aw_goto (tgt := 8) (dt_X11_priceAt 36 (61, .goto (-53), 3) rfl) (by decide) ?_)
          exact h
        · intro q10
          have h := h.2 q10
          refine aw_iload (pc' := 57) (dt_X11_priceAt 33 (55, .iload 4, 2) rfl) rfl rfl (aw_istore_n (pc' := 58) (ls' := [some (.ref 31), some (.int m), some (.int day), some (.int k), some (.int k)]) (dt_X11_priceAt 34 (57, .istore_n 3, 1) rfl) (by decide) rfl rfl (aw_iinc (pc' := 61) (v := 1) (ls' := [some (.ref 31), some (.int m), some (.int day), some (.int k), some (.int (k + 1))]) (dt_X11_priceAt 35 (58, .iinc 4 1, 3) rfl) rfl (by decide) (by decide) rfl rfl (aw_goto (tgt := 8) (dt_X11_priceAt 36 (61, .goto (-53), 3) rfl) (by decide) ?_)))
          exact h

theorem t_X11_price {E : ZE} {l : Launch} {d nc ns : Nat} (m : Int32) (day : Int32) (v : Int32) {μ : ZM} {K : Option Value → ZM → Prop} (hS : Stat μ) (h :
  (m < 0 →
    K (some (.int (-1))) μ) ∧
  (¬ m < 0 →
    (((zI μ 31 3) - 1) < m →
      K (some (.int (-1))) μ) ∧
    (¬ ((zI μ 31 3) - 1) < m →
      (day < 0 →
        K (some (.int (-1))) μ) ∧
      (¬ day < 0 →
        (2999 < day →
          K (some (.int (-1))) μ) ∧
        (¬ 2999 < day →
          (v < 0 →
            K (some (.int (-1))) μ) ∧
          (¬ v < 0 →
            (99999 < v →
              K (some (.int (-1))) μ) ∧
            (¬ 99999 < v →
              (vp_in m 20) ∧
              (¬ (zI μ 35 m.toNatClampNeg) = 20 →
                (vp_in m 20) ∧
                (vp_in ((20 * m) + (zI μ 35 m.toNatClampNeg)) 400) ∧
                (vp_in m 20) ∧
                (vp_in ((20 * m) + (zI (sI μ 36 ((20 * m) + (zI μ 35 m.toNatClampNeg)).toNatClampNeg day) 35 m.toNatClampNeg)) 400) ∧
                (vp_in m 20) ∧
                (vp_in m 20) ∧
                (vp_in m 20) ∧
                K (some (.int (zI (sI (sI (sI μ 36 ((20 * m) + (zI μ 35 m.toNatClampNeg)).toNatClampNeg day) 37 ((20 * m) + (zI (sI μ 36 ((20 * m) + (zI μ 35 m.toNatClampNeg)).toNatClampNeg day) 35 m.toNatClampNeg)).toNatClampNeg v) 35 m.toNatClampNeg ((zI (sI (sI μ 36 ((20 * m) + (zI μ 35 m.toNatClampNeg)).toNatClampNeg day) 37 ((20 * m) + (zI (sI μ 36 ((20 * m) + (zI μ 35 m.toNatClampNeg)).toNatClampNeg day) 35 m.toNatClampNeg)).toNatClampNeg v) 35 m.toNatClampNeg) + 1)) 35 m.toNatClampNeg))) (sI (sI (sI μ 36 ((20 * m) + (zI μ 35 m.toNatClampNeg)).toNatClampNeg day) 37 ((20 * m) + (zI (sI μ 36 ((20 * m) + (zI μ 35 m.toNatClampNeg)).toNatClampNeg day) 35 m.toNatClampNeg)).toNatClampNeg v) 35 m.toNatClampNeg ((zI (sI (sI μ 36 ((20 * m) + (zI μ 35 m.toNatClampNeg)).toNatClampNeg day) 37 ((20 * m) + (zI (sI μ 36 ((20 * m) + (zI μ 35 m.toNatClampNeg)).toNatClampNeg day) 35 m.toNatClampNeg)).toNatClampNeg v) 35 m.toNatClampNeg) + 1))) ∧
              ((zI μ 35 m.toNatClampNeg) = 20 →
                K (some (.int (-3))) μ)))))))) : AW E l (d + 3) nc ns mX11_price 0 [some (.ref 31), some (.int m), some (.int day), some (.int v)] [] μ K := by
  refine aw_aload_n (pc' := 1) (dt_X11_price 0 (0, .aload_n 0, 1) rfl) rfl rfl (aw_iload_n (pc' := 2) (dt_X11_price 1 (1, .iload_n 1, 1) rfl) rfl rfl (aw_inV (pc' := 5) (nc1 := 0) (ns1 := 0) (ls' := [some (.ref 31), some (.int m)]) (y2 := mX11_isModel) (As := [.int m]) (rest := []) (a := 31) (dt_X11_price 2 (2, .invokevirtual 199, 3) rfl) ok_X11_isModel ln_ReturnDeskModel_199 im_X11_isModel se_X11_isModel pr_X11_isModel (Or.inl ⟨by decide, rfl⟩) rfl (Nat.le_of_ble_eq_true rfl) (Nat.le_of_ble_eq_true rfl) rfl rfl (sk_31 hS) (aw_iload_n (pc' := 1) (dt_X11_isModel 0 (0, .iload_n 1, 1) rfl) rfl rfl (aw_iconst (pc' := 2) (v := 0) (dt_X11_isModel 1 (1, .iconst 0, 1) rfl) (by decide) rfl (aw_aload_n (pc' := 3) (dt_X11_isModel 2 (2, .aload_n 0, 1) rfl) rfl rfl (aw_getI (pc' := 6) (dt_X11_isModel 3 (3, .getfield 192, 3) rfl) fl_ReturnDeskModel_192 rfl rfl (sk_31 hS) (aw_iconst (pc' := 7) (v := 1) (dt_X11_isModel 4 (6, .iconst 1, 1) rfl) (by decide) rfl (aw_isub (pc' := 8) (dt_X11_isModel 5 (7, .isub, 1) rfl) rfl (aw_inS (pc' := 11) (nc1 := 0) (ns1 := 0) (ls' := [some (.int m), some (.int 0), some (.int ((zI μ 31 3) - 1))]) (y2 := mX11_in) (As := [.int m, .int 0, .int ((zI μ 31 3) - 1)]) (rest := []) (dt_X11_isModel 6 (8, .invokestatic 185, 3) rfl) ok_X11_in ln_ReturnDeskModel_185 sm_X11_in pr_X11_in rfl (Nat.le_of_ble_eq_true rfl) (Nat.le_of_ble_eq_true rfl) rfl rfl (aw_iload_n (pc' := 1) (dt_X11_in 0 (0, .iload_n 0, 1) rfl) rfl rfl (aw_iload_n (pc' := 2) (dt_X11_in 1 (1, .iload_n 1, 1) rfl) rfl rfl (aw_icmp_lt (pc' := 5) (tgt := 14) (dt_X11_in 2 (2, .if_icmp .lt 12, 3) rfl) (by decide) rfl ?_ ?_))))))))))))
  · intro q1
    have h := h.1 q1
    refine aw_iconst (pc' := 15) (v := 0) (dt_X11_in 8 (14, .iconst 0, 1) rfl) (by decide) rfl (aw_iret (dt_X11_in 9 (15, .ireturn, 1) rfl) rfl rfl (aw_stk (st' := [.int 0]) rfl (aw_iret (dt_X11_isModel 7 (11, .ireturn, 1) rfl) rfl rfl (aw_stk (st' := [.int 0]) rfl (aw_if_eq_T (pc' := 8) (tgt := 25) (dt_X11_price 3 (5, .ifCond .eq 20, 3) rfl) (by decide) rfl (by decide) (aw_iconst (pc' := 26) (v := (-1)) (dt_X11_price 12 (25, .iconst (-1), 1) rfl) (by decide) rfl (aw_iret (dt_X11_price 13 (26, .ireturn, 1) rfl) rfl rfl ?_)))))))
    exact h
  · intro q1
    have h := h.2 q1
    refine aw_iload_n (pc' := 6) (dt_X11_in 3 (5, .iload_n 0, 1) rfl) rfl rfl (aw_iload_n (pc' := 7) (dt_X11_in 4 (6, .iload_n 2, 1) rfl) rfl rfl (aw_icmp_gt (pc' := 10) (tgt := 14) (dt_X11_in 5 (7, .if_icmp .gt 7, 3) rfl) (by decide) rfl ?_ ?_))
    · intro q2
      have h := h.1 q2
      refine aw_iconst (pc' := 15) (v := 0) (dt_X11_in 8 (14, .iconst 0, 1) rfl) (by decide) rfl (aw_iret (dt_X11_in 9 (15, .ireturn, 1) rfl) rfl rfl (aw_stk (st' := [.int 0]) rfl (aw_iret (dt_X11_isModel 7 (11, .ireturn, 1) rfl) rfl rfl (aw_stk (st' := [.int 0]) rfl (aw_if_eq_T (pc' := 8) (tgt := 25) (dt_X11_price 3 (5, .ifCond .eq 20, 3) rfl) (by decide) rfl (by decide) (aw_iconst (pc' := 26) (v := (-1)) (dt_X11_price 12 (25, .iconst (-1), 1) rfl) (by decide) rfl (aw_iret (dt_X11_price 13 (26, .ireturn, 1) rfl) rfl rfl ?_)))))))
      exact h
    · intro q2
      have h := h.2 q2
      refine aw_iconst (pc' := 11) (v := 1) (dt_X11_in 6 (10, .iconst 1, 1) rfl) (by decide) rfl (aw_goto (tgt := 15) (dt_X11_in 7 (11, .goto 4, 3) rfl) (by decide) (aw_iret (dt_X11_in 9 (15, .ireturn, 1) rfl) rfl rfl (aw_stk (st' := [.int 1]) rfl (aw_iret (dt_X11_isModel 7 (11, .ireturn, 1) rfl) rfl rfl (aw_stk (st' := [.int 1]) rfl (aw_if_eq_F (pc' := 8) (tgt := 25) (dt_X11_price 3 (5, .ifCond .eq 20, 3) rfl) (by decide) rfl (by decide) (aw_iload_n (pc' := 9) (dt_X11_price 4 (8, .iload_n 2, 1) rfl) rfl rfl (aw_inS (pc' := 12) (nc1 := 0) (ns1 := 0) (ls' := [some (.int day)]) (y2 := mX11_isDay) (As := [.int day]) (rest := []) (dt_X11_price 5 (9, .invokestatic 203, 3) rfl) ok_X11_isDay ln_ReturnDeskModel_203 sm_X11_isDay pr_X11_isDay rfl (Nat.le_of_ble_eq_true rfl) (Nat.le_of_ble_eq_true rfl) rfl rfl (aw_iload_n (pc' := 1) (dt_X11_isDay 0 (0, .iload_n 0, 1) rfl) rfl rfl (aw_iconst (pc' := 2) (v := 0) (dt_X11_isDay 1 (1, .iconst 0, 1) rfl) (by decide) rfl (aw_sipush (pc' := 5) (v := 2999) (dt_X11_isDay 2 (2, .sipush 2999, 3) rfl) (by decide) rfl (aw_inS (pc' := 8) (nc1 := 0) (ns1 := 0) (ls' := [some (.int day), some (.int 0), some (.int 2999)]) (y2 := mX11_in) (As := [.int day, .int 0, .int 2999]) (rest := []) (dt_X11_isDay 3 (5, .invokestatic 185, 3) rfl) ok_X11_in ln_ReturnDeskModel_185 sm_X11_in pr_X11_in rfl (Nat.le_of_ble_eq_true rfl) (Nat.le_of_ble_eq_true rfl) rfl rfl (aw_iload_n (pc' := 1) (dt_X11_in 0 (0, .iload_n 0, 1) rfl) rfl rfl (aw_iload_n (pc' := 2) (dt_X11_in 1 (1, .iload_n 1, 1) rfl) rfl rfl (aw_icmp_lt (pc' := 5) (tgt := 14) (dt_X11_in 2 (2, .if_icmp .lt 12, 3) rfl) (by decide) rfl ?_ ?_)))))))))))))))
      · intro q3
        have h := h.1 q3
        refine aw_iconst (pc' := 15) (v := 0) (dt_X11_in 8 (14, .iconst 0, 1) rfl) (by decide) rfl (aw_iret (dt_X11_in 9 (15, .ireturn, 1) rfl) rfl rfl (aw_stk (st' := [.int 0]) rfl (aw_iret (dt_X11_isDay 4 (8, .ireturn, 1) rfl) rfl rfl (aw_stk (st' := [.int 0]) rfl (aw_if_eq_T (pc' := 15) (tgt := 25) (dt_X11_price 6 (12, .ifCond .eq 13, 3) rfl) (by decide) rfl (by decide) (aw_iconst (pc' := 26) (v := (-1)) (dt_X11_price 12 (25, .iconst (-1), 1) rfl) (by decide) rfl (aw_iret (dt_X11_price 13 (26, .ireturn, 1) rfl) rfl rfl ?_)))))))
        exact h
      · intro q3
        have h := h.2 q3
        refine aw_iload_n (pc' := 6) (dt_X11_in 3 (5, .iload_n 0, 1) rfl) rfl rfl (aw_iload_n (pc' := 7) (dt_X11_in 4 (6, .iload_n 2, 1) rfl) rfl rfl (aw_icmp_gt (pc' := 10) (tgt := 14) (dt_X11_in 5 (7, .if_icmp .gt 7, 3) rfl) (by decide) rfl ?_ ?_))
        · intro q4
          have h := h.1 q4
          refine aw_iconst (pc' := 15) (v := 0) (dt_X11_in 8 (14, .iconst 0, 1) rfl) (by decide) rfl (aw_iret (dt_X11_in 9 (15, .ireturn, 1) rfl) rfl rfl (aw_stk (st' := [.int 0]) rfl (aw_iret (dt_X11_isDay 4 (8, .ireturn, 1) rfl) rfl rfl (aw_stk (st' := [.int 0]) rfl (aw_if_eq_T (pc' := 15) (tgt := 25) (dt_X11_price 6 (12, .ifCond .eq 13, 3) rfl) (by decide) rfl (by decide) (aw_iconst (pc' := 26) (v := (-1)) (dt_X11_price 12 (25, .iconst (-1), 1) rfl) (by decide) rfl (aw_iret (dt_X11_price 13 (26, .ireturn, 1) rfl) rfl rfl ?_)))))))
          exact h
        · intro q4
          have h := h.2 q4
          refine aw_iconst (pc' := 11) (v := 1) (dt_X11_in 6 (10, .iconst 1, 1) rfl) (by decide) rfl (aw_goto (tgt := 15) (dt_X11_in 7 (11, .goto 4, 3) rfl) (by decide) (aw_iret (dt_X11_in 9 (15, .ireturn, 1) rfl) rfl rfl (aw_stk (st' := [.int 1]) rfl (aw_iret (dt_X11_isDay 4 (8, .ireturn, 1) rfl) rfl rfl (aw_stk (st' := [.int 1]) rfl (aw_if_eq_F (pc' := 15) (tgt := 25) (dt_X11_price 6 (12, .ifCond .eq 13, 3) rfl) (by decide) rfl (by decide) (aw_iload_n (pc' := 16) (dt_X11_price 7 (15, .iload_n 3, 1) rfl) rfl rfl (aw_iconst (pc' := 17) (v := 0) (dt_X11_price 8 (16, .iconst 0, 1) rfl) (by decide) rfl (aw_ldc (pc' := 19) (dt_X11_price 9 (17, .ldc 198, 2) rfl) ct_ReturnDeskModel_198 rfl (aw_inS (pc' := 22) (nc1 := 0) (ns1 := 0) (ls' := [some (.int v), some (.int 0), some (.int 99999)]) (y2 := mX11_in) (As := [.int v, .int 0, .int 99999]) (rest := []) (dt_X11_price 10 (19, .invokestatic 185, 3) rfl) ok_X11_in ln_ReturnDeskModel_185 sm_X11_in pr_X11_in rfl (Nat.le_of_ble_eq_true rfl) (Nat.le_of_ble_eq_true rfl) rfl rfl (aw_iload_n (pc' := 1) (dt_X11_in 0 (0, .iload_n 0, 1) rfl) rfl rfl (aw_iload_n (pc' := 2) (dt_X11_in 1 (1, .iload_n 1, 1) rfl) rfl rfl (aw_icmp_lt (pc' := 5) (tgt := 14) (dt_X11_in 2 (2, .if_icmp .lt 12, 3) rfl) (by decide) rfl ?_ ?_)))))))))))))
          · intro q5
            have h := h.1 q5
            refine aw_iconst (pc' := 15) (v := 0) (dt_X11_in 8 (14, .iconst 0, 1) rfl) (by decide) rfl (aw_iret (dt_X11_in 9 (15, .ireturn, 1) rfl) rfl rfl (aw_stk (st' := [.int 0]) rfl (aw_if_ne_F (pc' := 25) (tgt := 27) (dt_X11_price 11 (22, .ifCond .ne 5, 3) rfl) (by decide) rfl (by decide) (aw_iconst (pc' := 26) (v := (-1)) (dt_X11_price 12 (25, .iconst (-1), 1) rfl) (by decide) rfl (aw_iret (dt_X11_price 13 (26, .ireturn, 1) rfl) rfl rfl ?_)))))
            exact h
          · intro q5
            have h := h.2 q5
            refine aw_iload_n (pc' := 6) (dt_X11_in 3 (5, .iload_n 0, 1) rfl) rfl rfl (aw_iload_n (pc' := 7) (dt_X11_in 4 (6, .iload_n 2, 1) rfl) rfl rfl (aw_icmp_gt (pc' := 10) (tgt := 14) (dt_X11_in 5 (7, .if_icmp .gt 7, 3) rfl) (by decide) rfl ?_ ?_))
            · intro q6
              have h := h.1 q6
              refine aw_iconst (pc' := 15) (v := 0) (dt_X11_in 8 (14, .iconst 0, 1) rfl) (by decide) rfl (aw_iret (dt_X11_in 9 (15, .ireturn, 1) rfl) rfl rfl (aw_stk (st' := [.int 0]) rfl (aw_if_ne_F (pc' := 25) (tgt := 27) (dt_X11_price 11 (22, .ifCond .ne 5, 3) rfl) (by decide) rfl (by decide) (aw_iconst (pc' := 26) (v := (-1)) (dt_X11_price 12 (25, .iconst (-1), 1) rfl) (by decide) rfl (aw_iret (dt_X11_price 13 (26, .ireturn, 1) rfl) rfl rfl ?_)))))
              exact h
            · intro q6
              have h := h.2 q6
              obtain ⟨g7, h⟩ := h
              refine aw_iconst (pc' := 11) (v := 1) (dt_X11_in 6 (10, .iconst 1, 1) rfl) (by decide) rfl (aw_goto (tgt := 15) (dt_X11_in 7 (11, .goto 4, 3) rfl) (by decide) (aw_iret (dt_X11_in 9 (15, .ireturn, 1) rfl) rfl rfl (aw_stk (st' := [.int 1]) rfl (aw_if_ne_T (pc' := 25) (tgt := 27) (dt_X11_price 11 (22, .ifCond .ne 5, 3) rfl) (by decide) rfl (by decide) (aw_aload_n (pc' := 28) (dt_X11_price 14 (27, .aload_n 0, 1) rfl) rfl rfl (aw_getAs (pc' := 31) (dt_X11_price 15 (28, .getfield 19, 3) rfl) fl_ReturnDeskModel_19 rfl rfl (sk_31 hS) (sa_31_7 hS) (aw_iload_n (pc' := 32) (dt_X11_price 16 (31, .iload_n 1, 1) rfl) rfl rfl (aw_iald (pc' := 33) (dt_X11_price 17 (32, .iaload, 1) rfl) rfl (sk_35 hS) (vin_eq (sl_35 hS) g7) (aw_bipush (pc' := 35) (v := 20) (dt_X11_price 18 (33, .bipush 20, 2) rfl) (by decide) rfl (aw_icmp_ne (pc' := 38) (tgt := 41) (dt_X11_price 19 (35, .if_icmp .ne 6, 3) rfl) (by decide) rfl ?_ ?_))))))))))
              · intro q8
                have h := h.1 q8
                obtain ⟨g9, h⟩ := h
                obtain ⟨g10, h⟩ := h
                obtain ⟨g11, h⟩ := h
                obtain ⟨g12, h⟩ := h
                obtain ⟨g13, h⟩ := h
                obtain ⟨g14, h⟩ := h
                obtain ⟨g15, h⟩ := h
                refine aw_aload_n (pc' := 42) (dt_X11_price 22 (41, .aload_n 0, 1) rfl) rfl rfl (aw_getAs (pc' := 45) (dt_X11_price 23 (42, .getfield 22, 3) rfl) fl_ReturnDeskModel_22 rfl rfl (sk_31 hS) (sa_31_8 hS) (aw_bipush (pc' := 47) (v := 20) (dt_X11_price 24 (45, .bipush 20, 2) rfl) (by decide) rfl (aw_iload_n (pc' := 48) (dt_X11_price 25 (47, .iload_n 1, 1) rfl) rfl rfl (aw_imul (pc' := 49) (dt_X11_price 26 (48, .imul, 1) rfl) rfl (aw_aload_n (pc' := 50) (dt_X11_price 27 (49, .aload_n 0, 1) rfl) rfl rfl (aw_getAs (pc' := 53) (dt_X11_price 28 (50, .getfield 19, 3) rfl) fl_ReturnDeskModel_19 rfl rfl (sk_31 hS) (sa_31_7 hS) (aw_iload_n (pc' := 54) (dt_X11_price 29 (53, .iload_n 1, 1) rfl) rfl rfl (aw_iald (pc' := 55) (dt_X11_price 30 (54, .iaload, 1) rfl) rfl (sk_35 hS) (vin_eq (sl_35 hS) g9) (aw_iadd (pc' := 56) (dt_X11_price 31 (55, .iadd, 1) rfl) rfl (aw_iload_n (pc' := 57) (dt_X11_price 32 (56, .iload_n 2, 1) rfl) rfl rfl (aw_iast (pc' := 58) (dt_X11_price 33 (57, .iastore, 1) rfl) rfl (sk_36 hS) (by decide) (vin_eq (sl_36 hS) g10) (aw_aload_n (pc' := 59) (dt_X11_price 34 (58, .aload_n 0, 1) rfl) rfl rfl (aw_getAs (pc' := 62) (dt_X11_price 35 (59, .getfield 25, 3) rfl) fl_ReturnDeskModel_25 rfl rfl (sk_31 hS.wI) (sa_31_9 hS.wI) (aw_bipush (pc' := 64) (v := 20) (dt_X11_price 36 (62, .bipush 20, 2) rfl) (by decide) rfl (aw_iload_n (pc' := 65) (dt_X11_price 37 (64, .iload_n 1, 1) rfl) rfl rfl (aw_imul (pc' := 66) (dt_X11_price 38 (65, .imul, 1) rfl) rfl (aw_aload_n (pc' := 67) (dt_X11_price 39 (66, .aload_n 0, 1) rfl) rfl rfl (aw_getAs (pc' := 70) (dt_X11_price 40 (67, .getfield 19, 3) rfl) fl_ReturnDeskModel_19 rfl rfl (sk_31 hS.wI) (sa_31_7 hS.wI) (aw_iload_n (pc' := 71) (dt_X11_price 41 (70, .iload_n 1, 1) rfl) rfl rfl (aw_iald (pc' := 72) (dt_X11_price 42 (71, .iaload, 1) rfl) rfl (sk_35 hS.wI) (vin_eq (sl_35 hS.wI) g11) (aw_iadd (pc' := 73) (dt_X11_price 43 (72, .iadd, 1) rfl) rfl (aw_iload_n (pc' := 74) (dt_X11_price 44 (73, .iload_n 3, 1) rfl) rfl rfl (aw_iast (pc' := 75) (dt_X11_price 45 (74, .iastore, 1) rfl) rfl (sk_37 hS.wI) (by decide) (vin_eq (sl_37 hS.wI) g12) (aw_aload_n (pc' := 76) (dt_X11_price 46 (75, .aload_n 0, 1) rfl) rfl rfl (aw_getAs (pc' := 79) (dt_X11_price 47 (76, .getfield 19, 3) rfl) fl_ReturnDeskModel_19 rfl rfl (sk_31 hS.wI.wI) (sa_31_7 hS.wI.wI) (aw_iload_n (pc' := 80) (dt_X11_price 48 (79, .iload_n 1, 1) rfl) rfl rfl (aw_dup2 (pc' := 81) (dt_X11_price 49 (80, .dup2, 1) rfl) rfl rfl rfl (aw_iald (pc' := 82) (dt_X11_price 50 (81, .iaload, 1) rfl) rfl (sk_35 hS.wI.wI) (vin_eq (sl_35 hS.wI.wI) g13) (aw_iconst (pc' := 83) (v := 1) (dt_X11_price 51 (82, .iconst 1, 1) rfl) (by decide) rfl (aw_iadd (pc' := 84) (dt_X11_price 52 (83, .iadd, 1) rfl) rfl (aw_iast (pc' := 85) (dt_X11_price 53 (84, .iastore, 1) rfl) rfl (sk_35 hS.wI.wI) (by decide) (vin_eq (sl_35 hS.wI.wI) g14) (aw_aload_n (pc' := 86) (dt_X11_price 54 (85, .aload_n 0, 1) rfl) rfl rfl (aw_getAs (pc' := 89) (dt_X11_price 55 (86, .getfield 19, 3) rfl) fl_ReturnDeskModel_19 rfl rfl (sk_31 hS.wI.wI.wI) (sa_31_7 hS.wI.wI.wI) (aw_iload_n (pc' := 90) (dt_X11_price 56 (89, .iload_n 1, 1) rfl) rfl rfl (aw_iald (pc' := 91) (dt_X11_price 57 (90, .iaload, 1) rfl) rfl (sk_35 hS.wI.wI.wI) (vin_eq (sl_35 hS.wI.wI.wI) g15) (aw_iret (dt_X11_price 58 (91, .ireturn, 1) rfl) rfl rfl ?_))))))))))))))))))))))))))))))))))))
                exact h
              · intro q8
                have h := h.2 q8
                refine aw_bipush (pc' := 40) (v := (-3)) (dt_X11_price 20 (38, .bipush (-3), 2) rfl) (by decide) rfl (aw_iret (dt_X11_price 21 (40, .ireturn, 1) rfl) rfl rfl ?_)
                exact h

theorem t_X11_priceOn {E : ZE} {l : Launch} {d nc ns : Nat} (m : Int32) (day : Int32) {μ : ZM} {K : Option Value → ZM → Prop} (hS : Stat μ) (h :
  (m < 0 →
    K (some (.int (-1))) μ) ∧
  (¬ m < 0 →
    (((zI μ 31 3) - 1) < m →
      K (some (.int (-1))) μ) ∧
    (¬ ((zI μ 31 3) - 1) < m →
      (day < 0 →
        K (some (.int (-1))) μ) ∧
      (¬ day < 0 →
        (2999 < day →
          K (some (.int (-1))) μ) ∧
        (¬ 2999 < day →
          AW E l (d + 2) 0 0 mX11_priceAt 0 (zargs 5 [.ref 31, .int m, .int day]) [] μ (fun v μ5 => ∃ r7 : Int32, v = some (.int r7) ∧ Stat μ5 ∧ 
            K (some (.int r7)) μ5)))))) : AW E l (d + 3) nc ns mX11_priceOn 0 [some (.ref 31), some (.int m), some (.int day)] [] μ K := by
  refine aw_aload_n (pc' := 1) (dt_X11_priceOn 0 (0, .aload_n 0, 1) rfl) rfl rfl (aw_iload_n (pc' := 2) (dt_X11_priceOn 1 (1, .iload_n 1, 1) rfl) rfl rfl (aw_inV (pc' := 5) (nc1 := 0) (ns1 := 0) (ls' := [some (.ref 31), some (.int m)]) (y2 := mX11_isModel) (As := [.int m]) (rest := []) (a := 31) (dt_X11_priceOn 2 (2, .invokevirtual 199, 3) rfl) ok_X11_isModel ln_ReturnDeskModel_199 im_X11_isModel se_X11_isModel pr_X11_isModel (Or.inl ⟨by decide, rfl⟩) rfl (Nat.le_of_ble_eq_true rfl) (Nat.le_of_ble_eq_true rfl) rfl rfl (sk_31 hS) (aw_iload_n (pc' := 1) (dt_X11_isModel 0 (0, .iload_n 1, 1) rfl) rfl rfl (aw_iconst (pc' := 2) (v := 0) (dt_X11_isModel 1 (1, .iconst 0, 1) rfl) (by decide) rfl (aw_aload_n (pc' := 3) (dt_X11_isModel 2 (2, .aload_n 0, 1) rfl) rfl rfl (aw_getI (pc' := 6) (dt_X11_isModel 3 (3, .getfield 192, 3) rfl) fl_ReturnDeskModel_192 rfl rfl (sk_31 hS) (aw_iconst (pc' := 7) (v := 1) (dt_X11_isModel 4 (6, .iconst 1, 1) rfl) (by decide) rfl (aw_isub (pc' := 8) (dt_X11_isModel 5 (7, .isub, 1) rfl) rfl (aw_inS (pc' := 11) (nc1 := 0) (ns1 := 0) (ls' := [some (.int m), some (.int 0), some (.int ((zI μ 31 3) - 1))]) (y2 := mX11_in) (As := [.int m, .int 0, .int ((zI μ 31 3) - 1)]) (rest := []) (dt_X11_isModel 6 (8, .invokestatic 185, 3) rfl) ok_X11_in ln_ReturnDeskModel_185 sm_X11_in pr_X11_in rfl (Nat.le_of_ble_eq_true rfl) (Nat.le_of_ble_eq_true rfl) rfl rfl (aw_iload_n (pc' := 1) (dt_X11_in 0 (0, .iload_n 0, 1) rfl) rfl rfl (aw_iload_n (pc' := 2) (dt_X11_in 1 (1, .iload_n 1, 1) rfl) rfl rfl (aw_icmp_lt (pc' := 5) (tgt := 14) (dt_X11_in 2 (2, .if_icmp .lt 12, 3) rfl) (by decide) rfl ?_ ?_))))))))))))
  · intro q1
    have h := h.1 q1
    refine aw_iconst (pc' := 15) (v := 0) (dt_X11_in 8 (14, .iconst 0, 1) rfl) (by decide) rfl (aw_iret (dt_X11_in 9 (15, .ireturn, 1) rfl) rfl rfl (aw_stk (st' := [.int 0]) rfl (aw_iret (dt_X11_isModel 7 (11, .ireturn, 1) rfl) rfl rfl (aw_stk (st' := [.int 0]) rfl (aw_if_eq_T (pc' := 8) (tgt := 24) (dt_X11_priceOn 3 (5, .ifCond .eq 19, 3) rfl) (by decide) rfl (by decide) (aw_iconst (pc' := 25) (v := (-1)) (dt_X11_priceOn 12 (24, .iconst (-1), 1) rfl) (by decide) rfl (aw_iret (dt_X11_priceOn 13 (25, .ireturn, 1) rfl) rfl rfl ?_)))))))
    exact h
  · intro q1
    have h := h.2 q1
    refine aw_iload_n (pc' := 6) (dt_X11_in 3 (5, .iload_n 0, 1) rfl) rfl rfl (aw_iload_n (pc' := 7) (dt_X11_in 4 (6, .iload_n 2, 1) rfl) rfl rfl (aw_icmp_gt (pc' := 10) (tgt := 14) (dt_X11_in 5 (7, .if_icmp .gt 7, 3) rfl) (by decide) rfl ?_ ?_))
    · intro q2
      have h := h.1 q2
      refine aw_iconst (pc' := 15) (v := 0) (dt_X11_in 8 (14, .iconst 0, 1) rfl) (by decide) rfl (aw_iret (dt_X11_in 9 (15, .ireturn, 1) rfl) rfl rfl (aw_stk (st' := [.int 0]) rfl (aw_iret (dt_X11_isModel 7 (11, .ireturn, 1) rfl) rfl rfl (aw_stk (st' := [.int 0]) rfl (aw_if_eq_T (pc' := 8) (tgt := 24) (dt_X11_priceOn 3 (5, .ifCond .eq 19, 3) rfl) (by decide) rfl (by decide) (aw_iconst (pc' := 25) (v := (-1)) (dt_X11_priceOn 12 (24, .iconst (-1), 1) rfl) (by decide) rfl (aw_iret (dt_X11_priceOn 13 (25, .ireturn, 1) rfl) rfl rfl ?_)))))))
      exact h
    · intro q2
      have h := h.2 q2
      refine aw_iconst (pc' := 11) (v := 1) (dt_X11_in 6 (10, .iconst 1, 1) rfl) (by decide) rfl (aw_goto (tgt := 15) (dt_X11_in 7 (11, .goto 4, 3) rfl) (by decide) (aw_iret (dt_X11_in 9 (15, .ireturn, 1) rfl) rfl rfl (aw_stk (st' := [.int 1]) rfl (aw_iret (dt_X11_isModel 7 (11, .ireturn, 1) rfl) rfl rfl (aw_stk (st' := [.int 1]) rfl (aw_if_eq_F (pc' := 8) (tgt := 24) (dt_X11_priceOn 3 (5, .ifCond .eq 19, 3) rfl) (by decide) rfl (by decide) (aw_iload_n (pc' := 9) (dt_X11_priceOn 4 (8, .iload_n 2, 1) rfl) rfl rfl (aw_inS (pc' := 12) (nc1 := 0) (ns1 := 0) (ls' := [some (.int day)]) (y2 := mX11_isDay) (As := [.int day]) (rest := []) (dt_X11_priceOn 5 (9, .invokestatic 203, 3) rfl) ok_X11_isDay ln_ReturnDeskModel_203 sm_X11_isDay pr_X11_isDay rfl (Nat.le_of_ble_eq_true rfl) (Nat.le_of_ble_eq_true rfl) rfl rfl (aw_iload_n (pc' := 1) (dt_X11_isDay 0 (0, .iload_n 0, 1) rfl) rfl rfl (aw_iconst (pc' := 2) (v := 0) (dt_X11_isDay 1 (1, .iconst 0, 1) rfl) (by decide) rfl (aw_sipush (pc' := 5) (v := 2999) (dt_X11_isDay 2 (2, .sipush 2999, 3) rfl) (by decide) rfl (aw_inS (pc' := 8) (nc1 := 0) (ns1 := 0) (ls' := [some (.int day), some (.int 0), some (.int 2999)]) (y2 := mX11_in) (As := [.int day, .int 0, .int 2999]) (rest := []) (dt_X11_isDay 3 (5, .invokestatic 185, 3) rfl) ok_X11_in ln_ReturnDeskModel_185 sm_X11_in pr_X11_in rfl (Nat.le_of_ble_eq_true rfl) (Nat.le_of_ble_eq_true rfl) rfl rfl (aw_iload_n (pc' := 1) (dt_X11_in 0 (0, .iload_n 0, 1) rfl) rfl rfl (aw_iload_n (pc' := 2) (dt_X11_in 1 (1, .iload_n 1, 1) rfl) rfl rfl (aw_icmp_lt (pc' := 5) (tgt := 14) (dt_X11_in 2 (2, .if_icmp .lt 12, 3) rfl) (by decide) rfl ?_ ?_)))))))))))))))
      · intro q3
        have h := h.1 q3
        refine aw_iconst (pc' := 15) (v := 0) (dt_X11_in 8 (14, .iconst 0, 1) rfl) (by decide) rfl (aw_iret (dt_X11_in 9 (15, .ireturn, 1) rfl) rfl rfl (aw_stk (st' := [.int 0]) rfl (aw_iret (dt_X11_isDay 4 (8, .ireturn, 1) rfl) rfl rfl (aw_stk (st' := [.int 0]) rfl (aw_if_eq_T (pc' := 15) (tgt := 24) (dt_X11_priceOn 6 (12, .ifCond .eq 12, 3) rfl) (by decide) rfl (by decide) (aw_iconst (pc' := 25) (v := (-1)) (dt_X11_priceOn 12 (24, .iconst (-1), 1) rfl) (by decide) rfl (aw_iret (dt_X11_priceOn 13 (25, .ireturn, 1) rfl) rfl rfl ?_)))))))
        exact h
      · intro q3
        have h := h.2 q3
        refine aw_iload_n (pc' := 6) (dt_X11_in 3 (5, .iload_n 0, 1) rfl) rfl rfl (aw_iload_n (pc' := 7) (dt_X11_in 4 (6, .iload_n 2, 1) rfl) rfl rfl (aw_icmp_gt (pc' := 10) (tgt := 14) (dt_X11_in 5 (7, .if_icmp .gt 7, 3) rfl) (by decide) rfl ?_ ?_))
        · intro q4
          have h := h.1 q4
          refine aw_iconst (pc' := 15) (v := 0) (dt_X11_in 8 (14, .iconst 0, 1) rfl) (by decide) rfl (aw_iret (dt_X11_in 9 (15, .ireturn, 1) rfl) rfl rfl (aw_stk (st' := [.int 0]) rfl (aw_iret (dt_X11_isDay 4 (8, .ireturn, 1) rfl) rfl rfl (aw_stk (st' := [.int 0]) rfl (aw_if_eq_T (pc' := 15) (tgt := 24) (dt_X11_priceOn 6 (12, .ifCond .eq 12, 3) rfl) (by decide) rfl (by decide) (aw_iconst (pc' := 25) (v := (-1)) (dt_X11_priceOn 12 (24, .iconst (-1), 1) rfl) (by decide) rfl (aw_iret (dt_X11_priceOn 13 (25, .ireturn, 1) rfl) rfl rfl ?_)))))))
          exact h
        · intro q4
          have h := h.2 q4
          refine aw_iconst (pc' := 11) (v := 1) (dt_X11_in 6 (10, .iconst 1, 1) rfl) (by decide) rfl (aw_goto (tgt := 15) (dt_X11_in 7 (11, .goto 4, 3) rfl) (by decide) (aw_iret (dt_X11_in 9 (15, .ireturn, 1) rfl) rfl rfl (aw_stk (st' := [.int 1]) rfl (aw_iret (dt_X11_isDay 4 (8, .ireturn, 1) rfl) rfl rfl (aw_stk (st' := [.int 1]) rfl (aw_if_eq_F (pc' := 15) (tgt := 24) (dt_X11_priceOn 6 (12, .ifCond .eq 12, 3) rfl) (by decide) rfl (by decide) (aw_aload_n (pc' := 16) (dt_X11_priceOn 7 (15, .aload_n 0, 1) rfl) rfl rfl (aw_iload_n (pc' := 17) (dt_X11_priceOn 8 (16, .iload_n 1, 1) rfl) rfl rfl (aw_iload_n (pc' := 18) (dt_X11_priceOn 9 (17, .iload_n 2, 1) rfl) rfl rfl (aw_callV0 (pc' := 21) (nc := nc) (ns := ns) (y2 := mX11_priceAt) (As := [.int m, .int day]) (rest := []) (a := 31) (dt_X11_priceOn 10 (18, .invokevirtual 206, 3) rfl) ok_X11_priceAt ln_ReturnDeskModel_206 im_X11_priceAt se_X11_priceAt pr_X11_priceAt (Or.inl ⟨by decide, rfl⟩) rfl (Nat.le_of_ble_eq_true rfl) (Nat.le_of_ble_eq_true rfl) rfl (sk_31 hS) h ?_))))))))))
          rintro v μ5 ⟨r7, rfl, hS6, h⟩
          refine aw_stk (st' := [.int r7]) rfl ?_
          refine aw_goto (tgt := 25) (dt_X11_priceOn 11 (21, .goto 4, 3) rfl) (by decide) (aw_iret (dt_X11_priceOn 13 (25, .ireturn, 1) rfl) rfl rfl ?_)
          exact h

theorem t_X4_priceFor_7 {E : ZE} {l : Launch} {d nc ns : Nat} (a : Nat) (day : Int32) (la : Int32) (fo : Int32) (k : Int32) {μ : ZM} {K : Option Value → ZM → Prop} (hS : Stat μ) (h :
  (zK μ a = 4) ∧
  ((zI μ a 6) ≤ k →
    K (some (.int fo)) μ) ∧
  (¬ (zI μ a 6) ≤ k →
    (zA μ a 4 = none →
      False) ∧
    (∀ b4, zA μ a 4 = some b4 →
      (zK μ b4 = 13) ∧
      (vp_in k (zL μ b4)) ∧
      (day < (zI μ b4 k.toNatClampNeg) →
        AW E l d nc ns mX4_priceFor 7 [some (.ref a), some (.int day), some (.int la), some (.int fo), some (.int (k + 1))] [] μ K) ∧
      (¬ day < (zI μ b4 k.toNatClampNeg) →
        (vp_in k (zL μ b4)) ∧
        ((zI μ b4 k.toNatClampNeg) < la →
          AW E l d nc ns mX4_priceFor 7 [some (.ref a), some (.int day), some (.int la), some (.int fo), some (.int (k + 1))] [] μ K) ∧
        (¬ (zI μ b4 k.toNatClampNeg) < la →
          (vp_in k (zL μ b4)) ∧
          (zA μ a 5 = none →
            False) ∧
          (∀ b12, zA μ a 5 = some b12 →
            (zK μ b12 = 13) ∧
            (vp_in k (zL μ b12)) ∧
            AW E l d nc ns mX4_priceFor 7 [some (.ref a), some (.int day), some (.int (zI μ b4 k.toNatClampNeg)), some (.int (zI μ b12 k.toNatClampNeg)), some (.int (k + 1))] [] μ K)))))) : AW E l d nc ns mX4_priceFor 7 [some (.ref a), some (.int day), some (.int la), some (.int fo), some (.int k)] [] μ K := by
  obtain ⟨g1, h⟩ := h
  refine aw_iload (pc' := 9) (dt_X4_priceFor 6 (7, .iload 4, 2) rfl) rfl rfl (aw_aload_n (pc' := 10) (dt_X4_priceFor 7 (9, .aload_n 0, 1) rfl) rfl rfl (aw_getI (pc' := 13) (dt_X4_priceFor 8 (10, .getfield 31, 3) rfl) fl_Model_31 rfl rfl g1 (aw_icmp_ge (pc' := 16) (tgt := 60) (dt_X4_priceFor 9 (13, .if_icmp .ge 47, 3) rfl) (by decide) rfl ?_ ?_)))
  · intro q2
    have h := h.1 q2
    refine aw_iload_n (pc' := 61) (dt_X4_priceFor 34 (60, .iload_n 3, 1) rfl) rfl rfl (aw_iret (dt_X4_priceFor 35 (61, .ireturn, 1) rfl) rfl rfl ?_)
    exact h
  · intro q2
    have h := h.2 q2
    refine aw_aload_n (pc' := 17) (dt_X4_priceFor 10 (16, .aload_n 0, 1) rfl) rfl rfl (aw_getA (pc' := 20) (dt_X4_priceFor 11 (17, .getfield 9, 3) rfl) fl_Model_9 rfl rfl g1 ?_ ?_)
    · intro e3
      have h := h.1 e3
      refine aw_iload (pc' := 22) (dt_X4_priceFor 12 (20, .iload 4, 2) rfl) rfl rfl ?_
      exact h.elim
    · intro b4 e3
      have h := h.2 b4 e3
      obtain ⟨g5, h⟩ := h
      obtain ⟨g6, h⟩ := h
      refine aw_iload (pc' := 22) (dt_X4_priceFor 12 (20, .iload 4, 2) rfl) rfl rfl (aw_iald (pc' := 23) (dt_X4_priceFor 13 (22, .iaload, 1) rfl) rfl g5 g6 (aw_iload_n (pc' := 24) (dt_X4_priceFor 14 (23, .iload_n 1, 1) rfl) rfl rfl (aw_icmp_gt (pc' := 27) (tgt := 54) (dt_X4_priceFor 15 (24, .if_icmp .gt 30, 3) rfl) (by decide) rfl ?_ ?_)))
      · intro q7
        have h := h.1 q7
        refine aw_iinc (pc' := 57) (v := 1) (ls' := [some (.ref a), some (.int day), some (.int la), some (.int fo), some (.int (k + 1))]) (dt_X4_priceFor 32 (54, .iinc 4 1, 3) rfl) rfl (by decide) (by decide) rfl rfl (aw_goto (tgt := 7) (dt_X4_priceFor 33 (57, .goto (-50), 3) rfl) (by decide) ?_)
        exact h
      · intro q7
        have h := h.2 q7
        obtain ⟨g8, h⟩ := h
        refine aw_aload_n (pc' := 28) (dt_X4_priceFor 16 (27, .aload_n 0, 1) rfl) rfl rfl (aw_getAs (pc' := 31) (dt_X4_priceFor 17 (28, .getfield 9, 3) rfl) fl_Model_9 rfl rfl g1 e3 (aw_iload (pc' := 33) (dt_X4_priceFor 18 (31, .iload 4, 2) rfl) rfl rfl (aw_iald (pc' := 34) (dt_X4_priceFor 19 (33, .iaload, 1) rfl) rfl g5 g8 (aw_iload_n (pc' := 35) (dt_X4_priceFor 20 (34, .iload_n 2, 1) rfl) rfl rfl (aw_icmp_lt (pc' := 38) (tgt := 54) (dt_X4_priceFor 21 (35, .if_icmp .lt 19, 3) rfl) (by decide) rfl ?_ ?_)))))
        · intro q9
          have h := h.1 q9
          refine aw_iinc (pc' := 57) (v := 1) (ls' := [some (.ref a), some (.int day), some (.int la), some (.int fo), some (.int (k + 1))]) (dt_X4_priceFor 32 (54, .iinc 4 1, 3) rfl) rfl (by decide) (by decide) rfl rfl (aw_goto (tgt := 7) (dt_X4_priceFor 33 (57, .goto (-50), 3) rfl) (by decide) ?_)
          exact h
        · intro q9
          have h := h.2 q9
          obtain ⟨g10, h⟩ := h
          refine aw_aload_n (pc' := 39) (dt_X4_priceFor 22 (38, .aload_n 0, 1) rfl) rfl rfl (aw_getAs (pc' := 42) (dt_X4_priceFor 23 (39, .getfield 9, 3) rfl) fl_Model_9 rfl rfl g1 e3 (aw_iload (pc' := 44) (dt_X4_priceFor 24 (42, .iload 4, 2) rfl) rfl rfl (aw_iald (pc' := 45) (dt_X4_priceFor 25 (44, .iaload, 1) rfl) rfl g5 g10 (aw_istore_n (pc' := 46) (ls' := [some (.ref a), some (.int day), some (.int (zI μ b4 k.toNatClampNeg)), some (.int fo), some (.int k)]) (dt_X4_priceFor 26 (45, .istore_n 2, 1) rfl) (by decide) rfl rfl (aw_aload_n (pc' := 47) (dt_X4_priceFor 27 (46, .aload_n 0, 1) rfl) rfl rfl (aw_getA (pc' := 50) (dt_X4_priceFor 28 (47, .getfield 15, 3) rfl) fl_Model_15 rfl rfl g1 ?_ ?_))))))
          · intro e11
            have h := h.1 e11
            refine aw_iload (pc' := 52) (dt_X4_priceFor 29 (50, .iload 4, 2) rfl) rfl rfl ?_
            exact h.elim
          · intro b12 e11
            have h := h.2 b12 e11
            obtain ⟨g13, h⟩ := h
            obtain ⟨g14, h⟩ := h
            refine aw_iload (pc' := 52) (dt_X4_priceFor 29 (50, .iload 4, 2) rfl) rfl rfl (aw_iald (pc' := 53) (dt_X4_priceFor 30 (52, .iaload, 1) rfl) rfl g13 g14 (aw_istore_n (pc' := 54) (ls' := [some (.ref a), some (.int day), some (.int (zI μ b4 k.toNatClampNeg)), some (.int (zI μ b12 k.toNatClampNeg)), some (.int k)]) (dt_X4_priceFor 31 (53, .istore_n 3, 1) rfl) (by decide) rfl rfl (aw_iinc (pc' := 57) (v := 1) (ls' := [some (.ref a), some (.int day), some (.int (zI μ b4 k.toNatClampNeg)), some (.int (zI μ b12 k.toNatClampNeg)), some (.int (k + 1))]) (dt_X4_priceFor 32 (54, .iinc 4 1, 3) rfl) rfl (by decide) (by decide) rfl rfl (aw_goto (tgt := 7) (dt_X4_priceFor 33 (57, .goto (-50), 3) rfl) (by decide) ?_))))
            exact h

theorem t_X10_threesOf_13 {E : ZE} {l : Launch} {d nc ns : Nat} (a : Nat) (fo : Int32) (k : Int32) {μ : ZM} {K : Option Value → ZM → Prop} (hS : Stat μ) (h :
  ((zI μ 11 14) ≤ k →
    K (some (.int fo)) μ) ∧
  (¬ (zI μ 11 14) ≤ k →
    (vp_in k 300) ∧
    (zA μ 14 k.toNatClampNeg = none →
      False) ∧
    (∀ b4, zA μ 14 k.toNatClampNeg = some b4 →
      (zK μ b4 = 7) ∧
      ((zI μ b4 5) = 0 →
        AW E l (d + 1) nc ns mX10_threesOf 13 [some (.ref 11), some (.ref a), some (.int fo), some (.int (k + 1))] [] μ K) ∧
      (¬ (zI μ b4 5) = 0 →
        (zK μ a = 7) ∧
        (¬ (zI μ b4 5) = (zI μ a 5) →
          AW E l (d + 1) nc ns mX10_threesOf 13 [some (.ref 11), some (.ref a), some (.int fo), some (.int (k + 1))] [] μ K) ∧
        ((zI μ b4 5) = (zI μ a 5) →
          (zA μ b4 1 = none →
            (zA μ a 1 = none →
              False) ∧
            (∀ b12, zA μ a 1 = some b12 →
              False)) ∧
          (∀ b10, zA μ b4 1 = some b10 →
            (zA μ a 1 = none →
              False) ∧
            (∀ b14, zA μ a 1 = some b14 →
              (11 ≤ b10) ∧
              (11 ≤ b14) ∧
              (¬ b10 = b14 →
                AW E l (d + 1) nc ns mX10_threesOf 13 [some (.ref 11), some (.ref a), some (.int fo), some (.int (k + 1))] [] μ K) ∧
              (b10 = b14 →
                AW E l (d + 1) nc ns mX10_threesOf 13 [some (.ref 11), some (.ref a), some (.int (fo + 1)), some (.int (k + 1))] [] μ K)))))))) : AW E l (d + 1) nc ns mX10_threesOf 13 [some (.ref 11), some (.ref a), some (.int fo), some (.int k)] [] μ K := by
  refine aw_iload_n (pc' := 14) (dt_X10_threesOf 9 (13, .iload_n 3, 1) rfl) rfl rfl (aw_aload_n (pc' := 15) (dt_X10_threesOf 10 (14, .aload_n 0, 1) rfl) rfl rfl (aw_getI (pc' := 18) (dt_X10_threesOf 11 (15, .getfield 131, 3) rfl) fl_ReturnDesk_131 rfl rfl (sk_11 hS) (aw_icmp_ge (pc' := 21) (tgt := 43) (dt_X10_threesOf 12 (18, .if_icmp .ge 25, 3) rfl) (by decide) rfl ?_ ?_)))
  · intro q1
    have h := h.1 q1
    refine aw_iload_n (pc' := 44) (dt_X10_threesOf 23 (43, .iload_n 2, 1) rfl) rfl rfl (aw_iret (dt_X10_threesOf 24 (44, .ireturn, 1) rfl) rfl rfl ?_)
    exact h
  · intro q1
    have h := h.2 q1
    obtain ⟨g2, h⟩ := h
    refine aw_aload_n (pc' := 22) (dt_X10_threesOf 13 (21, .aload_n 0, 1) rfl) rfl rfl (aw_getAs (pc' := 25) (dt_X10_threesOf 14 (22, .getfield 23, 3) rfl) fl_ReturnDesk_23 rfl rfl (sk_11 hS) (sa_11_2 hS) (aw_iload_n (pc' := 26) (dt_X10_threesOf 15 (25, .iload_n 3, 1) rfl) rfl rfl (aw_aald (pc' := 27) (dt_X10_threesOf 16 (26, .aaload, 1) rfl) (by decide) (by decide) rfl (sk_14 hS) (vin_eq (sl_14 hS) g2) ?_ ?_)))
    · intro e3
      have h := h.1 e3
      refine aw_aload_n (pc' := 28) (dt_X10_threesOf 17 (27, .aload_n 1, 1) rfl) rfl rfl ?_
      exact h.elim
    · intro b4 e3
      have h := h.2 b4 e3
      obtain ⟨g5, h⟩ := h
      refine aw_aload_n (pc' := 28) (dt_X10_threesOf 17 (27, .aload_n 1, 1) rfl) rfl rfl (aw_inV (pc' := 31) (nc1 := 0) (ns1 := 0) (ls' := [some (.ref b4), some (.ref a)]) (y2 := mX7_isTogetherWith) (As := [.ref a]) (rest := []) (a := b4) (dt_X10_threesOf 18 (28, .invokevirtual 432, 3) rfl) ok_X7_isTogetherWith ln_ReturnDesk_432 im_X7_isTogetherWith se_X7_isTogetherWith pr_X7_isTogetherWith (Or.inl ⟨by decide, rfl⟩) rfl (Nat.le_of_ble_eq_true rfl) (Nat.le_of_ble_eq_true rfl) rfl rfl g5 (aw_aload_n (pc' := 1) (dt_X7_isTogetherWith 0 (0, .aload_n 0, 1) rfl) rfl rfl (aw_getI (pc' := 4) (dt_X7_isTogetherWith 1 (1, .getfield 47, 3) rfl) fl_Sale_47 rfl rfl g5 (aw_if_eq (pc' := 7) (tgt := 33) (dt_X7_isTogetherWith 2 (4, .ifCond .eq 29, 3) rfl) (by decide) rfl ?_ ?_))))
      · intro q6
        have h := h.1 q6
        refine aw_iconst (pc' := 34) (v := 0) (dt_X7_isTogetherWith 15 (33, .iconst 0, 1) rfl) (by decide) rfl (aw_iret (dt_X7_isTogetherWith 16 (34, .ireturn, 1) rfl) rfl rfl (aw_stk (st' := [.int 0]) rfl (aw_if_eq_T (pc' := 34) (tgt := 37) (dt_X10_threesOf 19 (31, .ifCond .eq 6, 3) rfl) (by decide) rfl (by decide) (aw_iinc (pc' := 40) (v := 1) (ls' := [some (.ref 11), some (.ref a), some (.int fo), some (.int (k + 1))]) (dt_X10_threesOf 21 (37, .iinc 3 1, 3) rfl) rfl (by decide) (by decide) rfl rfl (aw_goto (tgt := 13) (dt_X10_threesOf 22 (40, .goto (-27), 3) rfl) (by decide) ?_)))))
        exact h
      · intro q6
        have h := h.2 q6
        obtain ⟨g7, h⟩ := h
        refine aw_aload_n (pc' := 8) (dt_X7_isTogetherWith 3 (7, .aload_n 0, 1) rfl) rfl rfl (aw_getI (pc' := 11) (dt_X7_isTogetherWith 4 (8, .getfield 47, 3) rfl) fl_Sale_47 rfl rfl g5 (aw_aload_n (pc' := 12) (dt_X7_isTogetherWith 5 (11, .aload_n 1, 1) rfl) rfl rfl (aw_getI (pc' := 15) (dt_X7_isTogetherWith 6 (12, .getfield 47, 3) rfl) fl_Sale_47 rfl rfl g7 (aw_icmp_ne (pc' := 18) (tgt := 33) (dt_X7_isTogetherWith 7 (15, .if_icmp .ne 18, 3) rfl) (by decide) rfl ?_ ?_))))
        · intro q8
          have h := h.1 q8
          refine aw_iconst (pc' := 34) (v := 0) (dt_X7_isTogetherWith 15 (33, .iconst 0, 1) rfl) (by decide) rfl (aw_iret (dt_X7_isTogetherWith 16 (34, .ireturn, 1) rfl) rfl rfl (aw_stk (st' := [.int 0]) rfl (aw_if_eq_T (pc' := 34) (tgt := 37) (dt_X10_threesOf 19 (31, .ifCond .eq 6, 3) rfl) (by decide) rfl (by decide) (aw_iinc (pc' := 40) (v := 1) (ls' := [some (.ref 11), some (.ref a), some (.int fo), some (.int (k + 1))]) (dt_X10_threesOf 21 (37, .iinc 3 1, 3) rfl) rfl (by decide) (by decide) rfl rfl (aw_goto (tgt := 13) (dt_X10_threesOf 22 (40, .goto (-27), 3) rfl) (by decide) ?_)))))
          exact h
        · intro q8
          have h := h.2 q8
          refine aw_aload_n (pc' := 19) (dt_X7_isTogetherWith 8 (18, .aload_n 0, 1) rfl) rfl rfl (aw_getA (pc' := 22) (dt_X7_isTogetherWith 9 (19, .getfield 36, 3) rfl) fl_Sale_36 rfl rfl g5 ?_ ?_)
          · intro e9
            have h := h.1 e9
            refine aw_aload_n (pc' := 23) (dt_X7_isTogetherWith 10 (22, .aload_n 1, 1) rfl) rfl rfl (aw_getA (pc' := 26) (dt_X7_isTogetherWith 11 (23, .getfield 36, 3) rfl) fl_Sale_36 rfl rfl g7 ?_ ?_)
            · intro e11
              have h := h.1 e11
              exact h.elim
            · intro b12 e11
              have h := h.2 b12 e11
              exact h.elim
          · intro b10 e9
            have h := h.2 b10 e9
            refine aw_aload_n (pc' := 23) (dt_X7_isTogetherWith 10 (22, .aload_n 1, 1) rfl) rfl rfl (aw_getA (pc' := 26) (dt_X7_isTogetherWith 11 (23, .getfield 36, 3) rfl) fl_Sale_36 rfl rfl g7 ?_ ?_)
            · intro e13
              have h := h.1 e13
              exact h.elim
            · intro b14 e13
              have h := h.2 b14 e13
              obtain ⟨g15, h⟩ := h
              obtain ⟨g16, h⟩ := h
              refine aw_acmp_ne (pc' := 29) (tgt := 33) (dt_X7_isTogetherWith 12 (26, .if_acmp .ne 7, 3) rfl) (by decide) rfl g15 g16 ?_ ?_
              · intro q17
                have h := h.1 q17
                refine aw_iconst (pc' := 34) (v := 0) (dt_X7_isTogetherWith 15 (33, .iconst 0, 1) rfl) (by decide) rfl (aw_iret (dt_X7_isTogetherWith 16 (34, .ireturn, 1) rfl) rfl rfl (aw_stk (st' := [.int 0]) rfl (aw_if_eq_T (pc' := 34) (tgt := 37) (dt_X10_threesOf 19 (31, .ifCond .eq 6, 3) rfl) (by decide) rfl (by decide) (aw_iinc (pc' := 40) (v := 1) (ls' := [some (.ref 11), some (.ref a), some (.int fo), some (.int (k + 1))]) (dt_X10_threesOf 21 (37, .iinc 3 1, 3) rfl) rfl (by decide) (by decide) rfl rfl (aw_goto (tgt := 13) (dt_X10_threesOf 22 (40, .goto (-27), 3) rfl) (by decide) ?_)))))
                exact h
              · intro q17
                have h := h.2 q17
                refine aw_iconst (pc' := 30) (v := 1) (dt_X7_isTogetherWith 13 (29, .iconst 1, 1) rfl) (by decide) rfl (aw_goto (tgt := 34) (dt_X7_isTogetherWith 14 (30, .goto 4, 3) rfl) (by decide) (aw_iret (dt_X7_isTogetherWith 16 (34, .ireturn, 1) rfl) rfl rfl (aw_stk (st' := [.int 1]) rfl (aw_if_eq_F (pc' := 34) (tgt := 37) (dt_X10_threesOf 19 (31, .ifCond .eq 6, 3) rfl) (by decide) rfl (by decide) (aw_iinc (pc' := 37) (v := 1) (ls' := [some (.ref 11), some (.ref a), some (.int (fo + 1)), some (.int k)]) (dt_X10_threesOf 20 (34, .iinc 2 1, 3) rfl) rfl (by decide) (by decide) rfl rfl (aw_iinc (pc' := 40) (v := 1) (ls' := [some (.ref 11), some (.ref a), some (.int (fo + 1)), some (.int (k + 1))]) (dt_X10_threesOf 21 (37, .iinc 3 1, 3) rfl) rfl (by decide) (by decide) rfl rfl (aw_goto (tgt := 13) (dt_X10_threesOf 22 (40, .goto (-27), 3) rfl) (by decide) ?_)))))))
                exact h

theorem t_X11_threes_15 {E : ZE} {l : Launch} {d nc ns : Nat} (s : Int32) (n : Int32) (k : Int32) {μ : ZM} {K : Option Value → ZM → Prop} (hS : Stat μ) (h :
  ((zI μ 31 22) ≤ k →
    K (some (.int n)) μ) ∧
  (¬ (zI μ 31 22) ≤ k →
    (vp_in k 300) ∧
    (vp_in s 300) ∧
    (¬ (zI μ 54 k.toNatClampNeg) = (zI μ 54 s.toNatClampNeg) →
      AW E l (d + 1) nc ns mX11_threes 15 [some (.ref 31), some (.int s), some (.int (n + 0)), some (.int (k + 1))] [] μ K) ∧
    ((zI μ 54 k.toNatClampNeg) = (zI μ 54 s.toNatClampNeg) →
      (vp_in k 300) ∧
      (vp_in (zI μ 49 k.toNatClampNeg) 60) ∧
      (vp_in s 300) ∧
      (vp_in (zI μ 49 s.toNatClampNeg) 60) ∧
      (¬ (zI μ 45 (zI μ 49 k.toNatClampNeg).toNatClampNeg) = (zI μ 45 (zI μ 49 s.toNatClampNeg).toNatClampNeg) →
        AW E l (d + 1) nc ns mX11_threes 15 [some (.ref 31), some (.int s), some (.int (n + 0)), some (.int (k + 1))] [] μ K) ∧
      ((zI μ 45 (zI μ 49 k.toNatClampNeg).toNatClampNeg) = (zI μ 45 (zI μ 49 s.toNatClampNeg).toNatClampNeg) →
        AW E l (d + 1) nc ns mX11_threes 15 [some (.ref 31), some (.int s), some (.int (n + 1)), some (.int (k + 1))] [] μ K)))) : AW E l (d + 1) nc ns mX11_threes 15 [some (.ref 31), some (.int s), some (.int n), some (.int k)] [] μ K := by
  refine aw_iload_n (pc' := 16) (dt_X11_threes 11 (15, .iload_n 3, 1) rfl) rfl rfl (aw_aload_n (pc' := 17) (dt_X11_threes 12 (16, .aload_n 0, 1) rfl) rfl rfl (aw_getI (pc' := 20) (dt_X11_threes 13 (17, .getfield 215, 3) rfl) fl_ReturnDeskModel_215 rfl rfl (sk_31 hS) (aw_icmp_ge (pc' := 23) (tgt := 65) (dt_X11_threes 14 (20, .if_icmp .ge 45, 3) rfl) (by decide) rfl ?_ ?_)))
  · intro q1
    have h := h.1 q1
    refine aw_iload_n (pc' := 66) (dt_X11_threes 39 (65, .iload_n 2, 1) rfl) rfl rfl (aw_iret (dt_X11_threes 40 (66, .ireturn, 1) rfl) rfl rfl ?_)
    exact h
  · intro q1
    have h := h.2 q1
    obtain ⟨g2, h⟩ := h
    obtain ⟨g3, h⟩ := h
    refine aw_iload_n (pc' := 24) (dt_X11_threes 15 (23, .iload_n 2, 1) rfl) rfl rfl (aw_aload_n (pc' := 25) (dt_X11_threes 16 (24, .aload_n 0, 1) rfl) rfl rfl (aw_getAs (pc' := 28) (dt_X11_threes 17 (25, .getfield 77, 3) rfl) fl_ReturnDeskModel_77 rfl rfl (sk_31 hS) (sa_31_29 hS) (aw_iload_n (pc' := 29) (dt_X11_threes 18 (28, .iload_n 3, 1) rfl) rfl rfl (aw_iald (pc' := 30) (dt_X11_threes 19 (29, .iaload, 1) rfl) rfl (sk_54 hS) (vin_eq (sl_54 hS) g2) (aw_aload_n (pc' := 31) (dt_X11_threes 20 (30, .aload_n 0, 1) rfl) rfl rfl (aw_getAs (pc' := 34) (dt_X11_threes 21 (31, .getfield 77, 3) rfl) fl_ReturnDeskModel_77 rfl rfl (sk_31 hS) (sa_31_29 hS) (aw_iload_n (pc' := 35) (dt_X11_threes 22 (34, .iload_n 1, 1) rfl) rfl rfl (aw_iald (pc' := 36) (dt_X11_threes 23 (35, .iaload, 1) rfl) rfl (sk_54 hS) (vin_eq (sl_54 hS) g3) (aw_icmp_ne (pc' := 39) (tgt := 56) (dt_X11_threes 24 (36, .if_icmp .ne 20, 3) rfl) (by decide) rfl ?_ ?_)))))))))
    · intro q4
      have h := h.1 q4
      refine aw_iconst (pc' := 57) (v := 0) (dt_X11_threes 34 (56, .iconst 0, 1) rfl) (by decide) rfl (aw_iadd (pc' := 58) (dt_X11_threes 35 (57, .iadd, 1) rfl) rfl (aw_istore_n (pc' := 59) (ls' := [some (.ref 31), some (.int s), some (.int (n + 0)), some (.int k)]) (dt_X11_threes 36 (58, .istore_n 2, 1) rfl) (by decide) rfl rfl (aw_iinc (pc' := 62) (v := 1) (ls' := [some (.ref 31), some (.int s), some (.int (n + 0)), some (.int (k + 1))]) (dt_X11_threes 37 (59, .iinc 3 1, 3) rfl) rfl (by decide) (by decide) rfl rfl (aw_goto (tgt := 15) (dt_X11_threes 38 (62, .goto (-47), 3) rfl) (by decide) ?_))))
      exact h
    · intro q4
      have h := h.2 q4
      obtain ⟨g5, h⟩ := h
      obtain ⟨g6, h⟩ := h
      obtain ⟨g7, h⟩ := h
      obtain ⟨g8, h⟩ := h
      refine aw_aload_n (pc' := 40) (dt_X11_threes 25 (39, .aload_n 0, 1) rfl) rfl rfl (aw_iload_n (pc' := 41) (dt_X11_threes 26 (40, .iload_n 3, 1) rfl) rfl rfl (aw_inV (pc' := 44) (nc1 := 0) (ns1 := 0) (ls' := [some (.ref 31), some (.int k)]) (y2 := mX11_modelOf) (As := [.int k]) (rest := [.int n]) (a := 31) (dt_X11_threes 27 (41, .invokevirtual 231, 3) rfl) ok_X11_modelOf ln_ReturnDeskModel_231 im_X11_modelOf se_X11_modelOf pr_X11_modelOf (Or.inl ⟨by decide, rfl⟩) rfl (Nat.le_of_ble_eq_true rfl) (Nat.le_of_ble_eq_true rfl) rfl rfl (sk_31 hS) (aw_aload_n (pc' := 1) (dt_X11_modelOf 0 (0, .aload_n 0, 1) rfl) rfl rfl (aw_getAs (pc' := 4) (dt_X11_modelOf 1 (1, .getfield 50, 3) rfl) fl_ReturnDeskModel_50 rfl rfl (sk_31 hS) (sa_31_19 hS) (aw_aload_n (pc' := 5) (dt_X11_modelOf 2 (4, .aload_n 0, 1) rfl) rfl rfl (aw_getAs (pc' := 8) (dt_X11_modelOf 3 (5, .getfield 62, 3) rfl) fl_ReturnDeskModel_62 rfl rfl (sk_31 hS) (sa_31_24 hS) (aw_iload_n (pc' := 9) (dt_X11_modelOf 4 (8, .iload_n 1, 1) rfl) rfl rfl (aw_iald (pc' := 10) (dt_X11_modelOf 5 (9, .iaload, 1) rfl) rfl (sk_49 hS) (vin_eq (sl_49 hS) g5) (aw_iald (pc' := 11) (dt_X11_modelOf 6 (10, .iaload, 1) rfl) rfl (sk_45 hS) (vin_eq (sl_45 hS) g6) (aw_iret (dt_X11_modelOf 7 (11, .ireturn, 1) rfl) rfl rfl (aw_stk (st' := [.int (zI μ 45 (zI μ 49 k.toNatClampNeg).toNatClampNeg), .int n]) rfl (aw_aload_n (pc' := 45) (dt_X11_threes 28 (44, .aload_n 0, 1) rfl) rfl rfl (aw_iload_n (pc' := 46) (dt_X11_threes 29 (45, .iload_n 1, 1) rfl) rfl rfl (aw_inV (pc' := 49) (nc1 := 0) (ns1 := 0) (ls' := [some (.ref 31), some (.int s)]) (y2 := mX11_modelOf) (As := [.int s]) (rest := [.int (zI μ 45 (zI μ 49 k.toNatClampNeg).toNatClampNeg), .int n]) (a := 31) (dt_X11_threes 30 (46, .invokevirtual 231, 3) rfl) ok_X11_modelOf ln_ReturnDeskModel_231 im_X11_modelOf se_X11_modelOf pr_X11_modelOf (Or.inl ⟨by decide, rfl⟩) rfl (Nat.le_of_ble_eq_true rfl) (Nat.le_of_ble_eq_true rfl) rfl rfl (sk_31 hS) (aw_aload_n (pc' := 1) (dt_X11_modelOf 0 (0, .aload_n 0, 1) rfl) rfl rfl (aw_getAs (pc' := 4) (dt_X11_modelOf 1 (1, .getfield 50, 3) rfl) fl_ReturnDeskModel_50 rfl rfl (sk_31 hS) (sa_31_19 hS) (aw_aload_n (pc' := 5) (dt_X11_modelOf 2 (4, .aload_n 0, 1) rfl) rfl rfl (aw_getAs (pc' := 8) (dt_X11_modelOf 3 (5, .getfield 62, 3) rfl) fl_ReturnDeskModel_62 rfl rfl (sk_31 hS) (sa_31_24 hS) (aw_iload_n (pc' := 9) (dt_X11_modelOf 4 (8, .iload_n 1, 1) rfl) rfl rfl (aw_iald (pc' := 10) (dt_X11_modelOf 5 (9, .iaload, 1) rfl) rfl (sk_49 hS) (vin_eq (sl_49 hS) g7) (aw_iald (pc' := 11) (dt_X11_modelOf 6 (10, .iaload, 1) rfl) rfl (sk_45 hS) (vin_eq (sl_45 hS) g8) (aw_iret (dt_X11_modelOf 7 (11, .ireturn, 1) rfl) rfl rfl (aw_stk (st' := [.int (zI μ 45 (zI μ 49 s.toNatClampNeg).toNatClampNeg), .int (zI μ 45 (zI μ 49 k.toNatClampNeg).toNatClampNeg), .int n]) rfl (aw_icmp_ne (pc' := 52) (tgt := 56) (dt_X11_threes 31 (49, .if_icmp .ne 7, 3) rfl) (by decide) rfl ?_ ?_))))))))))))))))))))))))
      · intro q9
        have h := h.1 q9
        refine aw_iconst (pc' := 57) (v := 0) (dt_X11_threes 34 (56, .iconst 0, 1) rfl) (by decide) rfl (aw_iadd (pc' := 58) (dt_X11_threes 35 (57, .iadd, 1) rfl) rfl (aw_istore_n (pc' := 59) (ls' := [some (.ref 31), some (.int s), some (.int (n + 0)), some (.int k)]) (dt_X11_threes 36 (58, .istore_n 2, 1) rfl) (by decide) rfl rfl (aw_iinc (pc' := 62) (v := 1) (ls' := [some (.ref 31), some (.int s), some (.int (n + 0)), some (.int (k + 1))]) (dt_X11_threes 37 (59, .iinc 3 1, 3) rfl) rfl (by decide) (by decide) rfl rfl (aw_goto (tgt := 15) (dt_X11_threes 38 (62, .goto (-47), 3) rfl) (by decide) ?_))))
        exact h
      · intro q9
        have h := h.2 q9
        refine aw_iconst (pc' := 53) (v := 1) (dt_X11_threes 32 (52, .iconst 1, 1) rfl) (by decide) rfl (aw_goto (tgt := 57) (dt_X11_threes 33 (53, .goto 4, 3) rfl) (by decide) (aw_iadd (pc' := 58) (dt_X11_threes 35 (57, .iadd, 1) rfl) rfl (aw_istore_n (pc' := 59) (ls' := [some (.ref 31), some (.int s), some (.int (n + 1)), some (.int k)]) (dt_X11_threes 36 (58, .istore_n 2, 1) rfl) (by decide) rfl rfl (aw_iinc (pc' := 62) (v := 1) (ls' := [some (.ref 31), some (.int s), some (.int (n + 1)), some (.int (k + 1))]) (dt_X11_threes 37 (59, .iinc 3 1, 3) rfl) rfl (by decide) (by decide) rfl rfl (aw_goto (tgt := 15) (dt_X11_threes 38 (62, .goto (-47), 3) rfl) (by decide) ?_)))))
        exact h
