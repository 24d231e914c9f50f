theorem t_X11_model {E : ZE} {l : Launch} {d nc ns : Nat} {x1 : Int32} {x2 : Int32} {x3 : Int32} {μ : ZM} {K : Option Value → ZM → Prop} (hS : Stat μ) (h :
  (x1 < 0 →
    K (some (.int (-1))) μ) ∧
  (¬ x1 < 0 →
    (9 < x1 →
      K (some (.int (-1))) μ) ∧
    (¬ 9 < x1 →
      (x2 < 1 →
        K (some (.int (-1))) μ) ∧
      (¬ x2 < 1 →
        (99999 < x2 →
          K (some (.int (-1))) μ) ∧
        (¬ 99999 < x2 →
          (x3 < 0 →
            K (some (.int (-1))) μ) ∧
          (¬ x3 < 0 →
            (9999 < x3 →
              K (some (.int (-1))) μ) ∧
            (¬ 9999 < x3 →
              (¬ (zI μ 31 3) = 20 →
                (vp_in (zI μ 31 3) 20) ∧
                (vp_in (zI (sI μ 32 (zI μ 31 3).toNatClampNeg x1) 31 3) 20) ∧
                (vp_in (zI (sI (sI μ 32 (zI μ 31 3).toNatClampNeg x1) 33 (zI (sI μ 32 (zI μ 31 3).toNatClampNeg x1) 31 3).toNatClampNeg x2) 31 3) 20) ∧
                ∀ μ11, μ11 = (sI (sI (sI μ 32 (zI μ 31 3).toNatClampNeg x1) 33 (zI (sI μ 32 (zI μ 31 3).toNatClampNeg x1) 31 3).toNatClampNeg x2) 34 (zI (sI (sI μ 32 (zI μ 31 3).toNatClampNeg x1) 33 (zI (sI μ 32 (zI μ 31 3).toNatClampNeg x1) 31 3).toNatClampNeg x2) 31 3).toNatClampNeg x3) →
                K (some (.int ((zI (sI μ11 31 3 ((zI μ11 31 3) + 1)) 31 3) - 1))) (sI μ11 31 3 ((zI μ11 31 3) + 1))) ∧
              ((zI μ 31 3) = 20 →
                K (some (.int (-3))) μ)))))))) : AW E l (d + 1) nc ns mX11_model 0 [some (.ref 31), some (.int x1), some (.int x2), some (.int x3)] [] μ K := by
  refine aw_iload_n (pc' := 1) (dt_X11_model 0 (0, .iload_n 1, 1) rfl) rfl rfl (aw_iconst (pc' := 2) (v := 0) (dt_X11_model 1 (1, .iconst 0, 1) rfl) (by decide) rfl (aw_bipush (pc' := 4) (v := 9) (dt_X11_model 2 (2, .bipush 9, 2) rfl) (by decide) rfl (aw_inS (pc' := 7) (nc1 := 0) (ns1 := 0) (nc := nc) (ns := ns) (ls' := [some (.int x1), some (.int 0), some (.int 9)]) (y2 := mX11_in) (As := [.int x1, .int 0, .int 9]) (rest := []) (dt_X11_model 3 (4, .invokestatic 185, 3) rfl) ok_X11_in ln_ReturnDeskModel_185 sm_X11_in pr_X11_in rfl (Nat.le_of_ble_eq_true rfl) (Nat.le_of_ble_eq_true rfl) rfl rfl (aw_iload_n (pc' := 1) (dt_X11_in 0 (0, .iload_n 0, 1) rfl) rfl rfl (aw_iload_n (pc' := 2) (dt_X11_in 1 (1, .iload_n 1, 1) rfl) rfl rfl (aw_icmp_lt (pc' := 5) (tgt := 14) (dt_X11_in 2 (2, .if_icmp .lt 12, 3) rfl) (by decide) rfl ?_ ?_))))))
  · intro q1
    have h := h.1 q1
    refine aw_iconst (pc' := 15) (v := 0) (dt_X11_in 8 (14, .iconst 0, 1) rfl) (by decide) rfl (aw_iret (dt_X11_in 9 (15, .ireturn, 1) rfl) rfl rfl (aw_stk (st' := [.int 0]) rfl (aw_if_eq_T (pc' := 10) (tgt := 31) (dt_X11_model 4 (7, .ifCond .eq 24, 3) rfl) (by decide) rfl (by decide) (aw_iconst (pc' := 32) (v := (-1)) (dt_X11_model 15 (31, .iconst (-1), 1) rfl) (by decide) rfl (aw_iret (dt_X11_model 16 (32, .ireturn, 1) rfl) rfl rfl ?_)))))
    exact h
  · intro q1
    have h := h.2 q1
    refine aw_iload_n (pc' := 6) (dt_X11_in 3 (5, .iload_n 0, 1) rfl) rfl rfl (aw_iload_n (pc' := 7) (dt_X11_in 4 (6, .iload_n 2, 1) rfl) rfl rfl (aw_icmp_gt (pc' := 10) (tgt := 14) (dt_X11_in 5 (7, .if_icmp .gt 7, 3) rfl) (by decide) rfl ?_ ?_))
    · intro q2
      have h := h.1 q2
      refine aw_iconst (pc' := 15) (v := 0) (dt_X11_in 8 (14, .iconst 0, 1) rfl) (by decide) rfl (aw_iret (dt_X11_in 9 (15, .ireturn, 1) rfl) rfl rfl (aw_stk (st' := [.int 0]) rfl (aw_if_eq_T (pc' := 10) (tgt := 31) (dt_X11_model 4 (7, .ifCond .eq 24, 3) rfl) (by decide) rfl (by decide) (aw_iconst (pc' := 32) (v := (-1)) (dt_X11_model 15 (31, .iconst (-1), 1) rfl) (by decide) rfl (aw_iret (dt_X11_model 16 (32, .ireturn, 1) rfl) rfl rfl ?_)))))
      exact h
    · intro q2
      have h := h.2 q2
      refine aw_iconst (pc' := 11) (v := 1) (dt_X11_in 6 (10, .iconst 1, 1) rfl) (by decide) rfl (aw_goto (tgt := 15) (dt_X11_in 7 (11, .goto 4, 3) rfl) (by decide) (aw_iret (dt_X11_in 9 (15, .ireturn, 1) rfl) rfl rfl (aw_stk (st' := [.int 1]) rfl (aw_if_eq_F (pc' := 10) (tgt := 31) (dt_X11_model 4 (7, .ifCond .eq 24, 3) rfl) (by decide) rfl (by decide) (aw_iload_n (pc' := 11) (dt_X11_model 5 (10, .iload_n 2, 1) rfl) rfl rfl (aw_iconst (pc' := 12) (v := 1) (dt_X11_model 6 (11, .iconst 1, 1) rfl) (by decide) rfl (aw_ldc (pc' := 14) (dt_X11_model 7 (12, .ldc 198, 2) rfl) ct_ReturnDeskModel_198 rfl (aw_inS (pc' := 17) (nc1 := 0) (ns1 := 0) (nc := nc) (ns := ns) (ls' := [some (.int x2), some (.int 1), some (.int 99999)]) (y2 := mX11_in) (As := [.int x2, .int 1, .int 99999]) (rest := []) (dt_X11_model 8 (14, .invokestatic 185, 3) rfl) ok_X11_in ln_ReturnDeskModel_185 sm_X11_in pr_X11_in rfl (Nat.le_of_ble_eq_true rfl) (Nat.le_of_ble_eq_true rfl) rfl rfl (aw_iload_n (pc' := 1) (dt_X11_in 0 (0, .iload_n 0, 1) rfl) rfl rfl (aw_iload_n (pc' := 2) (dt_X11_in 1 (1, .iload_n 1, 1) rfl) rfl rfl (aw_icmp_lt (pc' := 5) (tgt := 14) (dt_X11_in 2 (2, .if_icmp .lt 12, 3) rfl) (by decide) rfl ?_ ?_)))))))))))
      · intro q3
        have h := h.1 q3
        refine aw_iconst (pc' := 15) (v := 0) (dt_X11_in 8 (14, .iconst 0, 1) rfl) (by decide) rfl (aw_iret (dt_X11_in 9 (15, .ireturn, 1) rfl) rfl rfl (aw_stk (st' := [.int 0]) rfl (aw_if_eq_T (pc' := 20) (tgt := 31) (dt_X11_model 9 (17, .ifCond .eq 14, 3) rfl) (by decide) rfl (by decide) (aw_iconst (pc' := 32) (v := (-1)) (dt_X11_model 15 (31, .iconst (-1), 1) rfl) (by decide) rfl (aw_iret (dt_X11_model 16 (32, .ireturn, 1) rfl) rfl rfl ?_)))))
        exact h
      · intro q3
        have h := h.2 q3
        refine aw_iload_n (pc' := 6) (dt_X11_in 3 (5, .iload_n 0, 1) rfl) rfl rfl (aw_iload_n (pc' := 7) (dt_X11_in 4 (6, .iload_n 2, 1) rfl) rfl rfl (aw_icmp_gt (pc' := 10) (tgt := 14) (dt_X11_in 5 (7, .if_icmp .gt 7, 3) rfl) (by decide) rfl ?_ ?_))
        · intro q4
          have h := h.1 q4
          refine aw_iconst (pc' := 15) (v := 0) (dt_X11_in 8 (14, .iconst 0, 1) rfl) (by decide) rfl (aw_iret (dt_X11_in 9 (15, .ireturn, 1) rfl) rfl rfl (aw_stk (st' := [.int 0]) rfl (aw_if_eq_T (pc' := 20) (tgt := 31) (dt_X11_model 9 (17, .ifCond .eq 14, 3) rfl) (by decide) rfl (by decide) (aw_iconst (pc' := 32) (v := (-1)) (dt_X11_model 15 (31, .iconst (-1), 1) rfl) (by decide) rfl (aw_iret (dt_X11_model 16 (32, .ireturn, 1) rfl) rfl rfl ?_)))))
          exact h
        · intro q4
          have h := h.2 q4
          refine aw_iconst (pc' := 11) (v := 1) (dt_X11_in 6 (10, .iconst 1, 1) rfl) (by decide) rfl (aw_goto (tgt := 15) (dt_X11_in 7 (11, .goto 4, 3) rfl) (by decide) (aw_iret (dt_X11_in 9 (15, .ireturn, 1) rfl) rfl rfl (aw_stk (st' := [.int 1]) rfl (aw_if_eq_F (pc' := 20) (tgt := 31) (dt_X11_model 9 (17, .ifCond .eq 14, 3) rfl) (by decide) rfl (by decide) (aw_iload_n (pc' := 21) (dt_X11_model 10 (20, .iload_n 3, 1) rfl) rfl rfl (aw_iconst (pc' := 22) (v := 0) (dt_X11_model 11 (21, .iconst 0, 1) rfl) (by decide) rfl (aw_sipush (pc' := 25) (v := 9999) (dt_X11_model 12 (22, .sipush 9999, 3) rfl) (by decide) rfl (aw_inS (pc' := 28) (nc1 := 0) (ns1 := 0) (nc := nc) (ns := ns) (ls' := [some (.int x3), some (.int 0), some (.int 9999)]) (y2 := mX11_in) (As := [.int x3, .int 0, .int 9999]) (rest := []) (dt_X11_model 13 (25, .invokestatic 185, 3) rfl) ok_X11_in ln_ReturnDeskModel_185 sm_X11_in pr_X11_in rfl (Nat.le_of_ble_eq_true rfl) (Nat.le_of_ble_eq_true rfl) rfl rfl (aw_iload_n (pc' := 1) (dt_X11_in 0 (0, .iload_n 0, 1) rfl) rfl rfl (aw_iload_n (pc' := 2) (dt_X11_in 1 (1, .iload_n 1, 1) rfl) rfl rfl (aw_icmp_lt (pc' := 5) (tgt := 14) (dt_X11_in 2 (2, .if_icmp .lt 12, 3) rfl) (by decide) rfl ?_ ?_)))))))))))
          · intro q5
            have h := h.1 q5
            refine aw_iconst (pc' := 15) (v := 0) (dt_X11_in 8 (14, .iconst 0, 1) rfl) (by decide) rfl (aw_iret (dt_X11_in 9 (15, .ireturn, 1) rfl) rfl rfl (aw_stk (st' := [.int 0]) rfl (aw_if_ne_F (pc' := 31) (tgt := 33) (dt_X11_model 14 (28, .ifCond .ne 5, 3) rfl) (by decide) rfl (by decide) (aw_iconst (pc' := 32) (v := (-1)) (dt_X11_model 15 (31, .iconst (-1), 1) rfl) (by decide) rfl (aw_iret (dt_X11_model 16 (32, .ireturn, 1) rfl) rfl rfl ?_)))))
            exact h
          · intro q5
            have h := h.2 q5
            refine aw_iload_n (pc' := 6) (dt_X11_in 3 (5, .iload_n 0, 1) rfl) rfl rfl (aw_iload_n (pc' := 7) (dt_X11_in 4 (6, .iload_n 2, 1) rfl) rfl rfl (aw_icmp_gt (pc' := 10) (tgt := 14) (dt_X11_in 5 (7, .if_icmp .gt 7, 3) rfl) (by decide) rfl ?_ ?_))
            · intro q6
              have h := h.1 q6
              refine aw_iconst (pc' := 15) (v := 0) (dt_X11_in 8 (14, .iconst 0, 1) rfl) (by decide) rfl (aw_iret (dt_X11_in 9 (15, .ireturn, 1) rfl) rfl rfl (aw_stk (st' := [.int 0]) rfl (aw_if_ne_F (pc' := 31) (tgt := 33) (dt_X11_model 14 (28, .ifCond .ne 5, 3) rfl) (by decide) rfl (by decide) (aw_iconst (pc' := 32) (v := (-1)) (dt_X11_model 15 (31, .iconst (-1), 1) rfl) (by decide) rfl (aw_iret (dt_X11_model 16 (32, .ireturn, 1) rfl) rfl rfl ?_)))))
              exact h
            · intro q6
              have h := h.2 q6
              refine aw_iconst (pc' := 11) (v := 1) (dt_X11_in 6 (10, .iconst 1, 1) rfl) (by decide) rfl (aw_goto (tgt := 15) (dt_X11_in 7 (11, .goto 4, 3) rfl) (by decide) (aw_iret (dt_X11_in 9 (15, .ireturn, 1) rfl) rfl rfl (aw_stk (st' := [.int 1]) rfl (aw_if_ne_T (pc' := 31) (tgt := 33) (dt_X11_model 14 (28, .ifCond .ne 5, 3) rfl) (by decide) rfl (by decide) (aw_aload_n (pc' := 34) (dt_X11_model 17 (33, .aload_n 0, 1) rfl) rfl rfl (aw_getI (pc' := 37) (dt_X11_model 18 (34, .getfield 192, 3) rfl) fl_ReturnDeskModel_192 rfl rfl (sk_31 hS) (aw_bipush (pc' := 39) (v := 20) (dt_X11_model 19 (37, .bipush 20, 2) rfl) (by decide) rfl (aw_icmp_ne (pc' := 42) (tgt := 45) (dt_X11_model 20 (39, .if_icmp .ne 6, 3) rfl) (by decide) rfl ?_ ?_))))))))
              · intro q7
                have h := h.1 q7
                obtain ⟨g8, h⟩ := h
                obtain ⟨g9, h⟩ := h
                obtain ⟨g10, h⟩ := h
                refine aw_aload_n (pc' := 46) (dt_X11_model 23 (45, .aload_n 0, 1) rfl) rfl rfl (aw_getAs (pc' := 49) (dt_X11_model 24 (46, .getfield 7, 3) rfl) fl_ReturnDeskModel_7 rfl rfl (sk_31 hS) (sa_31_4 hS) (aw_aload_n (pc' := 50) (dt_X11_model 25 (49, .aload_n 0, 1) rfl) rfl rfl (aw_getI (pc' := 53) (dt_X11_model 26 (50, .getfield 192, 3) rfl) fl_ReturnDeskModel_192 rfl rfl (sk_31 hS) (aw_iload_n (pc' := 54) (dt_X11_model 27 (53, .iload_n 1, 1) rfl) rfl rfl (aw_iast (pc' := 55) (dt_X11_model 28 (54, .iastore, 1) rfl) rfl (sk_32 hS) (by decide) (vin_eq (sl_32 hS) g8) (aw_aload_n (pc' := 56) (dt_X11_model 29 (55, .aload_n 0, 1) rfl) rfl rfl (aw_getAs (pc' := 59) (dt_X11_model 30 (56, .getfield 13, 3) rfl) fl_ReturnDeskModel_13 rfl rfl (sk_31 hS.wI) (sa_31_5 hS.wI) (aw_aload_n (pc' := 60) (dt_X11_model 31 (59, .aload_n 0, 1) rfl) rfl rfl (aw_getI (pc' := 63) (dt_X11_model 32 (60, .getfield 192, 3) rfl) fl_ReturnDeskModel_192 rfl rfl (sk_31 hS.wI) (aw_iload_n (pc' := 64) (dt_X11_model 33 (63, .iload_n 2, 1) rfl) rfl rfl (aw_iast (pc' := 65) (dt_X11_model 34 (64, .iastore, 1) rfl) rfl (sk_33 hS.wI) (by decide) (vin_eq (sl_33 hS.wI) g9) (aw_aload_n (pc' := 66) (dt_X11_model 35 (65, .aload_n 0, 1) rfl) rfl rfl (aw_getAs (pc' := 69) (dt_X11_model 36 (66, .getfield 16, 3) rfl) fl_ReturnDeskModel_16 rfl rfl (sk_31 hS.wI.wI) (sa_31_6 hS.wI.wI) (aw_aload_n (pc' := 70) (dt_X11_model 37 (69, .aload_n 0, 1) rfl) rfl rfl (aw_getI (pc' := 73) (dt_X11_model 38 (70, .getfield 192, 3) rfl) fl_ReturnDeskModel_192 rfl rfl (sk_31 hS.wI.wI) (aw_iload_n (pc' := 74) (dt_X11_model 39 (73, .iload_n 3, 1) rfl) rfl rfl (aw_iast (pc' := 75) (dt_X11_model 40 (74, .iastore, 1) rfl) rfl (sk_34 hS.wI.wI) (by decide) (vin_eq (sl_34 hS.wI.wI) g10) ?_)))))))))))))))))
                refine aw_mem (fun μ11 eμ12 => ?_)
                have h := h μ11 eμ12
                have hS13 : Stat μ11 := by rw [eμ12]; exact hS.wI.wI.wI
                refine aw_aload_n (pc' := 76) (dt_X11_model 41 (75, .aload_n 0, 1) rfl) rfl rfl (aw_dup (pc' := 77) (dt_X11_model 42 (76, .dup, 1) rfl) rfl rfl (aw_getI (pc' := 80) (dt_X11_model 43 (77, .getfield 192, 3) rfl) fl_ReturnDeskModel_192 rfl rfl (sk_31 hS13) (aw_iconst (pc' := 81) (v := 1) (dt_X11_model 44 (80, .iconst 1, 1) rfl) (by decide) rfl (aw_iadd (pc' := 82) (dt_X11_model 45 (81, .iadd, 1) rfl) rfl (aw_putI (pc' := 85) (dt_X11_model 46 (82, .putfield 192, 3) rfl) fl_ReturnDeskModel_192 rfl (by decide +kernel) rfl (sk_31 hS13) (aw_aload_n (pc' := 86) (dt_X11_model 47 (85, .aload_n 0, 1) rfl) rfl rfl (aw_getI (pc' := 89) (dt_X11_model 48 (86, .getfield 192, 3) rfl) fl_ReturnDeskModel_192 rfl rfl (sk_31 hS13.wI) (aw_iconst (pc' := 90) (v := 1) (dt_X11_model 49 (89, .iconst 1, 1) rfl) (by decide) rfl (aw_isub (pc' := 91) (dt_X11_model 50 (90, .isub, 1) rfl) rfl (aw_iret (dt_X11_model 51 (91, .ireturn, 1) rfl) rfl rfl ?_))))))))))
                exact h
              · intro q7
                have h := h.2 q7
                refine aw_bipush (pc' := 44) (v := (-3)) (dt_X11_model 21 (42, .bipush (-3), 2) rfl) (by decide) rfl (aw_iret (dt_X11_model 22 (44, .ireturn, 1) rfl) rfl rfl ?_)
                exact h

theorem t_X11_price {E : ZE} {l : Launch} {d nc ns : Nat} {x1 : Int32} {x2 : Int32} {x3 : Int32} {μ : ZM} {K : Option Value → ZM → Prop} (hS : Stat μ) (h :
  (x1 < 0 →
    K (some (.int (-1))) μ) ∧
  (¬ x1 < 0 →
    (((zI μ 31 3) - 1) < x1 →
      K (some (.int (-1))) μ) ∧
    (¬ ((zI μ 31 3) - 1) < x1 →
      (x2 < 0 →
        K (some (.int (-1))) μ) ∧
      (¬ x2 < 0 →
        (2999 < x2 →
          K (some (.int (-1))) μ) ∧
        (¬ 2999 < x2 →
          (x3 < 0 →
            K (some (.int (-1))) μ) ∧
          (¬ x3 < 0 →
            (99999 < x3 →
              K (some (.int (-1))) μ) ∧
            (¬ 99999 < x3 →
              (vp_in x1 20) ∧
              (¬ (zI μ 35 x1.toNatClampNeg) = 20 →
                (vp_in x1 20) ∧
                (vp_in ((20 * x1) + (zI μ 35 x1.toNatClampNeg)) 400) ∧
                (vp_in x1 20) ∧
                (vp_in ((20 * x1) + (zI (sI μ 36 ((20 * x1) + (zI μ 35 x1.toNatClampNeg)).toNatClampNeg x2) 35 x1.toNatClampNeg)) 400) ∧
                (vp_in x1 20) ∧
                (vp_in x1 20) ∧
                ∀ μ15, μ15 = (sI (sI (sI μ 36 ((20 * x1) + (zI μ 35 x1.toNatClampNeg)).toNatClampNeg x2) 37 ((20 * x1) + (zI (sI μ 36 ((20 * x1) + (zI μ 35 x1.toNatClampNeg)).toNatClampNeg x2) 35 x1.toNatClampNeg)).toNatClampNeg x3) 35 x1.toNatClampNeg ((zI (sI (sI μ 36 ((20 * x1) + (zI μ 35 x1.toNatClampNeg)).toNatClampNeg x2) 37 ((20 * x1) + (zI (sI μ 36 ((20 * x1) + (zI μ 35 x1.toNatClampNeg)).toNatClampNeg x2) 35 x1.toNatClampNeg)).toNatClampNeg x3) 35 x1.toNatClampNeg) + 1)) →
                (vp_in x1 20) ∧
                K (some (.int (zI μ15 35 x1.toNatClampNeg))) μ15) ∧
              ((zI μ 35 x1.toNatClampNeg) = 20 →
                K (some (.int (-3))) μ)))))))) : AW E l (d + 2) nc ns mX11_price 0 [some (.ref 31), some (.int x1), some (.int x2), some (.int x3)] [] μ K := by
  refine aw_aload_n (pc' := 1) (dt_X11_price 0 (0, .aload_n 0, 1) rfl) rfl rfl (aw_iload_n (pc' := 2) (dt_X11_price 1 (1, .iload_n 1, 1) rfl) rfl rfl (aw_inV (pc' := 5) (nc1 := 0) (ns1 := 0) (nc := nc) (ns := ns) (ls' := [some (.ref 31), some (.int x1)]) (y2 := mX11_isModel) (As := [.int x1]) (rest := []) (a := 31) (dt_X11_price 2 (2, .invokevirtual 199, 3) rfl) ok_X11_isModel ln_ReturnDeskModel_199 im_X11_isModel se_X11_isModel pr_X11_isModel (Or.inl ⟨by decide, rfl⟩) rfl (Nat.le_of_ble_eq_true rfl) (Nat.le_of_ble_eq_true rfl) rfl rfl (sk_31 hS) (aw_iload_n (pc' := 1) (dt_X11_isModel 0 (0, .iload_n 1, 1) rfl) rfl rfl (aw_iconst (pc' := 2) (v := 0) (dt_X11_isModel 1 (1, .iconst 0, 1) rfl) (by decide) rfl (aw_aload_n (pc' := 3) (dt_X11_isModel 2 (2, .aload_n 0, 1) rfl) rfl rfl (aw_getI (pc' := 6) (dt_X11_isModel 3 (3, .getfield 192, 3) rfl) fl_ReturnDeskModel_192 rfl rfl (sk_31 hS) (aw_iconst (pc' := 7) (v := 1) (dt_X11_isModel 4 (6, .iconst 1, 1) rfl) (by decide) rfl (aw_isub (pc' := 8) (dt_X11_isModel 5 (7, .isub, 1) rfl) rfl (aw_inS (pc' := 11) (nc1 := 0) (ns1 := 0) (nc := 0) (ns := 0) (ls' := [some (.int x1), some (.int 0), some (.int ((zI μ 31 3) - 1))]) (y2 := mX11_in) (As := [.int x1, .int 0, .int ((zI μ 31 3) - 1)]) (rest := []) (dt_X11_isModel 6 (8, .invokestatic 185, 3) rfl) ok_X11_in ln_ReturnDeskModel_185 sm_X11_in pr_X11_in rfl (Nat.le_of_ble_eq_true rfl) (Nat.le_of_ble_eq_true rfl) rfl rfl (aw_iload_n (pc' := 1) (dt_X11_in 0 (0, .iload_n 0, 1) rfl) rfl rfl (aw_iload_n (pc' := 2) (dt_X11_in 1 (1, .iload_n 1, 1) rfl) rfl rfl (aw_icmp_lt (pc' := 5) (tgt := 14) (dt_X11_in 2 (2, .if_icmp .lt 12, 3) rfl) (by decide) rfl ?_ ?_))))))))))))
  · intro q1
    have h := h.1 q1
    refine aw_iconst (pc' := 15) (v := 0) (dt_X11_in 8 (14, .iconst 0, 1) rfl) (by decide) rfl (aw_iret (dt_X11_in 9 (15, .ireturn, 1) rfl) rfl rfl (aw_stk (st' := [.int 0]) rfl (aw_iret (dt_X11_isModel 7 (11, .ireturn, 1) rfl) rfl rfl (aw_stk (st' := [.int 0]) rfl (aw_if_eq_T (pc' := 8) (tgt := 25) (dt_X11_price 3 (5, .ifCond .eq 20, 3) rfl) (by decide) rfl (by decide) (aw_iconst (pc' := 26) (v := (-1)) (dt_X11_price 12 (25, .iconst (-1), 1) rfl) (by decide) rfl (aw_iret (dt_X11_price 13 (26, .ireturn, 1) rfl) rfl rfl ?_)))))))
    exact h
  · intro q1
    have h := h.2 q1
    refine aw_iload_n (pc' := 6) (dt_X11_in 3 (5, .iload_n 0, 1) rfl) rfl rfl (aw_iload_n (pc' := 7) (dt_X11_in 4 (6, .iload_n 2, 1) rfl) rfl rfl (aw_icmp_gt (pc' := 10) (tgt := 14) (dt_X11_in 5 (7, .if_icmp .gt 7, 3) rfl) (by decide) rfl ?_ ?_))
    · intro q2
      have h := h.1 q2
      refine aw_iconst (pc' := 15) (v := 0) (dt_X11_in 8 (14, .iconst 0, 1) rfl) (by decide) rfl (aw_iret (dt_X11_in 9 (15, .ireturn, 1) rfl) rfl rfl (aw_stk (st' := [.int 0]) rfl (aw_iret (dt_X11_isModel 7 (11, .ireturn, 1) rfl) rfl rfl (aw_stk (st' := [.int 0]) rfl (aw_if_eq_T (pc' := 8) (tgt := 25) (dt_X11_price 3 (5, .ifCond .eq 20, 3) rfl) (by decide) rfl (by decide) (aw_iconst (pc' := 26) (v := (-1)) (dt_X11_price 12 (25, .iconst (-1), 1) rfl) (by decide) rfl (aw_iret (dt_X11_price 13 (26, .ireturn, 1) rfl) rfl rfl ?_)))))))
      exact h
    · intro q2
      have h := h.2 q2
      refine aw_iconst (pc' := 11) (v := 1) (dt_X11_in 6 (10, .iconst 1, 1) rfl) (by decide) rfl (aw_goto (tgt := 15) (dt_X11_in 7 (11, .goto 4, 3) rfl) (by decide) (aw_iret (dt_X11_in 9 (15, .ireturn, 1) rfl) rfl rfl (aw_stk (st' := [.int 1]) rfl (aw_iret (dt_X11_isModel 7 (11, .ireturn, 1) rfl) rfl rfl (aw_stk (st' := [.int 1]) rfl (aw_if_eq_F (pc' := 8) (tgt := 25) (dt_X11_price 3 (5, .ifCond .eq 20, 3) rfl) (by decide) rfl (by decide) (aw_iload_n (pc' := 9) (dt_X11_price 4 (8, .iload_n 2, 1) rfl) rfl rfl (aw_inS (pc' := 12) (nc1 := 0) (ns1 := 0) (nc := nc) (ns := ns) (ls' := [some (.int x2)]) (y2 := mX11_isDay) (As := [.int x2]) (rest := []) (dt_X11_price 5 (9, .invokestatic 203, 3) rfl) ok_X11_isDay ln_ReturnDeskModel_203 sm_X11_isDay pr_X11_isDay rfl (Nat.le_of_ble_eq_true rfl) (Nat.le_of_ble_eq_true rfl) rfl rfl (aw_iload_n (pc' := 1) (dt_X11_isDay 0 (0, .iload_n 0, 1) rfl) rfl rfl (aw_iconst (pc' := 2) (v := 0) (dt_X11_isDay 1 (1, .iconst 0, 1) rfl) (by decide) rfl (aw_sipush (pc' := 5) (v := 2999) (dt_X11_isDay 2 (2, .sipush 2999, 3) rfl) (by decide) rfl (aw_inS (pc' := 8) (nc1 := 0) (ns1 := 0) (nc := 0) (ns := 0) (ls' := [some (.int x2), some (.int 0), some (.int 2999)]) (y2 := mX11_in) (As := [.int x2, .int 0, .int 2999]) (rest := []) (dt_X11_isDay 3 (5, .invokestatic 185, 3) rfl) ok_X11_in ln_ReturnDeskModel_185 sm_X11_in pr_X11_in rfl (Nat.le_of_ble_eq_true rfl) (Nat.le_of_ble_eq_true rfl) rfl rfl (aw_iload_n (pc' := 1) (dt_X11_in 0 (0, .iload_n 0, 1) rfl) rfl rfl (aw_iload_n (pc' := 2) (dt_X11_in 1 (1, .iload_n 1, 1) rfl) rfl rfl (aw_icmp_lt (pc' := 5) (tgt := 14) (dt_X11_in 2 (2, .if_icmp .lt 12, 3) rfl) (by decide) rfl ?_ ?_)))))))))))))))
      · intro q3
        have h := h.1 q3
        refine aw_iconst (pc' := 15) (v := 0) (dt_X11_in 8 (14, .iconst 0, 1) rfl) (by decide) rfl (aw_iret (dt_X11_in 9 (15, .ireturn, 1) rfl) rfl rfl (aw_stk (st' := [.int 0]) rfl (aw_iret (dt_X11_isDay 4 (8, .ireturn, 1) rfl) rfl rfl (aw_stk (st' := [.int 0]) rfl (aw_if_eq_T (pc' := 15) (tgt := 25) (dt_X11_price 6 (12, .ifCond .eq 13, 3) rfl) (by decide) rfl (by decide) (aw_iconst (pc' := 26) (v := (-1)) (dt_X11_price 12 (25, .iconst (-1), 1) rfl) (by decide) rfl (aw_iret (dt_X11_price 13 (26, .ireturn, 1) rfl) rfl rfl ?_)))))))
        exact h
      · intro q3
        have h := h.2 q3
        refine aw_iload_n (pc' := 6) (dt_X11_in 3 (5, .iload_n 0, 1) rfl) rfl rfl (aw_iload_n (pc' := 7) (dt_X11_in 4 (6, .iload_n 2, 1) rfl) rfl rfl (aw_icmp_gt (pc' := 10) (tgt := 14) (dt_X11_in 5 (7, .if_icmp .gt 7, 3) rfl) (by decide) rfl ?_ ?_))
        · intro q4
          have h := h.1 q4
          refine aw_iconst (pc' := 15) (v := 0) (dt_X11_in 8 (14, .iconst 0, 1) rfl) (by decide) rfl (aw_iret (dt_X11_in 9 (15, .ireturn, 1) rfl) rfl rfl (aw_stk (st' := [.int 0]) rfl (aw_iret (dt_X11_isDay 4 (8, .ireturn, 1) rfl) rfl rfl (aw_stk (st' := [.int 0]) rfl (aw_if_eq_T (pc' := 15) (tgt := 25) (dt_X11_price 6 (12, .ifCond .eq 13, 3) rfl) (by decide) rfl (by decide) (aw_iconst (pc' := 26) (v := (-1)) (dt_X11_price 12 (25, .iconst (-1), 1) rfl) (by decide) rfl (aw_iret (dt_X11_price 13 (26, .ireturn, 1) rfl) rfl rfl ?_)))))))
          exact h
        · intro q4
          have h := h.2 q4
          refine aw_iconst (pc' := 11) (v := 1) (dt_X11_in 6 (10, .iconst 1, 1) rfl) (by decide) rfl (aw_goto (tgt := 15) (dt_X11_in 7 (11, .goto 4, 3) rfl) (by decide) (aw_iret (dt_X11_in 9 (15, .ireturn, 1) rfl) rfl rfl (aw_stk (st' := [.int 1]) rfl (aw_iret (dt_X11_isDay 4 (8, .ireturn, 1) rfl) rfl rfl (aw_stk (st' := [.int 1]) rfl (aw_if_eq_F (pc' := 15) (tgt := 25) (dt_X11_price 6 (12, .ifCond .eq 13, 3) rfl) (by decide) rfl (by decide) (aw_iload_n (pc' := 16) (dt_X11_price 7 (15, .iload_n 3, 1) rfl) rfl rfl (aw_iconst (pc' := 17) (v := 0) (dt_X11_price 8 (16, .iconst 0, 1) rfl) (by decide) rfl (aw_ldc (pc' := 19) (dt_X11_price 9 (17, .ldc 198, 2) rfl) ct_ReturnDeskModel_198 rfl (aw_inS (pc' := 22) (nc1 := 0) (ns1 := 0) (nc := nc) (ns := ns) (ls' := [some (.int x3), some (.int 0), some (.int 99999)]) (y2 := mX11_in) (As := [.int x3, .int 0, .int 99999]) (rest := []) (dt_X11_price 10 (19, .invokestatic 185, 3) rfl) ok_X11_in ln_ReturnDeskModel_185 sm_X11_in pr_X11_in rfl (Nat.le_of_ble_eq_true rfl) (Nat.le_of_ble_eq_true rfl) rfl rfl (aw_iload_n (pc' := 1) (dt_X11_in 0 (0, .iload_n 0, 1) rfl) rfl rfl (aw_iload_n (pc' := 2) (dt_X11_in 1 (1, .iload_n 1, 1) rfl) rfl rfl (aw_icmp_lt (pc' := 5) (tgt := 14) (dt_X11_in 2 (2, .if_icmp .lt 12, 3) rfl) (by decide) rfl ?_ ?_)))))))))))))
          · intro q5
            have h := h.1 q5
            refine aw_iconst (pc' := 15) (v := 0) (dt_X11_in 8 (14, .iconst 0, 1) rfl) (by decide) rfl (aw_iret (dt_X11_in 9 (15, .ireturn, 1) rfl) rfl rfl (aw_stk (st' := [.int 0]) rfl (aw_if_ne_F (pc' := 25) (tgt := 27) (dt_X11_price 11 (22, .ifCond .ne 5, 3) rfl) (by decide) rfl (by decide) (aw_iconst (pc' := 26) (v := (-1)) (dt_X11_price 12 (25, .iconst (-1), 1) rfl) (by decide) rfl (aw_iret (dt_X11_price 13 (26, .ireturn, 1) rfl) rfl rfl ?_)))))
            exact h
          · intro q5
            have h := h.2 q5
            refine aw_iload_n (pc' := 6) (dt_X11_in 3 (5, .iload_n 0, 1) rfl) rfl rfl (aw_iload_n (pc' := 7) (dt_X11_in 4 (6, .iload_n 2, 1) rfl) rfl rfl (aw_icmp_gt (pc' := 10) (tgt := 14) (dt_X11_in 5 (7, .if_icmp .gt 7, 3) rfl) (by decide) rfl ?_ ?_))
            · intro q6
              have h := h.1 q6
              refine aw_iconst (pc' := 15) (v := 0) (dt_X11_in 8 (14, .iconst 0, 1) rfl) (by decide) rfl (aw_iret (dt_X11_in 9 (15, .ireturn, 1) rfl) rfl rfl (aw_stk (st' := [.int 0]) rfl (aw_if_ne_F (pc' := 25) (tgt := 27) (dt_X11_price 11 (22, .ifCond .ne 5, 3) rfl) (by decide) rfl (by decide) (aw_iconst (pc' := 26) (v := (-1)) (dt_X11_price 12 (25, .iconst (-1), 1) rfl) (by decide) rfl (aw_iret (dt_X11_price 13 (26, .ireturn, 1) rfl) rfl rfl ?_)))))
              exact h
            · intro q6
              have h := h.2 q6
              obtain ⟨g7, h⟩ := h
              refine aw_iconst (pc' := 11) (v := 1) (dt_X11_in 6 (10, .iconst 1, 1) rfl) (by decide) rfl (aw_goto (tgt := 15) (dt_X11_in 7 (11, .goto 4, 3) rfl) (by decide) (aw_iret (dt_X11_in 9 (15, .ireturn, 1) rfl) rfl rfl (aw_stk (st' := [.int 1]) rfl (aw_if_ne_T (pc' := 25) (tgt := 27) (dt_X11_price 11 (22, .ifCond .ne 5, 3) rfl) (by decide) rfl (by decide) (aw_aload_n (pc' := 28) (dt_X11_price 14 (27, .aload_n 0, 1) rfl) rfl rfl (aw_getAs (pc' := 31) (dt_X11_price 15 (28, .getfield 19, 3) rfl) fl_ReturnDeskModel_19 rfl rfl (sk_31 hS) (sa_31_7 hS) (aw_iload_n (pc' := 32) (dt_X11_price 16 (31, .iload_n 1, 1) rfl) rfl rfl (aw_iald (pc' := 33) (dt_X11_price 17 (32, .iaload, 1) rfl) rfl (sk_35 hS) (vin_eq (sl_35 hS) g7) (aw_bipush (pc' := 35) (v := 20) (dt_X11_price 18 (33, .bipush 20, 2) rfl) (by decide) rfl (aw_icmp_ne (pc' := 38) (tgt := 41) (dt_X11_price 19 (35, .if_icmp .ne 6, 3) rfl) (by decide) rfl ?_ ?_))))))))))
              · intro q8
                have h := h.1 q8
                obtain ⟨g9, h⟩ := h
                obtain ⟨g10, h⟩ := h
                obtain ⟨g11, h⟩ := h
                obtain ⟨g12, h⟩ := h
                obtain ⟨g13, h⟩ := h
                obtain ⟨g14, h⟩ := h
                refine aw_aload_n (pc' := 42) (dt_X11_price 22 (41, .aload_n 0, 1) rfl) rfl rfl (aw_getAs (pc' := 45) (dt_X11_price 23 (42, .getfield 22, 3) rfl) fl_ReturnDeskModel_22 rfl rfl (sk_31 hS) (sa_31_8 hS) (aw_bipush (pc' := 47) (v := 20) (dt_X11_price 24 (45, .bipush 20, 2) rfl) (by decide) rfl (aw_iload_n (pc' := 48) (dt_X11_price 25 (47, .iload_n 1, 1) rfl) rfl rfl (aw_imul (pc' := 49) (dt_X11_price 26 (48, .imul, 1) rfl) rfl (aw_aload_n (pc' := 50) (dt_X11_price 27 (49, .aload_n 0, 1) rfl) rfl rfl (aw_getAs (pc' := 53) (dt_X11_price 28 (50, .getfield 19, 3) rfl) fl_ReturnDeskModel_19 rfl rfl (sk_31 hS) (sa_31_7 hS) (aw_iload_n (pc' := 54) (dt_X11_price 29 (53, .iload_n 1, 1) rfl) rfl rfl (aw_iald (pc' := 55) (dt_X11_price 30 (54, .iaload, 1) rfl) rfl (sk_35 hS) (vin_eq (sl_35 hS) g9) (aw_iadd (pc' := 56) (dt_X11_price 31 (55, .iadd, 1) rfl) rfl (aw_iload_n (pc' := 57) (dt_X11_price 32 (56, .iload_n 2, 1) rfl) rfl rfl (aw_iast (pc' := 58) (dt_X11_price 33 (57, .iastore, 1) rfl) rfl (sk_36 hS) (by decide) (vin_eq (sl_36 hS) g10) (aw_aload_n (pc' := 59) (dt_X11_price 34 (58, .aload_n 0, 1) rfl) rfl rfl (aw_getAs (pc' := 62) (dt_X11_price 35 (59, .getfield 25, 3) rfl) fl_ReturnDeskModel_25 rfl rfl (sk_31 hS.wI) (sa_31_9 hS.wI) (aw_bipush (pc' := 64) (v := 20) (dt_X11_price 36 (62, .bipush 20, 2) rfl) (by decide) rfl (aw_iload_n (pc' := 65) (dt_X11_price 37 (64, .iload_n 1, 1) rfl) rfl rfl (aw_imul (pc' := 66) (dt_X11_price 38 (65, .imul, 1) rfl) rfl (aw_aload_n (pc' := 67) (dt_X11_price 39 (66, .aload_n 0, 1) rfl) rfl rfl (aw_getAs (pc' := 70) (dt_X11_price 40 (67, .getfield 19, 3) rfl) fl_ReturnDeskModel_19 rfl rfl (sk_31 hS.wI) (sa_31_7 hS.wI) (aw_iload_n (pc' := 71) (dt_X11_price 41 (70, .iload_n 1, 1) rfl) rfl rfl (aw_iald (pc' := 72) (dt_X11_price 42 (71, .iaload, 1) rfl) rfl (sk_35 hS.wI) (vin_eq (sl_35 hS.wI) g11) (aw_iadd (pc' := 73) (dt_X11_price 43 (72, .iadd, 1) rfl) rfl (aw_iload_n (pc' := 74) (dt_X11_price 44 (73, .iload_n 3, 1) rfl) rfl rfl (aw_iast (pc' := 75) (dt_X11_price 45 (74, .iastore, 1) rfl) rfl (sk_37 hS.wI) (by decide) (vin_eq (sl_37 hS.wI) g12) (aw_aload_n (pc' := 76) (dt_X11_price 46 (75, .aload_n 0, 1) rfl) rfl rfl (aw_getAs (pc' := 79) (dt_X11_price 47 (76, .getfield 19, 3) rfl) fl_ReturnDeskModel_19 rfl rfl (sk_31 hS.wI.wI) (sa_31_7 hS.wI.wI) (aw_iload_n (pc' := 80) (dt_X11_price 48 (79, .iload_n 1, 1) rfl) rfl rfl (aw_dup2 (pc' := 81) (dt_X11_price 49 (80, .dup2, 1) rfl) rfl rfl rfl (aw_iald (pc' := 82) (dt_X11_price 50 (81, .iaload, 1) rfl) rfl (sk_35 hS.wI.wI) (vin_eq (sl_35 hS.wI.wI) g13) (aw_iconst (pc' := 83) (v := 1) (dt_X11_price 51 (82, .iconst 1, 1) rfl) (by decide) rfl (aw_iadd (pc' := 84) (dt_X11_price 52 (83, .iadd, 1) rfl) rfl (aw_iast (pc' := 85) (dt_X11_price 53 (84, .iastore, 1) rfl) rfl (sk_35 hS.wI.wI) (by decide) (vin_eq (sl_35 hS.wI.wI) g14) ?_)))))))))))))))))))))))))))))))
                refine aw_mem (fun μ15 eμ16 => ?_)
                have h := h μ15 eμ16
                have hS17 : Stat μ15 := by rw [eμ16]; exact hS.wI.wI.wI
                obtain ⟨g18, h⟩ := h
                refine aw_aload_n (pc' := 86) (dt_X11_price 54 (85, .aload_n 0, 1) rfl) rfl rfl (aw_getAs (pc' := 89) (dt_X11_price 55 (86, .getfield 19, 3) rfl) fl_ReturnDeskModel_19 rfl rfl (sk_31 hS17) (sa_31_7 hS17) (aw_iload_n (pc' := 90) (dt_X11_price 56 (89, .iload_n 1, 1) rfl) rfl rfl (aw_iald (pc' := 91) (dt_X11_price 57 (90, .iaload, 1) rfl) rfl (sk_35 hS17) (vin_eq (sl_35 hS17) g18) (aw_iret (dt_X11_price 58 (91, .ireturn, 1) rfl) rfl rfl ?_))))
                exact h
              · intro q8
                have h := h.2 q8
                refine aw_bipush (pc' := 40) (v := (-3)) (dt_X11_price 20 (38, .bipush (-3), 2) rfl) (by decide) rfl (aw_iret (dt_X11_price 21 (40, .ireturn, 1) rfl) rfl rfl ?_)
                exact h

theorem t_X11_priceAt {E : ZE} {l : Launch} {d nc ns : Nat} {x1 : Int32} {x2 : Int32} {μ : ZM} {K : Option Value → ZM → Prop} (hS : Stat μ) (h :
  AW E l d nc ns mX11_priceAt 8 [some (.ref 31), some (.int x1), some (.int x2), some (.int (-1)), some (.int (20 * x1))] [] μ K) : AW E l d nc ns mX11_priceAt 0 [some (.ref 31), some (.int x1), some (.int x2), none, none] [] μ K := by
  refine aw_iconst (pc' := 1) (v := (-1)) (dt_X11_priceAt 0 (0, .iconst (-1), 1) rfl) (by decide) rfl (aw_istore_n (pc' := 2) (ls' := [some (.ref 31), some (.int x1), some (.int x2), some (.int (-1)), none]) (dt_X11_priceAt 1 (1, .istore_n 3, 1) rfl) (by decide) rfl rfl (aw_bipush (pc' := 4) (v := 20) (dt_X11_priceAt 2 (2, .bipush 20, 2) rfl) (by decide) rfl (aw_iload_n (pc' := 5) (dt_X11_priceAt 3 (4, .iload_n 1, 1) rfl) rfl rfl (aw_imul (pc' := 6) (dt_X11_priceAt 4 (5, .imul, 1) rfl) rfl (aw_istore (pc' := 8) (ls' := [some (.ref 31), some (.int x1), some (.int x2), some (.int (-1)), some (.int (20 * x1))]) (dt_X11_priceAt 5 (6, .istore 4, 2) rfl) (by decide) rfl rfl ?_)))))
  exact h

theorem t_X11_priceAt_8 {E : ZE} {l : Launch} {d nc ns : Nat} {x1 : Int32} {x2 : Int32} {x3 : Int32} {x4 : Int32} {μ : ZM} {K : Option Value → ZM → Prop} (hS : Stat μ) (h :
  (vp_in x1 20) ∧
  (((20 * x1) + (zI μ 35 x1.toNatClampNeg)) ≤ x4 →
    (0 ≤ x3 →
      (vp_in x3 400) ∧
      K (some (.int (zI μ 37 x3.toNatClampNeg))) μ) ∧
    (¬ 0 ≤ x3 →
      K (some (.int 0)) μ)) ∧
  (¬ ((20 * x1) + (zI μ 35 x1.toNatClampNeg)) ≤ x4 →
    (vp_in x4 400) ∧
    (x2 < (zI μ 36 x4.toNatClampNeg) →
      AW E l d nc ns mX11_priceAt 8 [some (.ref 31), some (.int x1), some (.int x2), some (.int x3), some (.int (x4 + 1))] [] μ K) ∧
    (¬ x2 < (zI μ 36 x4.toNatClampNeg) →
      (x3 < 0 →
        AW E l d nc ns mX11_priceAt 8 [some (.ref 31), some (.int x1), some (.int x2), some (.int x4), some (.int (x4 + 1))] [] μ K) ∧
      (¬ x3 < 0 →
        (vp_in x4 400) ∧
        (vp_in x3 400) ∧
        ((zI μ 36 x4.toNatClampNeg) < (zI μ 36 x3.toNatClampNeg) →
          AW E l d nc ns mX11_priceAt 8 [some (.ref 31), some (.int x1), some (.int x2), some (.int x3), some (.int (x4 + 1))] [] μ K) ∧
        (¬ (zI μ 36 x4.toNatClampNeg) < (zI μ 36 x3.toNatClampNeg) →
          AW E l d nc ns mX11_priceAt 8 [some (.ref 31), some (.int x1), some (.int x2), some (.int x4), some (.int (x4 + 1))] [] μ K))))) : AW E l d nc ns mX11_priceAt 8 [some (.ref 31), some (.int x1), some (.int x2), some (.int x3), some (.int x4)] [] μ K := by
  obtain ⟨g1, h⟩ := h
  refine aw_iload (pc' := 10) (dt_X11_priceAt 6 (8, .iload 4, 2) rfl) rfl rfl (aw_bipush (pc' := 12) (v := 20) (dt_X11_priceAt 7 (10, .bipush 20, 2) rfl) (by decide) rfl (aw_iload_n (pc' := 13) (dt_X11_priceAt 8 (12, .iload_n 1, 1) rfl) rfl rfl (aw_imul (pc' := 14) (dt_X11_priceAt 9 (13, .imul, 1) rfl) rfl (aw_aload_n (pc' := 15) (dt_X11_priceAt 10 (14, .aload_n 0, 1) rfl) rfl rfl (aw_getAs (pc' := 18) (dt_X11_priceAt 11 (15, .getfield 19, 3) rfl) fl_ReturnDeskModel_19 rfl rfl (sk_31 hS) (sa_31_7 hS) (aw_iload_n (pc' := 19) (dt_X11_priceAt 12 (18, .iload_n 1, 1) rfl) rfl rfl (aw_iald (pc' := 20) (dt_X11_priceAt 13 (19, .iaload, 1) rfl) rfl (sk_35 hS) (vin_eq (sl_35 hS) g1) (aw_iadd (pc' := 21) (dt_X11_priceAt 14 (20, .iadd, 1) rfl) rfl (aw_icmp_ge (pc' := 24) (tgt := 64) (dt_X11_priceAt 15 (21, .if_icmp .ge 43, 3) rfl) (by decide) rfl ?_ ?_)))))))))
  · intro q2
    have h := h.1 q2
    refine aw_iload_n (pc' := 65) (dt_X11_priceAt 37 (64, .iload_n 3, 1) rfl) rfl rfl (aw_if_ge (pc' := 68) (tgt := 72) (dt_X11_priceAt 38 (65, .ifCond .ge 7, 3) rfl) (by decide) rfl ?_ ?_)
    · intro q3
      have h := h.1 q3
      obtain ⟨g4, h⟩ := h
      refine aw_aload_n (pc' := 73) (dt_X11_priceAt 41 (72, .aload_n 0, 1) rfl) rfl rfl (aw_getAs (pc' := 76) (dt_X11_priceAt 42 (73, .getfield 25, 3) rfl) fl_ReturnDeskModel_25 rfl rfl (sk_31 hS) (sa_31_9 hS) (aw_iload_n (pc' := 77) (dt_X11_priceAt 43 (76, .iload_n 3, 1) rfl) rfl rfl (aw_iald (pc' := 78) (dt_X11_priceAt 44 (77, .iaload, 1) rfl) rfl (sk_37 hS) (vin_eq (sl_37 hS) g4) (aw_iret (dt_X11_priceAt 45 (78, .ireturn, 1) rfl) rfl rfl ?_))))
      exact h
    · intro q3
      have h := h.2 q3
      refine aw_iconst (pc' := 69) (v := 0) (dt_X11_priceAt 39 (68, .iconst 0, 1) rfl) (by decide) rfl (aw_goto (tgt := 78) (dt_X11_priceAt 40 (69, .goto 9, 3) rfl) (by decide) (aw_iret (dt_X11_priceAt 45 (78, .ireturn, 1) rfl) rfl rfl ?_))
      exact h
  · intro q2
    have h := h.2 q2
    obtain ⟨g5, h⟩ := h
    refine aw_aload_n (pc' := 25) (dt_X11_priceAt 16 (24, .aload_n 0, 1) rfl) rfl rfl (aw_getAs (pc' := 28) (dt_X11_priceAt 17 (25, .getfield 22, 3) rfl) fl_ReturnDeskModel_22 rfl rfl (sk_31 hS) (sa_31_8 hS) (aw_iload (pc' := 30) (dt_X11_priceAt 18 (28, .iload 4, 2) rfl) rfl rfl (aw_iald (pc' := 31) (dt_X11_priceAt 19 (30, .iaload, 1) rfl) rfl (sk_36 hS) (vin_eq (sl_36 hS) g5) (aw_iload_n (pc' := 32) (dt_X11_priceAt 20 (31, .iload_n 2, 1) rfl) rfl rfl (aw_icmp_gt (pc' := 35) (tgt := 58) (dt_X11_priceAt 21 (32, .if_icmp .gt 26, 3) rfl) (by decide) rfl ?_ ?_)))))
    · intro q6
      have h := h.1 q6
      refine aw_iinc (pc' := 61) (v := 1) (ls' := [some (.ref 31), some (.int x1), some (.int x2), some (.int x3), some (.int (x4 + 1))]) (dt_X11_priceAt 35 (58, .iinc 4 1, 3) rfl) rfl (by decide) (by decide) rfl rfl (aw_goto (tgt := 8) (dt_X11_priceAt 36 (61, .goto (-53), 3) rfl) (by decide) ?_)
      exact h
    · intro q6
      have h := h.2 q6
      refine aw_iload_n (pc' := 36) (dt_X11_priceAt 22 (35, .iload_n 3, 1) rfl) rfl rfl (aw_if_lt (pc' := 39) (tgt := 55) (dt_X11_priceAt 23 (36, .ifCond .lt 19, 3) rfl) (by decide) rfl ?_ ?_)
      · intro q7
        have h := h.1 q7
        refine aw_iload (pc' := 57) (dt_X11_priceAt 33 (55, .iload 4, 2) rfl) rfl rfl (aw_istore_n (pc' := 58) (ls' := [some (.ref 31), some (.int x1), some (.int x2), some (.int x4), some (.int x4)]) (dt_X11_priceAt 34 (57, .istore_n 3, 1) rfl) (by decide) rfl rfl (aw_iinc (pc' := 61) (v := 1) (ls' := [some (.ref 31), some (.int x1), some (.int x2), some (.int x4), some (.int (x4 + 1))]) (dt_X11_priceAt 35 (58, .iinc 4 1, 3) rfl) rfl (by decide) (by decide) rfl rfl (aw_goto (tgt := 8) (dt_X11_priceAt 36 (61, .goto (-53), 3) rfl) (by decide) ?_)))
        exact h
      · intro q7
        have h := h.2 q7
        obtain ⟨g8, h⟩ := h
        obtain ⟨g9, h⟩ := h
        refine aw_aload_n (pc' := 40) (dt_X11_priceAt 24 (39, .aload_n 0, 1) rfl) rfl rfl (aw_getAs (pc' := 43) (dt_X11_priceAt 25 (40, .getfield 22, 3) rfl) fl_ReturnDeskModel_22 rfl rfl (sk_31 hS) (sa_31_8 hS) (aw_iload (pc' := 45) (dt_X11_priceAt 26 (43, .iload 4, 2) rfl) rfl rfl (aw_iald (pc' := 46) (dt_X11_priceAt 27 (45, .iaload, 1) rfl) rfl (sk_36 hS) (vin_eq (sl_36 hS) g8) (aw_aload_n (pc' := 47) (dt_X11_priceAt 28 (46, .aload_n 0, 1) rfl) rfl rfl (aw_getAs (pc' := 50) (dt_X11_priceAt 29 (47, .getfield 22, 3) rfl) fl_ReturnDeskModel_22 rfl rfl (sk_31 hS) (sa_31_8 hS) (aw_iload_n (pc' := 51) (dt_X11_priceAt 30 (50, .iload_n 3, 1) rfl) rfl rfl (aw_iald (pc' := 52) (dt_X11_priceAt 31 (51, .iaload, 1) rfl) rfl (sk_36 hS) (vin_eq (sl_36 hS) g9) (aw_icmp_lt (pc' := 55) (tgt := 58) (dt_X11_priceAt 32 (52, .if_icmp .lt 6, 3) rfl) (by decide) rfl ?_ ?_))))))))
        · intro q10
          have h := h.1 q10
          refine aw_iinc (pc' := 61) (v := 1) (ls' := [some (.ref 31), some (.int x1), some (.int x2), some (.int x3), some (.int (x4 + 1))]) (dt_X11_priceAt 35 (58, .iinc 4 1, 3) rfl) rfl (by decide) (by decide) rfl rfl (aw_goto (tgt := 8) (dt_X11_priceAt 36 (61, .goto (-53), 3) rfl) (by decide) ?_)
          exact h
        · intro q10
          have h := h.2 q10
          refine aw_iload (pc' := 57) (dt_X11_priceAt 33 (55, .iload 4, 2) rfl) rfl rfl (aw_istore_n (pc' := 58) (ls' := [some (.ref 31), some (.int x1), some (.int x2), some (.int x4), some (.int x4)]) (dt_X11_priceAt 34 (57, .istore_n 3, 1) rfl) (by decide) rfl rfl (aw_iinc (pc' := 61) (v := 1) (ls' := [some (.ref 31), some (.int x1), some (.int x2), some (.int x4), some (.int (x4 + 1))]) (dt_X11_priceAt 35 (58, .iinc 4 1, 3) rfl) rfl (by decide) (by decide) rfl rfl (aw_goto (tgt := 8) (dt_X11_priceAt 36 (61, .goto (-53), 3) rfl) (by decide) ?_)))
          exact h

theorem t_X11_priceOn {E : ZE} {l : Launch} {d nc ns : Nat} {x1 : Int32} {x2 : Int32} {μ : ZM} {K : Option Value → ZM → Prop} (hS : Stat μ) (h :
  (x1 < 0 →
    K (some (.int (-1))) μ) ∧
  (¬ x1 < 0 →
    (((zI μ 31 3) - 1) < x1 →
      K (some (.int (-1))) μ) ∧
    (¬ ((zI μ 31 3) - 1) < x1 →
      (x2 < 0 →
        K (some (.int (-1))) μ) ∧
      (¬ x2 < 0 →
        (2999 < x2 →
          K (some (.int (-1))) μ) ∧
        (¬ 2999 < x2 →
          AW E l (d + 1) 0 0 mX11_priceAt 0 (zargs 5 [.ref 31, .int x1, .int x2]) [] μ (fun v μ5 => ∃ r7 : Int32, v = some (.int r7) ∧ Stat μ5 ∧ 
            K (some (.int r7)) μ5)))))) : AW E l (d + 2) nc ns mX11_priceOn 0 [some (.ref 31), some (.int x1), some (.int x2)] [] μ K := by
  refine aw_aload_n (pc' := 1) (dt_X11_priceOn 0 (0, .aload_n 0, 1) rfl) rfl rfl (aw_iload_n (pc' := 2) (dt_X11_priceOn 1 (1, .iload_n 1, 1) rfl) rfl rfl (aw_inV (pc' := 5) (nc1 := 0) (ns1 := 0) (nc := nc) (ns := ns) (ls' := [some (.ref 31), some (.int x1)]) (y2 := mX11_isModel) (As := [.int x1]) (rest := []) (a := 31) (dt_X11_priceOn 2 (2, .invokevirtual 199, 3) rfl) ok_X11_isModel ln_ReturnDeskModel_199 im_X11_isModel se_X11_isModel pr_X11_isModel (Or.inl ⟨by decide, rfl⟩) rfl (Nat.le_of_ble_eq_true rfl) (Nat.le_of_ble_eq_true rfl) rfl rfl (sk_31 hS) (aw_iload_n (pc' := 1) (dt_X11_isModel 0 (0, .iload_n 1, 1) rfl) rfl rfl (aw_iconst (pc' := 2) (v := 0) (dt_X11_isModel 1 (1, .iconst 0, 1) rfl) (by decide) rfl (aw_aload_n (pc' := 3) (dt_X11_isModel 2 (2, .aload_n 0, 1) rfl) rfl rfl (aw_getI (pc' := 6) (dt_X11_isModel 3 (3, .getfield 192, 3) rfl) fl_ReturnDeskModel_192 rfl rfl (sk_31 hS) (aw_iconst (pc' := 7) (v := 1) (dt_X11_isModel 4 (6, .iconst 1, 1) rfl) (by decide) rfl (aw_isub (pc' := 8) (dt_X11_isModel 5 (7, .isub, 1) rfl) rfl (aw_inS (pc' := 11) (nc1 := 0) (ns1 := 0) (nc := 0) (ns := 0) (ls' := [some (.int x1), some (.int 0), some (.int ((zI μ 31 3) - 1))]) (y2 := mX11_in) (As := [.int x1, .int 0, .int ((zI μ 31 3) - 1)]) (rest := []) (dt_X11_isModel 6 (8, .invokestatic 185, 3) rfl) ok_X11_in ln_ReturnDeskModel_185 sm_X11_in pr_X11_in rfl (Nat.le_of_ble_eq_true rfl) (Nat.le_of_ble_eq_true rfl) rfl rfl (aw_iload_n (pc' := 1) (dt_X11_in 0 (0, .iload_n 0, 1) rfl) rfl rfl (aw_iload_n (pc' := 2) (dt_X11_in 1 (1, .iload_n 1, 1) rfl) rfl rfl (aw_icmp_lt (pc' := 5) (tgt := 14) (dt_X11_in 2 (2, .if_icmp .lt 12, 3) rfl) (by decide) rfl ?_ ?_))))))))))))
  · intro q1
    have h := h.1 q1
    refine aw_iconst (pc' := 15) (v := 0) (dt_X11_in 8 (14, .iconst 0, 1) rfl) (by decide) rfl (aw_iret (dt_X11_in 9 (15, .ireturn, 1) rfl) rfl rfl (aw_stk (st' := [.int 0]) rfl (aw_iret (dt_X11_isModel 7 (11, .ireturn, 1) rfl) rfl rfl (aw_stk (st' := [.int 0]) rfl (aw_if_eq_T (pc' := 8) (tgt := 24) (dt_X11_priceOn 3 (5, .ifCond .eq 19, 3) rfl) (by decide) rfl (by decide) (aw_iconst (pc' := 25) (v := (-1)) (dt_X11_priceOn 12 (24, .iconst (-1), 1) rfl) (by decide) rfl (aw_iret (dt_X11_priceOn 13 (25, .ireturn, 1) rfl) rfl rfl ?_)))))))
    exact h
  · intro q1
    have h := h.2 q1
    refine aw_iload_n (pc' := 6) (dt_X11_in 3 (5, .iload_n 0, 1) rfl) rfl rfl (aw_iload_n (pc' := 7) (dt_X11_in 4 (6, .iload_n 2, 1) rfl) rfl rfl (aw_icmp_gt (pc' := 10) (tgt := 14) (dt_X11_in 5 (7, .if_icmp .gt 7, 3) rfl) (by decide) rfl ?_ ?_))
    · intro q2
      have h := h.1 q2
      refine aw_iconst (pc' := 15) (v := 0) (dt_X11_in 8 (14, .iconst 0, 1) rfl) (by decide) rfl (aw_iret (dt_X11_in 9 (15, .ireturn, 1) rfl) rfl rfl (aw_stk (st' := [.int 0]) rfl (aw_iret (dt_X11_isModel 7 (11, .ireturn, 1) rfl) rfl rfl (aw_stk (st' := [.int 0]) rfl (aw_if_eq_T (pc' := 8) (tgt := 24) (dt_X11_priceOn 3 (5, .ifCond .eq 19, 3) rfl) (by decide) rfl (by decide) (aw_iconst (pc' := 25) (v := (-1)) (dt_X11_priceOn 12 (24, .iconst (-1), 1) rfl) (by decide) rfl (aw_iret (dt_X11_priceOn 13 (25, .ireturn, 1) rfl) rfl rfl ?_)))))))
      exact h
    · intro q2
      have h := h.2 q2
      refine aw_iconst (pc' := 11) (v := 1) (dt_X11_in 6 (10, .iconst 1, 1) rfl) (by decide) rfl (aw_goto (tgt := 15) (dt_X11_in 7 (11, .goto 4, 3) rfl) (by decide) (aw_iret (dt_X11_in 9 (15, .ireturn, 1) rfl) rfl rfl (aw_stk (st' := [.int 1]) rfl (aw_iret (dt_X11_isModel 7 (11, .ireturn, 1) rfl) rfl rfl (aw_stk (st' := [.int 1]) rfl (aw_if_eq_F (pc' := 8) (tgt := 24) (dt_X11_priceOn 3 (5, .ifCond .eq 19, 3) rfl) (by decide) rfl (by decide) (aw_iload_n (pc' := 9) (dt_X11_priceOn 4 (8, .iload_n 2, 1) rfl) rfl rfl (aw_inS (pc' := 12) (nc1 := 0) (ns1 := 0) (nc := nc) (ns := ns) (ls' := [some (.int x2)]) (y2 := mX11_isDay) (As := [.int x2]) (rest := []) (dt_X11_priceOn 5 (9, .invokestatic 203, 3) rfl) ok_X11_isDay ln_ReturnDeskModel_203 sm_X11_isDay pr_X11_isDay rfl (Nat.le_of_ble_eq_true rfl) (Nat.le_of_ble_eq_true rfl) rfl rfl (aw_iload_n (pc' := 1) (dt_X11_isDay 0 (0, .iload_n 0, 1) rfl) rfl rfl (aw_iconst (pc' := 2) (v := 0) (dt_X11_isDay 1 (1, .iconst 0, 1) rfl) (by decide) rfl (aw_sipush (pc' := 5) (v := 2999) (dt_X11_isDay 2 (2, .sipush 2999, 3) rfl) (by decide) rfl (aw_inS (pc' := 8) (nc1 := 0) (ns1 := 0) (nc := 0) (ns := 0) (ls' := [some (.int x2), some (.int 0), some (.int 2999)]) (y2 := mX11_in) (As := [.int x2, .int 0, .int 2999]) (rest := []) (dt_X11_isDay 3 (5, .invokestatic 185, 3) rfl) ok_X11_in ln_ReturnDeskModel_185 sm_X11_in pr_X11_in rfl (Nat.le_of_ble_eq_true rfl) (Nat.le_of_ble_eq_true rfl) rfl rfl (aw_iload_n (pc' := 1) (dt_X11_in 0 (0, .iload_n 0, 1) rfl) rfl rfl (aw_iload_n (pc' := 2) (dt_X11_in 1 (1, .iload_n 1, 1) rfl) rfl rfl (aw_icmp_lt (pc' := 5) (tgt := 14) (dt_X11_in 2 (2, .if_icmp .lt 12, 3) rfl) (by decide) rfl ?_ ?_)))))))))))))))
      · intro q3
        have h := h.1 q3
        refine aw_iconst (pc' := 15) (v := 0) (dt_X11_in 8 (14, .iconst 0, 1) rfl) (by decide) rfl (aw_iret (dt_X11_in 9 (15, .ireturn, 1) rfl) rfl rfl (aw_stk (st' := [.int 0]) rfl (aw_iret (dt_X11_isDay 4 (8, .ireturn, 1) rfl) rfl rfl (aw_stk (st' := [.int 0]) rfl (aw_if_eq_T (pc' := 15) (tgt := 24) (dt_X11_priceOn 6 (12, .ifCond .eq 12, 3) rfl) (by decide) rfl (by decide) (aw_iconst (pc' := 25) (v := (-1)) (dt_X11_priceOn 12 (24, .iconst (-1), 1) rfl) (by decide) rfl (aw_iret (dt_X11_priceOn 13 (25, .ireturn, 1) rfl) rfl rfl ?_)))))))
        exact h
      · intro q3
        have h := h.2 q3
        refine aw_iload_n (pc' := 6) (dt_X11_in 3 (5, .iload_n 0, 1) rfl) rfl rfl (aw_iload_n (pc' := 7) (dt_X11_in 4 (6, .iload_n 2, 1) rfl) rfl rfl (aw_icmp_gt (pc' := 10) (tgt := 14) (dt_X11_in 5 (7, .if_icmp .gt 7, 3) rfl) (by decide) rfl ?_ ?_))
        · intro q4
          have h := h.1 q4
          refine aw_iconst (pc' := 15) (v := 0) (dt_X11_in 8 (14, .iconst 0, 1) rfl) (by decide) rfl (aw_iret (dt_X11_in 9 (15, .ireturn, 1) rfl) rfl rfl (aw_stk (st' := [.int 0]) rfl (aw_iret (dt_X11_isDay 4 (8, .ireturn, 1) rfl) rfl rfl (aw_stk (st' := [.int 0]) rfl (aw_if_eq_T (pc' := 15) (tgt := 24) (dt_X11_priceOn 6 (12, .ifCond .eq 12, 3) rfl) (by decide) rfl (by decide) (aw_iconst (pc' := 25) (v := (-1)) (dt_X11_priceOn 12 (24, .iconst (-1), 1) rfl) (by decide) rfl (aw_iret (dt_X11_priceOn 13 (25, .ireturn, 1) rfl) rfl rfl ?_)))))))
          exact h
        · intro q4
          have h := h.2 q4
          refine aw_iconst (pc' := 11) (v := 1) (dt_X11_in 6 (10, .iconst 1, 1) rfl) (by decide) rfl (aw_goto (tgt := 15) (dt_X11_in 7 (11, .goto 4, 3) rfl) (by decide) (aw_iret (dt_X11_in 9 (15, .ireturn, 1) rfl) rfl rfl (aw_stk (st' := [.int 1]) rfl (aw_iret (dt_X11_isDay 4 (8, .ireturn, 1) rfl) rfl rfl (aw_stk (st' := [.int 1]) rfl (aw_if_eq_F (pc' := 15) (tgt := 24) (dt_X11_priceOn 6 (12, .ifCond .eq 12, 3) rfl) (by decide) rfl (by decide) (aw_aload_n (pc' := 16) (dt_X11_priceOn 7 (15, .aload_n 0, 1) rfl) rfl rfl (aw_iload_n (pc' := 17) (dt_X11_priceOn 8 (16, .iload_n 1, 1) rfl) rfl rfl (aw_iload_n (pc' := 18) (dt_X11_priceOn 9 (17, .iload_n 2, 1) rfl) rfl rfl (aw_callV0 (pc' := 21) (nc := nc) (ns := ns) (y2 := mX11_priceAt) (As := [.int x1, .int x2]) (rest := []) (a := 31) (dt_X11_priceOn 10 (18, .invokevirtual 206, 3) rfl) ok_X11_priceAt ln_ReturnDeskModel_206 im_X11_priceAt se_X11_priceAt pr_X11_priceAt (Or.inl ⟨by decide, rfl⟩) rfl (Nat.le_of_ble_eq_true rfl) (Nat.le_of_ble_eq_true rfl) rfl (sk_31 hS) h ?_))))))))))
          rintro v μ5 ⟨r7, rfl, hS6, h⟩
          refine aw_stk (st' := [.int r7]) rfl ?_
          refine aw_goto (tgt := 25) (dt_X11_priceOn 11 (21, .goto 4, 3) rfl) (by decide) (aw_iret (dt_X11_priceOn 13 (25, .ireturn, 1) rfl) rfl rfl ?_)
          exact h

theorem t_X11_lot {E : ZE} {l : Launch} {d nc ns : Nat} {x1 : Int32} {x2 : Int32} {x3 : Int32} {μ : ZM} {K : Option Value → ZM → Prop} (hS : Stat μ) (h :
  (x1 < 0 →
    K (some (.int (-1))) μ) ∧
  (¬ x1 < 0 →
    (((zI μ 31 3) - 1) < x1 →
      K (some (.int (-1))) μ) ∧
    (¬ ((zI μ 31 3) - 1) < x1 →
      (x2 < 0 →
        K (some (.int (-1))) μ) ∧
      (¬ x2 < 0 →
        (9 < x2 →
          K (some (.int (-1))) μ) ∧
        (¬ 9 < x2 →
          (x3 < 1 →
            K (some (.int (-1))) μ) ∧
          (¬ x3 < 1 →
            (99 < x3 →
              K (some (.int (-1))) μ) ∧
            (¬ 99 < x3 →
              (¬ (zI μ 31 18) = 60 →
                (vp_in (zI μ 31 18) 60) ∧
                (vp_in (zI (sI μ 45 (zI μ 31 18).toNatClampNeg x1) 31 18) 60) ∧
                (vp_in (zI (sI (sI μ 45 (zI μ 31 18).toNatClampNeg x1) 46 (zI (sI μ 45 (zI μ 31 18).toNatClampNeg x1) 31 18).toNatClampNeg x2) 31 18) 60) ∧
                ∀ μ11, μ11 = (sI (sI (sI μ 45 (zI μ 31 18).toNatClampNeg x1) 46 (zI (sI μ 45 (zI μ 31 18).toNatClampNeg x1) 31 18).toNatClampNeg x2) 47 (zI (sI (sI μ 45 (zI μ 31 18).toNatClampNeg x1) 46 (zI (sI μ 45 (zI μ 31 18).toNatClampNeg x1) 31 18).toNatClampNeg x2) 31 18).toNatClampNeg x3) →
                K (some (.int ((zI (sI μ11 31 18 ((zI μ11 31 18) + 1)) 31 18) - 1))) (sI μ11 31 18 ((zI μ11 31 18) + 1))) ∧
              ((zI μ 31 18) = 60 →
                K (some (.int (-3))) μ)))))))) : AW E l (d + 2) nc ns mX11_lot 0 [some (.ref 31), some (.int x1), some (.int x2), some (.int x3)] [] μ K := by
  refine aw_aload_n (pc' := 1) (dt_X11_lot 0 (0, .aload_n 0, 1) rfl) rfl rfl (aw_iload_n (pc' := 2) (dt_X11_lot 1 (1, .iload_n 1, 1) rfl) rfl rfl (aw_inV (pc' := 5) (nc1 := 0) (ns1 := 0) (nc := nc) (ns := ns) (ls' := [some (.ref 31), some (.int x1)]) (y2 := mX11_isModel) (As := [.int x1]) (rest := []) (a := 31) (dt_X11_lot 2 (2, .invokevirtual 199, 3) rfl) ok_X11_isModel ln_ReturnDeskModel_199 im_X11_isModel se_X11_isModel pr_X11_isModel (Or.inl ⟨by decide, rfl⟩) rfl (Nat.le_of_ble_eq_true rfl) (Nat.le_of_ble_eq_true rfl) rfl rfl (sk_31 hS) (aw_iload_n (pc' := 1) (dt_X11_isModel 0 (0, .iload_n 1, 1) rfl) rfl rfl (aw_iconst (pc' := 2) (v := 0) (dt_X11_isModel 1 (1, .iconst 0, 1) rfl) (by decide) rfl (aw_aload_n (pc' := 3) (dt_X11_isModel 2 (2, .aload_n 0, 1) rfl) rfl rfl (aw_getI (pc' := 6) (dt_X11_isModel 3 (3, .getfield 192, 3) rfl) fl_ReturnDeskModel_192 rfl rfl (sk_31 hS) (aw_iconst (pc' := 7) (v := 1) (dt_X11_isModel 4 (6, .iconst 1, 1) rfl) (by decide) rfl (aw_isub (pc' := 8) (dt_X11_isModel 5 (7, .isub, 1) rfl) rfl (aw_inS (pc' := 11) (nc1 := 0) (ns1 := 0) (nc := 0) (ns := 0) (ls' := [some (.int x1), some (.int 0), some (.int ((zI μ 31 3) - 1))]) (y2 := mX11_in) (As := [.int x1, .int 0, .int ((zI μ 31 3) - 1)]) (rest := []) (dt_X11_isModel 6 (8, .invokestatic 185, 3) rfl) ok_X11_in ln_ReturnDeskModel_185 sm_X11_in pr_X11_in rfl (Nat.le_of_ble_eq_true rfl) (Nat.le_of_ble_eq_true rfl) rfl rfl (aw_iload_n (pc' := 1) (dt_X11_in 0 (0, .iload_n 0, 1) rfl) rfl rfl (aw_iload_n (pc' := 2) (dt_X11_in 1 (1, .iload_n 1, 1) rfl) rfl rfl (aw_icmp_lt (pc' := 5) (tgt := 14) (dt_X11_in 2 (2, .if_icmp .lt 12, 3) rfl) (by decide) rfl ?_ ?_))))))))))))
  · intro q1
    have h := h.1 q1
    refine aw_iconst (pc' := 15) (v := 0) (dt_X11_in 8 (14, .iconst 0, 1) rfl) (by decide) rfl (aw_iret (dt_X11_in 9 (15, .ireturn, 1) rfl) rfl rfl (aw_stk (st' := [.int 0]) rfl (aw_iret (dt_X11_isModel 7 (11, .ireturn, 1) rfl) rfl rfl (aw_stk (st' := [.int 0]) rfl (aw_if_eq_T (pc' := 8) (tgt := 28) (dt_X11_lot 3 (5, .ifCond .eq 23, 3) rfl) (by decide) rfl (by decide) (aw_iconst (pc' := 29) (v := (-1)) (dt_X11_lot 14 (28, .iconst (-1), 1) rfl) (by decide) rfl (aw_iret (dt_X11_lot 15 (29, .ireturn, 1) rfl) rfl rfl ?_)))))))
    exact h
  · intro q1
    have h := h.2 q1
    refine aw_iload_n (pc' := 6) (dt_X11_in 3 (5, .iload_n 0, 1) rfl) rfl rfl (aw_iload_n (pc' := 7) (dt_X11_in 4 (6, .iload_n 2, 1) rfl) rfl rfl (aw_icmp_gt (pc' := 10) (tgt := 14) (dt_X11_in 5 (7, .if_icmp .gt 7, 3) rfl) (by decide) rfl ?_ ?_))
    · intro q2
      have h := h.1 q2
      refine aw_iconst (pc' := 15) (v := 0) (dt_X11_in 8 (14, .iconst 0, 1) rfl) (by decide) rfl (aw_iret (dt_X11_in 9 (15, .ireturn, 1) rfl) rfl rfl (aw_stk (st' := [.int 0]) rfl (aw_iret (dt_X11_isModel 7 (11, .ireturn, 1) rfl) rfl rfl (aw_stk (st' := [.int 0]) rfl (aw_if_eq_T (pc' := 8) (tgt := 28) (dt_X11_lot 3 (5, .ifCond .eq 23, 3) rfl) (by decide) rfl (by decide) (aw_iconst (pc' := 29) (v := (-1)) (dt_X11_lot 14 (28, .iconst (-1), 1) rfl) (by decide) rfl (aw_iret (dt_X11_lot 15 (29, .ireturn, 1) rfl) rfl rfl ?_)))))))
      exact h
    · intro q2
      have h := h.2 q2
      refine aw_iconst (pc' := 11) (v := 1) (dt_X11_in 6 (10, .iconst 1, 1) rfl) (by decide) rfl (aw_goto (tgt := 15) (dt_X11_in 7 (11, .goto 4, 3) rfl) (by decide) (aw_iret (dt_X11_in 9 (15, .ireturn, 1) rfl) rfl rfl (aw_stk (st' := [.int 1]) rfl (aw_iret (dt_X11_isModel 7 (11, .ireturn, 1) rfl) rfl rfl (aw_stk (st' := [.int 1]) rfl (aw_if_eq_F (pc' := 8) (tgt := 28) (dt_X11_lot 3 (5, .ifCond .eq 23, 3) rfl) (by decide) rfl (by decide) (aw_iload_n (pc' := 9) (dt_X11_lot 4 (8, .iload_n 2, 1) rfl) rfl rfl (aw_iconst (pc' := 10) (v := 0) (dt_X11_lot 5 (9, .iconst 0, 1) rfl) (by decide) rfl (aw_bipush (pc' := 12) (v := 9) (dt_X11_lot 6 (10, .bipush 9, 2) rfl) (by decide) rfl (aw_inS (pc' := 15) (nc1 := 0) (ns1 := 0) (nc := nc) (ns := ns) (ls' := [some (.int x2), some (.int 0), some (.int 9)]) (y2 := mX11_in) (As := [.int x2, .int 0, .int 9]) (rest := []) (dt_X11_lot 7 (12, .invokestatic 185, 3) rfl) ok_X11_in ln_ReturnDeskModel_185 sm_X11_in pr_X11_in rfl (Nat.le_of_ble_eq_true rfl) (Nat.le_of_ble_eq_true rfl) rfl rfl (aw_iload_n (pc' := 1) (dt_X11_in 0 (0, .iload_n 0, 1) rfl) rfl rfl (aw_iload_n (pc' := 2) (dt_X11_in 1 (1, .iload_n 1, 1) rfl) rfl rfl (aw_icmp_lt (pc' := 5) (tgt := 14) (dt_X11_in 2 (2, .if_icmp .lt 12, 3) rfl) (by decide) rfl ?_ ?_)))))))))))))
      · intro q3
        have h := h.1 q3
        refine aw_iconst (pc' := 15) (v := 0) (dt_X11_in 8 (14, .iconst 0, 1) rfl) (by decide) rfl (aw_iret (dt_X11_in 9 (15, .ireturn, 1) rfl) rfl rfl (aw_stk (st' := [.int 0]) rfl (aw_if_eq_T (pc' := 18) (tgt := 28) (dt_X11_lot 8 (15, .ifCond .eq 13, 3) rfl) (by decide) rfl (by decide) (aw_iconst (pc' := 29) (v := (-1)) (dt_X11_lot 14 (28, .iconst (-1), 1) rfl) (by decide) rfl (aw_iret (dt_X11_lot 15 (29, .ireturn, 1) rfl) rfl rfl ?_)))))
        exact h
      · intro q3
        have h := h.2 q3
        refine aw_iload_n (pc' := 6) (dt_X11_in 3 (5, .iload_n 0, 1) rfl) rfl rfl (aw_iload_n (pc' := 7) (dt_X11_in 4 (6, .iload_n 2, 1) rfl) rfl rfl (aw_icmp_gt (pc' := 10) (tgt := 14) (dt_X11_in 5 (7, .if_icmp .gt 7, 3) rfl) (by decide) rfl ?_ ?_))
        · intro q4
          have h := h.1 q4
          refine aw_iconst (pc' := 15) (v := 0) (dt_X11_in 8 (14, .iconst 0, 1) rfl) (by decide) rfl (aw_iret (dt_X11_in 9 (15, .ireturn, 1) rfl) rfl rfl (aw_stk (st' := [.int 0]) rfl (aw_if_eq_T (pc' := 18) (tgt := 28) (dt_X11_lot 8 (15, .ifCond .eq 13, 3) rfl) (by decide) rfl (by decide) (aw_iconst (pc' := 29) (v := (-1)) (dt_X11_lot 14 (28, .iconst (-1), 1) rfl) (by decide) rfl (aw_iret (dt_X11_lot 15 (29, .ireturn, 1) rfl) rfl rfl ?_)))))
          exact h
        · intro q4
          have h := h.2 q4
          refine aw_iconst (pc' := 11) (v := 1) (dt_X11_in 6 (10, .iconst 1, 1) rfl) (by decide) rfl (aw_goto (tgt := 15) (dt_X11_in 7 (11, .goto 4, 3) rfl) (by decide) (aw_iret (dt_X11_in 9 (15, .ireturn, 1) rfl) rfl rfl (aw_stk (st' := [.int 1]) rfl (aw_if_eq_F (pc' := 18) (tgt := 28) (dt_X11_lot 8 (15, .ifCond .eq 13, 3) rfl) (by decide) rfl (by decide) (aw_iload_n (pc' := 19) (dt_X11_lot 9 (18, .iload_n 3, 1) rfl) rfl rfl (aw_iconst (pc' := 20) (v := 1) (dt_X11_lot 10 (19, .iconst 1, 1) rfl) (by decide) rfl (aw_bipush (pc' := 22) (v := 99) (dt_X11_lot 11 (20, .bipush 99, 2) rfl) (by decide) rfl (aw_inS (pc' := 25) (nc1 := 0) (ns1 := 0) (nc := nc) (ns := ns) (ls' := [some (.int x3), some (.int 1), some (.int 99)]) (y2 := mX11_in) (As := [.int x3, .int 1, .int 99]) (rest := []) (dt_X11_lot 12 (22, .invokestatic 185, 3) rfl) ok_X11_in ln_ReturnDeskModel_185 sm_X11_in pr_X11_in rfl (Nat.le_of_ble_eq_true rfl) (Nat.le_of_ble_eq_true rfl) rfl rfl (aw_iload_n (pc' := 1) (dt_X11_in 0 (0, .iload_n 0, 1) rfl) rfl rfl (aw_iload_n (pc' := 2) (dt_X11_in 1 (1, .iload_n 1, 1) rfl) rfl rfl (aw_icmp_lt (pc' := 5) (tgt := 14) (dt_X11_in 2 (2, .if_icmp .lt 12, 3) rfl) (by decide) rfl ?_ ?_)))))))))))
          · intro q5
            have h := h.1 q5
            refine aw_iconst (pc' := 15) (v := 0) (dt_X11_in 8 (14, .iconst 0, 1) rfl) (by decide) rfl (aw_iret (dt_X11_in 9 (15, .ireturn, 1) rfl) rfl rfl (aw_stk (st' := [.int 0]) rfl (aw_if_ne_F (pc' := 28) (tgt := 30) (dt_X11_lot 13 (25, .ifCond .ne 5, 3) rfl) (by decide) rfl (by decide) (aw_iconst (pc' := 29) (v := (-1)) (dt_X11_lot 14 (28, .iconst (-1), 1) rfl) (by decide) rfl (aw_iret (dt_X11_lot 15 (29, .ireturn, 1) rfl) rfl rfl ?_)))))
            exact h
          · intro q5
            have h := h.2 q5
            refine aw_iload_n (pc' := 6) (dt_X11_in 3 (5, .iload_n 0, 1) rfl) rfl rfl (aw_iload_n (pc' := 7) (dt_X11_in 4 (6, .iload_n 2, 1) rfl) rfl rfl (aw_icmp_gt (pc' := 10) (tgt := 14) (dt_X11_in 5 (7, .if_icmp .gt 7, 3) rfl) (by decide) rfl ?_ ?_))
            · intro q6
              have h := h.1 q6
              refine aw_iconst (pc' := 15) (v := 0) (dt_X11_in 8 (14, .iconst 0, 1) rfl) (by decide) rfl (aw_iret (dt_X11_in 9 (15, .ireturn, 1) rfl) rfl rfl (aw_stk (st' := [.int 0]) rfl (aw_if_ne_F (pc' := 28) (tgt := 30) (dt_X11_lot 13 (25, .ifCond .ne 5, 3) rfl) (by decide) rfl (by decide) (aw_iconst (pc' := 29) (v := (-1)) (dt_X11_lot 14 (28, .iconst (-1), 1) rfl) (by decide) rfl (aw_iret (dt_X11_lot 15 (29, .ireturn, 1) rfl) rfl rfl ?_)))))
              exact h
            · intro q6
              have h := h.2 q6
              refine aw_iconst (pc' := 11) (v := 1) (dt_X11_in 6 (10, .iconst 1, 1) rfl) (by decide) rfl (aw_goto (tgt := 15) (dt_X11_in 7 (11, .goto 4, 3) rfl) (by decide) (aw_iret (dt_X11_in 9 (15, .ireturn, 1) rfl) rfl rfl (aw_stk (st' := [.int 1]) rfl (aw_if_ne_T (pc' := 28) (tgt := 30) (dt_X11_lot 13 (25, .ifCond .ne 5, 3) rfl) (by decide) rfl (by decide) (aw_aload_n (pc' := 31) (dt_X11_lot 16 (30, .aload_n 0, 1) rfl) rfl rfl (aw_getI (pc' := 34) (dt_X11_lot 17 (31, .getfield 195, 3) rfl) fl_ReturnDeskModel_195 rfl rfl (sk_31 hS) (aw_bipush (pc' := 36) (v := 60) (dt_X11_lot 18 (34, .bipush 60, 2) rfl) (by decide) rfl (aw_icmp_ne (pc' := 39) (tgt := 42) (dt_X11_lot 19 (36, .if_icmp .ne 6, 3) rfl) (by decide) rfl ?_ ?_))))))))
              · intro q7
                have h := h.1 q7
                obtain ⟨g8, h⟩ := h
                obtain ⟨g9, h⟩ := h
                obtain ⟨g10, h⟩ := h
                refine aw_aload_n (pc' := 43) (dt_X11_lot 22 (42, .aload_n 0, 1) rfl) rfl rfl (aw_getAs (pc' := 46) (dt_X11_lot 23 (43, .getfield 50, 3) rfl) fl_ReturnDeskModel_50 rfl rfl (sk_31 hS) (sa_31_19 hS) (aw_aload_n (pc' := 47) (dt_X11_lot 24 (46, .aload_n 0, 1) rfl) rfl rfl (aw_getI (pc' := 50) (dt_X11_lot 25 (47, .getfield 195, 3) rfl) fl_ReturnDeskModel_195 rfl rfl (sk_31 hS) (aw_iload_n (pc' := 51) (dt_X11_lot 26 (50, .iload_n 1, 1) rfl) rfl rfl (aw_iast (pc' := 52) (dt_X11_lot 27 (51, .iastore, 1) rfl) rfl (sk_45 hS) (by decide) (vin_eq (sl_45 hS) g8) (aw_aload_n (pc' := 53) (dt_X11_lot 28 (52, .aload_n 0, 1) rfl) rfl rfl (aw_getAs (pc' := 56) (dt_X11_lot 29 (53, .getfield 53, 3) rfl) fl_ReturnDeskModel_53 rfl rfl (sk_31 hS.wI) (sa_31_20 hS.wI) (aw_aload_n (pc' := 57) (dt_X11_lot 30 (56, .aload_n 0, 1) rfl) rfl rfl (aw_getI (pc' := 60) (dt_X11_lot 31 (57, .getfield 195, 3) rfl) fl_ReturnDeskModel_195 rfl rfl (sk_31 hS.wI) (aw_iload_n (pc' := 61) (dt_X11_lot 32 (60, .iload_n 2, 1) rfl) rfl rfl (aw_iast (pc' := 62) (dt_X11_lot 33 (61, .iastore, 1) rfl) rfl (sk_46 hS.wI) (by decide) (vin_eq (sl_46 hS.wI) g9) (aw_aload_n (pc' := 63) (dt_X11_lot 34 (62, .aload_n 0, 1) rfl) rfl rfl (aw_getAs (pc' := 66) (dt_X11_lot 35 (63, .getfield 56, 3) rfl) fl_ReturnDeskModel_56 rfl rfl (sk_31 hS.wI.wI) (sa_31_21 hS.wI.wI) (aw_aload_n (pc' := 67) (dt_X11_lot 36 (66, .aload_n 0, 1) rfl) rfl rfl (aw_getI (pc' := 70) (dt_X11_lot 37 (67, .getfield 195, 3) rfl) fl_ReturnDeskModel_195 rfl rfl (sk_31 hS.wI.wI) (aw_iload_n (pc' := 71) (dt_X11_lot 38 (70, .iload_n 3, 1) rfl) rfl rfl (aw_iast (pc' := 72) (dt_X11_lot 39 (71, .iastore, 1) rfl) rfl (sk_47 hS.wI.wI) (by decide) (vin_eq (sl_47 hS.wI.wI) g10) ?_)))))))))))))))))
                refine aw_mem (fun μ11 eμ12 => ?_)
                have h := h μ11 eμ12
                have hS13 : Stat μ11 := by rw [eμ12]; exact hS.wI.wI.wI
                refine aw_aload_n (pc' := 73) (dt_X11_lot 40 (72, .aload_n 0, 1) rfl) rfl rfl (aw_dup (pc' := 74) (dt_X11_lot 41 (73, .dup, 1) rfl) rfl rfl (aw_getI (pc' := 77) (dt_X11_lot 42 (74, .getfield 195, 3) rfl) fl_ReturnDeskModel_195 rfl rfl (sk_31 hS13) (aw_iconst (pc' := 78) (v := 1) (dt_X11_lot 43 (77, .iconst 1, 1) rfl) (by decide) rfl (aw_iadd (pc' := 79) (dt_X11_lot 44 (78, .iadd, 1) rfl) rfl (aw_putI (pc' := 82) (dt_X11_lot 45 (79, .putfield 195, 3) rfl) fl_ReturnDeskModel_195 rfl (by decide +kernel) rfl (sk_31 hS13) (aw_aload_n (pc' := 83) (dt_X11_lot 46 (82, .aload_n 0, 1) rfl) rfl rfl (aw_getI (pc' := 86) (dt_X11_lot 47 (83, .getfield 195, 3) rfl) fl_ReturnDeskModel_195 rfl rfl (sk_31 hS13.wI) (aw_iconst (pc' := 87) (v := 1) (dt_X11_lot 48 (86, .iconst 1, 1) rfl) (by decide) rfl (aw_isub (pc' := 88) (dt_X11_lot 49 (87, .isub, 1) rfl) rfl (aw_iret (dt_X11_lot 50 (88, .ireturn, 1) rfl) rfl rfl ?_))))))))))
                exact h
              · intro q7
                have h := h.2 q7
                refine aw_bipush (pc' := 41) (v := (-3)) (dt_X11_lot 20 (39, .bipush (-3), 2) rfl) (by decide) rfl (aw_iret (dt_X11_lot 21 (41, .ireturn, 1) rfl) rfl rfl ?_)
                exact h

theorem t_X11_hours {E : ZE} {l : Launch} {d nc ns : Nat} {x1 : Int32} {μ : ZM} {K : Option Value → ZM → Prop} (hS : Stat μ) (h :
  (x1 < 1 →
    K (some (.int (-1))) μ) ∧
  (¬ x1 < 1 →
    (2400 < x1 →
      K (some (.int (-1))) μ) ∧
    (¬ 2400 < x1 →
      (((zI μ 31 1) + x1) ≤ 71999 →
        K (some (.int (zI (sI μ 31 1 ((zI μ 31 1) + x1)) 31 1))) (sI μ 31 1 ((zI μ 31 1) + x1))) ∧
      (¬ ((zI μ 31 1) + x1) ≤ 71999 →
        K (some (.int (-1))) μ)))) : AW E l (d + 1) nc ns mX11_hours 0 [some (.ref 31), some (.int x1)] [] μ K := by
  refine aw_iload_n (pc' := 1) (dt_X11_hours 0 (0, .iload_n 1, 1) rfl) rfl rfl (aw_iconst (pc' := 2) (v := 1) (dt_X11_hours 1 (1, .iconst 1, 1) rfl) (by decide) rfl (aw_sipush (pc' := 5) (v := 2400) (dt_X11_hours 2 (2, .sipush 2400, 3) rfl) (by decide) rfl (aw_inS (pc' := 8) (nc1 := 0) (ns1 := 0) (nc := nc) (ns := ns) (ls' := [some (.int x1), some (.int 1), some (.int 2400)]) (y2 := mX11_in) (As := [.int x1, .int 1, .int 2400]) (rest := []) (dt_X11_hours 3 (5, .invokestatic 185, 3) rfl) ok_X11_in ln_ReturnDeskModel_185 sm_X11_in pr_X11_in rfl (Nat.le_of_ble_eq_true rfl) (Nat.le_of_ble_eq_true rfl) rfl rfl (aw_iload_n (pc' := 1) (dt_X11_in 0 (0, .iload_n 0, 1) rfl) rfl rfl (aw_iload_n (pc' := 2) (dt_X11_in 1 (1, .iload_n 1, 1) rfl) rfl rfl (aw_icmp_lt (pc' := 5) (tgt := 14) (dt_X11_in 2 (2, .if_icmp .lt 12, 3) rfl) (by decide) rfl ?_ ?_))))))
  · intro q1
    have h := h.1 q1
    refine aw_iconst (pc' := 15) (v := 0) (dt_X11_in 8 (14, .iconst 0, 1) rfl) (by decide) rfl (aw_iret (dt_X11_in 9 (15, .ireturn, 1) rfl) rfl rfl (aw_stk (st' := [.int 0]) rfl (aw_if_eq_T (pc' := 11) (tgt := 22) (dt_X11_hours 4 (8, .ifCond .eq 14, 3) rfl) (by decide) rfl (by decide) (aw_iconst (pc' := 23) (v := (-1)) (dt_X11_hours 11 (22, .iconst (-1), 1) rfl) (by decide) rfl (aw_iret (dt_X11_hours 12 (23, .ireturn, 1) rfl) rfl rfl ?_)))))
    exact h
  · intro q1
    have h := h.2 q1
    refine aw_iload_n (pc' := 6) (dt_X11_in 3 (5, .iload_n 0, 1) rfl) rfl rfl (aw_iload_n (pc' := 7) (dt_X11_in 4 (6, .iload_n 2, 1) rfl) rfl rfl (aw_icmp_gt (pc' := 10) (tgt := 14) (dt_X11_in 5 (7, .if_icmp .gt 7, 3) rfl) (by decide) rfl ?_ ?_))
    · intro q2
      have h := h.1 q2
      refine aw_iconst (pc' := 15) (v := 0) (dt_X11_in 8 (14, .iconst 0, 1) rfl) (by decide) rfl (aw_iret (dt_X11_in 9 (15, .ireturn, 1) rfl) rfl rfl (aw_stk (st' := [.int 0]) rfl (aw_if_eq_T (pc' := 11) (tgt := 22) (dt_X11_hours 4 (8, .ifCond .eq 14, 3) rfl) (by decide) rfl (by decide) (aw_iconst (pc' := 23) (v := (-1)) (dt_X11_hours 11 (22, .iconst (-1), 1) rfl) (by decide) rfl (aw_iret (dt_X11_hours 12 (23, .ireturn, 1) rfl) rfl rfl ?_)))))
      exact h
    · intro q2
      have h := h.2 q2
      refine aw_iconst (pc' := 11) (v := 1) (dt_X11_in 6 (10, .iconst 1, 1) rfl) (by decide) rfl (aw_goto (tgt := 15) (dt_X11_in 7 (11, .goto 4, 3) rfl) (by decide) (aw_iret (dt_X11_in 9 (15, .ireturn, 1) rfl) rfl rfl (aw_stk (st' := [.int 1]) rfl (aw_if_eq_F (pc' := 11) (tgt := 22) (dt_X11_hours 4 (8, .ifCond .eq 14, 3) rfl) (by decide) rfl (by decide) (aw_aload_n (pc' := 12) (dt_X11_hours 5 (11, .aload_n 0, 1) rfl) rfl rfl (aw_getI (pc' := 15) (dt_X11_hours 6 (12, .getfield 189, 3) rfl) fl_ReturnDeskModel_189 rfl rfl (sk_31 hS) (aw_iload_n (pc' := 16) (dt_X11_hours 7 (15, .iload_n 1, 1) rfl) rfl rfl (aw_iadd (pc' := 17) (dt_X11_hours 8 (16, .iadd, 1) rfl) rfl (aw_ldc (pc' := 19) (dt_X11_hours 9 (17, .ldc 210, 2) rfl) ct_ReturnDeskModel_210 rfl (aw_icmp_le (pc' := 22) (tgt := 24) (dt_X11_hours 10 (19, .if_icmp .le 5, 3) rfl) (by decide) rfl ?_ ?_))))))))))
      · intro q3
        have h := h.1 q3
        refine aw_aload_n (pc' := 25) (dt_X11_hours 13 (24, .aload_n 0, 1) rfl) rfl rfl (aw_dup (pc' := 26) (dt_X11_hours 14 (25, .dup, 1) rfl) rfl rfl (aw_getI (pc' := 29) (dt_X11_hours 15 (26, .getfield 189, 3) rfl) fl_ReturnDeskModel_189 rfl rfl (sk_31 hS) (aw_iload_n (pc' := 30) (dt_X11_hours 16 (29, .iload_n 1, 1) rfl) rfl rfl (aw_iadd (pc' := 31) (dt_X11_hours 17 (30, .iadd, 1) rfl) rfl (aw_putI (pc' := 34) (dt_X11_hours 18 (31, .putfield 189, 3) rfl) fl_ReturnDeskModel_189 rfl (by decide +kernel) rfl (sk_31 hS) (aw_aload_n (pc' := 35) (dt_X11_hours 19 (34, .aload_n 0, 1) rfl) rfl rfl (aw_getI (pc' := 38) (dt_X11_hours 20 (35, .getfield 189, 3) rfl) fl_ReturnDeskModel_189 rfl rfl (sk_31 hS.wI) (aw_iret (dt_X11_hours 21 (38, .ireturn, 1) rfl) rfl rfl ?_))))))))
        exact h
      · intro q3
        have h := h.2 q3
        refine aw_iconst (pc' := 23) (v := (-1)) (dt_X11_hours 11 (22, .iconst (-1), 1) rfl) (by decide) rfl (aw_iret (dt_X11_hours 12 (23, .ireturn, 1) rfl) rfl rfl ?_)
        exact h

theorem t_X11_till {E : ZE} {l : Launch} {d nc ns : Nat} {x1 : Int32} {μ : ZM} {K : Option Value → ZM → Prop} (hS : Stat μ) (h :
  (x1 < 1 →
    K (some (.int (-1))) μ) ∧
  (¬ x1 < 1 →
    (999999 < x1 →
      K (some (.int (-1))) μ) ∧
    (¬ 999999 < x1 →
      K (some (.int (zI (sI μ 31 2 ((zI μ 31 2) + x1)) 31 2))) (sI μ 31 2 ((zI μ 31 2) + x1))))) : AW E l (d + 1) nc ns mX11_till 0 [some (.ref 31), some (.int x1)] [] μ K := by
  refine aw_iload_n (pc' := 1) (dt_X11_till 0 (0, .iload_n 1, 1) rfl) rfl rfl (aw_iconst (pc' := 2) (v := 1) (dt_X11_till 1 (1, .iconst 1, 1) rfl) (by decide) rfl (aw_ldc (pc' := 4) (dt_X11_till 2 (2, .ldc 211, 2) rfl) ct_ReturnDeskModel_211 rfl (aw_inS (pc' := 7) (nc1 := 0) (ns1 := 0) (nc := nc) (ns := ns) (ls' := [some (.int x1), some (.int 1), some (.int 999999)]) (y2 := mX11_in) (As := [.int x1, .int 1, .int 999999]) (rest := []) (dt_X11_till 3 (4, .invokestatic 185, 3) rfl) ok_X11_in ln_ReturnDeskModel_185 sm_X11_in pr_X11_in rfl (Nat.le_of_ble_eq_true rfl) (Nat.le_of_ble_eq_true rfl) rfl rfl (aw_iload_n (pc' := 1) (dt_X11_in 0 (0, .iload_n 0, 1) rfl) rfl rfl (aw_iload_n (pc' := 2) (dt_X11_in 1 (1, .iload_n 1, 1) rfl) rfl rfl (aw_icmp_lt (pc' := 5) (tgt := 14) (dt_X11_in 2 (2, .if_icmp .lt 12, 3) rfl) (by decide) rfl ?_ ?_))))))
  · intro q1
    have h := h.1 q1
    refine aw_iconst (pc' := 15) (v := 0) (dt_X11_in 8 (14, .iconst 0, 1) rfl) (by decide) rfl (aw_iret (dt_X11_in 9 (15, .ireturn, 1) rfl) rfl rfl (aw_stk (st' := [.int 0]) rfl (aw_if_ne_F (pc' := 10) (tgt := 12) (dt_X11_till 4 (7, .ifCond .ne 5, 3) rfl) (by decide) rfl (by decide) (aw_iconst (pc' := 11) (v := (-1)) (dt_X11_till 5 (10, .iconst (-1), 1) rfl) (by decide) rfl (aw_iret (dt_X11_till 6 (11, .ireturn, 1) rfl) rfl rfl ?_)))))
    exact h
  · intro q1
    have h := h.2 q1
    refine aw_iload_n (pc' := 6) (dt_X11_in 3 (5, .iload_n 0, 1) rfl) rfl rfl (aw_iload_n (pc' := 7) (dt_X11_in 4 (6, .iload_n 2, 1) rfl) rfl rfl (aw_icmp_gt (pc' := 10) (tgt := 14) (dt_X11_in 5 (7, .if_icmp .gt 7, 3) rfl) (by decide) rfl ?_ ?_))
    · intro q2
      have h := h.1 q2
      refine aw_iconst (pc' := 15) (v := 0) (dt_X11_in 8 (14, .iconst 0, 1) rfl) (by decide) rfl (aw_iret (dt_X11_in 9 (15, .ireturn, 1) rfl) rfl rfl (aw_stk (st' := [.int 0]) rfl (aw_if_ne_F (pc' := 10) (tgt := 12) (dt_X11_till 4 (7, .ifCond .ne 5, 3) rfl) (by decide) rfl (by decide) (aw_iconst (pc' := 11) (v := (-1)) (dt_X11_till 5 (10, .iconst (-1), 1) rfl) (by decide) rfl (aw_iret (dt_X11_till 6 (11, .ireturn, 1) rfl) rfl rfl ?_)))))
      exact h
    · intro q2
      have h := h.2 q2
      refine aw_iconst (pc' := 11) (v := 1) (dt_X11_in 6 (10, .iconst 1, 1) rfl) (by decide) rfl (aw_goto (tgt := 15) (dt_X11_in 7 (11, .goto 4, 3) rfl) (by decide) (aw_iret (dt_X11_in 9 (15, .ireturn, 1) rfl) rfl rfl (aw_stk (st' := [.int 1]) rfl (aw_if_ne_T (pc' := 10) (tgt := 12) (dt_X11_till 4 (7, .ifCond .ne 5, 3) rfl) (by decide) rfl (by decide) (aw_aload_n (pc' := 13) (dt_X11_till 7 (12, .aload_n 0, 1) rfl) rfl rfl (aw_dup (pc' := 14) (dt_X11_till 8 (13, .dup, 1) rfl) rfl rfl (aw_getI (pc' := 17) (dt_X11_till 9 (14, .getfield 212, 3) rfl) fl_ReturnDeskModel_212 rfl rfl (sk_31 hS) (aw_iload_n (pc' := 18) (dt_X11_till 10 (17, .iload_n 1, 1) rfl) rfl rfl (aw_iadd (pc' := 19) (dt_X11_till 11 (18, .iadd, 1) rfl) rfl (aw_putI (pc' := 22) (dt_X11_till 12 (19, .putfield 212, 3) rfl) fl_ReturnDeskModel_212 rfl (by decide +kernel) rfl (sk_31 hS) (aw_aload_n (pc' := 23) (dt_X11_till 13 (22, .aload_n 0, 1) rfl) rfl rfl (aw_getI (pc' := 26) (dt_X11_till 14 (23, .getfield 212, 3) rfl) fl_ReturnDeskModel_212 rfl rfl (sk_31 hS.wI) (aw_iret (dt_X11_till 15 (26, .ireturn, 1) rfl) rfl rfl ?_)))))))))))))
      exact h

theorem t_X11_sell {E : ZE} {l : Launch} {d nc ns : Nat} {x1 : Int32} {x2 : Int32} {x3 : Int32} {x4 : Int32} {x5 : Int32} {μ : ZM} {K : Option Value → ZM → Prop} (hS : Stat μ) (h :
  (x1 < 0 →
    K (some (.int (-1))) μ) ∧
  (¬ x1 < 0 →
    (((zI μ 31 18) - 1) < x1 →
      K (some (.int (-1))) μ) ∧
    (¬ ((zI μ 31 18) - 1) < x1 →
      (x2 < 1 →
        K (some (.int (-1))) μ) ∧
      (¬ x2 < 1 →
        (999999 < x2 →
          K (some (.int (-1))) μ) ∧
        (¬ 999999 < x2 →
          (x3 < 0 →
            K (some (.int (-1))) μ) ∧
          (¬ x3 < 0 →
            (20999 < x3 →
              K (some (.int (-1))) μ) ∧
            (¬ 20999 < x3 →
              (x4 < 0 →
                K (some (.int (-1))) μ) ∧
              (¬ x4 < 0 →
                (999999 < x4 →
                  K (some (.int (-1))) μ) ∧
                (¬ 999999 < x4 →
                  (60 < (x4 - x4 / 100 * 100) →
                    K (some (.int (-1))) μ) ∧
                  (¬ 60 < (x4 - x4 / 100 * 100) →
                    (x5 = (-1) →
                      (vp_in x1 60) ∧
                      (¬ (zI μ 47 x1.toNatClampNeg) = 0 →
                        (¬ (zI μ 31 22) = 300 →
                          (vp_in (zI μ 31 22) 300) ∧
                          (vp_in (zI μ 31 22) 300) ∧
                          (vp_in (zI μ 31 22) 300) ∧
                          (vp_in (zI μ 31 22) 300) ∧
                          (vp_in (zI μ 31 22) 300) ∧
                          (vp_in (zI μ 31 22) 300) ∧
                          ∀ μ20, μ20 = (sI (sI (sI (sI (sI (sI μ 49 (zI μ 31 22).toNatClampNeg x1) 50 (zI μ 31 22).toNatClampNeg (x3 / 1000)) 54 (zI μ 31 22).toNatClampNeg (x3 - x3 / 1000 * 1000)) 51 (zI μ 31 22).toNatClampNeg x2) 52 (zI μ 31 22).toNatClampNeg (x4 / 100)) 53 (zI μ 31 22).toNatClampNeg (x4 - x4 / 100 * 100)) →
                          (vp_in (zI μ 31 22) 300) ∧
                          (vp_in x1 60) ∧
                          AW E l (d + 1) 0 0 mX11_priceAt 0 (zargs 5 [.ref 31, .int (zI (sI μ20 55 (zI μ 31 22).toNatClampNeg (zI μ20 31 1)) 45 x1.toNatClampNeg), .int ((zI (sI μ20 55 (zI μ 31 22).toNatClampNeg (zI μ20 31 1)) 31 1) / 24)]) [] (sI μ20 55 (zI μ 31 22).toNatClampNeg (zI μ20 31 1)) (fun v μ25 => ∃ r27 : Int32, v = some (.int r27) ∧ Stat μ25 ∧ 
                            (vp_in (zI μ 31 22) 300) ∧
                            (vp_in (zI μ 31 22) 300) ∧
                            (vp_in (zI μ 31 22) 300) ∧
                            (vp_in (zI μ 31 22) 300) ∧
                            (vp_in (zI μ 31 22) 300) ∧
                            (vp_in x1 60) ∧
                            (vp_in x1 60) ∧
                            ∀ μ35, μ35 = (sI (sI (sI (sI (sI (sI μ25 56 (zI μ 31 22).toNatClampNeg r27) 58 (zI μ 31 22).toNatClampNeg (-1)) 59 (zI μ 31 22).toNatClampNeg (-1)) 61 (zI μ 31 22).toNatClampNeg (-1)) 63 (zI μ 31 22).toNatClampNeg (-1)) 47 x1.toNatClampNeg ((zI (sI (sI (sI (sI (sI μ25 56 (zI μ 31 22).toNatClampNeg r27) 58 (zI μ 31 22).toNatClampNeg (-1)) 59 (zI μ 31 22).toNatClampNeg (-1)) 61 (zI μ 31 22).toNatClampNeg (-1)) 63 (zI μ 31 22).toNatClampNeg (-1)) 47 x1.toNatClampNeg) - 1)) →
                            (vp_in (zI μ 31 22) 300) ∧
                            (x5 < 0 →
                              K (some (.int (zI μ 31 22))) (sI (sI μ35 31 22 ((zI μ35 31 22) + 1)) 31 2 ((zI (sI μ35 31 22 ((zI μ35 31 22) + 1)) 31 2) + (zI (sI μ35 31 22 ((zI μ35 31 22) + 1)) 56 (zI μ 31 22).toNatClampNeg)))) ∧
                            (¬ x5 < 0 →
                              (vp_in x5 200) ∧
                              ((zI (sI μ35 31 22 ((zI μ35 31 22) + 1)) 56 (zI μ 31 22).toNatClampNeg) ≤ (zI (sI μ35 31 22 ((zI μ35 31 22) + 1)) 85 x5.toNatClampNeg) →
                                (vp_in x5 200) ∧
                                (vp_in x5 200) ∧
                                ∀ μ44, μ44 = (sI (sI (sI μ35 31 22 ((zI μ35 31 22) + 1)) 85 x5.toNatClampNeg ((zI (sI μ35 31 22 ((zI μ35 31 22) + 1)) 85 x5.toNatClampNeg) - (zI (sI μ35 31 22 ((zI μ35 31 22) + 1)) 56 (zI μ 31 22).toNatClampNeg))) 31 2 ((zI (sI (sI μ35 31 22 ((zI μ35 31 22) + 1)) 85 x5.toNatClampNeg ((zI (sI μ35 31 22 ((zI μ35 31 22) + 1)) 85 x5.toNatClampNeg) - (zI (sI μ35 31 22 ((zI μ35 31 22) + 1)) 56 (zI μ 31 22).toNatClampNeg))) 31 2) + ((zI (sI μ35 31 22 ((zI μ35 31 22) + 1)) 56 (zI μ 31 22).toNatClampNeg) - (zI (sI μ35 31 22 ((zI μ35 31 22) + 1)) 56 (zI μ 31 22).toNatClampNeg)))) →
                                K (some (.int (zI μ 31 22))) μ44) ∧
                              (¬ (zI (sI μ35 31 22 ((zI μ35 31 22) + 1)) 56 (zI μ 31 22).toNatClampNeg) ≤ (zI (sI μ35 31 22 ((zI μ35 31 22) + 1)) 85 x5.toNatClampNeg) →
                                (vp_in x5 200) ∧
                                (vp_in x5 200) ∧
                                (vp_in x5 200) ∧
                                ∀ μ50, μ50 = (sI (sI (sI μ35 31 22 ((zI μ35 31 22) + 1)) 85 x5.toNatClampNeg ((zI (sI μ35 31 22 ((zI μ35 31 22) + 1)) 85 x5.toNatClampNeg) - (zI (sI μ35 31 22 ((zI μ35 31 22) + 1)) 85 x5.toNatClampNeg))) 31 2 ((zI (sI (sI μ35 31 22 ((zI μ35 31 22) + 1)) 85 x5.toNatClampNeg ((zI (sI μ35 31 22 ((zI μ35 31 22) + 1)) 85 x5.toNatClampNeg) - (zI (sI μ35 31 22 ((zI μ35 31 22) + 1)) 85 x5.toNatClampNeg))) 31 2) + ((zI (sI μ35 31 22 ((zI μ35 31 22) + 1)) 56 (zI μ 31 22).toNatClampNeg) - (zI (sI μ35 31 22 ((zI μ35 31 22) + 1)) 85 x5.toNatClampNeg)))) →
                                K (some (.int (zI μ 31 22))) μ50)))) ∧
                        ((zI μ 31 22) = 300 →
                          K (some (.int (-3))) μ)) ∧
                      ((zI μ 47 x1.toNatClampNeg) = 0 →
                        K (some (.int (-2))) μ)) ∧
                    (¬ x5 = (-1) →
                      (x5 < 0 →
                        K (some (.int (-1))) μ) ∧
                      (¬ x5 < 0 →
                        (((zI μ 31 74) - 1) < x5 →
                          K (some (.int (-1))) μ) ∧
                        (¬ ((zI μ 31 74) - 1) < x5 →
                          (vp_in x1 60) ∧
                          (¬ (zI μ 47 x1.toNatClampNeg) = 0 →
                            (¬ (zI μ 31 22) = 300 →
                              (vp_in (zI μ 31 22) 300) ∧
                              (vp_in (zI μ 31 22) 300) ∧
                              (vp_in (zI μ 31 22) 300) ∧
                              (vp_in (zI μ 31 22) 300) ∧
                              (vp_in (zI μ 31 22) 300) ∧
                              (vp_in (zI μ 31 22) 300) ∧
                              ∀ μ64, μ64 = (sI (sI (sI (sI (sI (sI μ 49 (zI μ 31 22).toNatClampNeg x1) 50 (zI μ 31 22).toNatClampNeg (x3 / 1000)) 54 (zI μ 31 22).toNatClampNeg (x3 - x3 / 1000 * 1000)) 51 (zI μ 31 22).toNatClampNeg x2) 52 (zI μ 31 22).toNatClampNeg (x4 / 100)) 53 (zI μ 31 22).toNatClampNeg (x4 - x4 / 100 * 100)) →
                              (vp_in (zI μ 31 22) 300) ∧
                              (vp_in x1 60) ∧
                              AW E l (d + 1) 0 0 mX11_priceAt 0 (zargs 5 [.ref 31, .int (zI (sI μ64 55 (zI μ 31 22).toNatClampNeg (zI μ64 31 1)) 45 x1.toNatClampNeg), .int ((zI (sI μ64 55 (zI μ 31 22).toNatClampNeg (zI μ64 31 1)) 31 1) / 24)]) [] (sI μ64 55 (zI μ 31 22).toNatClampNeg (zI μ64 31 1)) (fun v μ69 => ∃ r71 : Int32, v = some (.int r71) ∧ Stat μ69 ∧ 
                                (vp_in (zI μ 31 22) 300) ∧
                                (vp_in (zI μ 31 22) 300) ∧
                                (vp_in (zI μ 31 22) 300) ∧
                                (vp_in (zI μ 31 22) 300) ∧
                                (vp_in (zI μ 31 22) 300) ∧
                                (vp_in x1 60) ∧
                                (vp_in x1 60) ∧
                                ∀ μ79, μ79 = (sI (sI (sI (sI (sI (sI μ69 56 (zI μ 31 22).toNatClampNeg r71) 58 (zI μ 31 22).toNatClampNeg (-1)) 59 (zI μ 31 22).toNatClampNeg (-1)) 61 (zI μ 31 22).toNatClampNeg (-1)) 63 (zI μ 31 22).toNatClampNeg (-1)) 47 x1.toNatClampNeg ((zI (sI (sI (sI (sI (sI μ69 56 (zI μ 31 22).toNatClampNeg r71) 58 (zI μ 31 22).toNatClampNeg (-1)) 59 (zI μ 31 22).toNatClampNeg (-1)) 61 (zI μ 31 22).toNatClampNeg (-1)) 63 (zI μ 31 22).toNatClampNeg (-1)) 47 x1.toNatClampNeg) - 1)) →
                                (vp_in (zI μ 31 22) 300) ∧
                                (x5 < 0 →
                                  K (some (.int (zI μ 31 22))) (sI (sI μ79 31 22 ((zI μ79 31 22) + 1)) 31 2 ((zI (sI μ79 31 22 ((zI μ79 31 22) + 1)) 31 2) + (zI (sI μ79 31 22 ((zI μ79 31 22) + 1)) 56 (zI μ 31 22).toNatClampNeg)))) ∧
                                (¬ x5 < 0 →
                                  (vp_in x5 200) ∧
                                  ((zI (sI μ79 31 22 ((zI μ79 31 22) + 1)) 56 (zI μ 31 22).toNatClampNeg) ≤ (zI (sI μ79 31 22 ((zI μ79 31 22) + 1)) 85 x5.toNatClampNeg) →
                                    (vp_in x5 200) ∧
                                    (vp_in x5 200) ∧
                                    ∀ μ88, μ88 = (sI (sI (sI μ79 31 22 ((zI μ79 31 22) + 1)) 85 x5.toNatClampNeg ((zI (sI μ79 31 22 ((zI μ79 31 22) + 1)) 85 x5.toNatClampNeg) - (zI (sI μ79 31 22 ((zI μ79 31 22) + 1)) 56 (zI μ 31 22).toNatClampNeg))) 31 2 ((zI (sI (sI μ79 31 22 ((zI μ79 31 22) + 1)) 85 x5.toNatClampNeg ((zI (sI μ79 31 22 ((zI μ79 31 22) + 1)) 85 x5.toNatClampNeg) - (zI (sI μ79 31 22 ((zI μ79 31 22) + 1)) 56 (zI μ 31 22).toNatClampNeg))) 31 2) + ((zI (sI μ79 31 22 ((zI μ79 31 22) + 1)) 56 (zI μ 31 22).toNatClampNeg) - (zI (sI μ79 31 22 ((zI μ79 31 22) + 1)) 56 (zI μ 31 22).toNatClampNeg)))) →
                                    K (some (.int (zI μ 31 22))) μ88) ∧
                                  (¬ (zI (sI μ79 31 22 ((zI μ79 31 22) + 1)) 56 (zI μ 31 22).toNatClampNeg) ≤ (zI (sI μ79 31 22 ((zI μ79 31 22) + 1)) 85 x5.toNatClampNeg) →
                                    (vp_in x5 200) ∧
                                    (vp_in x5 200) ∧
                                    (vp_in x5 200) ∧
                                    ∀ μ94, μ94 = (sI (sI (sI μ79 31 22 ((zI μ79 31 22) + 1)) 85 x5.toNatClampNeg ((zI (sI μ79 31 22 ((zI μ79 31 22) + 1)) 85 x5.toNatClampNeg) - (zI (sI μ79 31 22 ((zI μ79 31 22) + 1)) 85 x5.toNatClampNeg))) 31 2 ((zI (sI (sI μ79 31 22 ((zI μ79 31 22) + 1)) 85 x5.toNatClampNeg ((zI (sI μ79 31 22 ((zI μ79 31 22) + 1)) 85 x5.toNatClampNeg) - (zI (sI μ79 31 22 ((zI μ79 31 22) + 1)) 85 x5.toNatClampNeg))) 31 2) + ((zI (sI μ79 31 22 ((zI μ79 31 22) + 1)) 56 (zI μ 31 22).toNatClampNeg) - (zI (sI μ79 31 22 ((zI μ79 31 22) + 1)) 85 x5.toNatClampNeg)))) →
                                    K (some (.int (zI μ 31 22))) μ94)))) ∧
                            ((zI μ 31 22) = 300 →
                              K (some (.int (-3))) μ)) ∧
                          ((zI μ 47 x1.toNatClampNeg) = 0 →
                            K (some (.int (-2))) μ)))))))))))))) : AW E l (d + 2) nc ns mX11_sell 0 [some (.ref 31), some (.int x1), some (.int x2), some (.int x3), some (.int x4), some (.int x5), none, none, none] [] μ K := by
  refine aw_aload_n (pc' := 1) (dt_X11_sell 0 (0, .aload_n 0, 1) rfl) rfl rfl (aw_iload_n (pc' := 2) (dt_X11_sell 1 (1, .iload_n 1, 1) rfl) rfl rfl (aw_inV (pc' := 5) (nc1 := 0) (ns1 := 0) (nc := nc) (ns := ns) (ls' := [some (.ref 31), some (.int x1)]) (y2 := mX11_isLot) (As := [.int x1]) (rest := []) (a := 31) (dt_X11_sell 2 (2, .invokevirtual 218, 3) rfl) ok_X11_isLot ln_ReturnDeskModel_218 im_X11_isLot se_X11_isLot pr_X11_isLot (Or.inl ⟨by decide, rfl⟩) rfl (Nat.le_of_ble_eq_true rfl) (Nat.le_of_ble_eq_true rfl) rfl rfl (sk_31 hS) (aw_iload_n (pc' := 1) (dt_X11_isLot 0 (0, .iload_n 1, 1) rfl) rfl rfl (aw_iconst (pc' := 2) (v := 0) (dt_X11_isLot 1 (1, .iconst 0, 1) rfl) (by decide) rfl (aw_aload_n (pc' := 3) (dt_X11_isLot 2 (2, .aload_n 0, 1) rfl) rfl rfl (aw_getI (pc' := 6) (dt_X11_isLot 3 (3, .getfield 195, 3) rfl) fl_ReturnDeskModel_195 rfl rfl (sk_31 hS) (aw_iconst (pc' := 7) (v := 1) (dt_X11_isLot 4 (6, .iconst 1, 1) rfl) (by decide) rfl (aw_isub (pc' := 8) (dt_X11_isLot 5 (7, .isub, 1) rfl) rfl (aw_inS (pc' := 11) (nc1 := 0) (ns1 := 0) (nc := 0) (ns := 0) (ls' := [some (.int x1), some (.int 0), some (.int ((zI μ 31 18) - 1))]) (y2 := mX11_in) (As := [.int x1, .int 0, .int ((zI μ 31 18) - 1)]) (rest := []) (dt_X11_isLot 6 (8, .invokestatic 185, 3) rfl) ok_X11_in ln_ReturnDeskModel_185 sm_X11_in pr_X11_in rfl (Nat.le_of_ble_eq_true rfl) (Nat.le_of_ble_eq_true rfl) rfl rfl (aw_iload_n (pc' := 1) (dt_X11_in 0 (0, .iload_n 0, 1) rfl) rfl rfl (aw_iload_n (pc' := 2) (dt_X11_in 1 (1, .iload_n 1, 1) rfl) rfl rfl (aw_icmp_lt (pc' := 5) (tgt := 14) (dt_X11_in 2 (2, .if_icmp .lt 12, 3) rfl) (by decide) rfl ?_ ?_))))))))))))
  · intro q1
    have h := h.1 q1
    refine aw_iconst (pc' := 15) (v := 0) (dt_X11_in 8 (14, .iconst 0, 1) rfl) (by decide) rfl (aw_iret (dt_X11_in 9 (15, .ireturn, 1) rfl) rfl rfl (aw_stk (st' := [.int 0]) rfl (aw_iret (dt_X11_isLot 7 (11, .ireturn, 1) rfl) rfl rfl (aw_stk (st' := [.int 0]) rfl (aw_if_eq_T (pc' := 8) (tgt := 71) (dt_X11_sell 3 (5, .ifCond .eq 66, 3) rfl) (by decide) rfl (by decide) (aw_iconst (pc' := 72) (v := (-1)) (dt_X11_sell 35 (71, .iconst (-1), 1) rfl) (by decide) rfl (aw_iret (dt_X11_sell 36 (72, .ireturn, 1) rfl) rfl rfl ?_)))))))
    exact h
  · intro q1
    have h := h.2 q1
    refine aw_iload_n (pc' := 6) (dt_X11_in 3 (5, .iload_n 0, 1) rfl) rfl rfl (aw_iload_n (pc' := 7) (dt_X11_in 4 (6, .iload_n 2, 1) rfl) rfl rfl (aw_icmp_gt (pc' := 10) (tgt := 14) (dt_X11_in 5 (7, .if_icmp .gt 7, 3) rfl) (by decide) rfl ?_ ?_))
    · intro q2
      have h := h.1 q2
      refine aw_iconst (pc' := 15) (v := 0) (dt_X11_in 8 (14, .iconst 0, 1) rfl) (by decide) rfl (aw_iret (dt_X11_in 9 (15, .ireturn, 1) rfl) rfl rfl (aw_stk (st' := [.int 0]) rfl (aw_iret (dt_X11_isLot 7 (11, .ireturn, 1) rfl) rfl rfl (aw_stk (st' := [.int 0]) rfl (aw_if_eq_T (pc' := 8) (tgt := 71) (dt_X11_sell 3 (5, .ifCond .eq 66, 3) rfl) (by decide) rfl (by decide) (aw_iconst (pc' := 72) (v := (-1)) (dt_X11_sell 35 (71, .iconst (-1), 1) rfl) (by decide) rfl (aw_iret (dt_X11_sell 36 (72, .ireturn, 1) rfl) rfl rfl ?_)))))))
      exact h
    · intro q2
      have h := h.2 q2
      refine aw_iconst (pc' := 11) (v := 1) (dt_X11_in 6 (10, .iconst 1, 1) rfl) (by decide) rfl (aw_goto (tgt := 15) (dt_X11_in 7 (11, .goto 4, 3) rfl) (by decide) (aw_iret (dt_X11_in 9 (15, .ireturn, 1) rfl) rfl rfl (aw_stk (st' := [.int 1]) rfl (aw_iret (dt_X11_isLot 7 (11, .ireturn, 1) rfl) rfl rfl (aw_stk (st' := [.int 1]) rfl (aw_if_eq_F (pc' := 8) (tgt := 71) (dt_X11_sell 3 (5, .ifCond .eq 66, 3) rfl) (by decide) rfl (by decide) (aw_iload_n (pc' := 9) (dt_X11_sell 4 (8, .iload_n 2, 1) rfl) rfl rfl (aw_iconst (pc' := 10) (v := 1) (dt_X11_sell 5 (9, .iconst 1, 1) rfl) (by decide) rfl (aw_ldc (pc' := 12) (dt_X11_sell 6 (10, .ldc 211, 2) rfl) ct_ReturnDeskModel_211 rfl (aw_inS (pc' := 15) (nc1 := 0) (ns1 := 0) (nc := nc) (ns := ns) (ls' := [some (.int x2), some (.int 1), some (.int 999999)]) (y2 := mX11_in) (As := [.int x2, .int 1, .int 999999]) (rest := []) (dt_X11_sell 7 (12, .invokestatic 185, 3) rfl) ok_X11_in ln_ReturnDeskModel_185 sm_X11_in pr_X11_in rfl (Nat.le_of_ble_eq_true rfl) (Nat.le_of_ble_eq_true rfl) rfl rfl (aw_iload_n (pc' := 1) (dt_X11_in 0 (0, .iload_n 0, 1) rfl) rfl rfl (aw_iload_n (pc' := 2) (dt_X11_in 1 (1, .iload_n 1, 1) rfl) rfl rfl (aw_icmp_lt (pc' := 5) (tgt := 14) (dt_X11_in 2 (2, .if_icmp .lt 12, 3) rfl) (by decide) rfl ?_ ?_)))))))))))))
      · intro q3
        have h := h.1 q3
        refine aw_iconst (pc' := 15) (v := 0) (dt_X11_in 8 (14, .iconst 0, 1) rfl) (by decide) rfl (aw_iret (dt_X11_in 9 (15, .ireturn, 1) rfl) rfl rfl (aw_stk (st' := [.int 0]) rfl (aw_if_eq_T (pc' := 18) (tgt := 71) (dt_X11_sell 8 (15, .ifCond .eq 56, 3) rfl) (by decide) rfl (by decide) (aw_iconst (pc' := 72) (v := (-1)) (dt_X11_sell 35 (71, .iconst (-1), 1) rfl) (by decide) rfl (aw_iret (dt_X11_sell 36 (72, .ireturn, 1) rfl) rfl rfl ?_)))))
        exact h
      · intro q3
        have h := h.2 q3
        refine aw_iload_n (pc' := 6) (dt_X11_in 3 (5, .iload_n 0, 1) rfl) rfl rfl (aw_iload_n (pc' := 7) (dt_X11_in 4 (6, .iload_n 2, 1) rfl) rfl rfl (aw_icmp_gt (pc' := 10) (tgt := 14) (dt_X11_in 5 (7, .if_icmp .gt 7, 3) rfl) (by decide) rfl ?_ ?_))
        · intro q4
          have h := h.1 q4
          refine aw_iconst (pc' := 15) (v := 0) (dt_X11_in 8 (14, .iconst 0, 1) rfl) (by decide) rfl (aw_iret (dt_X11_in 9 (15, .ireturn, 1) rfl) rfl rfl (aw_stk (st' := [.int 0]) rfl (aw_if_eq_T (pc' := 18) (tgt := 71) (dt_X11_sell 8 (15, .ifCond .eq 56, 3) rfl) (by decide) rfl (by decide) (aw_iconst (pc' := 72) (v := (-1)) (dt_X11_sell 35 (71, .iconst (-1), 1) rfl) (by decide) rfl (aw_iret (dt_X11_sell 36 (72, .ireturn, 1) rfl) rfl rfl ?_)))))
          exact h
        · intro q4
          have h := h.2 q4
          refine aw_iconst (pc' := 11) (v := 1) (dt_X11_in 6 (10, .iconst 1, 1) rfl) (by decide) rfl (aw_goto (tgt := 15) (dt_X11_in 7 (11, .goto 4, 3) rfl) (by decide) (aw_iret (dt_X11_in 9 (15, .ireturn, 1) rfl) rfl rfl (aw_stk (st' := [.int 1]) rfl (aw_if_eq_F (pc' := 18) (tgt := 71) (dt_X11_sell 8 (15, .ifCond .eq 56, 3) rfl) (by decide) rfl (by decide) (aw_iload_n (pc' := 19) (dt_X11_sell 9 (18, .iload_n 3, 1) rfl) rfl rfl (aw_iconst (pc' := 20) (v := 0) (dt_X11_sell 10 (19, .iconst 0, 1) rfl) (by decide) rfl (aw_sipush (pc' := 23) (v := 20999) (dt_X11_sell 11 (20, .sipush 20999, 3) rfl) (by decide) rfl (aw_inS (pc' := 26) (nc1 := 0) (ns1 := 0) (nc := nc) (ns := ns) (ls' := [some (.int x3), some (.int 0), some (.int 20999)]) (y2 := mX11_in) (As := [.int x3, .int 0, .int 20999]) (rest := []) (dt_X11_sell 12 (23, .invokestatic 185, 3) rfl) ok_X11_in ln_ReturnDeskModel_185 sm_X11_in pr_X11_in rfl (Nat.le_of_ble_eq_true rfl) (Nat.le_of_ble_eq_true rfl) rfl rfl (aw_iload_n (pc' := 1) (dt_X11_in 0 (0, .iload_n 0, 1) rfl) rfl rfl (aw_iload_n (pc' := 2) (dt_X11_in 1 (1, .iload_n 1, 1) rfl) rfl rfl (aw_icmp_lt (pc' := 5) (tgt := 14) (dt_X11_in 2 (2, .if_icmp .lt 12, 3) rfl) (by decide) rfl ?_ ?_)))))))))))
          · intro q5
            have h := h.1 q5
            refine aw_iconst (pc' := 15) (v := 0) (dt_X11_in 8 (14, .iconst 0, 1) rfl) (by decide) rfl (aw_iret (dt_X11_in 9 (15, .ireturn, 1) rfl) rfl rfl (aw_stk (st' := [.int 0]) rfl (aw_if_eq_T (pc' := 29) (tgt := 71) (dt_X11_sell 13 (26, .ifCond .eq 45, 3) rfl) (by decide) rfl (by decide) (aw_iconst (pc' := 72) (v := (-1)) (dt_X11_sell 35 (71, .iconst (-1), 1) rfl) (by decide) rfl (aw_iret (dt_X11_sell 36 (72, .ireturn, 1) rfl) rfl rfl ?_)))))
            exact h
          · intro q5
            have h := h.2 q5
            refine aw_iload_n (pc' := 6) (dt_X11_in 3 (5, .iload_n 0, 1) rfl) rfl rfl (aw_iload_n (pc' := 7) (dt_X11_in 4 (6, .iload_n 2, 1) rfl) rfl rfl (aw_icmp_gt (pc' := 10) (tgt := 14) (dt_X11_in 5 (7, .if_icmp .gt 7, 3) rfl) (by decide) rfl ?_ ?_))
            · intro q6
              have h := h.1 q6
              refine aw_iconst (pc' := 15) (v := 0) (dt_X11_in 8 (14, .iconst 0, 1) rfl) (by decide) rfl (aw_iret (dt_X11_in 9 (15, .ireturn, 1) rfl) rfl rfl (aw_stk (st' := [.int 0]) rfl (aw_if_eq_T (pc' := 29) (tgt := 71) (dt_X11_sell 13 (26, .ifCond .eq 45, 3) rfl) (by decide) rfl (by decide) (aw_iconst (pc' := 72) (v := (-1)) (dt_X11_sell 35 (71, .iconst (-1), 1) rfl) (by decide) rfl (aw_iret (dt_X11_sell 36 (72, .ireturn, 1) rfl) rfl rfl ?_)))))
              exact h
            · intro q6
              have h := h.2 q6
              refine aw_iconst (pc' := 11) (v := 1) (dt_X11_in 6 (10, .iconst 1, 1) rfl) (by decide) rfl (aw_goto (tgt := 15) (dt_X11_in 7 (11, .goto 4, 3) rfl) (by decide) (aw_iret (dt_X11_in 9 (15, .ireturn, 1) rfl) rfl rfl (aw_stk (st' := [.int 1]) rfl (aw_if_eq_F (pc' := 29) (tgt := 71) (dt_X11_sell 13 (26, .ifCond .eq 45, 3) rfl) (by decide) rfl (by decide) (aw_iload (pc' := 31) (dt_X11_sell 14 (29, .iload 4, 2) rfl) rfl rfl (aw_iconst (pc' := 32) (v := 0) (dt_X11_sell 15 (31, .iconst 0, 1) rfl) (by decide) rfl (aw_ldc (pc' := 34) (dt_X11_sell 16 (32, .ldc 211, 2) rfl) ct_ReturnDeskModel_211 rfl (aw_inS (pc' := 37) (nc1 := 0) (ns1 := 0) (nc := nc) (ns := ns) (ls' := [some (.int x4), some (.int 0), some (.int 999999)]) (y2 := mX11_in) (As := [.int x4, .int 0, .int 999999]) (rest := []) (dt_X11_sell 17 (34, .invokestatic 185, 3) rfl) ok_X11_in ln_ReturnDeskModel_185 sm_X11_in pr_X11_in rfl (Nat.le_of_ble_eq_true rfl) (Nat.le_of_ble_eq_true rfl) rfl rfl (aw_iload_n (pc' := 1) (dt_X11_in 0 (0, .iload_n 0, 1) rfl) rfl rfl (aw_iload_n (pc' := 2) (dt_X11_in 1 (1, .iload_n 1, 1) rfl) rfl rfl (aw_icmp_lt (pc' := 5) (tgt := 14) (dt_X11_in 2 (2, .if_icmp .lt 12, 3) rfl) (by decide) rfl ?_ ?_)))))))))))
              · intro q7
                have h := h.1 q7
                refine aw_iconst (pc' := 15) (v := 0) (dt_X11_in 8 (14, .iconst 0, 1) rfl) (by decide) rfl (aw_iret (dt_X11_in 9 (15, .ireturn, 1) rfl) rfl rfl (aw_stk (st' := [.int 0]) rfl (aw_if_eq_T (pc' := 40) (tgt := 71) (dt_X11_sell 18 (37, .ifCond .eq 34, 3) rfl) (by decide) rfl (by decide) (aw_iconst (pc' := 72) (v := (-1)) (dt_X11_sell 35 (71, .iconst (-1), 1) rfl) (by decide) rfl (aw_iret (dt_X11_sell 36 (72, .ireturn, 1) rfl) rfl rfl ?_)))))
                exact h
              · intro q7
                have h := h.2 q7
                refine aw_iload_n (pc' := 6) (dt_X11_in 3 (5, .iload_n 0, 1) rfl) rfl rfl (aw_iload_n (pc' := 7) (dt_X11_in 4 (6, .iload_n 2, 1) rfl) rfl rfl (aw_icmp_gt (pc' := 10) (tgt := 14) (dt_X11_in 5 (7, .if_icmp .gt 7, 3) rfl) (by decide) rfl ?_ ?_))
                · intro q8
                  have h := h.1 q8
                  refine aw_iconst (pc' := 15) (v := 0) (dt_X11_in 8 (14, .iconst 0, 1) rfl) (by decide) rfl (aw_iret (dt_X11_in 9 (15, .ireturn, 1) rfl) rfl rfl (aw_stk (st' := [.int 0]) rfl (aw_if_eq_T (pc' := 40) (tgt := 71) (dt_X11_sell 18 (37, .ifCond .eq 34, 3) rfl) (by decide) rfl (by decide) (aw_iconst (pc' := 72) (v := (-1)) (dt_X11_sell 35 (71, .iconst (-1), 1) rfl) (by decide) rfl (aw_iret (dt_X11_sell 36 (72, .ireturn, 1) rfl) rfl rfl ?_)))))
                  exact h
                · intro q8
                  have h := h.2 q8
                  refine aw_iconst (pc' := 11) (v := 1) (dt_X11_in 6 (10, .iconst 1, 1) rfl) (by decide) rfl (aw_goto (tgt := 15) (dt_X11_in 7 (11, .goto 4, 3) rfl) (by decide) (aw_iret (dt_X11_in 9 (15, .ireturn, 1) rfl) rfl rfl (aw_stk (st' := [.int 1]) rfl (aw_if_eq_F (pc' := 40) (tgt := 71) (dt_X11_sell 18 (37, .ifCond .eq 34, 3) rfl) (by decide) rfl (by decide) (aw_iload (pc' := 42) (dt_X11_sell 19 (40, .iload 4, 2) rfl) rfl rfl (aw_bipush (pc' := 44) (v := 100) (dt_X11_sell 20 (42, .bipush 100, 2) rfl) (by decide) rfl (aw_irem (pc' := 45) (dt_X11_sell 21 (44, .irem, 1) rfl) (by decide) rfl (aw_bipush (pc' := 47) (v := 60) (dt_X11_sell 22 (45, .bipush 60, 2) rfl) (by decide) rfl (aw_icmp_gt (pc' := 50) (tgt := 71) (dt_X11_sell 23 (47, .if_icmp .gt 24, 3) rfl) (by decide) rfl ?_ ?_)))))))))
                  · intro q9
                    have h := h.1 q9
                    refine aw_iconst (pc' := 72) (v := (-1)) (dt_X11_sell 35 (71, .iconst (-1), 1) rfl) (by decide) rfl (aw_iret (dt_X11_sell 36 (72, .ireturn, 1) rfl) rfl rfl ?_)
                    exact h
                  · intro q9
                    have h := h.2 q9
                    refine aw_iload (pc' := 52) (dt_X11_sell 24 (50, .iload 5, 2) rfl) rfl rfl (aw_iconst (pc' := 53) (v := (-1)) (dt_X11_sell 25 (52, .iconst (-1), 1) rfl) (by decide) rfl (aw_icmp_eq (pc' := 56) (tgt := 73) (dt_X11_sell 26 (53, .if_icmp .eq 20, 3) rfl) (by decide) rfl ?_ ?_))
                    · intro q10
                      have h := h.1 q10
                      obtain ⟨g11, h⟩ := h
                      refine aw_aload_n (pc' := 74) (dt_X11_sell 37 (73, .aload_n 0, 1) rfl) rfl rfl (aw_getAs (pc' := 77) (dt_X11_sell 38 (74, .getfield 56, 3) rfl) fl_ReturnDeskModel_56 rfl rfl (sk_31 hS) (sa_31_21 hS) (aw_iload_n (pc' := 78) (dt_X11_sell 39 (77, .iload_n 1, 1) rfl) rfl rfl (aw_iald (pc' := 79) (dt_X11_sell 40 (78, .iaload, 1) rfl) rfl (sk_47 hS) (vin_eq (sl_47 hS) g11) (aw_if_ne (pc' := 82) (tgt := 85) (dt_X11_sell 41 (79, .ifCond .ne 6, 3) rfl) (by decide) rfl ?_ ?_))))
                      · intro q12
                        have h := h.1 q12
                        refine aw_aload_n (pc' := 86) (dt_X11_sell 44 (85, .aload_n 0, 1) rfl) rfl rfl (aw_getI (pc' := 89) (dt_X11_sell 45 (86, .getfield 215, 3) rfl) fl_ReturnDeskModel_215 rfl rfl (sk_31 hS) (aw_sipush (pc' := 92) (v := 300) (dt_X11_sell 46 (89, .sipush 300, 3) rfl) (by decide) rfl (aw_icmp_ne (pc' := 95) (tgt := 98) (dt_X11_sell 47 (92, .if_icmp .ne 6, 3) rfl) (by decide) rfl ?_ ?_)))
                        · intro q13
                          have h := h.1 q13
                          obtain ⟨g14, h⟩ := h
                          obtain ⟨g15, h⟩ := h
                          obtain ⟨g16, h⟩ := h
                          obtain ⟨g17, h⟩ := h
                          obtain ⟨g18, h⟩ := h
                          obtain ⟨g19, h⟩ := h
                          refine aw_aload_n (pc' := 99) (dt_X11_sell 50 (98, .aload_n 0, 1) rfl) rfl rfl (aw_getI (pc' := 102) (dt_X11_sell 51 (99, .getfield 215, 3) rfl) fl_ReturnDeskModel_215 rfl rfl (sk_31 hS) (aw_istore (pc' := 104) (ls' := [some (.ref 31), some (.int x1), some (.int x2), some (.int x3), some (.int x4), some (.int x5), some (.int (zI μ 31 22)), none, none]) (dt_X11_sell 52 (102, .istore 6, 2) rfl) (by decide) rfl rfl (aw_aload_n (pc' := 105) (dt_X11_sell 53 (104, .aload_n 0, 1) rfl) rfl rfl (aw_getAs (pc' := 108) (dt_X11_sell 54 (105, .getfield 62, 3) rfl) fl_ReturnDeskModel_62 rfl rfl (sk_31 hS) (sa_31_24 hS) (aw_iload (pc' := 110) (dt_X11_sell 55 (108, .iload 6, 2) rfl) rfl rfl (aw_iload_n (pc' := 111) (dt_X11_sell 56 (110, .iload_n 1, 1) rfl) rfl rfl (aw_iast (pc' := 112) (dt_X11_sell 57 (111, .iastore, 1) rfl) rfl (sk_49 hS) (by decide) (vin_eq (sl_49 hS) g14) (aw_aload_n (pc' := 113) (dt_X11_sell 58 (112, .aload_n 0, 1) rfl) rfl rfl (aw_getAs (pc' := 116) (dt_X11_sell 59 (113, .getfield 65, 3) rfl) fl_ReturnDeskModel_65 rfl rfl (sk_31 hS.wI) (sa_31_25 hS.wI) (aw_iload (pc' := 118) (dt_X11_sell 60 (116, .iload 6, 2) rfl) rfl rfl (aw_iload_n (pc' := 119) (dt_X11_sell 61 (118, .iload_n 3, 1) rfl) rfl rfl (aw_sipush (pc' := 122) (v := 1000) (dt_X11_sell 62 (119, .sipush 1000, 3) rfl) (by decide) rfl (aw_idiv (pc' := 123) (dt_X11_sell 63 (122, .idiv, 1) rfl) (by decide) rfl (aw_iast (pc' := 124) (dt_X11_sell 64 (123, .iastore, 1) rfl) rfl (sk_50 hS.wI) (by decide) (vin_eq (sl_50 hS.wI) g15) (aw_aload_n (pc' := 125) (dt_X11_sell 65 (124, .aload_n 0, 1) rfl) rfl rfl (aw_getAs (pc' := 128) (dt_X11_sell 66 (125, .getfield 77, 3) rfl) fl_ReturnDeskModel_77 rfl rfl (sk_31 hS.wI.wI) (sa_31_29 hS.wI.wI) (aw_iload (pc' := 130) (dt_X11_sell 67 (128, .iload 6, 2) rfl) rfl rfl (aw_iload_n (pc' := 131) (dt_X11_sell 68 (130, .iload_n 3, 1) rfl) rfl rfl (aw_sipush (pc' := 134) (v := 1000) (dt_X11_sell 69 (131, .sipush 1000, 3) rfl) (by decide) rfl (aw_irem (pc' := 135) (dt_X11_sell 70 (134, .irem, 1) rfl) (by decide) rfl (aw_iast (pc' := 136) (dt_X11_sell 71 (135, .iastore, 1) rfl) rfl (sk_54 hS.wI.wI) (by decide) (vin_eq (sl_54 hS.wI.wI) g16) (aw_aload_n (pc' := 137) (dt_X11_sell 72 (136, .aload_n 0, 1) rfl) rfl rfl (aw_getAs (pc' := 140) (dt_X11_sell 73 (137, .getfield 68, 3) rfl) fl_ReturnDeskModel_68 rfl rfl (sk_31 hS.wI.wI.wI) (sa_31_26 hS.wI.wI.wI) (aw_iload (pc' := 142) (dt_X11_sell 74 (140, .iload 6, 2) rfl) rfl rfl (aw_iload_n (pc' := 143) (dt_X11_sell 75 (142, .iload_n 2, 1) rfl) rfl rfl (aw_iast (pc' := 144) (dt_X11_sell 76 (143, .iastore, 1) rfl) rfl (sk_51 hS.wI.wI.wI) (by decide) (vin_eq (sl_51 hS.wI.wI.wI) g17) (aw_aload_n (pc' := 145) (dt_X11_sell 77 (144, .aload_n 0, 1) rfl) rfl rfl (aw_getAs (pc' := 148) (dt_X11_sell 78 (145, .getfield 71, 3) rfl) fl_ReturnDeskModel_71 rfl rfl (sk_31 hS.wI.wI.wI.wI) (sa_31_27 hS.wI.wI.wI.wI) (aw_iload (pc' := 150) (dt_X11_sell 79 (148, .iload 6, 2) rfl) rfl rfl (aw_iload (pc' := 152) (dt_X11_sell 80 (150, .iload 4, 2) rfl) rfl rfl (aw_bipush (pc' := 154) (v := 100) (dt_X11_sell 81 (152, .bipush 100, 2) rfl) (by decide) rfl (aw_idiv (pc' := 155) (dt_X11_sell 82 (154, .idiv, 1) rfl) (by decide) rfl (aw_iast (pc' := 156) (dt_X11_sell 83 (155, .iastore, 1) rfl) rfl (sk_52 hS.wI.wI.wI.wI) (by decide) (vin_eq (sl_52 hS.wI.wI.wI.wI) g18) (aw_aload_n (pc' := 157) (dt_X11_sell 84 (156, .aload_n 0, 1) rfl) rfl rfl (aw_getAs (pc' := 160) (dt_X11_sell 85 (157, .getfield 74, 3) rfl) fl_ReturnDeskModel_74 rfl rfl (sk_31 hS.wI.wI.wI.wI.wI) (sa_31_28 hS.wI.wI.wI.wI.wI) (aw_iload (pc' := 162) (dt_X11_sell 86 (160, .iload 6, 2) rfl) rfl rfl (aw_iload (pc' := 164) (dt_X11_sell 87 (162, .iload 4, 2) rfl) rfl rfl (aw_bipush (pc' := 166) (v := 100) (dt_X11_sell 88 (164, .bipush 100, 2) rfl) (by decide) rfl (aw_irem (pc' := 167) (dt_X11_sell 89 (166, .irem, 1) rfl) (by decide) rfl (aw_iast (pc' := 168) (dt_X11_sell 90 (167, .iastore, 1) rfl) rfl (sk_53 hS.wI.wI.wI.wI.wI) (by decide) (vin_eq (sl_53 hS.wI.wI.wI.wI.wI) g19) ?_))))))))))))))))))))))))))))))))))))))))
                          refine aw_mem (fun μ20 eμ21 => ?_)
                          have h := h μ20 eμ21
                          have hS22 : Stat μ20 := by rw [eμ21]; exact hS.wI.wI.wI.wI.wI.wI
                          obtain ⟨g23, h⟩ := h
                          obtain ⟨g24, h⟩ := h
                          refine aw_aload_n (pc' := 169) (dt_X11_sell 91 (168, .aload_n 0, 1) rfl) rfl rfl (aw_getAs (pc' := 172) (dt_X11_sell 92 (169, .getfield 80, 3) rfl) fl_ReturnDeskModel_80 rfl rfl (sk_31 hS22) (sa_31_30 hS22) (aw_iload (pc' := 174) (dt_X11_sell 93 (172, .iload 6, 2) rfl) rfl rfl (aw_aload_n (pc' := 175) (dt_X11_sell 94 (174, .aload_n 0, 1) rfl) rfl rfl (aw_getI (pc' := 178) (dt_X11_sell 95 (175, .getfield 189, 3) rfl) fl_ReturnDeskModel_189 rfl rfl (sk_31 hS22) (aw_iast (pc' := 179) (dt_X11_sell 96 (178, .iastore, 1) rfl) rfl (sk_55 hS22) (by decide) (vin_eq (sl_55 hS22) g23) (aw_aload_n (pc' := 180) (dt_X11_sell 97 (179, .aload_n 0, 1) rfl) rfl rfl (aw_getAs (pc' := 183) (dt_X11_sell 98 (180, .getfield 83, 3) rfl) fl_ReturnDeskModel_83 rfl rfl (sk_31 hS22.wI) (sa_31_31 hS22.wI) (aw_iload (pc' := 185) (dt_X11_sell 99 (183, .iload 6, 2) rfl) rfl rfl (aw_aload_n (pc' := 186) (dt_X11_sell 100 (185, .aload_n 0, 1) rfl) rfl rfl (aw_aload_n (pc' := 187) (dt_X11_sell 101 (186, .aload_n 0, 1) rfl) rfl rfl (aw_getAs (pc' := 190) (dt_X11_sell 102 (187, .getfield 50, 3) rfl) fl_ReturnDeskModel_50 rfl rfl (sk_31 hS22.wI) (sa_31_19 hS22.wI) (aw_iload_n (pc' := 191) (dt_X11_sell 103 (190, .iload_n 1, 1) rfl) rfl rfl (aw_iald (pc' := 192) (dt_X11_sell 104 (191, .iaload, 1) rfl) rfl (sk_45 hS22.wI) (vin_eq (sl_45 hS22.wI) g24) (aw_aload_n (pc' := 193) (dt_X11_sell 105 (192, .aload_n 0, 1) rfl) rfl rfl (aw_inV (pc' := 196) (nc1 := 0) (ns1 := 0) (nc := nc) (ns := ns) (ls' := [some (.ref 31)]) (y2 := mX11_today) (As := []) (rest := [.int (zI (sI μ20 55 (zI μ 31 22).toNatClampNeg (zI μ20 31 1)) 45 x1.toNatClampNeg), .ref 31, .int (zI μ 31 22), .ref 56]) (a := 31) (dt_X11_sell 106 (193, .invokevirtual 224, 3) rfl) ok_X11_today ln_ReturnDeskModel_224 im_X11_today se_X11_today pr_X11_today (Or.inl ⟨by decide, rfl⟩) rfl (Nat.le_of_ble_eq_true rfl) (Nat.le_of_ble_eq_true rfl) rfl rfl (sk_31 hS22.wI) (aw_aload_n (pc' := 1) (dt_X11_today 0 (0, .aload_n 0, 1) rfl) rfl rfl (aw_getI (pc' := 4) (dt_X11_today 1 (1, .getfield 189, 3) rfl) fl_ReturnDeskModel_189 rfl rfl (sk_31 hS22.wI) (aw_bipush (pc' := 6) (v := 24) (dt_X11_today 2 (4, .bipush 24, 2) rfl) (by decide) rfl (aw_idiv (pc' := 7) (dt_X11_today 3 (6, .idiv, 1) rfl) (by decide) rfl (aw_iret (dt_X11_today 4 (7, .ireturn, 1) rfl) rfl rfl (aw_stk (st' := [.int ((zI (sI μ20 55 (zI μ 31 22).toNatClampNeg (zI μ20 31 1)) 31 1) / 24), .int (zI (sI μ20 55 (zI μ 31 22).toNatClampNeg (zI μ20 31 1)) 45 x1.toNatClampNeg), .ref 31, .int (zI μ 31 22), .ref 56]) rfl (aw_callV0 (pc' := 199) (nc := nc) (ns := ns) (y2 := mX11_priceAt) (As := [.int (zI (sI μ20 55 (zI μ 31 22).toNatClampNeg (zI μ20 31 1)) 45 x1.toNatClampNeg), .int ((zI (sI μ20 55 (zI μ 31 22).toNatClampNeg (zI μ20 31 1)) 31 1) / 24)]) (rest := [.int (zI μ 31 22), .ref 56]) (a := 31) (dt_X11_sell 107 (196, .invokevirtual 206, 3) rfl) ok_X11_priceAt ln_ReturnDeskModel_206 im_X11_priceAt se_X11_priceAt pr_X11_priceAt (Or.inl ⟨by decide, rfl⟩) rfl (Nat.le_of_ble_eq_true rfl) (Nat.le_of_ble_eq_true rfl) rfl (sk_31 hS22.wI) h ?_))))))))))))))))))))))
                          rintro v μ25 ⟨r27, rfl, hS26, h⟩
                          refine aw_stk (st' := [.int r27, .int (zI μ 31 22), .ref 56]) rfl ?_
                          obtain ⟨g28, h⟩ := h
                          obtain ⟨g29, h⟩ := h
                          obtain ⟨g30, h⟩ := h
                          obtain ⟨g31, h⟩ := h
                          obtain ⟨g32, h⟩ := h
                          obtain ⟨g33, h⟩ := h
                          obtain ⟨g34, h⟩ := h
                          refine aw_iast (pc' := 200) (dt_X11_sell 108 (199, .iastore, 1) rfl) rfl (sk_56 hS26) (by decide) (vin_eq (sl_56 hS26) g28) (aw_aload_n (pc' := 201) (dt_X11_sell 109 (200, .aload_n 0, 1) rfl) rfl rfl (aw_getAs (pc' := 204) (dt_X11_sell 110 (201, .getfield 89, 3) rfl) fl_ReturnDeskModel_89 rfl rfl (sk_31 hS26.wI) (sa_31_33 hS26.wI) (aw_iload (pc' := 206) (dt_X11_sell 111 (204, .iload 6, 2) rfl) rfl rfl (aw_iconst (pc' := 207) (v := (-1)) (dt_X11_sell 112 (206, .iconst (-1), 1) rfl) (by decide) rfl (aw_iast (pc' := 208) (dt_X11_sell 113 (207, .iastore, 1) rfl) rfl (sk_58 hS26.wI) (by decide) (vin_eq (sl_58 hS26.wI) g29) (aw_aload_n (pc' := 209) (dt_X11_sell 114 (208, .aload_n 0, 1) rfl) rfl rfl (aw_getAs (pc' := 212) (dt_X11_sell 115 (209, .getfield 92, 3) rfl) fl_ReturnDeskModel_92 rfl rfl (sk_31 hS26.wI.wI) (sa_31_34 hS26.wI.wI) (aw_iload (pc' := 214) (dt_X11_sell 116 (212, .iload 6, 2) rfl) rfl rfl (aw_iconst (pc' := 215) (v := (-1)) (dt_X11_sell 117 (214, .iconst (-1), 1) rfl) (by decide) rfl (aw_iast (pc' := 216) (dt_X11_sell 118 (215, .iastore, 1) rfl) rfl (sk_59 hS26.wI.wI) (by decide) (vin_eq (sl_59 hS26.wI.wI) g30) (aw_aload_n (pc' := 217) (dt_X11_sell 119 (216, .aload_n 0, 1) rfl) rfl rfl (aw_getAs (pc' := 220) (dt_X11_sell 120 (217, .getfield 98, 3) rfl) fl_ReturnDeskModel_98 rfl rfl (sk_31 hS26.wI.wI.wI) (sa_31_36 hS26.wI.wI.wI) (aw_iload (pc' := 222) (dt_X11_sell 121 (220, .iload 6, 2) rfl) rfl rfl (aw_iconst (pc' := 223) (v := (-1)) (dt_X11_sell 122 (222, .iconst (-1), 1) rfl) (by decide) rfl (aw_iast (pc' := 224) (dt_X11_sell 123 (223, .iastore, 1) rfl) rfl (sk_61 hS26.wI.wI.wI) (by decide) (vin_eq (sl_61 hS26.wI.wI.wI) g31) (aw_aload_n (pc' := 225) (dt_X11_sell 124 (224, .aload_n 0, 1) rfl) rfl rfl (aw_getAs (pc' := 228) (dt_X11_sell 125 (225, .getfield 104, 3) rfl) fl_ReturnDeskModel_104 rfl rfl (sk_31 hS26.wI.wI.wI.wI) (sa_31_38 hS26.wI.wI.wI.wI) (aw_iload (pc' := 230) (dt_X11_sell 126 (228, .iload 6, 2) rfl) rfl rfl (aw_iconst (pc' := 231) (v := (-1)) (dt_X11_sell 127 (230, .iconst (-1), 1) rfl) (by decide) rfl (aw_iast (pc' := 232) (dt_X11_sell 128 (231, .iastore, 1) rfl) rfl (sk_63 hS26.wI.wI.wI.wI) (by decide) (vin_eq (sl_63 hS26.wI.wI.wI.wI) g32) (aw_aload_n (pc' := 233) (dt_X11_sell 129 (232, .aload_n 0, 1) rfl) rfl rfl (aw_getAs (pc' := 236) (dt_X11_sell 130 (233, .getfield 56, 3) rfl) fl_ReturnDeskModel_56 rfl rfl (sk_31 hS26.wI.wI.wI.wI.wI) (sa_31_21 hS26.wI.wI.wI.wI.wI) (aw_iload_n (pc' := 237) (dt_X11_sell 131 (236, .iload_n 1, 1) rfl) rfl rfl (aw_dup2 (pc' := 238) (dt_X11_sell 132 (237, .dup2, 1) rfl) rfl rfl rfl (aw_iald (pc' := 239) (dt_X11_sell 133 (238, .iaload, 1) rfl) rfl (sk_47 hS26.wI.wI.wI.wI.wI) (vin_eq (sl_47 hS26.wI.wI.wI.wI.wI) g33) (aw_iconst (pc' := 240) (v := 1) (dt_X11_sell 134 (239, .iconst 1, 1) rfl) (by decide) rfl (aw_isub (pc' := 241) (dt_X11_sell 135 (240, .isub, 1) rfl) rfl (aw_iast (pc' := 242) (dt_X11_sell 136 (241, .iastore, 1) rfl) rfl (sk_47 hS26.wI.wI.wI.wI.wI) (by decide) (vin_eq (sl_47 hS26.wI.wI.wI.wI.wI) g34) ?_))))))))))))))))))))))))))))
                          refine aw_mem (fun μ35 eμ36 => ?_)
                          have h := h μ35 eμ36
                          have hS37 : Stat μ35 := by rw [eμ36]; exact hS26.wI.wI.wI.wI.wI.wI
                          obtain ⟨g38, h⟩ := h
                          refine aw_aload_n (pc' := 243) (dt_X11_sell 137 (242, .aload_n 0, 1) rfl) rfl rfl (aw_dup (pc' := 244) (dt_X11_sell 138 (243, .dup, 1) rfl) rfl rfl (aw_getI (pc' := 247) (dt_X11_sell 139 (244, .getfield 215, 3) rfl) fl_ReturnDeskModel_215 rfl rfl (sk_31 hS37) (aw_iconst (pc' := 248) (v := 1) (dt_X11_sell 140 (247, .iconst 1, 1) rfl) (by decide) rfl (aw_iadd (pc' := 249) (dt_X11_sell 141 (248, .iadd, 1) rfl) rfl (aw_putI (pc' := 252) (dt_X11_sell 142 (249, .putfield 215, 3) rfl) fl_ReturnDeskModel_215 rfl (by decide +kernel) rfl (sk_31 hS37) (aw_aload_n (pc' := 253) (dt_X11_sell 143 (252, .aload_n 0, 1) rfl) rfl rfl (aw_getAs (pc' := 256) (dt_X11_sell 144 (253, .getfield 83, 3) rfl) fl_ReturnDeskModel_83 rfl rfl (sk_31 hS37.wI) (sa_31_31 hS37.wI) (aw_iload (pc' := 258) (dt_X11_sell 145 (256, .iload 6, 2) rfl) rfl rfl (aw_iald (pc' := 259) (dt_X11_sell 146 (258, .iaload, 1) rfl) rfl (sk_56 hS37.wI) (vin_eq (sl_56 hS37.wI) g38) (aw_istore (pc' := 261) (ls' := [some (.ref 31), some (.int x1), some (.int x2), some (.int x3), some (.int x4), some (.int x5), some (.int (zI μ 31 22)), some (.int (zI (sI μ35 31 22 ((zI μ35 31 22) + 1)) 56 (zI μ 31 22).toNatClampNeg)), none]) (dt_X11_sell 147 (259, .istore 7, 2) rfl) (by decide) rfl rfl (aw_iload (pc' := 263) (dt_X11_sell 148 (261, .iload 5, 2) rfl) rfl rfl (aw_if_lt (pc' := 266) (tgt := 311) (dt_X11_sell 149 (263, .ifCond .lt 48, 3) rfl) (by decide) rfl ?_ ?_))))))))))))
                          · intro q39
                            have h := h.1 q39
                            refine aw_aload_n (pc' := 312) (dt_X11_sell 175 (311, .aload_n 0, 1) rfl) rfl rfl (aw_dup (pc' := 313) (dt_X11_sell 176 (312, .dup, 1) rfl) rfl rfl (aw_getI (pc' := 316) (dt_X11_sell 177 (313, .getfield 212, 3) rfl) fl_ReturnDeskModel_212 rfl rfl (sk_31 hS37.wI) (aw_iload (pc' := 318) (dt_X11_sell 178 (316, .iload 7, 2) rfl) rfl rfl (aw_iadd (pc' := 319) (dt_X11_sell 179 (318, .iadd, 1) rfl) rfl (aw_putI (pc' := 322) (dt_X11_sell 180 (319, .putfield 212, 3) rfl) fl_ReturnDeskModel_212 rfl (by decide +kernel) rfl (sk_31 hS37.wI) (aw_iload (pc' := 324) (dt_X11_sell 181 (322, .iload 6, 2) rfl) rfl rfl (aw_iret (dt_X11_sell 182 (324, .ireturn, 1) rfl) rfl rfl ?_)))))))
                            exact h
                          · intro q39
                            have h := h.2 q39
                            obtain ⟨g40, h⟩ := h
                            refine aw_aload_n (pc' := 267) (dt_X11_sell 150 (266, .aload_n 0, 1) rfl) rfl rfl (aw_getAs (pc' := 270) (dt_X11_sell 151 (267, .getfield 171, 3) rfl) fl_ReturnDeskModel_171 rfl rfl (sk_31 hS37.wI) (sa_31_75 hS37.wI) (aw_iload (pc' := 272) (dt_X11_sell 152 (270, .iload 5, 2) rfl) rfl rfl (aw_iald (pc' := 273) (dt_X11_sell 153 (272, .iaload, 1) rfl) rfl (sk_85 hS37.wI) (vin_eq (sl_85 hS37.wI) g40) (aw_iload (pc' := 275) (dt_X11_sell 154 (273, .iload 7, 2) rfl) rfl rfl (aw_icmp_ge (pc' := 278) (tgt := 288) (dt_X11_sell 155 (275, .if_icmp .ge 13, 3) rfl) (by decide) rfl ?_ ?_)))))
                            · intro q41
                              have h := h.1 q41
                              obtain ⟨g42, h⟩ := h
                              obtain ⟨g43, h⟩ := h
                              refine aw_iload (pc' := 290) (dt_X11_sell 161 (288, .iload 7, 2) rfl) rfl rfl (aw_istore (pc' := 292) (ls' := [some (.ref 31), some (.int x1), some (.int x2), some (.int x3), some (.int x4), some (.int x5), some (.int (zI μ 31 22)), some (.int (zI (sI μ35 31 22 ((zI μ35 31 22) + 1)) 56 (zI μ 31 22).toNatClampNeg)), some (.int (zI (sI μ35 31 22 ((zI μ35 31 22) + 1)) 56 (zI μ 31 22).toNatClampNeg))]) (dt_X11_sell 162 (290, .istore 8, 2) rfl) (by decide) rfl rfl (aw_aload_n (pc' := 293) (dt_X11_sell 163 (292, .aload_n 0, 1) rfl) rfl rfl (aw_getAs (pc' := 296) (dt_X11_sell 164 (293, .getfield 171, 3) rfl) fl_ReturnDeskModel_171 rfl rfl (sk_31 hS37.wI) (sa_31_75 hS37.wI) (aw_iload (pc' := 298) (dt_X11_sell 165 (296, .iload 5, 2) rfl) rfl rfl (aw_dup2 (pc' := 299) (dt_X11_sell 166 (298, .dup2, 1) rfl) rfl rfl rfl (aw_iald (pc' := 300) (dt_X11_sell 167 (299, .iaload, 1) rfl) rfl (sk_85 hS37.wI) (vin_eq (sl_85 hS37.wI) g42) (aw_iload (pc' := 302) (dt_X11_sell 168 (300, .iload 8, 2) rfl) rfl rfl (aw_isub (pc' := 303) (dt_X11_sell 169 (302, .isub, 1) rfl) rfl (aw_iast (pc' := 304) (dt_X11_sell 170 (303, .iastore, 1) rfl) rfl (sk_85 hS37.wI) (by decide) (vin_eq (sl_85 hS37.wI) g43) (aw_iload (pc' := 306) (dt_X11_sell 171 (304, .iload 7, 2) rfl) rfl rfl (aw_iload (pc' := 308) (dt_X11_sell 172 (306, .iload 8, 2) rfl) rfl rfl (aw_isub (pc' := 309) (dt_X11_sell 173 (308, .isub, 1) rfl) rfl (aw_istore (pc' := 311) (ls' := [some (.ref 31), some (.int x1), some (.int x2), some (.int x3), some (.int x4), some (.int x5), some (.int (zI μ 31 22)), some (.int ((zI (sI μ35 31 22 ((zI μ35 31 22) + 1)) 56 (zI μ 31 22).toNatClampNeg) - (zI (sI μ35 31 22 ((zI μ35 31 22) + 1)) 56 (zI μ 31 22).toNatClampNeg))), some (.int (zI (sI μ35 31 22 ((zI μ35 31 22) + 1)) 56 (zI μ 31 22).toNatClampNeg))]) (dt_X11_sell 174 (309, .istore 7, 2) rfl) (by decide) rfl rfl (aw_aload_n (pc' := 312) (dt_X11_sell 175 (311, .aload_n 0, 1) rfl) rfl rfl (aw_dup (pc' := 313) (dt_X11_sell 176 (312, .dup, 1) rfl) rfl rfl (aw_getI (pc' := 316) (dt_X11_sell 177 (313, .getfield 212, 3) rfl) fl_ReturnDeskModel_212 rfl rfl (sk_31 hS37.wI.wI) (aw_iload (pc' := 318) (dt_X11_sell 178 (316, .iload 7, 2) rfl) rfl rfl (aw_iadd (pc' := 319) (dt_X11_sell 179 (318, .iadd, 1) rfl) rfl (aw_putI (pc' := 322) (dt_X11_sell 180 (319, .putfield 212, 3) rfl) fl_ReturnDeskModel_212 rfl (by decide +kernel) rfl (sk_31 hS37.wI.wI) ?_)))))))))))))))))))
                              refine aw_mem (fun μ44 eμ45 => ?_)
                              have h := h μ44 eμ45
                              have hS46 : Stat μ44 := by rw [eμ45]; exact hS37.wI.wI.wI
                              refine aw_iload (pc' := 324) (dt_X11_sell 181 (322, .iload 6, 2) rfl) rfl rfl (aw_iret (dt_X11_sell 182 (324, .ireturn, 1) rfl) rfl rfl ?_)
                              exact h
                            · intro q41
                              have h := h.2 q41
                              obtain ⟨g47, h⟩ := h
                              obtain ⟨g48, h⟩ := h
                              obtain ⟨g49, h⟩ := h
                              refine aw_aload_n (pc' := 279) (dt_X11_sell 156 (278, .aload_n 0, 1) rfl) rfl rfl (aw_getAs (pc' := 282) (dt_X11_sell 157 (279, .getfield 171, 3) rfl) fl_ReturnDeskModel_171 rfl rfl (sk_31 hS37.wI) (sa_31_75 hS37.wI) (aw_iload (pc' := 284) (dt_X11_sell 158 (282, .iload 5, 2) rfl) rfl rfl (aw_iald (pc' := 285) (dt_X11_sell 159 (284, .iaload, 1) rfl) rfl (sk_85 hS37.wI) (vin_eq (sl_85 hS37.wI) g47) (aw_goto (tgt := 290) (dt_X11_sell 160 (285, .goto 5, 3) rfl) (by decide) (aw_istore (pc' := 292) (ls' := [some (.ref 31), some (.int x1), some (.int x2), some (.int x3), some (.int x4), some (.int x5), some (.int (zI μ 31 22)), some (.int (zI (sI μ35 31 22 ((zI μ35 31 22) + 1)) 56 (zI μ 31 22).toNatClampNeg)), some (.int (zI (sI μ35 31 22 ((zI μ35 31 22) + 1)) 85 x5.toNatClampNeg))]) (dt_X11_sell 162 (290, .istore 8, 2) rfl) (by decide) rfl rfl (aw_aload_n (pc' := 293) (dt_X11_sell 163 (292, .aload_n 0, 1) rfl) rfl rfl (aw_getAs (pc' := 296) (dt_X11_sell 164 (293, .getfield 171, 3) rfl) fl_ReturnDeskModel_171 rfl rfl (sk_31 hS37.wI) (sa_31_75 hS37.wI) (aw_iload (pc' := 298) (dt_X11_sell 165 (296, .iload 5, 2) rfl) rfl rfl (aw_dup2 (pc' := 299) (dt_X11_sell 166 (298, .dup2, 1) rfl) rfl rfl rfl (aw_iald (pc' := 300) (dt_X11_sell 167 (299, .iaload, 1) rfl) rfl (sk_85 hS37.wI) (vin_eq (sl_85 hS37.wI) g48) (aw_iload (pc' := 302) (dt_X11_sell 168 (300, .iload 8, 2) rfl) rfl rfl (aw_isub (pc' := 303) (dt_X11_sell 169 (302, .isub, 1) rfl) rfl (aw_iast (pc' := 304) (dt_X11_sell 170 (303, .iastore, 1) rfl) rfl (sk_85 hS37.wI) (by decide) (vin_eq (sl_85 hS37.wI) g49) (aw_iload (pc' := 306) (dt_X11_sell 171 (304, .iload 7, 2) rfl) rfl rfl (aw_iload (pc' := 308) (dt_X11_sell 172 (306, .iload 8, 2) rfl) rfl rfl (aw_isub (pc' := 309) (dt_X11_sell 173 (308, .isub, 1) rfl) rfl (aw_istore (pc' := 311) (ls' := [some (.ref 31), some (.int x1), some (.int x2), some (.int x3), some (.int x4), some (.int x5), some (.int (zI μ 31 22)), some (.int ((zI (sI μ35 31 22 ((zI μ35 31 22) + 1)) 56 (zI μ 31 22).toNatClampNeg) - (zI (sI μ35 31 22 ((zI μ35 31 22) + 1)) 85 x5.toNatClampNeg))), some (.int (zI (sI μ35 31 22 ((zI μ35 31 22) + 1)) 85 x5.toNatClampNeg))]) (dt_X11_sell 174 (309, .istore 7, 2) rfl) (by decide) rfl rfl (aw_aload_n (pc' := 312) (dt_X11_sell 175 (311, .aload_n 0, 1) rfl) rfl rfl (aw_dup (pc' := 313) (dt_X11_sell 176 (312, .dup, 1) rfl) rfl rfl (aw_getI (pc' := 316) (dt_X11_sell 177 (313, .getfield 212, 3) rfl) fl_ReturnDeskModel_212 rfl rfl (sk_31 hS37.wI.wI) (aw_iload (pc' := 318) (dt_X11_sell 178 (316, .iload 7, 2) rfl) rfl rfl (aw_iadd (pc' := 319) (dt_X11_sell 179 (318, .iadd, 1) rfl) rfl (aw_putI (pc' := 322) (dt_X11_sell 180 (319, .putfield 212, 3) rfl) fl_ReturnDeskModel_212 rfl (by decide +kernel) rfl (sk_31 hS37.wI.wI) ?_)))))))))))))))))))))))
                              refine aw_mem (fun μ50 eμ51 => ?_)
                              have h := h μ50 eμ51
                              have hS52 : Stat μ50 := by rw [eμ51]; exact hS37.wI.wI.wI
                              refine aw_iload (pc' := 324) (dt_X11_sell 181 (322, .iload 6, 2) rfl) rfl rfl (aw_iret (dt_X11_sell 182 (324, .ireturn, 1) rfl) rfl rfl ?_)
                              exact h
                        · intro q13
                          have h := h.2 q13
                          refine aw_bipush (pc' := 97) (v := (-3)) (dt_X11_sell 48 (95, .bipush (-3), 2) rfl) (by decide) rfl (aw_iret (dt_X11_sell 49 (97, .ireturn, 1) rfl) rfl rfl ?_)
                          exact h
                      · intro q12
                        have h := h.2 q12
                        refine aw_bipush (pc' := 84) (v := (-2)) (dt_X11_sell 42 (82, .bipush (-2), 2) rfl) (by decide) rfl (aw_iret (dt_X11_sell 43 (84, .ireturn, 1) rfl) rfl rfl ?_)
                        exact h
                    · intro q10
                      have h := h.2 q10
                      refine aw_iload (pc' := 58) (dt_X11_sell 27 (56, .iload 5, 2) rfl) rfl rfl (aw_iconst (pc' := 59) (v := 0) (dt_X11_sell 28 (58, .iconst 0, 1) rfl) (by decide) rfl (aw_aload_n (pc' := 60) (dt_X11_sell 29 (59, .aload_n 0, 1) rfl) rfl rfl (aw_getI (pc' := 63) (dt_X11_sell 30 (60, .getfield 221, 3) rfl) fl_ReturnDeskModel_221 rfl rfl (sk_31 hS) (aw_iconst (pc' := 64) (v := 1) (dt_X11_sell 31 (63, .iconst 1, 1) rfl) (by decide) rfl (aw_isub (pc' := 65) (dt_X11_sell 32 (64, .isub, 1) rfl) rfl (aw_inS (pc' := 68) (nc1 := 0) (ns1 := 0) (nc := nc) (ns := ns) (ls' := [some (.int x5), some (.int 0), some (.int ((zI μ 31 74) - 1))]) (y2 := mX11_in) (As := [.int x5, .int 0, .int ((zI μ 31 74) - 1)]) (rest := []) (dt_X11_sell 33 (65, .invokestatic 185, 3) rfl) ok_X11_in ln_ReturnDeskModel_185 sm_X11_in pr_X11_in rfl (Nat.le_of_ble_eq_true rfl) (Nat.le_of_ble_eq_true rfl) rfl rfl (aw_iload_n (pc' := 1) (dt_X11_in 0 (0, .iload_n 0, 1) rfl) rfl rfl (aw_iload_n (pc' := 2) (dt_X11_in 1 (1, .iload_n 1, 1) rfl) rfl rfl (aw_icmp_lt (pc' := 5) (tgt := 14) (dt_X11_in 2 (2, .if_icmp .lt 12, 3) rfl) (by decide) rfl ?_ ?_)))))))))
                      · intro q53
                        have h := h.1 q53
                        refine aw_iconst (pc' := 15) (v := 0) (dt_X11_in 8 (14, .iconst 0, 1) rfl) (by decide) rfl (aw_iret (dt_X11_in 9 (15, .ireturn, 1) rfl) rfl rfl (aw_stk (st' := [.int 0]) rfl (aw_if_ne_F (pc' := 71) (tgt := 73) (dt_X11_sell 34 (68, .ifCond .ne 5, 3) rfl) (by decide) rfl (by decide) (aw_iconst (pc' := 72) (v := (-1)) (dt_X11_sell 35 (71, .iconst (-1), 1) rfl) (by decide) rfl (aw_iret (dt_X11_sell 36 (72, .ireturn, 1) rfl) rfl rfl ?_)))))
                        exact h
                      · intro q53
                        have h := h.2 q53
                        refine aw_iload_n (pc' := 6) (dt_X11_in 3 (5, .iload_n 0, 1) rfl) rfl rfl (aw_iload_n (pc' := 7) (dt_X11_in 4 (6, .iload_n 2, 1) rfl) rfl rfl (aw_icmp_gt (pc' := 10) (tgt := 14) (dt_X11_in 5 (7, .if_icmp .gt 7, 3) rfl) (by decide) rfl ?_ ?_))
                        · intro q54
                          have h := h.1 q54
                          refine aw_iconst (pc' := 15) (v := 0) (dt_X11_in 8 (14, .iconst 0, 1) rfl) (by decide) rfl (aw_iret (dt_X11_in 9 (15, .ireturn, 1) rfl) rfl rfl (aw_stk (st' := [.int 0]) rfl (aw_if_ne_F (pc' := 71) (tgt := 73) (dt_X11_sell 34 (68, .ifCond .ne 5, 3) rfl) (by decide) rfl (by decide) (aw_iconst (pc' := 72) (v := (-1)) (dt_X11_sell 35 (71, .iconst (-1), 1) rfl) (by decide) rfl (aw_iret (dt_X11_sell 36 (72, .ireturn, 1) rfl) rfl rfl ?_)))))
                          exact h
                        · intro q54
                          have h := h.2 q54
                          obtain ⟨g55, h⟩ := h
                          refine aw_iconst (pc' := 11) (v := 1) (dt_X11_in 6 (10, .iconst 1, 1) rfl) (by decide) rfl (aw_goto (tgt := 15) (dt_X11_in 7 (11, .goto 4, 3) rfl) (by decide) (aw_iret (dt_X11_in 9 (15, .ireturn, 1) rfl) rfl rfl (aw_stk (st' := [.int 1]) rfl (aw_if_ne_T (pc' := 71) (tgt := 73) (dt_X11_sell 34 (68, .ifCond .ne 5, 3) rfl) (by decide) rfl (by decide) (aw_aload_n (pc' := 74) (dt_X11_sell 37 (73, .aload_n 0, 1) rfl) rfl rfl (aw_getAs (pc' := 77) (dt_X11_sell 38 (74, .getfield 56, 3) rfl) fl_ReturnDeskModel_56 rfl rfl (sk_31 hS) (sa_31_21 hS) (aw_iload_n (pc' := 78) (dt_X11_sell 39 (77, .iload_n 1, 1) rfl) rfl rfl (aw_iald (pc' := 79) (dt_X11_sell 40 (78, .iaload, 1) rfl) rfl (sk_47 hS) (vin_eq (sl_47 hS) g55) (aw_if_ne (pc' := 82) (tgt := 85) (dt_X11_sell 41 (79, .ifCond .ne 6, 3) rfl) (by decide) rfl ?_ ?_)))))))))
                          · intro q56
                            have h := h.1 q56
                            refine aw_aload_n (pc' := 86) (dt_X11_sell 44 (85, .aload_n 0, 1) rfl) rfl rfl (aw_getI (pc' := 89) (dt_X11_sell 45 (86, .getfield 215, 3) rfl) fl_ReturnDeskModel_215 rfl rfl (sk_31 hS) (aw_sipush (pc' := 92) (v := 300) (dt_X11_sell 46 (89, .sipush 300, 3) rfl) (by decide) rfl (aw_icmp_ne (pc' := 95) (tgt := 98) (dt_X11_sell 47 (92, .if_icmp .ne 6, 3) rfl) (by decide) rfl ?_ ?_)))
                            · intro q57
                              have h := h.1 q57
                              obtain ⟨g58, h⟩ := h
                              obtain ⟨g59, h⟩ := h
                              obtain ⟨g60, h⟩ := h
                              obtain ⟨g61, h⟩ := h
                              obtain ⟨g62, h⟩ := h
                              obtain ⟨g63, h⟩ := h
                              refine aw_aload_n (pc' := 99) (dt_X11_sell 50 (98, .aload_n 0, 1) rfl) rfl rfl (aw_getI (pc' := 102) (dt_X11_sell 51 (99, .getfield 215, 3) rfl) fl_ReturnDeskModel_215 rfl rfl (sk_31 hS) (aw_istore (pc' := 104) (ls' := [some (.ref 31), some (.int x1), some (.int x2), some (.int x3), some (.int x4), some (.int x5), some (.int (zI μ 31 22)), none, none]) (dt_X11_sell 52 (102, .istore 6, 2) rfl) (by decide) rfl rfl (aw_aload_n (pc' := 105) (dt_X11_sell 53 (104, .aload_n 0, 1) rfl) rfl rfl (aw_getAs (pc' := 108) (dt_X11_sell 54 (105, .getfield 62, 3) rfl) fl_ReturnDeskModel_62 rfl rfl (sk_31 hS) (sa_31_24 hS) (aw_iload (pc' := 110) (dt_X11_sell 55 (108, .iload 6, 2) rfl) rfl rfl (aw_iload_n (pc' := 111) (dt_X11_sell 56 (110, .iload_n 1, 1) rfl) rfl rfl (aw_iast (pc' := 112) (dt_X11_sell 57 (111, .iastore, 1) rfl) rfl (sk_49 hS) (by decide) (vin_eq (sl_49 hS) g58) (aw_aload_n (pc' := 113) (dt_X11_sell 58 (112, .aload_n 0, 1) rfl) rfl rfl (aw_getAs (pc' := 116) (dt_X11_sell 59 (113, .getfield 65, 3) rfl) fl_ReturnDeskModel_65 rfl rfl (sk_31 hS.wI) (sa_31_25 hS.wI) (aw_iload (pc' := 118) (dt_X11_sell 60 (116, .iload 6, 2) rfl) rfl rfl (aw_iload_n (pc' := 119) (dt_X11_sell 61 (118, .iload_n 3, 1) rfl) rfl rfl (aw_sipush (pc' := 122) (v := 1000) (dt_X11_sell 62 (119, .sipush 1000, 3) rfl) (by decide) rfl (aw_idiv (pc' := 123) (dt_X11_sell 63 (122, .idiv, 1) rfl) (by decide) rfl (aw_iast (pc' := 124) (dt_X11_sell 64 (123, .iastore, 1) rfl) rfl (sk_50 hS.wI) (by decide) (vin_eq (sl_50 hS.wI) g59) (aw_aload_n (pc' := 125) (dt_X11_sell 65 (124, .aload_n 0, 1) rfl) rfl rfl (aw_getAs (pc' := 128) (dt_X11_sell 66 (125, .getfield 77, 3) rfl) fl_ReturnDeskModel_77 rfl rfl (sk_31 hS.wI.wI) (sa_31_29 hS.wI.wI) (aw_iload (pc' := 130) (dt_X11_sell 67 (128, .iload 6, 2) rfl) rfl rfl (aw_iload_n (pc' := 131) (dt_X11_sell 68 (130, .iload_n 3, 1) rfl) rfl rfl (aw_sipush (pc' := 134) (v := 1000) (dt_X11_sell 69 (131, .sipush 1000, 3) rfl) (by decide) rfl (aw_irem (pc' := 135) (dt_X11_sell 70 (134, .irem, 1) rfl) (by decide) rfl (aw_iast (pc' := 136) (dt_X11_sell 71 (135, .iastore, 1) rfl) rfl (sk_54 hS.wI.wI) (by decide) (vin_eq (sl_54 hS.wI.wI) g60) (aw_aload_n (pc' := 137) (dt_X11_sell 72 (136, .aload_n 0, 1) rfl) rfl rfl (aw_getAs (pc' := 140) (dt_X11_sell 73 (137, .getfield 68, 3) rfl) fl_ReturnDeskModel_68 rfl rfl (sk_31 hS.wI.wI.wI) (sa_31_26 hS.wI.wI.wI) (aw_iload (pc' := 142) (dt_X11_sell 74 (140, .iload 6, 2) rfl) rfl rfl (aw_iload_n (pc' := 143) (dt_X11_sell 75 (142, .iload_n 2, 1) rfl) rfl rfl (aw_iast (pc' := 144) (dt_X11_sell 76 (143, .iastore, 1) rfl) rfl (sk_51 hS.wI.wI.wI) (by decide) (vin_eq (sl_51 hS.wI.wI.wI) g61) (aw_aload_n (pc' := 145) (dt_X11_sell 77 (144, .aload_n 0, 1) rfl) rfl rfl (aw_getAs (pc' := 148) (dt_X11_sell 78 (145, .getfield 71, 3) rfl) fl_ReturnDeskModel_71 rfl rfl (sk_31 hS.wI.wI.wI.wI) (sa_31_27 hS.wI.wI.wI.wI) (aw_iload (pc' := 150) (dt_X11_sell 79 (148, .iload 6, 2) rfl) rfl rfl (aw_iload (pc' := 152) (dt_X11_sell 80 (150, .iload 4, 2) rfl) rfl rfl (aw_bipush (pc' := 154) (v := 100) (dt_X11_sell 81 (152, .bipush 100, 2) rfl) (by decide) rfl (aw_idiv (pc' := 155) (dt_X11_sell 82 (154, .idiv, 1) rfl) (by decide) rfl (aw_iast (pc' := 156) (dt_X11_sell 83 (155, .iastore, 1) rfl) rfl (sk_52 hS.wI.wI.wI.wI) (by decide) (vin_eq (sl_52 hS.wI.wI.wI.wI) g62) (aw_aload_n (pc' := 157) (dt_X11_sell 84 (156, .aload_n 0, 1) rfl) rfl rfl (aw_getAs (pc' := 160) (dt_X11_sell 85 (157, .getfield 74, 3) rfl) fl_ReturnDeskModel_74 rfl rfl (sk_31 hS.wI.wI.wI.wI.wI) (sa_31_28 hS.wI.wI.wI.wI.wI) (aw_iload (pc' := 162) (dt_X11_sell 86 (160, .iload 6, 2) rfl) rfl rfl (aw_iload (pc' := 164) (dt_X11_sell 87 (162, .iload 4, 2) rfl) rfl rfl (aw_bipush (pc' := 166) (v := 100) (dt_X11_sell 88 (164, .bipush 100, 2) rfl) (by decide) rfl (aw_irem (pc' := 167) (dt_X11_sell 89 (166, .irem, 1) rfl) (by decide) rfl (aw_iast (pc' := 168) (dt_X11_sell 90 (167, .iastore, 1) rfl) rfl (sk_53 hS.wI.wI.wI.wI.wI) (by decide) (vin_eq (sl_53 hS.wI.wI.wI.wI.wI) g63) ?_))))))))))))))))))))))))))))))))))))))))
                              refine aw_mem (fun μ64 eμ65 => ?_)
                              have h := h μ64 eμ65
                              have hS66 : Stat μ64 := by rw [eμ65]; exact hS.wI.wI.wI.wI.wI.wI
                              obtain ⟨g67, h⟩ := h
                              obtain ⟨g68, h⟩ := h
                              refine aw_aload_n (pc' := 169) (dt_X11_sell 91 (168, .aload_n 0, 1) rfl) rfl rfl (aw_getAs (pc' := 172) (dt_X11_sell 92 (169, .getfield 80, 3) rfl) fl_ReturnDeskModel_80 rfl rfl (sk_31 hS66) (sa_31_30 hS66) (aw_iload (pc' := 174) (dt_X11_sell 93 (172, .iload 6, 2) rfl) rfl rfl (aw_aload_n (pc' := 175) (dt_X11_sell 94 (174, .aload_n 0, 1) rfl) rfl rfl (aw_getI (pc' := 178) (dt_X11_sell 95 (175, .getfield 189, 3) rfl) fl_ReturnDeskModel_189 rfl rfl (sk_31 hS66) (aw_iast (pc' := 179) (dt_X11_sell 96 (178, .iastore, 1) rfl) rfl (sk_55 hS66) (by decide) (vin_eq (sl_55 hS66) g67) (aw_aload_n (pc' := 180) (dt_X11_sell 97 (179, .aload_n 0, 1) rfl) rfl rfl (aw_getAs (pc' := 183) (dt_X11_sell 98 (180, .getfield 83, 3) rfl) fl_ReturnDeskModel_83 rfl rfl (sk_31 hS66.wI) (sa_31_31 hS66.wI) (aw_iload (pc' := 185) (dt_X11_sell 99 (183, .iload 6, 2) rfl) rfl rfl (aw_aload_n (pc' := 186) (dt_X11_sell 100 (185, .aload_n 0, 1) rfl) rfl rfl (aw_aload_n (pc' := 187) (dt_X11_sell 101 (186, .aload_n 0, 1) rfl) rfl rfl (aw_getAs (pc' := 190) (dt_X11_sell 102 (187, .getfield 50, 3) rfl) fl_ReturnDeskModel_50 rfl rfl (sk_31 hS66.wI) (sa_31_19 hS66.wI) (aw_iload_n (pc' := 191) (dt_X11_sell 103 (190, .iload_n 1, 1) rfl) rfl rfl (aw_iald (pc' := 192) (dt_X11_sell 104 (191, .iaload, 1) rfl) rfl (sk_45 hS66.wI) (vin_eq (sl_45 hS66.wI) g68) (aw_aload_n (pc' := 193) (dt_X11_sell 105 (192, .aload_n 0, 1) rfl) rfl rfl (aw_inV (pc' := 196) (nc1 := 0) (ns1 := 0) (nc := nc) (ns := ns) (ls' := [some (.ref 31)]) (y2 := mX11_today) (As := []) (rest := [.int (zI (sI μ64 55 (zI μ 31 22).toNatClampNeg (zI μ64 31 1)) 45 x1.toNatClampNeg), .ref 31, .int (zI μ 31 22), .ref 56]) (a := 31) (dt_X11_sell 106 (193, .invokevirtual 224, 3) rfl) ok_X11_today ln_ReturnDeskModel_224 im_X11_today se_X11_today pr_X11_today (Or.inl ⟨by decide, rfl⟩) rfl (Nat.le_of_ble_eq_true rfl) (Nat.le_of_ble_eq_true rfl) rfl rfl (sk_31 hS66.wI) (aw_aload_n (pc' := 1) (dt_X11_today 0 (0, .aload_n 0, 1) rfl) rfl rfl (aw_getI (pc' := 4) (dt_X11_today 1 (1, .getfield 189, 3) rfl) fl_ReturnDeskModel_189 rfl rfl (sk_31 hS66.wI) (aw_bipush (pc' := 6) (v := 24) (dt_X11_today 2 (4, .bipush 24, 2) rfl) (by decide) rfl (aw_idiv (pc' := 7) (dt_X11_today 3 (6, .idiv, 1) rfl) (by decide) rfl (aw_iret (dt_X11_today 4 (7, .ireturn, 1) rfl) rfl rfl (aw_stk (st' := [.int ((zI (sI μ64 55 (zI μ 31 22).toNatClampNeg (zI μ64 31 1)) 31 1) / 24), .int (zI (sI μ64 55 (zI μ 31 22).toNatClampNeg (zI μ64 31 1)) 45 x1.toNatClampNeg), .ref 31, .int (zI μ 31 22), .ref 56]) rfl (aw_callV0 (pc' := 199) (nc := nc) (ns := ns) (y2 := mX11_priceAt) (As := [.int (zI (sI μ64 55 (zI μ 31 22).toNatClampNeg (zI μ64 31 1)) 45 x1.toNatClampNeg), .int ((zI (sI μ64 55 (zI μ 31 22).toNatClampNeg (zI μ64 31 1)) 31 1) / 24)]) (rest := [.int (zI μ 31 22), .ref 56]) (a := 31) (dt_X11_sell 107 (196, .invokevirtual 206, 3) rfl) ok_X11_priceAt ln_ReturnDeskModel_206 im_X11_priceAt se_X11_priceAt pr_X11_priceAt (Or.inl ⟨by decide, rfl⟩) rfl (Nat.le_of_ble_eq_true rfl) (Nat.le_of_ble_eq_true rfl) rfl (sk_31 hS66.wI) h ?_))))))))))))))))))))))
                              rintro v μ69 ⟨r71, rfl, hS70, h⟩
                              refine aw_stk (st' := [.int r71, .int (zI μ 31 22), .ref 56]) rfl ?_
                              obtain ⟨g72, h⟩ := h
                              obtain ⟨g73, h⟩ := h
                              obtain ⟨g74, h⟩ := h
                              obtain ⟨g75, h⟩ := h
                              obtain ⟨g76, h⟩ := h
                              obtain ⟨g77, h⟩ := h
                              obtain ⟨g78, h⟩ := h
                              refine aw_iast (pc' := 200) (dt_X11_sell 108 (199, .iastore, 1) rfl) rfl (sk_56 hS70) (by decide) (vin_eq (sl_56 hS70) g72) (aw_aload_n (pc' := 201) (dt_X11_sell 109 (200, .aload_n 0, 1) rfl) rfl rfl (aw_getAs (pc' := 204) (dt_X11_sell 110 (201, .getfield 89, 3) rfl) fl_ReturnDeskModel_89 rfl rfl (sk_31 hS70.wI) (sa_31_33 hS70.wI) (aw_iload (pc' := 206) (dt_X11_sell 111 (204, .iload 6, 2) rfl) rfl rfl (aw_iconst (pc' := 207) (v := (-1)) (dt_X11_sell 112 (206, .iconst (-1), 1) rfl) (by decide) rfl (aw_iast (pc' := 208) (dt_X11_sell 113 (207, .iastore, 1) rfl) rfl (sk_58 hS70.wI) (by decide) (vin_eq (sl_58 hS70.wI) g73) (aw_aload_n (pc' := 209) (dt_X11_sell 114 (208, .aload_n 0, 1) rfl) rfl rfl (aw_getAs (pc' := 212) (dt_X11_sell 115 (209, .getfield 92, 3) rfl) fl_ReturnDeskModel_92 rfl rfl (sk_31 hS70.wI.wI) (sa_31_34 hS70.wI.wI) (aw_iload (pc' := 214) (dt_X11_sell 116 (212, .iload 6, 2) rfl) rfl rfl (aw_iconst (pc' := 215) (v := (-1)) (dt_X11_sell 117 (214, .iconst (-1), 1) rfl) (by decide) rfl (aw_iast (pc' := 216) (dt_X11_sell 118 (215, .iastore, 1) rfl) rfl (sk_59 hS70.wI.wI) (by decide) (vin_eq (sl_59 hS70.wI.wI) g74) (aw_aload_n (pc' := 217) (dt_X11_sell 119 (216, .aload_n 0, 1) rfl) rfl rfl (aw_getAs (pc' := 220) (dt_X11_sell 120 (217, .getfield 98, 3) rfl) fl_ReturnDeskModel_98 rfl rfl (sk_31 hS70.wI.wI.wI) (sa_31_36 hS70.wI.wI.wI) (aw_iload (pc' := 222) (dt_X11_sell 121 (220, .iload 6, 2) rfl) rfl rfl (aw_iconst (pc' := 223) (v := (-1)) (dt_X11_sell 122 (222, .iconst (-1), 1) rfl) (by decide) rfl (aw_iast (pc' := 224) (dt_X11_sell 123 (223, .iastore, 1) rfl) rfl (sk_61 hS70.wI.wI.wI) (by decide) (vin_eq (sl_61 hS70.wI.wI.wI) g75) (aw_aload_n (pc' := 225) (dt_X11_sell 124 (224, .aload_n 0, 1) rfl) rfl rfl (aw_getAs (pc' := 228) (dt_X11_sell 125 (225, .getfield 104, 3) rfl) fl_ReturnDeskModel_104 rfl rfl (sk_31 hS70.wI.wI.wI.wI) (sa_31_38 hS70.wI.wI.wI.wI) (aw_iload (pc' := 230) (dt_X11_sell 126 (228, .iload 6, 2) rfl) rfl rfl (aw_iconst (pc' := 231) (v := (-1)) (dt_X11_sell 127 (230, .iconst (-1), 1) rfl) (by decide) rfl (aw_iast (pc' := 232) (dt_X11_sell 128 (231, .iastore, 1) rfl) rfl (sk_63 hS70.wI.wI.wI.wI) (by decide) (vin_eq (sl_63 hS70.wI.wI.wI.wI) g76) (aw_aload_n (pc' := 233) (dt_X11_sell 129 (232, .aload_n 0, 1) rfl) rfl rfl (aw_getAs (pc' := 236) (dt_X11_sell 130 (233, .getfield 56, 3) rfl) fl_ReturnDeskModel_56 rfl rfl (sk_31 hS70.wI.wI.wI.wI.wI) (sa_31_21 hS70.wI.wI.wI.wI.wI) (aw_iload_n (pc' := 237) (dt_X11_sell 131 (236, .iload_n 1, 1) rfl) rfl rfl (aw_dup2 (pc' := 238) (dt_X11_sell 132 (237, .dup2, 1) rfl) rfl rfl rfl (aw_iald (pc' := 239) (dt_X11_sell 133 (238, .iaload, 1) rfl) rfl (sk_47 hS70.wI.wI.wI.wI.wI) (vin_eq (sl_47 hS70.wI.wI.wI.wI.wI) g77) (aw_iconst (pc' := 240) (v := 1) (dt_X11_sell 134 (239, .iconst 1, 1) rfl) (by decide) rfl (aw_isub (pc' := 241) (dt_X11_sell 135 (240, .isub, 1) rfl) rfl (aw_iast (pc' := 242) (dt_X11_sell 136 (241, .iastore, 1) rfl) rfl (sk_47 hS70.wI.wI.wI.wI.wI) (by decide) (vin_eq (sl_47 hS70.wI.wI.wI.wI.wI) g78) ?_))))))))))))))))))))))))))))
                              refine aw_mem (fun μ79 eμ80 => ?_)
                              have h := h μ79 eμ80
                              have hS81 : Stat μ79 := by rw [eμ80]; exact hS70.wI.wI.wI.wI.wI.wI
                              obtain ⟨g82, h⟩ := h
                              refine aw_aload_n (pc' := 243) (dt_X11_sell 137 (242, .aload_n 0, 1) rfl) rfl rfl (aw_dup (pc' := 244) (dt_X11_sell 138 (243, .dup, 1) rfl) rfl rfl (aw_getI (pc' := 247) (dt_X11_sell 139 (244, .getfield 215, 3) rfl) fl_ReturnDeskModel_215 rfl rfl (sk_31 hS81) (aw_iconst (pc' := 248) (v := 1) (dt_X11_sell 140 (247, .iconst 1, 1) rfl) (by decide) rfl (aw_iadd (pc' := 249) (dt_X11_sell 141 (248, .iadd, 1) rfl) rfl (aw_putI (pc' := 252) (dt_X11_sell 142 (249, .putfield 215, 3) rfl) fl_ReturnDeskModel_215 rfl (by decide +kernel) rfl (sk_31 hS81) (aw_aload_n (pc' := 253) (dt_X11_sell 143 (252, .aload_n 0, 1) rfl) rfl rfl (aw_getAs (pc' := 256) (dt_X11_sell 144 (253, .getfield 83, 3) rfl) fl_ReturnDeskModel_83 rfl rfl (sk_31 hS81.wI) (sa_31_31 hS81.wI) (aw_iload (pc' := 258) (dt_X11_sell 145 (256, .iload 6, 2) rfl) rfl rfl (aw_iald (pc' := 259) (dt_X11_sell 146 (258, .iaload, 1) rfl) rfl (sk_56 hS81.wI) (vin_eq (sl_56 hS81.wI) g82) (aw_istore (pc' := 261) (ls' := [some (.ref 31), some (.int x1), some (.int x2), some (.int x3), some (.int x4), some (.int x5), some (.int (zI μ 31 22)), some (.int (zI (sI μ79 31 22 ((zI μ79 31 22) + 1)) 56 (zI μ 31 22).toNatClampNeg)), none]) (dt_X11_sell 147 (259, .istore 7, 2) rfl) (by decide) rfl rfl (aw_iload (pc' := 263) (dt_X11_sell 148 (261, .iload 5, 2) rfl) rfl rfl (aw_if_lt (pc' := 266) (tgt := 311) (dt_X11_sell 149 (263, .ifCond .lt 48, 3) rfl) (by decide) rfl ?_ ?_))))))))))))
                              · intro q83
                                have h := h.1 q83
                                refine aw_aload_n (pc' := 312) (dt_X11_sell 175 (311, .aload_n 0, 1) rfl) rfl rfl (aw_dup (pc' := 313) (dt_X11_sell 176 (312, .dup, 1) rfl) rfl rfl (aw_getI (pc' := 316) (dt_X11_sell 177 (313, .getfield 212, 3) rfl) fl_ReturnDeskModel_212 rfl rfl (sk_31 hS81.wI) (aw_iload (pc' := 318) (dt_X11_sell 178 (316, .iload 7, 2) rfl) rfl rfl (aw_iadd (pc' := 319) (dt_X11_sell 179 (318, .iadd, 1) rfl) rfl (aw_putI (pc' := 322) (dt_X11_sell 180 (319, .putfield 212, 3) rfl) fl_ReturnDeskModel_212 rfl (by decide +kernel) rfl (sk_31 hS81.wI) (aw_iload (pc' := 324) (dt_X11_sell 181 (322, .iload 6, 2) rfl) rfl rfl (aw_iret (dt_X11_sell 182 (324, .ireturn, 1) rfl) rfl rfl ?_)))))))
                                exact h
                              · intro q83
                                have h := h.2 q83
                                obtain ⟨g84, h⟩ := h
                                refine aw_aload_n (pc' := 267) (dt_X11_sell 150 (266, .aload_n 0, 1) rfl) rfl rfl (aw_getAs (pc' := 270) (dt_X11_sell 151 (267, .getfield 171, 3) rfl) fl_ReturnDeskModel_171 rfl rfl (sk_31 hS81.wI) (sa_31_75 hS81.wI) (aw_iload (pc' := 272) (dt_X11_sell 152 (270, .iload 5, 2) rfl) rfl rfl (aw_iald (pc' := 273) (dt_X11_sell 153 (272, .iaload, 1) rfl) rfl (sk_85 hS81.wI) (vin_eq (sl_85 hS81.wI) g84) (aw_iload (pc' := 275) (dt_X11_sell 154 (273, .iload 7, 2) rfl) rfl rfl (aw_icmp_ge (pc' := 278) (tgt := 288) (dt_X11_sell 155 (275, .if_icmp .ge 13, 3) rfl) (by decide) rfl ?_ ?_)))))
                                · intro q85
                                  have h := h.1 q85
                                  obtain ⟨g86, h⟩ := h
                                  obtain ⟨g87, h⟩ := h
                                  refine aw_iload (pc' := 290) (dt_X11_sell 161 (288, .iload 7, 2) rfl) rfl rfl (aw_istore (pc' := 292) (ls' := [some (.ref 31), some (.int x1), some (.int x2), some (.int x3), some (.int x4), some (.int x5), some (.int (zI μ 31 22)), some (.int (zI (sI μ79 31 22 ((zI μ79 31 22) + 1)) 56 (zI μ 31 22).toNatClampNeg)), some (.int (zI (sI μ79 31 22 ((zI μ79 31 22) + 1)) 56 (zI μ 31 22).toNatClampNeg))]) (dt_X11_sell 162 (290, .istore 8, 2) rfl) (by decide) rfl rfl (aw_aload_n (pc' := 293) (dt_X11_sell 163 (292, .aload_n 0, 1) rfl) rfl rfl (aw_getAs (pc' := 296) (dt_X11_sell 164 (293, .getfield 171, 3) rfl) fl_ReturnDeskModel_171 rfl rfl (sk_31 hS81.wI) (sa_31_75 hS81.wI) (aw_iload (pc' := 298) (dt_X11_sell 165 (296, .iload 5, 2) rfl) rfl rfl (aw_dup2 (pc' := 299) (dt_X11_sell 166 (298, .dup2, 1) rfl) rfl rfl rfl (aw_iald (pc' := 300) (dt_X11_sell 167 (299, .iaload, 1) rfl) rfl (sk_85 hS81.wI) (vin_eq (sl_85 hS81.wI) g86) (aw_iload (pc' := 302) (dt_X11_sell 168 (300, .iload 8, 2) rfl) rfl rfl (aw_isub (pc' := 303) (dt_X11_sell 169 (302, .isub, 1) rfl) rfl (aw_iast (pc' := 304) (dt_X11_sell 170 (303, .iastore, 1) rfl) rfl (sk_85 hS81.wI) (by decide) (vin_eq (sl_85 hS81.wI) g87) (aw_iload (pc' := 306) (dt_X11_sell 171 (304, .iload 7, 2) rfl) rfl rfl (aw_iload (pc' := 308) (dt_X11_sell 172 (306, .iload 8, 2) rfl) rfl rfl (aw_isub (pc' := 309) (dt_X11_sell 173 (308, .isub, 1) rfl) rfl (aw_istore (pc' := 311) (ls' := [some (.ref 31), some (.int x1), some (.int x2), some (.int x3), some (.int x4), some (.int x5), some (.int (zI μ 31 22)), some (.int ((zI (sI μ79 31 22 ((zI μ79 31 22) + 1)) 56 (zI μ 31 22).toNatClampNeg) - (zI (sI μ79 31 22 ((zI μ79 31 22) + 1)) 56 (zI μ 31 22).toNatClampNeg))), some (.int (zI (sI μ79 31 22 ((zI μ79 31 22) + 1)) 56 (zI μ 31 22).toNatClampNeg))]) (dt_X11_sell 174 (309, .istore 7, 2) rfl) (by decide) rfl rfl (aw_aload_n (pc' := 312) (dt_X11_sell 175 (311, .aload_n 0, 1) rfl) rfl rfl (aw_dup (pc' := 313) (dt_X11_sell 176 (312, .dup, 1) rfl) rfl rfl (aw_getI (pc' := 316) (dt_X11_sell 177 (313, .getfield 212, 3) rfl) fl_ReturnDeskModel_212 rfl rfl (sk_31 hS81.wI.wI) (aw_iload (pc' := 318) (dt_X11_sell 178 (316, .iload 7, 2) rfl) rfl rfl (aw_iadd (pc' := 319) (dt_X11_sell 179 (318, .iadd, 1) rfl) rfl (aw_putI (pc' := 322) (dt_X11_sell 180 (319, .putfield 212, 3) rfl) fl_ReturnDeskModel_212 rfl (by decide +kernel) rfl (sk_31 hS81.wI.wI) ?_)))))))))))))))))))
                                  refine aw_mem (fun μ88 eμ89 => ?_)
                                  have h := h μ88 eμ89
                                  have hS90 : Stat μ88 := by rw [eμ89]; exact hS81.wI.wI.wI
                                  refine aw_iload (pc' := 324) (dt_X11_sell 181 (322, .iload 6, 2) rfl) rfl rfl (aw_iret (dt_X11_sell 182 (324, .ireturn, 1) rfl) rfl rfl ?_)
                                  exact h
                                · intro q85
                                  have h := h.2 q85
                                  obtain ⟨g91, h⟩ := h
                                  obtain ⟨g92, h⟩ := h
                                  obtain ⟨g93, h⟩ := h
                                  refine aw_aload_n (pc' := 279) (dt_X11_sell 156 (278, .aload_n 0, 1) rfl) rfl rfl (aw_getAs (pc' := 282) (dt_X11_sell 157 (279, .getfield 171, 3) rfl) fl_ReturnDeskModel_171 rfl rfl (sk_31 hS81.wI) (sa_31_75 hS81.wI) (aw_iload (pc' := 284) (dt_X11_sell 158 (282, .iload 5, 2) rfl) rfl rfl (aw_iald (pc' := 285) (dt_X11_sell 159 (284, .iaload, 1) rfl) rfl (sk_85 hS81.wI) (vin_eq (sl_85 hS81.wI) g91) (aw_goto (tgt := 290) (dt_X11_sell 160 (285, .goto 5, 3) rfl) (by decide) (aw_istore (pc' := 292) (ls' := [some (.ref 31), some (.int x1), some (.int x2), some (.int x3), some (.int x4), some (.int x5), some (.int (zI μ 31 22)), some (.int (zI (sI μ79 31 22 ((zI μ79 31 22) + 1)) 56 (zI μ 31 22).toNatClampNeg)), some (.int (zI (sI μ79 31 22 ((zI μ79 31 22) + 1)) 85 x5.toNatClampNeg))]) (dt_X11_sell 162 (290, .istore 8, 2) rfl) (by decide) rfl rfl (aw_aload_n (pc' := 293) (dt_X11_sell 163 (292, .aload_n 0, 1) rfl) rfl rfl (aw_getAs (pc' := 296) (dt_X11_sell 164 (293, .getfield 171, 3) rfl) fl_ReturnDeskModel_171 rfl rfl (sk_31 hS81.wI) (sa_31_75 hS81.wI) (aw_iload (pc' := 298) (dt_X11_sell 165 (296, .iload 5, 2) rfl) rfl rfl (aw_dup2 (pc' := 299) (dt_X11_sell 166 (298, .dup2, 1) rfl) rfl rfl rfl (aw_iald (pc' := 300) (dt_X11_sell 167 (299, .iaload, 1) rfl) rfl (sk_85 hS81.wI) (vin_eq (sl_85 hS81.wI) g92) (aw_iload (pc' := 302) (dt_X11_sell 168 (300, .iload 8, 2) rfl) rfl rfl (aw_isub (pc' := 303) (dt_X11_sell 169 (302, .isub, 1) rfl) rfl (aw_iast (pc' := 304) (dt_X11_sell 170 (303, .iastore, 1) rfl) rfl (sk_85 hS81.wI) (by decide) (vin_eq (sl_85 hS81.wI) g93) (aw_iload (pc' := 306) (dt_X11_sell 171 (304, .iload 7, 2) rfl) rfl rfl (aw_iload (pc' := 308) (dt_X11_sell 172 (306, .iload 8, 2) rfl) rfl rfl (aw_isub (pc' := 309) (dt_X11_sell 173 (308, .isub, 1) rfl) rfl (aw_istore (pc' := 311) (ls' := [some (.ref 31), some (.int x1), some (.int x2), some (.int x3), some (.int x4), some (.int x5), some (.int (zI μ 31 22)), some (.int ((zI (sI μ79 31 22 ((zI μ79 31 22) + 1)) 56 (zI μ 31 22).toNatClampNeg) - (zI (sI μ79 31 22 ((zI μ79 31 22) + 1)) 85 x5.toNatClampNeg))), some (.int (zI (sI μ79 31 22 ((zI μ79 31 22) + 1)) 85 x5.toNatClampNeg))]) (dt_X11_sell 174 (309, .istore 7, 2) rfl) (by decide) rfl rfl (aw_aload_n (pc' := 312) (dt_X11_sell 175 (311, .aload_n 0, 1) rfl) rfl rfl (aw_dup (pc' := 313) (dt_X11_sell 176 (312, .dup, 1) rfl) rfl rfl (aw_getI (pc' := 316) (dt_X11_sell 177 (313, .getfield 212, 3) rfl) fl_ReturnDeskModel_212 rfl rfl (sk_31 hS81.wI.wI) (aw_iload (pc' := 318) (dt_X11_sell 178 (316, .iload 7, 2) rfl) rfl rfl (aw_iadd (pc' := 319) (dt_X11_sell 179 (318, .iadd, 1) rfl) rfl (aw_putI (pc' := 322) (dt_X11_sell 180 (319, .putfield 212, 3) rfl) fl_ReturnDeskModel_212 rfl (by decide +kernel) rfl (sk_31 hS81.wI.wI) ?_)))))))))))))))))))))))
                                  refine aw_mem (fun μ94 eμ95 => ?_)
                                  have h := h μ94 eμ95
                                  have hS96 : Stat μ94 := by rw [eμ95]; exact hS81.wI.wI.wI
                                  refine aw_iload (pc' := 324) (dt_X11_sell 181 (322, .iload 6, 2) rfl) rfl rfl (aw_iret (dt_X11_sell 182 (324, .ireturn, 1) rfl) rfl rfl ?_)
                                  exact h
                            · intro q57
                              have h := h.2 q57
                              refine aw_bipush (pc' := 97) (v := (-3)) (dt_X11_sell 48 (95, .bipush (-3), 2) rfl) (by decide) rfl (aw_iret (dt_X11_sell 49 (97, .ireturn, 1) rfl) rfl rfl ?_)
                              exact h
                          · intro q56
                            have h := h.2 q56
                            refine aw_bipush (pc' := 84) (v := (-2)) (dt_X11_sell 42 (82, .bipush (-2), 2) rfl) (by decide) rfl (aw_iret (dt_X11_sell 43 (84, .ireturn, 1) rfl) rfl rfl ?_)
                            exact h

theorem t_X11_gift {E : ZE} {l : Launch} {d nc ns : Nat} {x1 : Int32} {x2 : Int32} {μ : ZM} {K : Option Value → ZM → Prop} (hS : Stat μ) (h :
  (x1 < 0 →
    K (some (.int (-1))) μ) ∧
  (¬ x1 < 0 →
    (((zI μ 31 22) - 1) < x1 →
      K (some (.int (-1))) μ) ∧
    (¬ ((zI μ 31 22) - 1) < x1 →
      (x2 < 0 →
        K (some (.int (-1))) μ) ∧
      (¬ x2 < 0 →
        (1 < x2 →
          K (some (.int (-1))) μ) ∧
        (¬ 1 < x2 →
          (vp_in x1 300) ∧
          ((zI μ 57 x1.toNatClampNeg) = 0 →
            (¬ x2 = 1 →
              (vp_in x1 300) ∧
              K (some (.int 0)) (sI μ 57 x1.toNatClampNeg 0)) ∧
            (x2 = 1 →
              (vp_in x1 300) ∧
              K (some (.int 0)) (sI μ 57 x1.toNatClampNeg 1))) ∧
          (¬ (zI μ 57 x1.toNatClampNeg) = 0 →
            (¬ x2 = 1 →
              (vp_in x1 300) ∧
              K (some (.int 1)) (sI μ 57 x1.toNatClampNeg 0)) ∧
            (x2 = 1 →
              (vp_in x1 300) ∧
              K (some (.int 1)) (sI μ 57 x1.toNatClampNeg 1)))))))) : AW E l (d + 2) nc ns mX11_gift 0 [some (.ref 31), some (.int x1), some (.int x2), none] [] μ K := by
  refine aw_aload_n (pc' := 1) (dt_X11_gift 0 (0, .aload_n 0, 1) rfl) rfl rfl (aw_iload_n (pc' := 2) (dt_X11_gift 1 (1, .iload_n 1, 1) rfl) rfl rfl (aw_inV (pc' := 5) (nc1 := 0) (ns1 := 0) (nc := nc) (ns := ns) (ls' := [some (.ref 31), some (.int x1)]) (y2 := mX11_isSale) (As := [.int x1]) (rest := []) (a := 31) (dt_X11_gift 2 (2, .invokevirtual 228, 3) rfl) ok_X11_isSale ln_ReturnDeskModel_228 im_X11_isSale se_X11_isSale pr_X11_isSale (Or.inl ⟨by decide, rfl⟩) rfl (Nat.le_of_ble_eq_true rfl) (Nat.le_of_ble_eq_true rfl) rfl rfl (sk_31 hS) (aw_iload_n (pc' := 1) (dt_X11_isSale 0 (0, .iload_n 1, 1) rfl) rfl rfl (aw_iconst (pc' := 2) (v := 0) (dt_X11_isSale 1 (1, .iconst 0, 1) rfl) (by decide) rfl (aw_aload_n (pc' := 3) (dt_X11_isSale 2 (2, .aload_n 0, 1) rfl) rfl rfl (aw_getI (pc' := 6) (dt_X11_isSale 3 (3, .getfield 215, 3) rfl) fl_ReturnDeskModel_215 rfl rfl (sk_31 hS) (aw_iconst (pc' := 7) (v := 1) (dt_X11_isSale 4 (6, .iconst 1, 1) rfl) (by decide) rfl (aw_isub (pc' := 8) (dt_X11_isSale 5 (7, .isub, 1) rfl) rfl (aw_inS (pc' := 11) (nc1 := 0) (ns1 := 0) (nc := 0) (ns := 0) (ls' := [some (.int x1), some (.int 0), some (.int ((zI μ 31 22) - 1))]) (y2 := mX11_in) (As := [.int x1, .int 0, .int ((zI μ 31 22) - 1)]) (rest := []) (dt_X11_isSale 6 (8, .invokestatic 185, 3) rfl) ok_X11_in ln_ReturnDeskModel_185 sm_X11_in pr_X11_in rfl (Nat.le_of_ble_eq_true rfl) (Nat.le_of_ble_eq_true rfl) rfl rfl (aw_iload_n (pc' := 1) (dt_X11_in 0 (0, .iload_n 0, 1) rfl) rfl rfl (aw_iload_n (pc' := 2) (dt_X11_in 1 (1, .iload_n 1, 1) rfl) rfl rfl (aw_icmp_lt (pc' := 5) (tgt := 14) (dt_X11_in 2 (2, .if_icmp .lt 12, 3) rfl) (by decide) rfl ?_ ?_))))))))))))
  · intro q1
    have h := h.1 q1
    refine aw_iconst (pc' := 15) (v := 0) (dt_X11_in 8 (14, .iconst 0, 1) rfl) (by decide) rfl (aw_iret (dt_X11_in 9 (15, .ireturn, 1) rfl) rfl rfl (aw_stk (st' := [.int 0]) rfl (aw_iret (dt_X11_isSale 7 (11, .ireturn, 1) rfl) rfl rfl (aw_stk (st' := [.int 0]) rfl (aw_if_eq_T (pc' := 8) (tgt := 17) (dt_X11_gift 3 (5, .ifCond .eq 12, 3) rfl) (by decide) rfl (by decide) (aw_iconst (pc' := 18) (v := (-1)) (dt_X11_gift 9 (17, .iconst (-1), 1) rfl) (by decide) rfl (aw_iret (dt_X11_gift 10 (18, .ireturn, 1) rfl) rfl rfl ?_)))))))
    exact h
  · intro q1
    have h := h.2 q1
    refine aw_iload_n (pc' := 6) (dt_X11_in 3 (5, .iload_n 0, 1) rfl) rfl rfl (aw_iload_n (pc' := 7) (dt_X11_in 4 (6, .iload_n 2, 1) rfl) rfl rfl (aw_icmp_gt (pc' := 10) (tgt := 14) (dt_X11_in 5 (7, .if_icmp .gt 7, 3) rfl) (by decide) rfl ?_ ?_))
    · intro q2
      have h := h.1 q2
      refine aw_iconst (pc' := 15) (v := 0) (dt_X11_in 8 (14, .iconst 0, 1) rfl) (by decide) rfl (aw_iret (dt_X11_in 9 (15, .ireturn, 1) rfl) rfl rfl (aw_stk (st' := [.int 0]) rfl (aw_iret (dt_X11_isSale 7 (11, .ireturn, 1) rfl) rfl rfl (aw_stk (st' := [.int 0]) rfl (aw_if_eq_T (pc' := 8) (tgt := 17) (dt_X11_gift 3 (5, .ifCond .eq 12, 3) rfl) (by decide) rfl (by decide) (aw_iconst (pc' := 18) (v := (-1)) (dt_X11_gift 9 (17, .iconst (-1), 1) rfl) (by decide) rfl (aw_iret (dt_X11_gift 10 (18, .ireturn, 1) rfl) rfl rfl ?_)))))))
      exact h
    · intro q2
      have h := h.2 q2
      refine aw_iconst (pc' := 11) (v := 1) (dt_X11_in 6 (10, .iconst 1, 1) rfl) (by decide) rfl (aw_goto (tgt := 15) (dt_X11_in 7 (11, .goto 4, 3) rfl) (by decide) (aw_iret (dt_X11_in 9 (15, .ireturn, 1) rfl) rfl rfl (aw_stk (st' := [.int 1]) rfl (aw_iret (dt_X11_isSale 7 (11, .ireturn, 1) rfl) rfl rfl (aw_stk (st' := [.int 1]) rfl (aw_if_eq_F (pc' := 8) (tgt := 17) (dt_X11_gift 3 (5, .ifCond .eq 12, 3) rfl) (by decide) rfl (by decide) (aw_iload_n (pc' := 9) (dt_X11_gift 4 (8, .iload_n 2, 1) rfl) rfl rfl (aw_iconst (pc' := 10) (v := 0) (dt_X11_gift 5 (9, .iconst 0, 1) rfl) (by decide) rfl (aw_iconst (pc' := 11) (v := 1) (dt_X11_gift 6 (10, .iconst 1, 1) rfl) (by decide) rfl (aw_inS (pc' := 14) (nc1 := 0) (ns1 := 0) (nc := nc) (ns := ns) (ls' := [some (.int x2), some (.int 0), some (.int 1)]) (y2 := mX11_in) (As := [.int x2, .int 0, .int 1]) (rest := []) (dt_X11_gift 7 (11, .invokestatic 185, 3) rfl) ok_X11_in ln_ReturnDeskModel_185 sm_X11_in pr_X11_in rfl (Nat.le_of_ble_eq_true rfl) (Nat.le_of_ble_eq_true rfl) rfl rfl (aw_iload_n (pc' := 1) (dt_X11_in 0 (0, .iload_n 0, 1) rfl) rfl rfl (aw_iload_n (pc' := 2) (dt_X11_in 1 (1, .iload_n 1, 1) rfl) rfl rfl (aw_icmp_lt (pc' := 5) (tgt := 14) (dt_X11_in 2 (2, .if_icmp .lt 12, 3) rfl) (by decide) rfl ?_ ?_)))))))))))))
      · intro q3
        have h := h.1 q3
        refine aw_iconst (pc' := 15) (v := 0) (dt_X11_in 8 (14, .iconst 0, 1) rfl) (by decide) rfl (aw_iret (dt_X11_in 9 (15, .ireturn, 1) rfl) rfl rfl (aw_stk (st' := [.int 0]) rfl (aw_if_ne_F (pc' := 17) (tgt := 19) (dt_X11_gift 8 (14, .ifCond .ne 5, 3) rfl) (by decide) rfl (by decide) (aw_iconst (pc' := 18) (v := (-1)) (dt_X11_gift 9 (17, .iconst (-1), 1) rfl) (by decide) rfl (aw_iret (dt_X11_gift 10 (18, .ireturn, 1) rfl) rfl rfl ?_)))))
        exact h
      · intro q3
        have h := h.2 q3
        refine aw_iload_n (pc' := 6) (dt_X11_in 3 (5, .iload_n 0, 1) rfl) rfl rfl (aw_iload_n (pc' := 7) (dt_X11_in 4 (6, .iload_n 2, 1) rfl) rfl rfl (aw_icmp_gt (pc' := 10) (tgt := 14) (dt_X11_in 5 (7, .if_icmp .gt 7, 3) rfl) (by decide) rfl ?_ ?_))
        · intro q4
          have h := h.1 q4
          refine aw_iconst (pc' := 15) (v := 0) (dt_X11_in 8 (14, .iconst 0, 1) rfl) (by decide) rfl (aw_iret (dt_X11_in 9 (15, .ireturn, 1) rfl) rfl rfl (aw_stk (st' := [.int 0]) rfl (aw_if_ne_F (pc' := 17) (tgt := 19) (dt_X11_gift 8 (14, .ifCond .ne 5, 3) rfl) (by decide) rfl (by decide) (aw_iconst (pc' := 18) (v := (-1)) (dt_X11_gift 9 (17, .iconst (-1), 1) rfl) (by decide) rfl (aw_iret (dt_X11_gift 10 (18, .ireturn, 1) rfl) rfl rfl ?_)))))
          exact h
        · intro q4
          have h := h.2 q4
          obtain ⟨g5, h⟩ := h
          refine aw_iconst (pc' := 11) (v := 1) (dt_X11_in 6 (10, .iconst 1, 1) rfl) (by decide) rfl (aw_goto (tgt := 15) (dt_X11_in 7 (11, .goto 4, 3) rfl) (by decide) (aw_iret (dt_X11_in 9 (15, .ireturn, 1) rfl) rfl rfl (aw_stk (st' := [.int 1]) rfl (aw_if_ne_T (pc' := 17) (tgt := 19) (dt_X11_gift 8 (14, .ifCond .ne 5, 3) rfl) (by decide) rfl (by decide) (aw_aload_n (pc' := 20) (dt_X11_gift 11 (19, .aload_n 0, 1) rfl) rfl rfl (aw_getAs (pc' := 23) (dt_X11_gift 12 (20, .getfield 86, 3) rfl) fl_ReturnDeskModel_86 rfl rfl (sk_31 hS) (sa_31_32 hS) (aw_iload_n (pc' := 24) (dt_X11_gift 13 (23, .iload_n 1, 1) rfl) rfl rfl (aw_zald (pc' := 25) (dt_X11_gift 14 (24, .baload, 1) rfl) rfl (sk_57 hS) (vin_eq (sl_57 hS) g5) (aw_if_eq (pc' := 28) (tgt := 32) (dt_X11_gift 15 (25, .ifCond .eq 7, 3) rfl) (by decide) rfl ?_ ?_)))))))))
          · intro q6
            have h := h.1 q6
            refine aw_iconst (pc' := 33) (v := 0) (dt_X11_gift 18 (32, .iconst 0, 1) rfl) (by decide) rfl (aw_istore_n (pc' := 34) (ls' := [some (.ref 31), some (.int x1), some (.int x2), some (.int 0)]) (dt_X11_gift 19 (33, .istore_n 3, 1) rfl) (by decide) rfl rfl (aw_aload_n (pc' := 35) (dt_X11_gift 20 (34, .aload_n 0, 1) rfl) rfl rfl (aw_getAs (pc' := 38) (dt_X11_gift 21 (35, .getfield 86, 3) rfl) fl_ReturnDeskModel_86 rfl rfl (sk_31 hS) (sa_31_32 hS) (aw_iload_n (pc' := 39) (dt_X11_gift 22 (38, .iload_n 1, 1) rfl) rfl rfl (aw_iload_n (pc' := 40) (dt_X11_gift 23 (39, .iload_n 2, 1) rfl) rfl rfl (aw_iconst (pc' := 41) (v := 1) (dt_X11_gift 24 (40, .iconst 1, 1) rfl) (by decide) rfl (aw_icmp_ne (pc' := 44) (tgt := 48) (dt_X11_gift 25 (41, .if_icmp .ne 7, 3) rfl) (by decide) rfl ?_ ?_)))))))
            · intro q7
              have h := h.1 q7
              obtain ⟨g8, h⟩ := h
              refine aw_iconst (pc' := 49) (v := 0) (dt_X11_gift 28 (48, .iconst 0, 1) rfl) (by decide) rfl (aw_zast (pc' := 50) (dt_X11_gift 29 (49, .bastore, 1) rfl) rfl (sk_57 hS) (by decide) (vin_eq (sl_57 hS) g8) (by decide) (aw_iload_n (pc' := 51) (dt_X11_gift 30 (50, .iload_n 3, 1) rfl) rfl rfl (aw_iret (dt_X11_gift 31 (51, .ireturn, 1) rfl) rfl rfl ?_)))
              exact h
            · intro q7
              have h := h.2 q7
              obtain ⟨g9, h⟩ := h
              refine aw_iconst (pc' := 45) (v := 1) (dt_X11_gift 26 (44, .iconst 1, 1) rfl) (by decide) rfl (aw_goto (tgt := 49) (dt_X11_gift 27 (45, .goto 4, 3) rfl) (by decide) (aw_zast (pc' := 50) (dt_X11_gift 29 (49, .bastore, 1) rfl) rfl (sk_57 hS) (by decide) (vin_eq (sl_57 hS) g9) (by decide) (aw_iload_n (pc' := 51) (dt_X11_gift 30 (50, .iload_n 3, 1) rfl) rfl rfl (aw_iret (dt_X11_gift 31 (51, .ireturn, 1) rfl) rfl rfl ?_))))
              exact h
          · intro q6
            have h := h.2 q6
            refine aw_iconst (pc' := 29) (v := 1) (dt_X11_gift 16 (28, .iconst 1, 1) rfl) (by decide) rfl (aw_goto (tgt := 33) (dt_X11_gift 17 (29, .goto 4, 3) rfl) (by decide) (aw_istore_n (pc' := 34) (ls' := [some (.ref 31), some (.int x1), some (.int x2), some (.int 1)]) (dt_X11_gift 19 (33, .istore_n 3, 1) rfl) (by decide) rfl rfl (aw_aload_n (pc' := 35) (dt_X11_gift 20 (34, .aload_n 0, 1) rfl) rfl rfl (aw_getAs (pc' := 38) (dt_X11_gift 21 (35, .getfield 86, 3) rfl) fl_ReturnDeskModel_86 rfl rfl (sk_31 hS) (sa_31_32 hS) (aw_iload_n (pc' := 39) (dt_X11_gift 22 (38, .iload_n 1, 1) rfl) rfl rfl (aw_iload_n (pc' := 40) (dt_X11_gift 23 (39, .iload_n 2, 1) rfl) rfl rfl (aw_iconst (pc' := 41) (v := 1) (dt_X11_gift 24 (40, .iconst 1, 1) rfl) (by decide) rfl (aw_icmp_ne (pc' := 44) (tgt := 48) (dt_X11_gift 25 (41, .if_icmp .ne 7, 3) rfl) (by decide) rfl ?_ ?_))))))))
            · intro q10
              have h := h.1 q10
              obtain ⟨g11, h⟩ := h
              refine aw_iconst (pc' := 49) (v := 0) (dt_X11_gift 28 (48, .iconst 0, 1) rfl) (by decide) rfl (aw_zast (pc' := 50) (dt_X11_gift 29 (49, .bastore, 1) rfl) rfl (sk_57 hS) (by decide) (vin_eq (sl_57 hS) g11) (by decide) (aw_iload_n (pc' := 51) (dt_X11_gift 30 (50, .iload_n 3, 1) rfl) rfl rfl (aw_iret (dt_X11_gift 31 (51, .ireturn, 1) rfl) rfl rfl ?_)))
              exact h
            · intro q10
              have h := h.2 q10
              obtain ⟨g12, h⟩ := h
              refine aw_iconst (pc' := 45) (v := 1) (dt_X11_gift 26 (44, .iconst 1, 1) rfl) (by decide) rfl (aw_goto (tgt := 49) (dt_X11_gift 27 (45, .goto 4, 3) rfl) (by decide) (aw_zast (pc' := 50) (dt_X11_gift 29 (49, .bastore, 1) rfl) rfl (sk_57 hS) (by decide) (vin_eq (sl_57 hS) g12) (by decide) (aw_iload_n (pc' := 51) (dt_X11_gift 30 (50, .iload_n 3, 1) rfl) rfl rfl (aw_iret (dt_X11_gift 31 (51, .ireturn, 1) rfl) rfl rfl ?_))))
              exact h

theorem t_X11_threes {E : ZE} {l : Launch} {d nc ns : Nat} {x1 : Int32} {μ : ZM} {K : Option Value → ZM → Prop} (hS : Stat μ) (h :
  (vp_in x1 300) ∧
  (¬ (zI μ 54 x1.toNatClampNeg) = 0 →
    AW E l (d + 1) nc ns mX11_threes 15 [some (.ref 31), some (.int x1), some (.int 0), some (.int 0)] [] μ K) ∧
  ((zI μ 54 x1.toNatClampNeg) = 0 →
    K (some (.int 1)) μ)) : AW E l (d + 1) nc ns mX11_threes 0 [some (.ref 31), some (.int x1), none, none] [] μ K := by
  obtain ⟨g1, h⟩ := h
  refine aw_aload_n (pc' := 1) (dt_X11_threes 0 (0, .aload_n 0, 1) rfl) rfl rfl (aw_getAs (pc' := 4) (dt_X11_threes 1 (1, .getfield 77, 3) rfl) fl_ReturnDeskModel_77 rfl rfl (sk_31 hS) (sa_31_29 hS) (aw_iload_n (pc' := 5) (dt_X11_threes 2 (4, .iload_n 1, 1) rfl) rfl rfl (aw_iald (pc' := 6) (dt_X11_threes 3 (5, .iaload, 1) rfl) rfl (sk_54 hS) (vin_eq (sl_54 hS) g1) (aw_if_ne (pc' := 9) (tgt := 11) (dt_X11_threes 4 (6, .ifCond .ne 5, 3) rfl) (by decide) rfl ?_ ?_))))
  · intro q2
    have h := h.1 q2
    refine aw_iconst (pc' := 12) (v := 0) (dt_X11_threes 7 (11, .iconst 0, 1) rfl) (by decide) rfl (aw_istore_n (pc' := 13) (ls' := [some (.ref 31), some (.int x1), some (.int 0), none]) (dt_X11_threes 8 (12, .istore_n 2, 1) rfl) (by decide) rfl rfl (aw_iconst (pc' := 14) (v := 0) (dt_X11_threes 9 (13, .iconst 0, 1) rfl) (by decide) rfl (aw_istore_n (pc' := 15) (ls' := [some (.ref 31), some (.int x1), some (.int 0), some (.int 0)]) (dt_X11_threes 10 (14, .istore_n 3, 1) rfl) (by decide) rfl rfl ?_)))
    exact h
  · intro q2
    have h := h.2 q2
    refine aw_iconst (pc' := 10) (v := 1) (dt_X11_threes 5 (9, .iconst 1, 1) rfl) (by decide) rfl (aw_iret (dt_X11_threes 6 (10, .ireturn, 1) rfl) rfl rfl ?_)
    exact h

theorem t_X11_threes_15 {E : ZE} {l : Launch} {d nc ns : Nat} {x1 : Int32} {x2 : Int32} {x3 : Int32} {μ : ZM} {K : Option Value → ZM → Prop} (hS : Stat μ) (h :
  ((zI μ 31 22) ≤ x3 →
    K (some (.int x2)) μ) ∧
  (¬ (zI μ 31 22) ≤ x3 →
    (vp_in x3 300) ∧
    (vp_in x1 300) ∧
    (¬ (zI μ 54 x3.toNatClampNeg) = (zI μ 54 x1.toNatClampNeg) →
      AW E l (d + 1) nc ns mX11_threes 15 [some (.ref 31), some (.int x1), some (.int (x2 + 0)), some (.int (x3 + 1))] [] μ K) ∧
    ((zI μ 54 x3.toNatClampNeg) = (zI μ 54 x1.toNatClampNeg) →
      (vp_in x3 300) ∧
      (vp_in (zI μ 49 x3.toNatClampNeg) 60) ∧
      (vp_in x1 300) ∧
      (vp_in (zI μ 49 x1.toNatClampNeg) 60) ∧
      (¬ (zI μ 45 (zI μ 49 x3.toNatClampNeg).toNatClampNeg) = (zI μ 45 (zI μ 49 x1.toNatClampNeg).toNatClampNeg) →
        AW E l (d + 1) nc ns mX11_threes 15 [some (.ref 31), some (.int x1), some (.int (x2 + 0)), some (.int (x3 + 1))] [] μ K) ∧
      ((zI μ 45 (zI μ 49 x3.toNatClampNeg).toNatClampNeg) = (zI μ 45 (zI μ 49 x1.toNatClampNeg).toNatClampNeg) →
        AW E l (d + 1) nc ns mX11_threes 15 [some (.ref 31), some (.int x1), some (.int (x2 + 1)), some (.int (x3 + 1))] [] μ K)))) : AW E l (d + 1) nc ns mX11_threes 15 [some (.ref 31), some (.int x1), some (.int x2), some (.int x3)] [] μ K := by
  refine aw_iload_n (pc' := 16) (dt_X11_threes 11 (15, .iload_n 3, 1) rfl) rfl rfl (aw_aload_n (pc' := 17) (dt_X11_threes 12 (16, .aload_n 0, 1) rfl) rfl rfl (aw_getI (pc' := 20) (dt_X11_threes 13 (17, .getfield 215, 3) rfl) fl_ReturnDeskModel_215 rfl rfl (sk_31 hS) (aw_icmp_ge (pc' := 23) (tgt := 65) (dt_X11_threes 14 (20, .if_icmp .ge 45, 3) rfl) (by decide) rfl ?_ ?_)))
  · intro q1
    have h := h.1 q1
    refine aw_iload_n (pc' := 66) (dt_X11_threes 39 (65, .iload_n 2, 1) rfl) rfl rfl (aw_iret (dt_X11_threes 40 (66, .ireturn, 1) rfl) rfl rfl ?_)
    exact h
  · intro q1
    have h := h.2 q1
    obtain ⟨g2, h⟩ := h
    obtain ⟨g3, h⟩ := h
    refine aw_iload_n (pc' := 24) (dt_X11_threes 15 (23, .iload_n 2, 1) rfl) rfl rfl (aw_aload_n (pc' := 25) (dt_X11_threes 16 (24, .aload_n 0, 1) rfl) rfl rfl (aw_getAs (pc' := 28) (dt_X11_threes 17 (25, .getfield 77, 3) rfl) fl_ReturnDeskModel_77 rfl rfl (sk_31 hS) (sa_31_29 hS) (aw_iload_n (pc' := 29) (dt_X11_threes 18 (28, .iload_n 3, 1) rfl) rfl rfl (aw_iald (pc' := 30) (dt_X11_threes 19 (29, .iaload, 1) rfl) rfl (sk_54 hS) (vin_eq (sl_54 hS) g2) (aw_aload_n (pc' := 31) (dt_X11_threes 20 (30, .aload_n 0, 1) rfl) rfl rfl (aw_getAs (pc' := 34) (dt_X11_threes 21 (31, .getfield 77, 3) rfl) fl_ReturnDeskModel_77 rfl rfl (sk_31 hS) (sa_31_29 hS) (aw_iload_n (pc' := 35) (dt_X11_threes 22 (34, .iload_n 1, 1) rfl) rfl rfl (aw_iald (pc' := 36) (dt_X11_threes 23 (35, .iaload, 1) rfl) rfl (sk_54 hS) (vin_eq (sl_54 hS) g3) (aw_icmp_ne (pc' := 39) (tgt := 56) (dt_X11_threes 24 (36, .if_icmp .ne 20, 3) rfl) (by decide) rfl ?_ ?_)))))))))
    · intro q4
      have h := h.1 q4
      refine aw_iconst (pc' := 57) (v := 0) (dt_X11_threes 34 (56, .iconst 0, 1) rfl) (by decide) rfl (aw_iadd (pc' := 58) (dt_X11_threes 35 (57, .iadd, 1) rfl) rfl (aw_istore_n (pc' := 59) (ls' := [some (.ref 31), some (.int x1), some (.int (x2 + 0)), some (.int x3)]) (dt_X11_threes 36 (58, .istore_n 2, 1) rfl) (by decide) rfl rfl (aw_iinc (pc' := 62) (v := 1) (ls' := [some (.ref 31), some (.int x1), some (.int (x2 + 0)), some (.int (x3 + 1))]) (dt_X11_threes 37 (59, .iinc 3 1, 3) rfl) rfl (by decide) (by decide) rfl rfl (aw_goto (tgt := 15) (dt_X11_threes 38 (62, .goto (-47), 3) rfl) (by decide) ?_))))
      exact h
    · intro q4
      have h := h.2 q4
      obtain ⟨g5, h⟩ := h
      obtain ⟨g6, h⟩ := h
      obtain ⟨g7, h⟩ := h
      obtain ⟨g8, h⟩ := h
      refine aw_aload_n (pc' := 40) (dt_X11_threes 25 (39, .aload_n 0, 1) rfl) rfl rfl (aw_iload_n (pc' := 41) (dt_X11_threes 26 (40, .iload_n 3, 1) rfl) rfl rfl (aw_inV (pc' := 44) (nc1 := 0) (ns1 := 0) (nc := nc) (ns := ns) (ls' := [some (.ref 31), some (.int x3)]) (y2 := mX11_modelOf) (As := [.int x3]) (rest := [.int x2]) (a := 31) (dt_X11_threes 27 (41, .invokevirtual 231, 3) rfl) ok_X11_modelOf ln_ReturnDeskModel_231 im_X11_modelOf se_X11_modelOf pr_X11_modelOf (Or.inl ⟨by decide, rfl⟩) rfl (Nat.le_of_ble_eq_true rfl) (Nat.le_of_ble_eq_true rfl) rfl rfl (sk_31 hS) (aw_aload_n (pc' := 1) (dt_X11_modelOf 0 (0, .aload_n 0, 1) rfl) rfl rfl (aw_getAs (pc' := 4) (dt_X11_modelOf 1 (1, .getfield 50, 3) rfl) fl_ReturnDeskModel_50 rfl rfl (sk_31 hS) (sa_31_19 hS) (aw_aload_n (pc' := 5) (dt_X11_modelOf 2 (4, .aload_n 0, 1) rfl) rfl rfl (aw_getAs (pc' := 8) (dt_X11_modelOf 3 (5, .getfield 62, 3) rfl) fl_ReturnDeskModel_62 rfl rfl (sk_31 hS) (sa_31_24 hS) (aw_iload_n (pc' := 9) (dt_X11_modelOf 4 (8, .iload_n 1, 1) rfl) rfl rfl (aw_iald (pc' := 10) (dt_X11_modelOf 5 (9, .iaload, 1) rfl) rfl (sk_49 hS) (vin_eq (sl_49 hS) g5) (aw_iald (pc' := 11) (dt_X11_modelOf 6 (10, .iaload, 1) rfl) rfl (sk_45 hS) (vin_eq (sl_45 hS) g6) (aw_iret (dt_X11_modelOf 7 (11, .ireturn, 1) rfl) rfl rfl (aw_stk (st' := [.int (zI μ 45 (zI μ 49 x3.toNatClampNeg).toNatClampNeg), .int x2]) rfl (aw_aload_n (pc' := 45) (dt_X11_threes 28 (44, .aload_n 0, 1) rfl) rfl rfl (aw_iload_n (pc' := 46) (dt_X11_threes 29 (45, .iload_n 1, 1) rfl) rfl rfl (aw_inV (pc' := 49) (nc1 := 0) (ns1 := 0) (nc := nc) (ns := ns) (ls' := [some (.ref 31), some (.int x1)]) (y2 := mX11_modelOf) (As := [.int x1]) (rest := [.int (zI μ 45 (zI μ 49 x3.toNatClampNeg).toNatClampNeg), .int x2]) (a := 31) (dt_X11_threes 30 (46, .invokevirtual 231, 3) rfl) ok_X11_modelOf ln_ReturnDeskModel_231 im_X11_modelOf se_X11_modelOf pr_X11_modelOf (Or.inl ⟨by decide, rfl⟩) rfl (Nat.le_of_ble_eq_true rfl) (Nat.le_of_ble_eq_true rfl) rfl rfl (sk_31 hS) (aw_aload_n (pc' := 1) (dt_X11_modelOf 0 (0, .aload_n 0, 1) rfl) rfl rfl (aw_getAs (pc' := 4) (dt_X11_modelOf 1 (1, .getfield 50, 3) rfl) fl_ReturnDeskModel_50 rfl rfl (sk_31 hS) (sa_31_19 hS) (aw_aload_n (pc' := 5) (dt_X11_modelOf 2 (4, .aload_n 0, 1) rfl) rfl rfl (aw_getAs (pc' := 8) (dt_X11_modelOf 3 (5, .getfield 62, 3) rfl) fl_ReturnDeskModel_62 rfl rfl (sk_31 hS) (sa_31_24 hS) (aw_iload_n (pc' := 9) (dt_X11_modelOf 4 (8, .iload_n 1, 1) rfl) rfl rfl (aw_iald (pc' := 10) (dt_X11_modelOf 5 (9, .iaload, 1) rfl) rfl (sk_49 hS) (vin_eq (sl_49 hS) g7) (aw_iald (pc' := 11) (dt_X11_modelOf 6 (10, .iaload, 1) rfl) rfl (sk_45 hS) (vin_eq (sl_45 hS) g8) (aw_iret (dt_X11_modelOf 7 (11, .ireturn, 1) rfl) rfl rfl (aw_stk (st' := [.int (zI μ 45 (zI μ 49 x1.toNatClampNeg).toNatClampNeg), .int (zI μ 45 (zI μ 49 x3.toNatClampNeg).toNatClampNeg), .int x2]) rfl (aw_icmp_ne (pc' := 52) (tgt := 56) (dt_X11_threes 31 (49, .if_icmp .ne 7, 3) rfl) (by decide) rfl ?_ ?_))))))))))))))))))))))))
      · intro q9
        have h := h.1 q9
        refine aw_iconst (pc' := 57) (v := 0) (dt_X11_threes 34 (56, .iconst 0, 1) rfl) (by decide) rfl (aw_iadd (pc' := 58) (dt_X11_threes 35 (57, .iadd, 1) rfl) rfl (aw_istore_n (pc' := 59) (ls' := [some (.ref 31), some (.int x1), some (.int (x2 + 0)), some (.int x3)]) (dt_X11_threes 36 (58, .istore_n 2, 1) rfl) (by decide) rfl rfl (aw_iinc (pc' := 62) (v := 1) (ls' := [some (.ref 31), some (.int x1), some (.int (x2 + 0)), some (.int (x3 + 1))]) (dt_X11_threes 37 (59, .iinc 3 1, 3) rfl) rfl (by decide) (by decide) rfl rfl (aw_goto (tgt := 15) (dt_X11_threes 38 (62, .goto (-47), 3) rfl) (by decide) ?_))))
        exact h
      · intro q9
        have h := h.2 q9
        refine aw_iconst (pc' := 53) (v := 1) (dt_X11_threes 32 (52, .iconst 1, 1) rfl) (by decide) rfl (aw_goto (tgt := 57) (dt_X11_threes 33 (53, .goto 4, 3) rfl) (by decide) (aw_iadd (pc' := 58) (dt_X11_threes 35 (57, .iadd, 1) rfl) rfl (aw_istore_n (pc' := 59) (ls' := [some (.ref 31), some (.int x1), some (.int (x2 + 1)), some (.int x3)]) (dt_X11_threes 36 (58, .istore_n 2, 1) rfl) (by decide) rfl rfl (aw_iinc (pc' := 62) (v := 1) (ls' := [some (.ref 31), some (.int x1), some (.int (x2 + 1)), some (.int (x3 + 1))]) (dt_X11_threes 37 (59, .iinc 3 1, 3) rfl) rfl (by decide) (by decide) rfl rfl (aw_goto (tgt := 15) (dt_X11_threes 38 (62, .goto (-47), 3) rfl) (by decide) ?_)))))
        exact h

theorem t_X11_ofSale {E : ZE} {l : Launch} {d nc ns : Nat} {x1 : Int32} {x2 : Int32} {μ : ZM} {K : Option Value → ZM → Prop} (hS : Stat μ) (h :
  (x1 < 0 →
    K (some (.int (-2000000000))) μ) ∧
  (¬ x1 < 0 →
    (((zI μ 31 22) - 1) < x1 →
      K (some (.int (-2000000000))) μ) ∧
    (¬ ((zI μ 31 22) - 1) < x1 →
      (x2 = 0 →
        (vp_in x1 300) ∧
        K (some (.int (zI μ 48 x1.toNatClampNeg))) μ) ∧
      (x2 = 1 →
        (vp_in x1 300) ∧
        (vp_in (zI μ 49 x1.toNatClampNeg) 60) ∧
        K (some (.int (zI μ 45 (zI μ 49 x1.toNatClampNeg).toNatClampNeg))) μ) ∧
      (x2 = 2 →
        (vp_in x1 300) ∧
        K (some (.int (zI μ 49 x1.toNatClampNeg))) μ) ∧
      (x2 = 3 →
        (vp_in x1 300) ∧
        K (some (.int (zI μ 50 x1.toNatClampNeg))) μ) ∧
      (x2 = 4 →
        (vp_in x1 300) ∧
        K (some (.int (zI μ 51 x1.toNatClampNeg))) μ) ∧
      (x2 = 5 →
        (vp_in x1 300) ∧
        K (some (.int (zI μ 52 x1.toNatClampNeg))) μ) ∧
      (x2 = 6 →
        (vp_in x1 300) ∧
        K (some (.int (zI μ 53 x1.toNatClampNeg))) μ) ∧
      (x2 = 7 →
        (vp_in x1 300) ∧
        K (some (.int (zI μ 54 x1.toNatClampNeg))) μ) ∧
      (x2 = 8 →
        (vp_in x1 300) ∧
        K (some (.int (zI μ 55 x1.toNatClampNeg))) μ) ∧
      (x2 = 9 →
        (vp_in x1 300) ∧
        K (some (.int (zI μ 56 x1.toNatClampNeg))) μ) ∧
      (x2 = 10 →
        (vp_in x1 300) ∧
        ((zI μ 57 x1.toNatClampNeg) = 0 →
          K (some (.int 0)) μ) ∧
        (¬ (zI μ 57 x1.toNatClampNeg) = 0 →
          K (some (.int 1)) μ)) ∧
      (x2 = 11 →
        (vp_in x1 300) ∧
        K (some (.int (zI μ 58 x1.toNatClampNeg))) μ) ∧
      (x2 = 12 →
        AW E l (d + 1) 0 0 mX11_threes 0 (zargs 4 [.ref 31, .int x1]) [] μ (fun v μ30 => ∃ r32 : Int32, v = some (.int r32) ∧ Stat μ30 ∧ 
          K (some (.int r32)) μ30)) ∧
      ((¬ x2 = 0 ∧ ¬ x2 = 1 ∧ ¬ x2 = 2 ∧ ¬ x2 = 3 ∧ ¬ x2 = 4 ∧ ¬ x2 = 5 ∧ ¬ x2 = 6 ∧ ¬ x2 = 7 ∧ ¬ x2 = 8 ∧ ¬ x2 = 9 ∧ ¬ x2 = 10 ∧ ¬ x2 = 11 ∧ ¬ x2 = 12) →
      K (some (.int (-2000000000))) μ)))) : AW E l (d + 2) nc ns mX11_ofSale 0 [some (.ref 31), some (.int x1), some (.int x2)] [] μ K := by
  refine aw_aload_n (pc' := 1) (dt_X11_ofSale 0 (0, .aload_n 0, 1) rfl) rfl rfl (aw_iload_n (pc' := 2) (dt_X11_ofSale 1 (1, .iload_n 1, 1) rfl) rfl rfl (aw_inV (pc' := 5) (nc1 := 0) (ns1 := 0) (nc := nc) (ns := ns) (ls' := [some (.ref 31), some (.int x1)]) (y2 := mX11_isSale) (As := [.int x1]) (rest := []) (a := 31) (dt_X11_ofSale 2 (2, .invokevirtual 228, 3) rfl) ok_X11_isSale ln_ReturnDeskModel_228 im_X11_isSale se_X11_isSale pr_X11_isSale (Or.inl ⟨by decide, rfl⟩) rfl (Nat.le_of_ble_eq_true rfl) (Nat.le_of_ble_eq_true rfl) rfl rfl (sk_31 hS) (aw_iload_n (pc' := 1) (dt_X11_isSale 0 (0, .iload_n 1, 1) rfl) rfl rfl (aw_iconst (pc' := 2) (v := 0) (dt_X11_isSale 1 (1, .iconst 0, 1) rfl) (by decide) rfl (aw_aload_n (pc' := 3) (dt_X11_isSale 2 (2, .aload_n 0, 1) rfl) rfl rfl (aw_getI (pc' := 6) (dt_X11_isSale 3 (3, .getfield 215, 3) rfl) fl_ReturnDeskModel_215 rfl rfl (sk_31 hS) (aw_iconst (pc' := 7) (v := 1) (dt_X11_isSale 4 (6, .iconst 1, 1) rfl) (by decide) rfl (aw_isub (pc' := 8) (dt_X11_isSale 5 (7, .isub, 1) rfl) rfl (aw_inS (pc' := 11) (nc1 := 0) (ns1 := 0) (nc := 0) (ns := 0) (ls' := [some (.int x1), some (.int 0), some (.int ((zI μ 31 22) - 1))]) (y2 := mX11_in) (As := [.int x1, .int 0, .int ((zI μ 31 22) - 1)]) (rest := []) (dt_X11_isSale 6 (8, .invokestatic 185, 3) rfl) ok_X11_in ln_ReturnDeskModel_185 sm_X11_in pr_X11_in rfl (Nat.le_of_ble_eq_true rfl) (Nat.le_of_ble_eq_true rfl) rfl rfl (aw_iload_n (pc' := 1) (dt_X11_in 0 (0, .iload_n 0, 1) rfl) rfl rfl (aw_iload_n (pc' := 2) (dt_X11_in 1 (1, .iload_n 1, 1) rfl) rfl rfl (aw_icmp_lt (pc' := 5) (tgt := 14) (dt_X11_in 2 (2, .if_icmp .lt 12, 3) rfl) (by decide) rfl ?_ ?_))))))))))))
  · intro q1
    have h := h.1 q1
    refine aw_iconst (pc' := 15) (v := 0) (dt_X11_in 8 (14, .iconst 0, 1) rfl) (by decide) rfl (aw_iret (dt_X11_in 9 (15, .ireturn, 1) rfl) rfl rfl (aw_stk (st' := [.int 0]) rfl (aw_iret (dt_X11_isSale 7 (11, .ireturn, 1) rfl) rfl rfl (aw_stk (st' := [.int 0]) rfl (aw_if_ne_F (pc' := 8) (tgt := 11) (dt_X11_ofSale 3 (5, .ifCond .ne 6, 3) rfl) (by decide) rfl (by decide) (aw_ldc (pc' := 10) (dt_X11_ofSale 4 (8, .ldc 235, 2) rfl) ct_ReturnDeskModel_235 rfl (aw_iret (dt_X11_ofSale 5 (10, .ireturn, 1) rfl) rfl rfl ?_)))))))
    exact h
  · intro q1
    have h := h.2 q1
    refine aw_iload_n (pc' := 6) (dt_X11_in 3 (5, .iload_n 0, 1) rfl) rfl rfl (aw_iload_n (pc' := 7) (dt_X11_in 4 (6, .iload_n 2, 1) rfl) rfl rfl (aw_icmp_gt (pc' := 10) (tgt := 14) (dt_X11_in 5 (7, .if_icmp .gt 7, 3) rfl) (by decide) rfl ?_ ?_))
    · intro q2
      have h := h.1 q2
      refine aw_iconst (pc' := 15) (v := 0) (dt_X11_in 8 (14, .iconst 0, 1) rfl) (by decide) rfl (aw_iret (dt_X11_in 9 (15, .ireturn, 1) rfl) rfl rfl (aw_stk (st' := [.int 0]) rfl (aw_iret (dt_X11_isSale 7 (11, .ireturn, 1) rfl) rfl rfl (aw_stk (st' := [.int 0]) rfl (aw_if_ne_F (pc' := 8) (tgt := 11) (dt_X11_ofSale 3 (5, .ifCond .ne 6, 3) rfl) (by decide) rfl (by decide) (aw_ldc (pc' := 10) (dt_X11_ofSale 4 (8, .ldc 235, 2) rfl) ct_ReturnDeskModel_235 rfl (aw_iret (dt_X11_ofSale 5 (10, .ireturn, 1) rfl) rfl rfl ?_)))))))
      exact h
    · intro q2
      have h := h.2 q2
      refine aw_iconst (pc' := 11) (v := 1) (dt_X11_in 6 (10, .iconst 1, 1) rfl) (by decide) rfl (aw_goto (tgt := 15) (dt_X11_in 7 (11, .goto 4, 3) rfl) (by decide) (aw_iret (dt_X11_in 9 (15, .ireturn, 1) rfl) rfl rfl (aw_stk (st' := [.int 1]) rfl (aw_iret (dt_X11_isSale 7 (11, .ireturn, 1) rfl) rfl rfl (aw_stk (st' := [.int 1]) rfl (aw_if_ne_T (pc' := 8) (tgt := 11) (dt_X11_ofSale 3 (5, .ifCond .ne 6, 3) rfl) (by decide) rfl (by decide) (aw_iload_n (pc' := 12) (dt_X11_ofSale 6 (11, .iload_n 2, 1) rfl) rfl rfl ?_)))))))
      by_cases q3 : x2 = 0
      · have h := h.1 q3
        refine aw_tableE (tgt := 80) (off := 68) (dt_X11_ofSale 7 (12, .tableswitch 165 0 12 #[68, 75, 81, 88, 95, 102, 109, 116, 123, 130, 137, 152, 159], 68) rfl) q3 (by decide) (by decide) (by decide) (by decide) ?_
        obtain ⟨g4, h⟩ := h
        refine aw_aload_n (pc' := 81) (dt_X11_ofSale 8 (80, .aload_n 0, 1) rfl) rfl rfl (aw_getAs (pc' := 84) (dt_X11_ofSale 9 (81, .getfield 59, 3) rfl) fl_ReturnDeskModel_59 rfl rfl (sk_31 hS) (sa_31_23 hS) (aw_iload_n (pc' := 85) (dt_X11_ofSale 10 (84, .iload_n 1, 1) rfl) rfl rfl (aw_iald (pc' := 86) (dt_X11_ofSale 11 (85, .iaload, 1) rfl) rfl (sk_48 hS) (vin_eq (sl_48 hS) g4) (aw_iret (dt_X11_ofSale 12 (86, .ireturn, 1) rfl) rfl rfl ?_))))
        exact h
      by_cases q5 : x2 = 1
      · have h := h.2.1 q5
        refine aw_tableE (tgt := 87) (off := 75) (dt_X11_ofSale 7 (12, .tableswitch 165 0 12 #[68, 75, 81, 88, 95, 102, 109, 116, 123, 130, 137, 152, 159], 68) rfl) q5 (by decide) (by decide) (by decide) (by decide) ?_
        obtain ⟨g6, h⟩ := h
        obtain ⟨g7, h⟩ := h
        refine aw_aload_n (pc' := 88) (dt_X11_ofSale 13 (87, .aload_n 0, 1) rfl) rfl rfl (aw_iload_n (pc' := 89) (dt_X11_ofSale 14 (88, .iload_n 1, 1) rfl) rfl rfl (aw_inV (pc' := 92) (nc1 := 0) (ns1 := 0) (nc := nc) (ns := ns) (ls' := [some (.ref 31), some (.int x1)]) (y2 := mX11_modelOf) (As := [.int x1]) (rest := []) (a := 31) (dt_X11_ofSale 15 (89, .invokevirtual 231, 3) rfl) ok_X11_modelOf ln_ReturnDeskModel_231 im_X11_modelOf se_X11_modelOf pr_X11_modelOf (Or.inl ⟨by decide, rfl⟩) rfl (Nat.le_of_ble_eq_true rfl) (Nat.le_of_ble_eq_true rfl) rfl rfl (sk_31 hS) (aw_aload_n (pc' := 1) (dt_X11_modelOf 0 (0, .aload_n 0, 1) rfl) rfl rfl (aw_getAs (pc' := 4) (dt_X11_modelOf 1 (1, .getfield 50, 3) rfl) fl_ReturnDeskModel_50 rfl rfl (sk_31 hS) (sa_31_19 hS) (aw_aload_n (pc' := 5) (dt_X11_modelOf 2 (4, .aload_n 0, 1) rfl) rfl rfl (aw_getAs (pc' := 8) (dt_X11_modelOf 3 (5, .getfield 62, 3) rfl) fl_ReturnDeskModel_62 rfl rfl (sk_31 hS) (sa_31_24 hS) (aw_iload_n (pc' := 9) (dt_X11_modelOf 4 (8, .iload_n 1, 1) rfl) rfl rfl (aw_iald (pc' := 10) (dt_X11_modelOf 5 (9, .iaload, 1) rfl) rfl (sk_49 hS) (vin_eq (sl_49 hS) g6) (aw_iald (pc' := 11) (dt_X11_modelOf 6 (10, .iaload, 1) rfl) rfl (sk_45 hS) (vin_eq (sl_45 hS) g7) (aw_iret (dt_X11_modelOf 7 (11, .ireturn, 1) rfl) rfl rfl (aw_stk (st' := [.int (zI μ 45 (zI μ 49 x1.toNatClampNeg).toNatClampNeg)]) rfl (aw_iret (dt_X11_ofSale 16 (92, .ireturn, 1) rfl) rfl rfl ?_))))))))))))
        exact h
      by_cases q8 : x2 = 2
      · have h := h.2.2.1 q8
        refine aw_tableE (tgt := 93) (off := 81) (dt_X11_ofSale 7 (12, .tableswitch 165 0 12 #[68, 75, 81, 88, 95, 102, 109, 116, 123, 130, 137, 152, 159], 68) rfl) q8 (by decide) (by decide) (by decide) (by decide) ?_
        obtain ⟨g9, h⟩ := h
        refine aw_aload_n (pc' := 94) (dt_X11_ofSale 17 (93, .aload_n 0, 1) rfl) rfl rfl (aw_getAs (pc' := 97) (dt_X11_ofSale 18 (94, .getfield 62, 3) rfl) fl_ReturnDeskModel_62 rfl rfl (sk_31 hS) (sa_31_24 hS) (aw_iload_n (pc' := 98) (dt_X11_ofSale 19 (97, .iload_n 1, 1) rfl) rfl rfl (aw_iald (pc' := 99) (dt_X11_ofSale 20 (98, .iaload, 1) rfl) rfl (sk_49 hS) (vin_eq (sl_49 hS) g9) (aw_iret (dt_X11_ofSale 21 (99, .ireturn, 1) rfl) rfl rfl ?_))))
        exact h
      by_cases q10 : x2 = 3
      · have h := h.2.2.2.1 q10
        refine aw_tableE (tgt := 100) (off := 88) (dt_X11_ofSale 7 (12, .tableswitch 165 0 12 #[68, 75, 81, 88, 95, 102, 109, 116, 123, 130, 137, 152, 159], 68) rfl) q10 (by decide) (by decide) (by decide) (by decide) ?_
        obtain ⟨g11, h⟩ := h
        refine aw_aload_n (pc' := 101) (dt_X11_ofSale 22 (100, .aload_n 0, 1) rfl) rfl rfl (aw_getAs (pc' := 104) (dt_X11_ofSale 23 (101, .getfield 65, 3) rfl) fl_ReturnDeskModel_65 rfl rfl (sk_31 hS) (sa_31_25 hS) (aw_iload_n (pc' := 105) (dt_X11_ofSale 24 (104, .iload_n 1, 1) rfl) rfl rfl (aw_iald (pc' := 106) (dt_X11_ofSale 25 (105, .iaload, 1) rfl) rfl (sk_50 hS) (vin_eq (sl_50 hS) g11) (aw_iret (dt_X11_ofSale 26 (106, .ireturn, 1) rfl) rfl rfl ?_))))
        exact h
      by_cases q12 : x2 = 4
      · have h := h.2.2.2.2.1 q12
        refine aw_tableE (tgt := 107) (off := 95) (dt_X11_ofSale 7 (12, .tableswitch 165 0 12 #[68, 75, 81, 88, 95, 102, 109, 116, 123, 130, 137, 152, 159], 68) rfl) q12 (by decide) (by decide) (by decide) (by decide) ?_
        obtain ⟨g13, h⟩ := h
        refine aw_aload_n (pc' := 108) (dt_X11_ofSale 27 (107, .aload_n 0, 1) rfl) rfl rfl (aw_getAs (pc' := 111) (dt_X11_ofSale 28 (108, .getfield 68, 3) rfl) fl_ReturnDeskModel_68 rfl rfl (sk_31 hS) (sa_31_26 hS) (aw_iload_n (pc' := 112) (dt_X11_ofSale 29 (111, .iload_n 1, 1) rfl) rfl rfl (aw_iald (pc' := 113) (dt_X11_ofSale 30 (112, .iaload, 1) rfl) rfl (sk_51 hS) (vin_eq (sl_51 hS) g13) (aw_iret (dt_X11_ofSale 31 (113, .ireturn, 1) rfl) rfl rfl ?_))))
        exact h
      by_cases q14 : x2 = 5
      · have h := h.2.2.2.2.2.1 q14
        refine aw_tableE (tgt := 114) (off := 102) (dt_X11_ofSale 7 (12, .tableswitch 165 0 12 #[68, 75, 81, 88, 95, 102, 109, 116, 123, 130, 137, 152, 159], 68) rfl) q14 (by decide) (by decide) (by decide) (by decide) ?_
        obtain ⟨g15, h⟩ := h
        refine aw_aload_n (pc' := 115) (dt_X11_ofSale 32 (114, .aload_n 0, 1) rfl) rfl rfl (aw_getAs (pc' := 118) (dt_X11_ofSale 33 (115, .getfield 71, 3) rfl) fl_ReturnDeskModel_71 rfl rfl (sk_31 hS) (sa_31_27 hS) (aw_iload_n (pc' := 119) (dt_X11_ofSale 34 (118, .iload_n 1, 1) rfl) rfl rfl (aw_iald (pc' := 120) (dt_X11_ofSale 35 (119, .iaload, 1) rfl) rfl (sk_52 hS) (vin_eq (sl_52 hS) g15) (aw_iret (dt_X11_ofSale 36 (120, .ireturn, 1) rfl) rfl rfl ?_))))
        exact h
      by_cases q16 : x2 = 6
      · have h := h.2.2.2.2.2.2.1 q16
        refine aw_tableE (tgt := 121) (off := 109) (dt_X11_ofSale 7 (12, .tableswitch 165 0 12 #[68, 75, 81, 88, 95, 102, 109, 116, 123, 130, 137, 152, 159], 68) rfl) q16 (by decide) (by decide) (by decide) (by decide) ?_
        obtain ⟨g17, h⟩ := h
        refine aw_aload_n (pc' := 122) (dt_X11_ofSale 37 (121, .aload_n 0, 1) rfl) rfl rfl (aw_getAs (pc' := 125) (dt_X11_ofSale 38 (122, .getfield 74, 3) rfl) fl_ReturnDeskModel_74 rfl rfl (sk_31 hS) (sa_31_28 hS) (aw_iload_n (pc' := 126) (dt_X11_ofSale 39 (125, .iload_n 1, 1) rfl) rfl rfl (aw_iald (pc' := 127) (dt_X11_ofSale 40 (126, .iaload, 1) rfl) rfl (sk_53 hS) (vin_eq (sl_53 hS) g17) (aw_iret (dt_X11_ofSale 41 (127, .ireturn, 1) rfl) rfl rfl ?_))))
        exact h
      by_cases q18 : x2 = 7
      · have h := h.2.2.2.2.2.2.2.1 q18
        refine aw_tableE (tgt := 128) (off := 116) (dt_X11_ofSale 7 (12, .tableswitch 165 0 12 #[68, 75, 81, 88, 95, 102, 109, 116, 123, 130, 137, 152, 159], 68) rfl) q18 (by decide) (by decide) (by decide) (by decide) ?_
        obtain ⟨g19, h⟩ := h
        refine aw_aload_n (pc' := 129) (dt_X11_ofSale 42 (128, .aload_n 0, 1) rfl) rfl rfl (aw_getAs (pc' := 132) (dt_X11_ofSale 43 (129, .getfield 77, 3) rfl) fl_ReturnDeskModel_77 rfl rfl (sk_31 hS) (sa_31_29 hS) (aw_iload_n (pc' := 133) (dt_X11_ofSale 44 (132, .iload_n 1, 1) rfl) rfl rfl (aw_iald (pc' := 134) (dt_X11_ofSale 45 (133, .iaload, 1) rfl) rfl (sk_54 hS) (vin_eq (sl_54 hS) g19) (aw_iret (dt_X11_ofSale 46 (134, .ireturn, 1) rfl) rfl rfl ?_))))
        exact h
      by_cases q20 : x2 = 8
      · have h := h.2.2.2.2.2.2.2.2.1 q20
        refine aw_tableE (tgt := 135) (off := 123) (dt_X11_ofSale 7 (12, .tableswitch 165 0 12 #[68, 75, 81, 88, 95, 102, 109, 116, 123, 130, 137, 152, 159], 68) rfl) q20 (by decide) (by decide) (by decide) (by decide) ?_
        obtain ⟨g21, h⟩ := h
        refine aw_aload_n (pc' := 136) (dt_X11_ofSale 47 (135, .aload_n 0, 1) rfl) rfl rfl (aw_getAs (pc' := 139) (dt_X11_ofSale 48 (136, .getfield 80, 3) rfl) fl_ReturnDeskModel_80 rfl rfl (sk_31 hS) (sa_31_30 hS) (aw_iload_n (pc' := 140) (dt_X11_ofSale 49 (139, .iload_n 1, 1) rfl) rfl rfl (aw_iald (pc' := 141) (dt_X11_ofSale 50 (140, .iaload, 1) rfl) rfl (sk_55 hS) (vin_eq (sl_55 hS) g21) (aw_iret (dt_X11_ofSale 51 (141, .ireturn, 1) rfl) rfl rfl ?_))))
        exact h
      by_cases q22 : x2 = 9
      · have h := h.2.2.2.2.2.2.2.2.2.1 q22
        refine aw_tableE (tgt := 142) (off := 130) (dt_X11_ofSale 7 (12, .tableswitch 165 0 12 #[68, 75, 81, 88, 95, 102, 109, 116, 123, 130, 137, 152, 159], 68) rfl) q22 (by decide) (by decide) (by decide) (by decide) ?_
        obtain ⟨g23, h⟩ := h
        refine aw_aload_n (pc' := 143) (dt_X11_ofSale 52 (142, .aload_n 0, 1) rfl) rfl rfl (aw_getAs (pc' := 146) (dt_X11_ofSale 53 (143, .getfield 83, 3) rfl) fl_ReturnDeskModel_83 rfl rfl (sk_31 hS) (sa_31_31 hS) (aw_iload_n (pc' := 147) (dt_X11_ofSale 54 (146, .iload_n 1, 1) rfl) rfl rfl (aw_iald (pc' := 148) (dt_X11_ofSale 55 (147, .iaload, 1) rfl) rfl (sk_56 hS) (vin_eq (sl_56 hS) g23) (aw_iret (dt_X11_ofSale 56 (148, .ireturn, 1) rfl) rfl rfl ?_))))
        exact h
      by_cases q24 : x2 = 10
      · have h := h.2.2.2.2.2.2.2.2.2.2.1 q24
        refine aw_tableE (tgt := 149) (off := 137) (dt_X11_ofSale 7 (12, .tableswitch 165 0 12 #[68, 75, 81, 88, 95, 102, 109, 116, 123, 130, 137, 152, 159], 68) rfl) q24 (by decide) (by decide) (by decide) (by decide) ?_
        obtain ⟨g25, h⟩ := h
        refine aw_aload_n (pc' := 150) (dt_X11_ofSale 57 (149, .aload_n 0, 1) rfl) rfl rfl (aw_getAs (pc' := 153) (dt_X11_ofSale 58 (150, .getfield 86, 3) rfl) fl_ReturnDeskModel_86 rfl rfl (sk_31 hS) (sa_31_32 hS) (aw_iload_n (pc' := 154) (dt_X11_ofSale 59 (153, .iload_n 1, 1) rfl) rfl rfl (aw_zald (pc' := 155) (dt_X11_ofSale 60 (154, .baload, 1) rfl) rfl (sk_57 hS) (vin_eq (sl_57 hS) g25) (aw_if_eq (pc' := 158) (tgt := 162) (dt_X11_ofSale 61 (155, .ifCond .eq 7, 3) rfl) (by decide) rfl ?_ ?_))))
        · intro q26
          have h := h.1 q26
          refine aw_iconst (pc' := 163) (v := 0) (dt_X11_ofSale 64 (162, .iconst 0, 1) rfl) (by decide) rfl (aw_iret (dt_X11_ofSale 65 (163, .ireturn, 1) rfl) rfl rfl ?_)
          exact h
        · intro q26
          have h := h.2 q26
          refine aw_iconst (pc' := 159) (v := 1) (dt_X11_ofSale 62 (158, .iconst 1, 1) rfl) (by decide) rfl (aw_goto (tgt := 163) (dt_X11_ofSale 63 (159, .goto 4, 3) rfl) (by decide) (aw_iret (dt_X11_ofSale 65 (163, .ireturn, 1) rfl) rfl rfl ?_))
          exact h
      by_cases q27 : x2 = 11
      · have h := h.2.2.2.2.2.2.2.2.2.2.2.1 q27
        refine aw_tableE (tgt := 164) (off := 152) (dt_X11_ofSale 7 (12, .tableswitch 165 0 12 #[68, 75, 81, 88, 95, 102, 109, 116, 123, 130, 137, 152, 159], 68) rfl) q27 (by decide) (by decide) (by decide) (by decide) ?_
        obtain ⟨g28, h⟩ := h
        refine aw_aload_n (pc' := 165) (dt_X11_ofSale 66 (164, .aload_n 0, 1) rfl) rfl rfl (aw_getAs (pc' := 168) (dt_X11_ofSale 67 (165, .getfield 89, 3) rfl) fl_ReturnDeskModel_89 rfl rfl (sk_31 hS) (sa_31_33 hS) (aw_iload_n (pc' := 169) (dt_X11_ofSale 68 (168, .iload_n 1, 1) rfl) rfl rfl (aw_iald (pc' := 170) (dt_X11_ofSale 69 (169, .iaload, 1) rfl) rfl (sk_58 hS) (vin_eq (sl_58 hS) g28) (aw_iret (dt_X11_ofSale 70 (170, .ireturn, 1) rfl) rfl rfl ?_))))
        exact h
      by_cases q29 : x2 = 12
      · have h := h.2.2.2.2.2.2.2.2.2.2.2.2.1 q29
        refine aw_tableE (tgt := 171) (off := 159) (dt_X11_ofSale 7 (12, .tableswitch 165 0 12 #[68, 75, 81, 88, 95, 102, 109, 116, 123, 130, 137, 152, 159], 68) rfl) q29 (by decide) (by decide) (by decide) (by decide) ?_
        refine aw_aload_n (pc' := 172) (dt_X11_ofSale 71 (171, .aload_n 0, 1) rfl) rfl rfl (aw_iload_n (pc' := 173) (dt_X11_ofSale 72 (172, .iload_n 1, 1) rfl) rfl rfl (aw_callV0 (pc' := 176) (nc := nc) (ns := ns) (y2 := mX11_threes) (As := [.int x1]) (rest := []) (a := 31) (dt_X11_ofSale 73 (173, .invokevirtual 236, 3) rfl) ok_X11_threes ln_ReturnDeskModel_236 im_X11_threes se_X11_threes pr_X11_threes (Or.inl ⟨by decide, rfl⟩) rfl (Nat.le_of_ble_eq_true rfl) (Nat.le_of_ble_eq_true rfl) rfl (sk_31 hS) h ?_))
        rintro v μ30 ⟨r32, rfl, hS31, h⟩
        refine aw_stk (st' := [.int r32]) rfl ?_
        refine aw_iret (dt_X11_ofSale 74 (176, .ireturn, 1) rfl) rfl rfl ?_
        exact h
      have h := h.2.2.2.2.2.2.2.2.2.2.2.2.2 ⟨q3, q5, q8, q10, q12, q14, q16, q18, q20, q22, q24, q27, q29⟩
      refine aw_tableOut (tgt := 177) (dt_X11_ofSale 7 (12, .tableswitch 165 0 12 #[68, 75, 81, 88, 95, 102, 109, 116, 123, 130, 137, 152, 159], 68) rfl) (tab_out (lo := 0) (n := 13) (by decide) (by decide) (by decide) (by
          intro k hk
          match k, hk with
          | 0, _ => exact q3
          | 1, _ => exact q5
          | 2, _ => exact q8
          | 3, _ => exact q10
          | 4, _ => exact q12
          | 5, _ => exact q14
          | 6, _ => exact q16
          | 7, _ => exact q18
          | 8, _ => exact q20
          | 9, _ => exact q22
          | 10, _ => exact q24
          | 11, _ => exact q27
          | 12, _ => exact q29
          | k + 13, hk => omega)) (by decide) ?_
      refine aw_ldc (pc' := 179) (dt_X11_ofSale 75 (177, .ldc 235, 2) rfl) ct_ReturnDeskModel_235 rfl (aw_iret (dt_X11_ofSale 76 (179, .ireturn, 1) rfl) rfl rfl ?_)
      exact h

theorem t_X11_join {E : ZE} {l : Launch} {d nc ns : Nat} {x1 : Int32} {x2 : Int32} {x3 : Int32} {x4 : Int32} {μ : ZM} {K : Option Value → ZM → Prop} (hS : Stat μ) (h :
  (x1 < 0 →
    K (some (.int (-1))) μ) ∧
  (¬ x1 < 0 →
    (((zI μ 31 3) - 1) < x1 →
      K (some (.int (-1))) μ) ∧
    (¬ ((zI μ 31 3) - 1) < x1 →
      (x2 < 1 →
        K (some (.int (-1))) μ) ∧
      (¬ x2 < 1 →
        (9999 < x2 →
          K (some (.int (-1))) μ) ∧
        (¬ 9999 < x2 →
          (x3 < 0 →
            K (some (.int (-1))) μ) ∧
          (¬ x3 < 0 →
            (71999 < x3 →
              K (some (.int (-1))) μ) ∧
            (¬ 71999 < x3 →
              (x4 < x3 →
                K (some (.int (-1))) μ) ∧
              (¬ x4 < x3 →
                (71999 < x4 →
                  K (some (.int (-1))) μ) ∧
                (¬ 71999 < x4 →
                  AW E l (d + 2) nc ns mX11_join 51 [some (.ref 31), some (.int x1), some (.int x2), some (.int x3), some (.int x4), some (.int 0), some (.int (-1)), some (.int 0)] [] μ K))))))))) : AW E l (d + 2) nc ns mX11_join 0 [some (.ref 31), some (.int x1), some (.int x2), some (.int x3), some (.int x4), none, none, none] [] μ K := by
  refine aw_aload_n (pc' := 1) (dt_X11_join 0 (0, .aload_n 0, 1) rfl) rfl rfl (aw_iload_n (pc' := 2) (dt_X11_join 1 (1, .iload_n 1, 1) rfl) rfl rfl (aw_inV (pc' := 5) (nc1 := 0) (ns1 := 0) (nc := nc) (ns := ns) (ls' := [some (.ref 31), some (.int x1)]) (y2 := mX11_isModel) (As := [.int x1]) (rest := []) (a := 31) (dt_X11_join 2 (2, .invokevirtual 199, 3) rfl) ok_X11_isModel ln_ReturnDeskModel_199 im_X11_isModel se_X11_isModel pr_X11_isModel (Or.inl ⟨by decide, rfl⟩) rfl (Nat.le_of_ble_eq_true rfl) (Nat.le_of_ble_eq_true rfl) rfl rfl (sk_31 hS) (aw_iload_n (pc' := 1) (dt_X11_isModel 0 (0, .iload_n 1, 1) rfl) rfl rfl (aw_iconst (pc' := 2) (v := 0) (dt_X11_isModel 1 (1, .iconst 0, 1) rfl) (by decide) rfl (aw_aload_n (pc' := 3) (dt_X11_isModel 2 (2, .aload_n 0, 1) rfl) rfl rfl (aw_getI (pc' := 6) (dt_X11_isModel 3 (3, .getfield 192, 3) rfl) fl_ReturnDeskModel_192 rfl rfl (sk_31 hS) (aw_iconst (pc' := 7) (v := 1) (dt_X11_isModel 4 (6, .iconst 1, 1) rfl) (by decide) rfl (aw_isub (pc' := 8) (dt_X11_isModel 5 (7, .isub, 1) rfl) rfl (aw_inS (pc' := 11) (nc1 := 0) (ns1 := 0) (nc := 0) (ns := 0) (ls' := [some (.int x1), some (.int 0), some (.int ((zI μ 31 3) - 1))]) (y2 := mX11_in) (As := [.int x1, .int 0, .int ((zI μ 31 3) - 1)]) (rest := []) (dt_X11_isModel 6 (8, .invokestatic 185, 3) rfl) ok_X11_in ln_ReturnDeskModel_185 sm_X11_in pr_X11_in rfl (Nat.le_of_ble_eq_true rfl) (Nat.le_of_ble_eq_true rfl) rfl rfl (aw_iload_n (pc' := 1) (dt_X11_in 0 (0, .iload_n 0, 1) rfl) rfl rfl (aw_iload_n (pc' := 2) (dt_X11_in 1 (1, .iload_n 1, 1) rfl) rfl rfl (aw_icmp_lt (pc' := 5) (tgt := 14) (dt_X11_in 2 (2, .if_icmp .lt 12, 3) rfl) (by decide) rfl ?_ ?_))))))))))))
  · intro q1
    have h := h.1 q1
    refine aw_iconst (pc' := 15) (v := 0) (dt_X11_in 8 (14, .iconst 0, 1) rfl) (by decide) rfl (aw_iret (dt_X11_in 9 (15, .ireturn, 1) rfl) rfl rfl (aw_stk (st' := [.int 0]) rfl (aw_iret (dt_X11_isModel 7 (11, .ireturn, 1) rfl) rfl rfl (aw_stk (st' := [.int 0]) rfl (aw_if_eq_T (pc' := 8) (tgt := 40) (dt_X11_join 3 (5, .ifCond .eq 35, 3) rfl) (by decide) rfl (by decide) (aw_iconst (pc' := 41) (v := (-1)) (dt_X11_join 19 (40, .iconst (-1), 1) rfl) (by decide) rfl (aw_iret (dt_X11_join 20 (41, .ireturn, 1) rfl) rfl rfl ?_)))))))
    exact h
  · intro q1
    have h := h.2 q1
    refine aw_iload_n (pc' := 6) (dt_X11_in 3 (5, .iload_n 0, 1) rfl) rfl rfl (aw_iload_n (pc' := 7) (dt_X11_in 4 (6, .iload_n 2, 1) rfl) rfl rfl (aw_icmp_gt (pc' := 10) (tgt := 14) (dt_X11_in 5 (7, .if_icmp .gt 7, 3) rfl) (by decide) rfl ?_ ?_))
    · intro q2
      have h := h.1 q2
      refine aw_iconst (pc' := 15) (v := 0) (dt_X11_in 8 (14, .iconst 0, 1) rfl) (by decide) rfl (aw_iret (dt_X11_in 9 (15, .ireturn, 1) rfl) rfl rfl (aw_stk (st' := [.int 0]) rfl (aw_iret (dt_X11_isModel 7 (11, .ireturn, 1) rfl) rfl rfl (aw_stk (st' := [.int 0]) rfl (aw_if_eq_T (pc' := 8) (tgt := 40) (dt_X11_join 3 (5, .ifCond .eq 35, 3) rfl) (by decide) rfl (by decide) (aw_iconst (pc' := 41) (v := (-1)) (dt_X11_join 19 (40, .iconst (-1), 1) rfl) (by decide) rfl (aw_iret (dt_X11_join 20 (41, .ireturn, 1) rfl) rfl rfl ?_)))))))
      exact h
    · intro q2
      have h := h.2 q2
      refine aw_iconst (pc' := 11) (v := 1) (dt_X11_in 6 (10, .iconst 1, 1) rfl) (by decide) rfl (aw_goto (tgt := 15) (dt_X11_in 7 (11, .goto 4, 3) rfl) (by decide) (aw_iret (dt_X11_in 9 (15, .ireturn, 1) rfl) rfl rfl (aw_stk (st' := [.int 1]) rfl (aw_iret (dt_X11_isModel 7 (11, .ireturn, 1) rfl) rfl rfl (aw_stk (st' := [.int 1]) rfl (aw_if_eq_F (pc' := 8) (tgt := 40) (dt_X11_join 3 (5, .ifCond .eq 35, 3) rfl) (by decide) rfl (by decide) (aw_iload_n (pc' := 9) (dt_X11_join 4 (8, .iload_n 2, 1) rfl) rfl rfl (aw_iconst (pc' := 10) (v := 1) (dt_X11_join 5 (9, .iconst 1, 1) rfl) (by decide) rfl (aw_sipush (pc' := 13) (v := 9999) (dt_X11_join 6 (10, .sipush 9999, 3) rfl) (by decide) rfl (aw_inS (pc' := 16) (nc1 := 0) (ns1 := 0) (nc := nc) (ns := ns) (ls' := [some (.int x2), some (.int 1), some (.int 9999)]) (y2 := mX11_in) (As := [.int x2, .int 1, .int 9999]) (rest := []) (dt_X11_join 7 (13, .invokestatic 185, 3) rfl) ok_X11_in ln_ReturnDeskModel_185 sm_X11_in pr_X11_in rfl (Nat.le_of_ble_eq_true rfl) (Nat.le_of_ble_eq_true rfl) rfl rfl (aw_iload_n (pc' := 1) (dt_X11_in 0 (0, .iload_n 0, 1) rfl) rfl rfl (aw_iload_n (pc' := 2) (dt_X11_in 1 (1, .iload_n 1, 1) rfl) rfl rfl (aw_icmp_lt (pc' := 5) (tgt := 14) (dt_X11_in 2 (2, .if_icmp .lt 12, 3) rfl) (by decide) rfl ?_ ?_)))))))))))))
      · intro q3
        have h := h.1 q3
        refine aw_iconst (pc' := 15) (v := 0) (dt_X11_in 8 (14, .iconst 0, 1) rfl) (by decide) rfl (aw_iret (dt_X11_in 9 (15, .ireturn, 1) rfl) rfl rfl (aw_stk (st' := [.int 0]) rfl (aw_if_eq_T (pc' := 19) (tgt := 40) (dt_X11_join 8 (16, .ifCond .eq 24, 3) rfl) (by decide) rfl (by decide) (aw_iconst (pc' := 41) (v := (-1)) (dt_X11_join 19 (40, .iconst (-1), 1) rfl) (by decide) rfl (aw_iret (dt_X11_join 20 (41, .ireturn, 1) rfl) rfl rfl ?_)))))
        exact h
      · intro q3
        have h := h.2 q3
        refine aw_iload_n (pc' := 6) (dt_X11_in 3 (5, .iload_n 0, 1) rfl) rfl rfl (aw_iload_n (pc' := 7) (dt_X11_in 4 (6, .iload_n 2, 1) rfl) rfl rfl (aw_icmp_gt (pc' := 10) (tgt := 14) (dt_X11_in 5 (7, .if_icmp .gt 7, 3) rfl) (by decide) rfl ?_ ?_))
        · intro q4
          have h := h.1 q4
          refine aw_iconst (pc' := 15) (v := 0) (dt_X11_in 8 (14, .iconst 0, 1) rfl) (by decide) rfl (aw_iret (dt_X11_in 9 (15, .ireturn, 1) rfl) rfl rfl (aw_stk (st' := [.int 0]) rfl (aw_if_eq_T (pc' := 19) (tgt := 40) (dt_X11_join 8 (16, .ifCond .eq 24, 3) rfl) (by decide) rfl (by decide) (aw_iconst (pc' := 41) (v := (-1)) (dt_X11_join 19 (40, .iconst (-1), 1) rfl) (by decide) rfl (aw_iret (dt_X11_join 20 (41, .ireturn, 1) rfl) rfl rfl ?_)))))
          exact h
        · intro q4
          have h := h.2 q4
          refine aw_iconst (pc' := 11) (v := 1) (dt_X11_in 6 (10, .iconst 1, 1) rfl) (by decide) rfl (aw_goto (tgt := 15) (dt_X11_in 7 (11, .goto 4, 3) rfl) (by decide) (aw_iret (dt_X11_in 9 (15, .ireturn, 1) rfl) rfl rfl (aw_stk (st' := [.int 1]) rfl (aw_if_eq_F (pc' := 19) (tgt := 40) (dt_X11_join 8 (16, .ifCond .eq 24, 3) rfl) (by decide) rfl (by decide) (aw_iload_n (pc' := 20) (dt_X11_join 9 (19, .iload_n 3, 1) rfl) rfl rfl (aw_iconst (pc' := 21) (v := 0) (dt_X11_join 10 (20, .iconst 0, 1) rfl) (by decide) rfl (aw_ldc (pc' := 23) (dt_X11_join 11 (21, .ldc 210, 2) rfl) ct_ReturnDeskModel_210 rfl (aw_inS (pc' := 26) (nc1 := 0) (ns1 := 0) (nc := nc) (ns := ns) (ls' := [some (.int x3), some (.int 0), some (.int 71999)]) (y2 := mX11_in) (As := [.int x3, .int 0, .int 71999]) (rest := []) (dt_X11_join 12 (23, .invokestatic 185, 3) rfl) ok_X11_in ln_ReturnDeskModel_185 sm_X11_in pr_X11_in rfl (Nat.le_of_ble_eq_true rfl) (Nat.le_of_ble_eq_true rfl) rfl rfl (aw_iload_n (pc' := 1) (dt_X11_in 0 (0, .iload_n 0, 1) rfl) rfl rfl (aw_iload_n (pc' := 2) (dt_X11_in 1 (1, .iload_n 1, 1) rfl) rfl rfl (aw_icmp_lt (pc' := 5) (tgt := 14) (dt_X11_in 2 (2, .if_icmp .lt 12, 3) rfl) (by decide) rfl ?_ ?_)))))))))))
          · intro q5
            have h := h.1 q5
            refine aw_iconst (pc' := 15) (v := 0) (dt_X11_in 8 (14, .iconst 0, 1) rfl) (by decide) rfl (aw_iret (dt_X11_in 9 (15, .ireturn, 1) rfl) rfl rfl (aw_stk (st' := [.int 0]) rfl (aw_if_eq_T (pc' := 29) (tgt := 40) (dt_X11_join 13 (26, .ifCond .eq 14, 3) rfl) (by decide) rfl (by decide) (aw_iconst (pc' := 41) (v := (-1)) (dt_X11_join 19 (40, .iconst (-1), 1) rfl) (by decide) rfl (aw_iret (dt_X11_join 20 (41, .ireturn, 1) rfl) rfl rfl ?_)))))
            exact h
          · intro q5
            have h := h.2 q5
            refine aw_iload_n (pc' := 6) (dt_X11_in 3 (5, .iload_n 0, 1) rfl) rfl rfl (aw_iload_n (pc' := 7) (dt_X11_in 4 (6, .iload_n 2, 1) rfl) rfl rfl (aw_icmp_gt (pc' := 10) (tgt := 14) (dt_X11_in 5 (7, .if_icmp .gt 7, 3) rfl) (by decide) rfl ?_ ?_))
            · intro q6
              have h := h.1 q6
              refine aw_iconst (pc' := 15) (v := 0) (dt_X11_in 8 (14, .iconst 0, 1) rfl) (by decide) rfl (aw_iret (dt_X11_in 9 (15, .ireturn, 1) rfl) rfl rfl (aw_stk (st' := [.int 0]) rfl (aw_if_eq_T (pc' := 29) (tgt := 40) (dt_X11_join 13 (26, .ifCond .eq 14, 3) rfl) (by decide) rfl (by decide) (aw_iconst (pc' := 41) (v := (-1)) (dt_X11_join 19 (40, .iconst (-1), 1) rfl) (by decide) rfl (aw_iret (dt_X11_join 20 (41, .ireturn, 1) rfl) rfl rfl ?_)))))
              exact h
            · intro q6
              have h := h.2 q6
              refine aw_iconst (pc' := 11) (v := 1) (dt_X11_in 6 (10, .iconst 1, 1) rfl) (by decide) rfl (aw_goto (tgt := 15) (dt_X11_in 7 (11, .goto 4, 3) rfl) (by decide) (aw_iret (dt_X11_in 9 (15, .ireturn, 1) rfl) rfl rfl (aw_stk (st' := [.int 1]) rfl (aw_if_eq_F (pc' := 29) (tgt := 40) (dt_X11_join 13 (26, .ifCond .eq 14, 3) rfl) (by decide) rfl (by decide) (aw_iload (pc' := 31) (dt_X11_join 14 (29, .iload 4, 2) rfl) rfl rfl (aw_iload_n (pc' := 32) (dt_X11_join 15 (31, .iload_n 3, 1) rfl) rfl rfl (aw_ldc (pc' := 34) (dt_X11_join 16 (32, .ldc 210, 2) rfl) ct_ReturnDeskModel_210 rfl (aw_inS (pc' := 37) (nc1 := 0) (ns1 := 0) (nc := nc) (ns := ns) (ls' := [some (.int x4), some (.int x3), some (.int 71999)]) (y2 := mX11_in) (As := [.int x4, .int x3, .int 71999]) (rest := []) (dt_X11_join 17 (34, .invokestatic 185, 3) rfl) ok_X11_in ln_ReturnDeskModel_185 sm_X11_in pr_X11_in rfl (Nat.le_of_ble_eq_true rfl) (Nat.le_of_ble_eq_true rfl) rfl rfl (aw_iload_n (pc' := 1) (dt_X11_in 0 (0, .iload_n 0, 1) rfl) rfl rfl (aw_iload_n (pc' := 2) (dt_X11_in 1 (1, .iload_n 1, 1) rfl) rfl rfl (aw_icmp_lt (pc' := 5) (tgt := 14) (dt_X11_in 2 (2, .if_icmp .lt 12, 3) rfl) (by decide) rfl ?_ ?_)))))))))))
              · intro q7
                have h := h.1 q7
                refine aw_iconst (pc' := 15) (v := 0) (dt_X11_in 8 (14, .iconst 0, 1) rfl) (by decide) rfl (aw_iret (dt_X11_in 9 (15, .ireturn, 1) rfl) rfl rfl (aw_stk (st' := [.int 0]) rfl (aw_if_ne_F (pc' := 40) (tgt := 42) (dt_X11_join 18 (37, .ifCond .ne 5, 3) rfl) (by decide) rfl (by decide) (aw_iconst (pc' := 41) (v := (-1)) (dt_X11_join 19 (40, .iconst (-1), 1) rfl) (by decide) rfl (aw_iret (dt_X11_join 20 (41, .ireturn, 1) rfl) rfl rfl ?_)))))
                exact h
              · intro q7
                have h := h.2 q7
                refine aw_iload_n (pc' := 6) (dt_X11_in 3 (5, .iload_n 0, 1) rfl) rfl rfl (aw_iload_n (pc' := 7) (dt_X11_in 4 (6, .iload_n 2, 1) rfl) rfl rfl (aw_icmp_gt (pc' := 10) (tgt := 14) (dt_X11_in 5 (7, .if_icmp .gt 7, 3) rfl) (by decide) rfl ?_ ?_))
                · intro q8
                  have h := h.1 q8
                  refine aw_iconst (pc' := 15) (v := 0) (dt_X11_in 8 (14, .iconst 0, 1) rfl) (by decide) rfl (aw_iret (dt_X11_in 9 (15, .ireturn, 1) rfl) rfl rfl (aw_stk (st' := [.int 0]) rfl (aw_if_ne_F (pc' := 40) (tgt := 42) (dt_X11_join 18 (37, .ifCond .ne 5, 3) rfl) (by decide) rfl (by decide) (aw_iconst (pc' := 41) (v := (-1)) (dt_X11_join 19 (40, .iconst (-1), 1) rfl) (by decide) rfl (aw_iret (dt_X11_join 20 (41, .ireturn, 1) rfl) rfl rfl ?_)))))
                  exact h
                · intro q8
                  have h := h.2 q8
                  refine aw_iconst (pc' := 11) (v := 1) (dt_X11_in 6 (10, .iconst 1, 1) rfl) (by decide) rfl (aw_goto (tgt := 15) (dt_X11_in 7 (11, .goto 4, 3) rfl) (by decide) (aw_iret (dt_X11_in 9 (15, .ireturn, 1) rfl) rfl rfl (aw_stk (st' := [.int 1]) rfl (aw_if_ne_T (pc' := 40) (tgt := 42) (dt_X11_join 18 (37, .ifCond .ne 5, 3) rfl) (by decide) rfl (by decide) (aw_iconst (pc' := 43) (v := 0) (dt_X11_join 21 (42, .iconst 0, 1) rfl) (by decide) rfl (aw_istore (pc' := 45) (ls' := [some (.ref 31), some (.int x1), some (.int x2), some (.int x3), some (.int x4), some (.int 0), none, none]) (dt_X11_join 22 (43, .istore 5, 2) rfl) (by decide) rfl rfl (aw_iconst (pc' := 46) (v := (-1)) (dt_X11_join 23 (45, .iconst (-1), 1) rfl) (by decide) rfl (aw_istore (pc' := 48) (ls' := [some (.ref 31), some (.int x1), some (.int x2), some (.int x3), some (.int x4), some (.int 0), some (.int (-1)), none]) (dt_X11_join 24 (46, .istore 6, 2) rfl) (by decide) rfl rfl (aw_iconst (pc' := 49) (v := 0) (dt_X11_join 25 (48, .iconst 0, 1) rfl) (by decide) rfl (aw_istore (pc' := 51) (ls' := [some (.ref 31), some (.int x1), some (.int x2), some (.int x3), some (.int x4), some (.int 0), some (.int (-1)), some (.int 0)]) (dt_X11_join 26 (49, .istore 7, 2) rfl) (by decide) rfl rfl ?_))))))))))
                  exact h

theorem t_X11_join_51 {E : ZE} {l : Launch} {d nc ns : Nat} {x1 : Int32} {x2 : Int32} {x3 : Int32} {x4 : Int32} {x5 : Int32} {x6 : Int32} {x7 : Int32} {μ : ZM} {K : Option Value → ZM → Prop} (hS : Stat μ) (h :
  ((zI μ 31 22) ≤ x7 →
    (¬ x5 = 1 →
      K (some (.int ((-10) - x5))) μ) ∧
    (x5 = 1 →
      K (some (.int x6)) μ)) ∧
  (¬ (zI μ 31 22) ≤ x7 →
    (vp_in x7 300) ∧
    (¬ (zI μ 48 x7.toNatClampNeg) = 0 →
      AW E l (d + 2) nc ns mX11_join 51 [some (.ref 31), some (.int x1), some (.int x2), some (.int x3), some (.int x4), some (.int x5), some (.int x6), some (.int (x7 + 1))] [] μ K) ∧
    ((zI μ 48 x7.toNatClampNeg) = 0 →
      (vp_in x7 300) ∧
      (vp_in (zI μ 49 x7.toNatClampNeg) 60) ∧
      (¬ (zI μ 45 (zI μ 49 x7.toNatClampNeg).toNatClampNeg) = x1 →
        AW E l (d + 2) nc ns mX11_join 51 [some (.ref 31), some (.int x1), some (.int x2), some (.int x3), some (.int x4), some (.int x5), some (.int x6), some (.int (x7 + 1))] [] μ K) ∧
      ((zI μ 45 (zI μ 49 x7.toNatClampNeg).toNatClampNeg) = x1 →
        (vp_in x7 300) ∧
        (¬ (zI μ 52 x7.toNatClampNeg) = x2 →
          AW E l (d + 2) nc ns mX11_join 51 [some (.ref 31), some (.int x1), some (.int x2), some (.int x3), some (.int x4), some (.int x5), some (.int x6), some (.int (x7 + 1))] [] μ K) ∧
        ((zI μ 52 x7.toNatClampNeg) = x2 →
          (vp_in x7 300) ∧
          ((zI μ 55 x7.toNatClampNeg) < x3 →
            AW E l (d + 2) nc ns mX11_join 51 [some (.ref 31), some (.int x1), some (.int x2), some (.int x3), some (.int x4), some (.int x5), some (.int x6), some (.int (x7 + 1))] [] μ K) ∧
          (¬ (zI μ 55 x7.toNatClampNeg) < x3 →
            (x4 < (zI μ 55 x7.toNatClampNeg) →
              AW E l (d + 2) nc ns mX11_join 51 [some (.ref 31), some (.int x1), some (.int x2), some (.int x3), some (.int x4), some (.int x5), some (.int x6), some (.int (x7 + 1))] [] μ K) ∧
            (¬ x4 < (zI μ 55 x7.toNatClampNeg) →
              AW E l (d + 2) nc ns mX11_join 51 [some (.ref 31), some (.int x1), some (.int x2), some (.int x3), some (.int x4), some (.int (x5 + 1)), some (.int x7), some (.int (x7 + 1))] [] μ K))))))) : AW E l (d + 2) nc ns mX11_join 51 [some (.ref 31), some (.int x1), some (.int x2), some (.int x3), some (.int x4), some (.int x5), some (.int x6), some (.int x7)] [] μ K := by
  refine aw_iload (pc' := 53) (dt_X11_join 27 (51, .iload 7, 2) rfl) rfl rfl (aw_aload_n (pc' := 54) (dt_X11_join 28 (53, .aload_n 0, 1) rfl) rfl rfl (aw_getI (pc' := 57) (dt_X11_join 29 (54, .getfield 215, 3) rfl) fl_ReturnDeskModel_215 rfl rfl (sk_31 hS) (aw_icmp_ge (pc' := 60) (tgt := 123) (dt_X11_join 30 (57, .if_icmp .ge 66, 3) rfl) (by decide) rfl ?_ ?_)))
  · intro q1
    have h := h.1 q1
    refine aw_iload (pc' := 125) (dt_X11_join 61 (123, .iload 5, 2) rfl) rfl rfl (aw_iconst (pc' := 126) (v := 1) (dt_X11_join 62 (125, .iconst 1, 1) rfl) (by decide) rfl (aw_icmp_ne (pc' := 129) (tgt := 134) (dt_X11_join 63 (126, .if_icmp .ne 8, 3) rfl) (by decide) rfl ?_ ?_))
    · intro q2
      have h := h.1 q2
      refine aw_bipush (pc' := 136) (v := (-10)) (dt_X11_join 66 (134, .bipush (-10), 2) rfl) (by decide) rfl (aw_iload (pc' := 138) (dt_X11_join 67 (136, .iload 5, 2) rfl) rfl rfl (aw_isub (pc' := 139) (dt_X11_join 68 (138, .isub, 1) rfl) rfl (aw_iret (dt_X11_join 69 (139, .ireturn, 1) rfl) rfl rfl ?_)))
      exact h
    · intro q2
      have h := h.2 q2
      refine aw_iload (pc' := 131) (dt_X11_join 64 (129, .iload 6, 2) rfl) rfl rfl (aw_goto (tgt := 139) (dt_X11_join 65 (131, .goto 8, 3) rfl) (by decide) (aw_iret (dt_X11_join 69 (139, .ireturn, 1) rfl) rfl rfl ?_))
      exact h
  · intro q1
    have h := h.2 q1
    obtain ⟨g3, h⟩ := h
    refine aw_aload_n (pc' := 61) (dt_X11_join 31 (60, .aload_n 0, 1) rfl) rfl rfl (aw_getAs (pc' := 64) (dt_X11_join 32 (61, .getfield 59, 3) rfl) fl_ReturnDeskModel_59 rfl rfl (sk_31 hS) (sa_31_23 hS) (aw_iload (pc' := 66) (dt_X11_join 33 (64, .iload 7, 2) rfl) rfl rfl (aw_iald (pc' := 67) (dt_X11_join 34 (66, .iaload, 1) rfl) rfl (sk_48 hS) (vin_eq (sl_48 hS) g3) (aw_if_ne (pc' := 70) (tgt := 117) (dt_X11_join 35 (67, .ifCond .ne 50, 3) rfl) (by decide) rfl ?_ ?_))))
    · intro q4
      have h := h.1 q4
      refine aw_iinc (pc' := 120) (v := 1) (ls' := [some (.ref 31), some (.int x1), some (.int x2), some (.int x3), some (.int x4), some (.int x5), some (.int x6), some (.int (x7 + 1))]) (dt_X11_join 59 (117, .iinc 7 1, 3) rfl) rfl (by decide) (by decide) rfl rfl (aw_goto (tgt := 51) (dt_X11_join 60 (120, .goto (-69), 3) rfl) (by decide) ?_)
      exact h
    · intro q4
      have h := h.2 q4
      obtain ⟨g5, h⟩ := h
      obtain ⟨g6, h⟩ := h
      refine aw_aload_n (pc' := 71) (dt_X11_join 36 (70, .aload_n 0, 1) rfl) rfl rfl (aw_iload (pc' := 73) (dt_X11_join 37 (71, .iload 7, 2) rfl) rfl rfl (aw_inV (pc' := 76) (nc1 := 0) (ns1 := 0) (nc := nc) (ns := ns) (ls' := [some (.ref 31), some (.int x7)]) (y2 := mX11_modelOf) (As := [.int x7]) (rest := []) (a := 31) (dt_X11_join 38 (73, .invokevirtual 231, 3) rfl) ok_X11_modelOf ln_ReturnDeskModel_231 im_X11_modelOf se_X11_modelOf pr_X11_modelOf (Or.inl ⟨by decide, rfl⟩) rfl (Nat.le_of_ble_eq_true rfl) (Nat.le_of_ble_eq_true rfl) rfl rfl (sk_31 hS) (aw_aload_n (pc' := 1) (dt_X11_modelOf 0 (0, .aload_n 0, 1) rfl) rfl rfl (aw_getAs (pc' := 4) (dt_X11_modelOf 1 (1, .getfield 50, 3) rfl) fl_ReturnDeskModel_50 rfl rfl (sk_31 hS) (sa_31_19 hS) (aw_aload_n (pc' := 5) (dt_X11_modelOf 2 (4, .aload_n 0, 1) rfl) rfl rfl (aw_getAs (pc' := 8) (dt_X11_modelOf 3 (5, .getfield 62, 3) rfl) fl_ReturnDeskModel_62 rfl rfl (sk_31 hS) (sa_31_24 hS) (aw_iload_n (pc' := 9) (dt_X11_modelOf 4 (8, .iload_n 1, 1) rfl) rfl rfl (aw_iald (pc' := 10) (dt_X11_modelOf 5 (9, .iaload, 1) rfl) rfl (sk_49 hS) (vin_eq (sl_49 hS) g5) (aw_iald (pc' := 11) (dt_X11_modelOf 6 (10, .iaload, 1) rfl) rfl (sk_45 hS) (vin_eq (sl_45 hS) g6) (aw_iret (dt_X11_modelOf 7 (11, .ireturn, 1) rfl) rfl rfl (aw_stk (st' := [.int (zI μ 45 (zI μ 49 x7.toNatClampNeg).toNatClampNeg)]) rfl (aw_iload_n (pc' := 77) (dt_X11_join 39 (76, .iload_n 1, 1) rfl) rfl rfl (aw_icmp_ne (pc' := 80) (tgt := 117) (dt_X11_join 40 (77, .if_icmp .ne 40, 3) rfl) (by decide) rfl ?_ ?_)))))))))))))
      · intro q7
        have h := h.1 q7
        refine aw_iinc (pc' := 120) (v := 1) (ls' := [some (.ref 31), some (.int x1), some (.int x2), some (.int x3), some (.int x4), some (.int x5), some (.int x6), some (.int (x7 + 1))]) (dt_X11_join 59 (117, .iinc 7 1, 3) rfl) rfl (by decide) (by decide) rfl rfl (aw_goto (tgt := 51) (dt_X11_join 60 (120, .goto (-69), 3) rfl) (by decide) ?_)
        exact h
      · intro q7
        have h := h.2 q7
        obtain ⟨g8, h⟩ := h
        refine aw_aload_n (pc' := 81) (dt_X11_join 41 (80, .aload_n 0, 1) rfl) rfl rfl (aw_getAs (pc' := 84) (dt_X11_join 42 (81, .getfield 71, 3) rfl) fl_ReturnDeskModel_71 rfl rfl (sk_31 hS) (sa_31_27 hS) (aw_iload (pc' := 86) (dt_X11_join 43 (84, .iload 7, 2) rfl) rfl rfl (aw_iald (pc' := 87) (dt_X11_join 44 (86, .iaload, 1) rfl) rfl (sk_52 hS) (vin_eq (sl_52 hS) g8) (aw_iload_n (pc' := 88) (dt_X11_join 45 (87, .iload_n 2, 1) rfl) rfl rfl (aw_icmp_ne (pc' := 91) (tgt := 117) (dt_X11_join 46 (88, .if_icmp .ne 29, 3) rfl) (by decide) rfl ?_ ?_)))))
        · intro q9
          have h := h.1 q9
          refine aw_iinc (pc' := 120) (v := 1) (ls' := [some (.ref 31), some (.int x1), some (.int x2), some (.int x3), some (.int x4), some (.int x5), some (.int x6), some (.int (x7 + 1))]) (dt_X11_join 59 (117, .iinc 7 1, 3) rfl) rfl (by decide) (by decide) rfl rfl (aw_goto (tgt := 51) (dt_X11_join 60 (120, .goto (-69), 3) rfl) (by decide) ?_)
          exact h
        · intro q9
          have h := h.2 q9
          obtain ⟨g10, h⟩ := h
          refine aw_aload_n (pc' := 92) (dt_X11_join 47 (91, .aload_n 0, 1) rfl) rfl rfl (aw_getAs (pc' := 95) (dt_X11_join 48 (92, .getfield 80, 3) rfl) fl_ReturnDeskModel_80 rfl rfl (sk_31 hS) (sa_31_30 hS) (aw_iload (pc' := 97) (dt_X11_join 49 (95, .iload 7, 2) rfl) rfl rfl (aw_iald (pc' := 98) (dt_X11_join 50 (97, .iaload, 1) rfl) rfl (sk_55 hS) (vin_eq (sl_55 hS) g10) (aw_iload_n (pc' := 99) (dt_X11_join 51 (98, .iload_n 3, 1) rfl) rfl rfl (aw_iload (pc' := 101) (dt_X11_join 52 (99, .iload 4, 2) rfl) rfl rfl (aw_inS (pc' := 104) (nc1 := 0) (ns1 := 0) (nc := nc) (ns := ns) (ls' := [some (.int (zI μ 55 x7.toNatClampNeg)), some (.int x3), some (.int x4)]) (y2 := mX11_in) (As := [.int (zI μ 55 x7.toNatClampNeg), .int x3, .int x4]) (rest := []) (dt_X11_join 53 (101, .invokestatic 185, 3) rfl) ok_X11_in ln_ReturnDeskModel_185 sm_X11_in pr_X11_in rfl (Nat.le_of_ble_eq_true rfl) (Nat.le_of_ble_eq_true rfl) rfl rfl (aw_iload_n (pc' := 1) (dt_X11_in 0 (0, .iload_n 0, 1) rfl) rfl rfl (aw_iload_n (pc' := 2) (dt_X11_in 1 (1, .iload_n 1, 1) rfl) rfl rfl (aw_icmp_lt (pc' := 5) (tgt := 14) (dt_X11_in 2 (2, .if_icmp .lt 12, 3) rfl) (by decide) rfl ?_ ?_)))))))))
          · intro q11
            have h := h.1 q11
            refine aw_iconst (pc' := 15) (v := 0) (dt_X11_in 8 (14, .iconst 0, 1) rfl) (by decide) rfl (aw_iret (dt_X11_in 9 (15, .ireturn, 1) rfl) rfl rfl (aw_stk (st' := [.int 0]) rfl (aw_if_ne_F (pc' := 107) (tgt := 110) (dt_X11_join 54 (104, .ifCond .ne 6, 3) rfl) (by decide) rfl (by decide) (aw_goto (tgt := 117) (dt_X11_join 55 (107, .goto 10, 3) rfl) (by decide) (aw_iinc (pc' := 120) (v := 1) (ls' := [some (.ref 31), some (.int x1), some (.int x2), some (.int x3), some (.int x4), some (.int x5), some (.int x6), some (.int (x7 + 1))]) (dt_X11_join 59 (117, .iinc 7 1, 3) rfl) rfl (by decide) (by decide) rfl rfl (aw_goto (tgt := 51) (dt_X11_join 60 (120, .goto (-69), 3) rfl) (by decide) ?_))))))
            exact h
          · intro q11
            have h := h.2 q11
            refine aw_iload_n (pc' := 6) (dt_X11_in 3 (5, .iload_n 0, 1) rfl) rfl rfl (aw_iload_n (pc' := 7) (dt_X11_in 4 (6, .iload_n 2, 1) rfl) rfl rfl (aw_icmp_gt (pc' := 10) (tgt := 14) (dt_X11_in 5 (7, .if_icmp .gt 7, 3) rfl) (by decide) rfl ?_ ?_))
            · intro q12
              have h := h.1 q12
              refine aw_iconst (pc' := 15) (v := 0) (dt_X11_in 8 (14, .iconst 0, 1) rfl) (by decide) rfl (aw_iret (dt_X11_in 9 (15, .ireturn, 1) rfl) rfl rfl (aw_stk (st' := [.int 0]) rfl (aw_if_ne_F (pc' := 107) (tgt := 110) (dt_X11_join 54 (104, .ifCond .ne 6, 3) rfl) (by decide) rfl (by decide) (aw_goto (tgt := 117) (dt_X11_join 55 (107, .goto 10, 3) rfl) (by decide) (aw_iinc (pc' := 120) (v := 1) (ls' := [some (.ref 31), some (.int x1), some (.int x2), some (.int x3), some (.int x4), some (.int x5), some (.int x6), some (.int (x7 + 1))]) (dt_X11_join 59 (117, .iinc 7 1, 3) rfl) rfl (by decide) (by decide) rfl rfl (aw_goto (tgt := 51) (dt_X11_join 60 (120, .goto (-69), 3) rfl) (by decide) ?_))))))
              exact h
            · intro q12
              have h := h.2 q12
              refine aw_iconst (pc' := 11) (v := 1) (dt_X11_in 6 (10, .iconst 1, 1) rfl) (by decide) rfl (aw_goto (tgt := 15) (dt_X11_in 7 (11, .goto 4, 3) rfl) (by decide) (aw_iret (dt_X11_in 9 (15, .ireturn, 1) rfl) rfl rfl (aw_stk (st' := [.int 1]) rfl (aw_if_ne_T (pc' := 107) (tgt := 110) (dt_X11_join 54 (104, .ifCond .ne 6, 3) rfl) (by decide) rfl (by decide) (aw_iinc (pc' := 113) (v := 1) (ls' := [some (.ref 31), some (.int x1), some (.int x2), some (.int x3), some (.int x4), some (.int (x5 + 1)), some (.int x6), some (.int x7)]) (dt_X11_join 56 (110, .iinc 5 1, 3) rfl) rfl (by decide) (by decide) rfl rfl (aw_iload (pc' := 115) (dt_X11_join 57 (113, .iload 7, 2) rfl) rfl rfl (aw_istore (pc' := 117) (ls' := [some (.ref 31), some (.int x1), some (.int x2), some (.int x3), some (.int x4), some (.int (x5 + 1)), some (.int x7), some (.int x7)]) (dt_X11_join 58 (115, .istore 6, 2) rfl) (by decide) rfl rfl (aw_iinc (pc' := 120) (v := 1) (ls' := [some (.ref 31), some (.int x1), some (.int x2), some (.int x3), some (.int x4), some (.int (x5 + 1)), some (.int x7), some (.int (x7 + 1))]) (dt_X11_join 59 (117, .iinc 7 1, 3) rfl) rfl (by decide) (by decide) rfl rfl (aw_goto (tgt := 51) (dt_X11_join 60 (120, .goto (-69), 3) rfl) (by decide) ?_)))))))))
              exact h

theorem t_X11_keep {E : ZE} {l : Launch} {d nc ns : Nat} {x1 : Int32} {μ : ZM} {K : Option Value → ZM → Prop} (hS : Stat μ) (h :
  (x1 < 0 →
    K (some (.int (-1))) μ) ∧
  (¬ x1 < 0 →
    (((zI μ 31 22) - 1) < x1 →
      K (some (.int (-1))) μ) ∧
    (¬ ((zI μ 31 22) - 1) < x1 →
      (vp_in x1 300) ∧
      ((zI μ 48 x1.toNatClampNeg) = 0 →
        (vp_in x1 300) ∧
        K (some (.int 1)) (sI μ 48 x1.toNatClampNeg 3)) ∧
      (¬ (zI μ 48 x1.toNatClampNeg) = 0 →
        K (some (.int (-2))) μ)))) : AW E l (d + 2) nc ns mX11_keep 0 [some (.ref 31), some (.int x1)] [] μ K := by
  refine aw_aload_n (pc' := 1) (dt_X11_keep 0 (0, .aload_n 0, 1) rfl) rfl rfl (aw_iload_n (pc' := 2) (dt_X11_keep 1 (1, .iload_n 1, 1) rfl) rfl rfl (aw_inV (pc' := 5) (nc1 := 0) (ns1 := 0) (nc := nc) (ns := ns) (ls' := [some (.ref 31), some (.int x1)]) (y2 := mX11_isSale) (As := [.int x1]) (rest := []) (a := 31) (dt_X11_keep 2 (2, .invokevirtual 228, 3) rfl) ok_X11_isSale ln_ReturnDeskModel_228 im_X11_isSale se_X11_isSale pr_X11_isSale (Or.inl ⟨by decide, rfl⟩) rfl (Nat.le_of_ble_eq_true rfl) (Nat.le_of_ble_eq_true rfl) rfl rfl (sk_31 hS) (aw_iload_n (pc' := 1) (dt_X11_isSale 0 (0, .iload_n 1, 1) rfl) rfl rfl (aw_iconst (pc' := 2) (v := 0) (dt_X11_isSale 1 (1, .iconst 0, 1) rfl) (by decide) rfl (aw_aload_n (pc' := 3) (dt_X11_isSale 2 (2, .aload_n 0, 1) rfl) rfl rfl (aw_getI (pc' := 6) (dt_X11_isSale 3 (3, .getfield 215, 3) rfl) fl_ReturnDeskModel_215 rfl rfl (sk_31 hS) (aw_iconst (pc' := 7) (v := 1) (dt_X11_isSale 4 (6, .iconst 1, 1) rfl) (by decide) rfl (aw_isub (pc' := 8) (dt_X11_isSale 5 (7, .isub, 1) rfl) rfl (aw_inS (pc' := 11) (nc1 := 0) (ns1 := 0) (nc := 0) (ns := 0) (ls' := [some (.int x1), some (.int 0), some (.int ((zI μ 31 22) - 1))]) (y2 := mX11_in) (As := [.int x1, .int 0, .int ((zI μ 31 22) - 1)]) (rest := []) (dt_X11_isSale 6 (8, .invokestatic 185, 3) rfl) ok_X11_in ln_ReturnDeskModel_185 sm_X11_in pr_X11_in rfl (Nat.le_of_ble_eq_true rfl) (Nat.le_of_ble_eq_true rfl) rfl rfl (aw_iload_n (pc' := 1) (dt_X11_in 0 (0, .iload_n 0, 1) rfl) rfl rfl (aw_iload_n (pc' := 2) (dt_X11_in 1 (1, .iload_n 1, 1) rfl) rfl rfl (aw_icmp_lt (pc' := 5) (tgt := 14) (dt_X11_in 2 (2, .if_icmp .lt 12, 3) rfl) (by decide) rfl ?_ ?_))))))))))))
  · intro q1
    have h := h.1 q1
    refine aw_iconst (pc' := 15) (v := 0) (dt_X11_in 8 (14, .iconst 0, 1) rfl) (by decide) rfl (aw_iret (dt_X11_in 9 (15, .ireturn, 1) rfl) rfl rfl (aw_stk (st' := [.int 0]) rfl (aw_iret (dt_X11_isSale 7 (11, .ireturn, 1) rfl) rfl rfl (aw_stk (st' := [.int 0]) rfl (aw_if_ne_F (pc' := 8) (tgt := 10) (dt_X11_keep 3 (5, .ifCond .ne 5, 3) rfl) (by decide) rfl (by decide) (aw_iconst (pc' := 9) (v := (-1)) (dt_X11_keep 4 (8, .iconst (-1), 1) rfl) (by decide) rfl (aw_iret (dt_X11_keep 5 (9, .ireturn, 1) rfl) rfl rfl ?_)))))))
    exact h
  · intro q1
    have h := h.2 q1
    refine aw_iload_n (pc' := 6) (dt_X11_in 3 (5, .iload_n 0, 1) rfl) rfl rfl (aw_iload_n (pc' := 7) (dt_X11_in 4 (6, .iload_n 2, 1) rfl) rfl rfl (aw_icmp_gt (pc' := 10) (tgt := 14) (dt_X11_in 5 (7, .if_icmp .gt 7, 3) rfl) (by decide) rfl ?_ ?_))
    · intro q2
      have h := h.1 q2
      refine aw_iconst (pc' := 15) (v := 0) (dt_X11_in 8 (14, .iconst 0, 1) rfl) (by decide) rfl (aw_iret (dt_X11_in 9 (15, .ireturn, 1) rfl) rfl rfl (aw_stk (st' := [.int 0]) rfl (aw_iret (dt_X11_isSale 7 (11, .ireturn, 1) rfl) rfl rfl (aw_stk (st' := [.int 0]) rfl (aw_if_ne_F (pc' := 8) (tgt := 10) (dt_X11_keep 3 (5, .ifCond .ne 5, 3) rfl) (by decide) rfl (by decide) (aw_iconst (pc' := 9) (v := (-1)) (dt_X11_keep 4 (8, .iconst (-1), 1) rfl) (by decide) rfl (aw_iret (dt_X11_keep 5 (9, .ireturn, 1) rfl) rfl rfl ?_)))))))
      exact h
    · intro q2
      have h := h.2 q2
      obtain ⟨g3, h⟩ := h
      refine aw_iconst (pc' := 11) (v := 1) (dt_X11_in 6 (10, .iconst 1, 1) rfl) (by decide) rfl (aw_goto (tgt := 15) (dt_X11_in 7 (11, .goto 4, 3) rfl) (by decide) (aw_iret (dt_X11_in 9 (15, .ireturn, 1) rfl) rfl rfl (aw_stk (st' := [.int 1]) rfl (aw_iret (dt_X11_isSale 7 (11, .ireturn, 1) rfl) rfl rfl (aw_stk (st' := [.int 1]) rfl (aw_if_ne_T (pc' := 8) (tgt := 10) (dt_X11_keep 3 (5, .ifCond .ne 5, 3) rfl) (by decide) rfl (by decide) (aw_aload_n (pc' := 11) (dt_X11_keep 6 (10, .aload_n 0, 1) rfl) rfl rfl (aw_getAs (pc' := 14) (dt_X11_keep 7 (11, .getfield 59, 3) rfl) fl_ReturnDeskModel_59 rfl rfl (sk_31 hS) (sa_31_23 hS) (aw_iload_n (pc' := 15) (dt_X11_keep 8 (14, .iload_n 1, 1) rfl) rfl rfl (aw_iald (pc' := 16) (dt_X11_keep 9 (15, .iaload, 1) rfl) rfl (sk_48 hS) (vin_eq (sl_48 hS) g3) (aw_if_eq (pc' := 19) (tgt := 22) (dt_X11_keep 10 (16, .ifCond .eq 6, 3) rfl) (by decide) rfl ?_ ?_)))))))))))
      · intro q4
        have h := h.1 q4
        obtain ⟨g5, h⟩ := h
        refine aw_aload_n (pc' := 23) (dt_X11_keep 13 (22, .aload_n 0, 1) rfl) rfl rfl (aw_getAs (pc' := 26) (dt_X11_keep 14 (23, .getfield 59, 3) rfl) fl_ReturnDeskModel_59 rfl rfl (sk_31 hS) (sa_31_23 hS) (aw_iload_n (pc' := 27) (dt_X11_keep 15 (26, .iload_n 1, 1) rfl) rfl rfl (aw_iconst (pc' := 28) (v := 3) (dt_X11_keep 16 (27, .iconst 3, 1) rfl) (by decide) rfl (aw_iast (pc' := 29) (dt_X11_keep 17 (28, .iastore, 1) rfl) rfl (sk_48 hS) (by decide) (vin_eq (sl_48 hS) g5) (aw_iconst (pc' := 30) (v := 1) (dt_X11_keep 18 (29, .iconst 1, 1) rfl) (by decide) rfl (aw_iret (dt_X11_keep 19 (30, .ireturn, 1) rfl) rfl rfl ?_))))))
        exact h
      · intro q4
        have h := h.2 q4
        refine aw_bipush (pc' := 21) (v := (-2)) (dt_X11_keep 11 (19, .bipush (-2), 2) rfl) (by decide) rfl (aw_iret (dt_X11_keep 12 (21, .ireturn, 1) rfl) rfl rfl ?_)
        exact h

theorem t_X11_feed {E : ZE} {l : Launch} {d nc ns : Nat} {x1 : Int32} {x2 : Int32} {x3 : Int32} {x4 : Int32} {x5 : Int32} {μ : ZM} {K : Option Value → ZM → Prop} (hS : Stat μ) (h :
  (((zI μ 31 41) + 20) ≤ 200 →
    AW E l d 0 0 mX11_feedOne 0 (zargs 3 [.ref 31, .int x1]) [] μ (fun v μ2 => v = none ∧ Stat μ2 ∧ 
      AW E l d 0 0 mX11_feedOne 0 (zargs 3 [.ref 31, .int x2]) [] μ2 (fun v μ4 => v = none ∧ Stat μ4 ∧ 
        AW E l d 0 0 mX11_feedOne 0 (zargs 3 [.ref 31, .int x3]) [] μ4 (fun v μ6 => v = none ∧ Stat μ6 ∧ 
          AW E l d 0 0 mX11_feedOne 0 (zargs 3 [.ref 31, .int x4]) [] μ6 (fun v μ8 => v = none ∧ Stat μ8 ∧ 
            AW E l d 0 0 mX11_feedOne 0 (zargs 3 [.ref 31, .int x5]) [] μ8 (fun v μ10 => v = none ∧ Stat μ10 ∧ 
              K (some (.int (zI μ10 31 41))) μ10)))))) ∧
  (¬ ((zI μ 31 41) + 20) ≤ 200 →
    K (some (.int (-3))) μ)) : AW E l (d + 1) nc ns mX11_feed 0 [some (.ref 31), some (.int x1), some (.int x2), some (.int x3), some (.int x4), some (.int x5)] [] μ K := by
  refine aw_aload_n (pc' := 1) (dt_X11_feed 0 (0, .aload_n 0, 1) rfl) rfl rfl (aw_getI (pc' := 4) (dt_X11_feed 1 (1, .getfield 239, 3) rfl) fl_ReturnDeskModel_239 rfl rfl (sk_31 hS) (aw_bipush (pc' := 6) (v := 20) (dt_X11_feed 2 (4, .bipush 20, 2) rfl) (by decide) rfl (aw_iadd (pc' := 7) (dt_X11_feed 3 (6, .iadd, 1) rfl) rfl (aw_sipush (pc' := 10) (v := 200) (dt_X11_feed 4 (7, .sipush 200, 3) rfl) (by decide) rfl (aw_icmp_le (pc' := 13) (tgt := 16) (dt_X11_feed 5 (10, .if_icmp .le 6, 3) rfl) (by decide) rfl ?_ ?_)))))
  · intro q1
    have h := h.1 q1
    refine aw_aload_n (pc' := 17) (dt_X11_feed 8 (16, .aload_n 0, 1) rfl) rfl rfl (aw_iload_n (pc' := 18) (dt_X11_feed 9 (17, .iload_n 1, 1) rfl) rfl rfl (aw_callV0 (pc' := 21) (nc := nc) (ns := ns) (y2 := mX11_feedOne) (As := [.int x1]) (rest := []) (a := 31) (dt_X11_feed 10 (18, .invokevirtual 242, 3) rfl) ok_X11_feedOne ln_ReturnDeskModel_242 im_X11_feedOne se_X11_feedOne pr_X11_feedOne (Or.inl ⟨by decide, rfl⟩) rfl (Nat.le_of_ble_eq_true rfl) (Nat.le_of_ble_eq_true rfl) rfl (sk_31 hS) h ?_))
    rintro v μ2 ⟨rfl, hS3, h⟩
    refine aw_stk (st' := []) rfl ?_
    refine aw_aload_n (pc' := 22) (dt_X11_feed 11 (21, .aload_n 0, 1) rfl) rfl rfl (aw_iload_n (pc' := 23) (dt_X11_feed 12 (22, .iload_n 2, 1) rfl) rfl rfl (aw_callV0 (pc' := 26) (nc := nc) (ns := ns) (y2 := mX11_feedOne) (As := [.int x2]) (rest := []) (a := 31) (dt_X11_feed 13 (23, .invokevirtual 242, 3) rfl) ok_X11_feedOne ln_ReturnDeskModel_242 im_X11_feedOne se_X11_feedOne pr_X11_feedOne (Or.inl ⟨by decide, rfl⟩) rfl (Nat.le_of_ble_eq_true rfl) (Nat.le_of_ble_eq_true rfl) rfl (sk_31 hS3) h ?_))
    rintro v μ4 ⟨rfl, hS5, h⟩
    refine aw_stk (st' := []) rfl ?_
    refine aw_aload_n (pc' := 27) (dt_X11_feed 14 (26, .aload_n 0, 1) rfl) rfl rfl (aw_iload_n (pc' := 28) (dt_X11_feed 15 (27, .iload_n 3, 1) rfl) rfl rfl (aw_callV0 (pc' := 31) (nc := nc) (ns := ns) (y2 := mX11_feedOne) (As := [.int x3]) (rest := []) (a := 31) (dt_X11_feed 16 (28, .invokevirtual 242, 3) rfl) ok_X11_feedOne ln_ReturnDeskModel_242 im_X11_feedOne se_X11_feedOne pr_X11_feedOne (Or.inl ⟨by decide, rfl⟩) rfl (Nat.le_of_ble_eq_true rfl) (Nat.le_of_ble_eq_true rfl) rfl (sk_31 hS5) h ?_))
    rintro v μ6 ⟨rfl, hS7, h⟩
    refine aw_stk (st' := []) rfl ?_
    refine aw_aload_n (pc' := 32) (dt_X11_feed 17 (31, .aload_n 0, 1) rfl) rfl rfl (aw_iload (pc' := 34) (dt_X11_feed 18 (32, .iload 4, 2) rfl) rfl rfl (aw_callV0 (pc' := 37) (nc := nc) (ns := ns) (y2 := mX11_feedOne) (As := [.int x4]) (rest := []) (a := 31) (dt_X11_feed 19 (34, .invokevirtual 242, 3) rfl) ok_X11_feedOne ln_ReturnDeskModel_242 im_X11_feedOne se_X11_feedOne pr_X11_feedOne (Or.inl ⟨by decide, rfl⟩) rfl (Nat.le_of_ble_eq_true rfl) (Nat.le_of_ble_eq_true rfl) rfl (sk_31 hS7) h ?_))
    rintro v μ8 ⟨rfl, hS9, h⟩
    refine aw_stk (st' := []) rfl ?_
    refine aw_aload_n (pc' := 38) (dt_X11_feed 20 (37, .aload_n 0, 1) rfl) rfl rfl (aw_iload (pc' := 40) (dt_X11_feed 21 (38, .iload 5, 2) rfl) rfl rfl (aw_callV0 (pc' := 43) (nc := nc) (ns := ns) (y2 := mX11_feedOne) (As := [.int x5]) (rest := []) (a := 31) (dt_X11_feed 22 (40, .invokevirtual 242, 3) rfl) ok_X11_feedOne ln_ReturnDeskModel_242 im_X11_feedOne se_X11_feedOne pr_X11_feedOne (Or.inl ⟨by decide, rfl⟩) rfl (Nat.le_of_ble_eq_true rfl) (Nat.le_of_ble_eq_true rfl) rfl (sk_31 hS9) h ?_))
    rintro v μ10 ⟨rfl, hS11, h⟩
    refine aw_stk (st' := []) rfl ?_
    refine aw_aload_n (pc' := 44) (dt_X11_feed 23 (43, .aload_n 0, 1) rfl) rfl rfl (aw_getI (pc' := 47) (dt_X11_feed 24 (44, .getfield 239, 3) rfl) fl_ReturnDeskModel_239 rfl rfl (sk_31 hS11) (aw_iret (dt_X11_feed 25 (47, .ireturn, 1) rfl) rfl rfl ?_))
    exact h
  · intro q1
    have h := h.2 q1
    refine aw_bipush (pc' := 15) (v := (-3)) (dt_X11_feed 6 (13, .bipush (-3), 2) rfl) (by decide) rfl (aw_iret (dt_X11_feed 7 (15, .ireturn, 1) rfl) rfl rfl ?_)
    exact h

theorem t_X11_feedOne {E : ZE} {l : Launch} {d nc ns : Nat} {x1 : Int32} {μ : ZM} {K : Option Value → ZM → Prop} (hS : Stat μ) (h :
  AW E l d nc ns mX11_feedOne 2 [some (.ref 31), some (.int x1), some (.int 3)] [] μ K) : AW E l d nc ns mX11_feedOne 0 [some (.ref 31), some (.int x1), none] [] μ K := by
  refine aw_iconst (pc' := 1) (v := 3) (dt_X11_feedOne 0 (0, .iconst 3, 1) rfl) (by decide) rfl (aw_istore_n (pc' := 2) (ls' := [some (.ref 31), some (.int x1), some (.int 3)]) (dt_X11_feedOne 1 (1, .istore_n 2, 1) rfl) (by decide) rfl rfl ?_)
  exact h

theorem t_X11_feedOne_2 {E : ZE} {l : Launch} {d nc ns : Nat} {x1 : Int32} {x2 : Int32} {μ : ZM} {K : Option Value → ZM → Prop} (hS : Stat μ) (h :
  (x2 < 0 →
    K none μ) ∧
  (¬ x2 < 0 →
    (vp_in (zI μ 31 41) 200) ∧
    AW E l d nc ns mX11_feedOne 2 [some (.ref 31), some (.int x1), some (.int (x2 + (-1)))] [] (sI (sI μ 65 (zI μ 31 41).toNatClampNeg (((x1 >>> ((8 * x2) &&& 31))).toInt8.toInt32).toInt8.toInt32) 31 41 ((zI (sI μ 65 (zI μ 31 41).toNatClampNeg (((x1 >>> ((8 * x2) &&& 31))).toInt8.toInt32).toInt8.toInt32) 31 41) + 1)) K)) : AW E l d nc ns mX11_feedOne 2 [some (.ref 31), some (.int x1), some (.int x2)] [] μ K := by
  refine aw_iload_n (pc' := 3) (dt_X11_feedOne 2 (2, .iload_n 2, 1) rfl) rfl rfl (aw_if_lt (pc' := 6) (tgt := 38) (dt_X11_feedOne 3 (3, .ifCond .lt 35, 3) rfl) (by decide) rfl ?_ ?_)
  · intro q1
    have h := h.1 q1
    refine aw_ret (dt_X11_feedOne 23 (38, .return_, 1) rfl) rfl ?_
    exact h
  · intro q1
    have h := h.2 q1
    obtain ⟨g2, h⟩ := h
    refine aw_aload_n (pc' := 7) (dt_X11_feedOne 4 (6, .aload_n 0, 1) rfl) rfl rfl (aw_getAs (pc' := 10) (dt_X11_feedOne 5 (7, .getfield 110, 3) rfl) fl_ReturnDeskModel_110 rfl rfl (sk_31 hS) (sa_31_40 hS) (aw_aload_n (pc' := 11) (dt_X11_feedOne 6 (10, .aload_n 0, 1) rfl) rfl rfl (aw_getI (pc' := 14) (dt_X11_feedOne 7 (11, .getfield 239, 3) rfl) fl_ReturnDeskModel_239 rfl rfl (sk_31 hS) (aw_iload_n (pc' := 15) (dt_X11_feedOne 8 (14, .iload_n 1, 1) rfl) rfl rfl (aw_bipush (pc' := 17) (v := 8) (dt_X11_feedOne 9 (15, .bipush 8, 2) rfl) (by decide) rfl (aw_iload_n (pc' := 18) (dt_X11_feedOne 10 (17, .iload_n 2, 1) rfl) rfl rfl (aw_imul (pc' := 19) (dt_X11_feedOne 11 (18, .imul, 1) rfl) rfl (aw_ishr (pc' := 20) (dt_X11_feedOne 12 (19, .ishr, 1) rfl) rfl (aw_i2b (pc' := 21) (dt_X11_feedOne 13 (20, .i2b, 1) rfl) rfl (aw_bast (pc' := 22) (dt_X11_feedOne 14 (21, .bastore, 1) rfl) rfl (sk_65 hS) (by decide) (vin_eq (sl_65 hS) g2) (aw_aload_n (pc' := 23) (dt_X11_feedOne 15 (22, .aload_n 0, 1) rfl) rfl rfl (aw_dup (pc' := 24) (dt_X11_feedOne 16 (23, .dup, 1) rfl) rfl rfl (aw_getI (pc' := 27) (dt_X11_feedOne 17 (24, .getfield 239, 3) rfl) fl_ReturnDeskModel_239 rfl rfl (sk_31 hS.wI) (aw_iconst (pc' := 28) (v := 1) (dt_X11_feedOne 18 (27, .iconst 1, 1) rfl) (by decide) rfl (aw_iadd (pc' := 29) (dt_X11_feedOne 19 (28, .iadd, 1) rfl) rfl (aw_putI (pc' := 32) (dt_X11_feedOne 20 (29, .putfield 239, 3) rfl) fl_ReturnDeskModel_239 rfl (by decide +kernel) rfl (sk_31 hS.wI) (aw_iinc (pc' := 35) (v := (-1)) (ls' := [some (.ref 31), some (.int x1), some (.int (x2 + (-1)))]) (dt_X11_feedOne 21 (32, .iinc 2 (-1), 3) rfl) rfl (by decide) (by decide) rfl rfl (aw_goto (tgt := 2) (dt_X11_feedOne 22 (35, .goto (-33), 3) rfl) (by decide) ?_))))))))))))))))))
    exact h

theorem t_X11_end {E : ZE} {l : Launch} {d nc ns : Nat} {x1 : Int32} {μ : ZM} {K : Option Value → ZM → Prop} (hS : Stat μ) (h :
  (x1 < 0 →
    K (some (.int (-1))) μ) ∧
  (¬ x1 < 0 →
    ((zI μ 31 41) < x1 →
      K (some (.int (-1))) μ) ∧
    (¬ (zI μ 31 41) < x1 →
      K (some (.int x1)) (sI μ 31 41 x1)))) : AW E l (d + 1) nc ns mX11_end 0 [some (.ref 31), some (.int x1)] [] μ K := by
  refine aw_iload_n (pc' := 1) (dt_X11_end 0 (0, .iload_n 1, 1) rfl) rfl rfl (aw_iconst (pc' := 2) (v := 0) (dt_X11_end 1 (1, .iconst 0, 1) rfl) (by decide) rfl (aw_aload_n (pc' := 3) (dt_X11_end 2 (2, .aload_n 0, 1) rfl) rfl rfl (aw_getI (pc' := 6) (dt_X11_end 3 (3, .getfield 239, 3) rfl) fl_ReturnDeskModel_239 rfl rfl (sk_31 hS) (aw_inS (pc' := 9) (nc1 := 0) (ns1 := 0) (nc := nc) (ns := ns) (ls' := [some (.int x1), some (.int 0), some (.int (zI μ 31 41))]) (y2 := mX11_in) (As := [.int x1, .int 0, .int (zI μ 31 41)]) (rest := []) (dt_X11_end 4 (6, .invokestatic 185, 3) rfl) ok_X11_in ln_ReturnDeskModel_185 sm_X11_in pr_X11_in rfl (Nat.le_of_ble_eq_true rfl) (Nat.le_of_ble_eq_true rfl) rfl rfl (aw_iload_n (pc' := 1) (dt_X11_in 0 (0, .iload_n 0, 1) rfl) rfl rfl (aw_iload_n (pc' := 2) (dt_X11_in 1 (1, .iload_n 1, 1) rfl) rfl rfl (aw_icmp_lt (pc' := 5) (tgt := 14) (dt_X11_in 2 (2, .if_icmp .lt 12, 3) rfl) (by decide) rfl ?_ ?_)))))))
  · intro q1
    have h := h.1 q1
    refine aw_iconst (pc' := 15) (v := 0) (dt_X11_in 8 (14, .iconst 0, 1) rfl) (by decide) rfl (aw_iret (dt_X11_in 9 (15, .ireturn, 1) rfl) rfl rfl (aw_stk (st' := [.int 0]) rfl (aw_if_ne_F (pc' := 12) (tgt := 14) (dt_X11_end 5 (9, .ifCond .ne 5, 3) rfl) (by decide) rfl (by decide) (aw_iconst (pc' := 13) (v := (-1)) (dt_X11_end 6 (12, .iconst (-1), 1) rfl) (by decide) rfl (aw_iret (dt_X11_end 7 (13, .ireturn, 1) rfl) rfl rfl ?_)))))
    exact h
  · intro q1
    have h := h.2 q1
    refine aw_iload_n (pc' := 6) (dt_X11_in 3 (5, .iload_n 0, 1) rfl) rfl rfl (aw_iload_n (pc' := 7) (dt_X11_in 4 (6, .iload_n 2, 1) rfl) rfl rfl (aw_icmp_gt (pc' := 10) (tgt := 14) (dt_X11_in 5 (7, .if_icmp .gt 7, 3) rfl) (by decide) rfl ?_ ?_))
    · intro q2
      have h := h.1 q2
      refine aw_iconst (pc' := 15) (v := 0) (dt_X11_in 8 (14, .iconst 0, 1) rfl) (by decide) rfl (aw_iret (dt_X11_in 9 (15, .ireturn, 1) rfl) rfl rfl (aw_stk (st' := [.int 0]) rfl (aw_if_ne_F (pc' := 12) (tgt := 14) (dt_X11_end 5 (9, .ifCond .ne 5, 3) rfl) (by decide) rfl (by decide) (aw_iconst (pc' := 13) (v := (-1)) (dt_X11_end 6 (12, .iconst (-1), 1) rfl) (by decide) rfl (aw_iret (dt_X11_end 7 (13, .ireturn, 1) rfl) rfl rfl ?_)))))
      exact h
    · intro q2
      have h := h.2 q2
      refine aw_iconst (pc' := 11) (v := 1) (dt_X11_in 6 (10, .iconst 1, 1) rfl) (by decide) rfl (aw_goto (tgt := 15) (dt_X11_in 7 (11, .goto 4, 3) rfl) (by decide) (aw_iret (dt_X11_in 9 (15, .ireturn, 1) rfl) rfl rfl (aw_stk (st' := [.int 1]) rfl (aw_if_ne_T (pc' := 12) (tgt := 14) (dt_X11_end 5 (9, .ifCond .ne 5, 3) rfl) (by decide) rfl (by decide) (aw_aload_n (pc' := 15) (dt_X11_end 8 (14, .aload_n 0, 1) rfl) rfl rfl (aw_iload_n (pc' := 16) (dt_X11_end 9 (15, .iload_n 1, 1) rfl) rfl rfl (aw_putI (pc' := 19) (dt_X11_end 10 (16, .putfield 239, 3) rfl) fl_ReturnDeskModel_239 rfl (by decide +kernel) rfl (sk_31 hS) (aw_iload_n (pc' := 20) (dt_X11_end 11 (19, .iload_n 1, 1) rfl) rfl rfl (aw_iret (dt_X11_end 12 (20, .ireturn, 1) rfl) rfl rfl ?_)))))))))
      exact h

theorem t_X11_next {E : ZE} {l : Launch} {d nc ns : Nat}  {μ : ZM} {K : Option Value → ZM → Prop} (hS : Stat μ) (h :
  AW E l (d + 2) nc ns mX11_next 8 [some (.ref 31)] [] (sI μ 31 50 (zI μ 31 51)) K) : AW E l (d + 2) nc ns mX11_next 0 [some (.ref 31)] [] μ K := by
  refine aw_aload_n (pc' := 1) (dt_X11_next 0 (0, .aload_n 0, 1) rfl) rfl rfl (aw_aload_n (pc' := 2) (dt_X11_next 1 (1, .aload_n 0, 1) rfl) rfl rfl (aw_getI (pc' := 5) (dt_X11_next 2 (2, .getfield 246, 3) rfl) fl_ReturnDeskModel_246 rfl rfl (sk_31 hS) (aw_putI (pc' := 8) (dt_X11_next 3 (5, .putfield 249, 3) rfl) fl_ReturnDeskModel_249 rfl (by decide +kernel) rfl (sk_31 hS) ?_)))
  exact h

theorem t_X11_next_8 {E : ZE} {l : Launch} {d nc ns : Nat}  {μ : ZM} {K : Option Value → ZM → Prop} (hS : Stat μ) (h :
  ((zI μ 31 41) ≤ (zI μ 31 50) →
    AW E l (d + 2) nc ns mX11_next 46 [some (.ref 31)] [] μ K) ∧
  (¬ (zI μ 31 41) ≤ (zI μ 31 50) →
    (vp_in (zI μ 31 50) 200) ∧
    (¬ (zI μ 65 (zI μ 31 50).toNatClampNeg) = 32 →
      AW E l (d + 2) nc ns mX11_next 46 [some (.ref 31)] [] μ K) ∧
    ((zI μ 65 (zI μ 31 50).toNatClampNeg) = 32 →
      AW E l (d + 2) nc ns mX11_next 8 [some (.ref 31)] [] (sI μ 31 50 ((zI μ 31 50) + 1)) K))) : AW E l (d + 2) nc ns mX11_next 8 [some (.ref 31)] [] μ K := by
  refine aw_aload_n (pc' := 9) (dt_X11_next 4 (8, .aload_n 0, 1) rfl) rfl rfl (aw_getI (pc' := 12) (dt_X11_next 5 (9, .getfield 249, 3) rfl) fl_ReturnDeskModel_249 rfl rfl (sk_31 hS) (aw_aload_n (pc' := 13) (dt_X11_next 6 (12, .aload_n 0, 1) rfl) rfl rfl (aw_getI (pc' := 16) (dt_X11_next 7 (13, .getfield 239, 3) rfl) fl_ReturnDeskModel_239 rfl rfl (sk_31 hS) (aw_icmp_ge (pc' := 19) (tgt := 46) (dt_X11_next 8 (16, .if_icmp .ge 30, 3) rfl) (by decide) rfl ?_ ?_))))
  · intro q1
    have h := h.1 q1
    exact h
  · intro q1
    have h := h.2 q1
    obtain ⟨g2, h⟩ := h
    refine aw_aload_n (pc' := 20) (dt_X11_next 9 (19, .aload_n 0, 1) rfl) rfl rfl (aw_getAs (pc' := 23) (dt_X11_next 10 (20, .getfield 110, 3) rfl) fl_ReturnDeskModel_110 rfl rfl (sk_31 hS) (sa_31_40 hS) (aw_aload_n (pc' := 24) (dt_X11_next 11 (23, .aload_n 0, 1) rfl) rfl rfl (aw_getI (pc' := 27) (dt_X11_next 12 (24, .getfield 249, 3) rfl) fl_ReturnDeskModel_249 rfl rfl (sk_31 hS) (aw_bald (pc' := 28) (dt_X11_next 13 (27, .baload, 1) rfl) rfl (sk_65 hS) (vin_eq (sl_65 hS) g2) (aw_bipush (pc' := 30) (v := 32) (dt_X11_next 14 (28, .bipush 32, 2) rfl) (by decide) rfl (aw_icmp_ne (pc' := 33) (tgt := 46) (dt_X11_next 15 (30, .if_icmp .ne 16, 3) rfl) (by decide) rfl ?_ ?_))))))
    · intro q3
      have h := h.1 q3
      exact h
    · intro q3
      have h := h.2 q3
      refine aw_aload_n (pc' := 34) (dt_X11_next 16 (33, .aload_n 0, 1) rfl) rfl rfl (aw_dup (pc' := 35) (dt_X11_next 17 (34, .dup, 1) rfl) rfl rfl (aw_getI (pc' := 38) (dt_X11_next 18 (35, .getfield 249, 3) rfl) fl_ReturnDeskModel_249 rfl rfl (sk_31 hS) (aw_iconst (pc' := 39) (v := 1) (dt_X11_next 19 (38, .iconst 1, 1) rfl) (by decide) rfl (aw_iadd (pc' := 40) (dt_X11_next 20 (39, .iadd, 1) rfl) rfl (aw_putI (pc' := 43) (dt_X11_next 21 (40, .putfield 249, 3) rfl) fl_ReturnDeskModel_249 rfl (by decide +kernel) rfl (sk_31 hS) (aw_goto (tgt := 8) (dt_X11_next 22 (43, .goto (-35), 3) rfl) (by decide) ?_))))))
      exact h

theorem t_X11_next_46 {E : ZE} {l : Launch} {d nc ns : Nat}  {μ : ZM} {K : Option Value → ZM → Prop} (hS : Stat μ) (h :
  (¬ (zI (sI μ 31 51 (zI μ 31 50)) 31 50) = (zI (sI μ 31 51 (zI μ 31 50)) 31 41) →
    (vp_in (zI (sI μ 31 51 (zI μ 31 50)) 31 50) 200) ∧
    ((zI (sI μ 31 51 (zI μ 31 50)) 65 (zI (sI μ 31 51 (zI μ 31 50)) 31 50).toNatClampNeg) < 97 →
      (vp_in (zI (sI μ 31 51 (zI μ 31 50)) 31 50) 200) ∧
      ((zI (sI μ 31 51 (zI μ 31 50)) 65 (zI (sI μ 31 51 (zI μ 31 50)) 31 50).toNatClampNeg) < 48 →
        (vp_in (zI (sI (sI μ 31 51 (zI μ 31 50)) 31 51 ((zI (sI μ 31 51 (zI μ 31 50)) 31 51) + 1)) 31 50) 200) ∧
        ((zI (sI (sI μ 31 51 (zI μ 31 50)) 31 51 ((zI (sI μ 31 51 (zI μ 31 50)) 31 51) + 1)) 65 (zI (sI (sI μ 31 51 (zI μ 31 50)) 31 51 ((zI (sI μ 31 51 (zI μ 31 50)) 31 51) + 1)) 31 50).toNatClampNeg) ≤ 32 →
          K none (sI (sI (sI μ 31 51 (zI μ 31 50)) 31 51 ((zI (sI μ 31 51 (zI μ 31 50)) 31 51) + 1)) 31 52 (-1))) ∧
        (¬ (zI (sI (sI μ 31 51 (zI μ 31 50)) 31 51 ((zI (sI μ 31 51 (zI μ 31 50)) 31 51) + 1)) 65 (zI (sI (sI μ 31 51 (zI μ 31 50)) 31 51 ((zI (sI μ 31 51 (zI μ 31 50)) 31 51) + 1)) 31 50).toNatClampNeg) ≤ 32 →
          (vp_in (zI (sI (sI μ 31 51 (zI μ 31 50)) 31 51 ((zI (sI μ 31 51 (zI μ 31 50)) 31 51) + 1)) 31 50) 200) ∧
          ∀ μ9, μ9 = (sI (sI (sI μ 31 51 (zI μ 31 50)) 31 51 ((zI (sI μ 31 51 (zI μ 31 50)) 31 51) + 1)) 31 52 (zI (sI (sI μ 31 51 (zI μ 31 50)) 31 51 ((zI (sI μ 31 51 (zI μ 31 50)) 31 51) + 1)) 65 (zI (sI (sI μ 31 51 (zI μ 31 50)) 31 51 ((zI (sI μ 31 51 (zI μ 31 50)) 31 51) + 1)) 31 50).toNatClampNeg)) →
          K none μ9)) ∧
      (¬ (zI (sI μ 31 51 (zI μ 31 50)) 65 (zI (sI μ 31 51 (zI μ 31 50)) 31 50).toNatClampNeg) < 48 →
        (57 < (zI (sI μ 31 51 (zI μ 31 50)) 65 (zI (sI μ 31 51 (zI μ 31 50)) 31 50).toNatClampNeg) →
          (vp_in (zI (sI (sI μ 31 51 (zI μ 31 50)) 31 51 ((zI (sI μ 31 51 (zI μ 31 50)) 31 51) + 1)) 31 50) 200) ∧
          ((zI (sI (sI μ 31 51 (zI μ 31 50)) 31 51 ((zI (sI μ 31 51 (zI μ 31 50)) 31 51) + 1)) 65 (zI (sI (sI μ 31 51 (zI μ 31 50)) 31 51 ((zI (sI μ 31 51 (zI μ 31 50)) 31 51) + 1)) 31 50).toNatClampNeg) ≤ 32 →
            K none (sI (sI (sI μ 31 51 (zI μ 31 50)) 31 51 ((zI (sI μ 31 51 (zI μ 31 50)) 31 51) + 1)) 31 52 (-1))) ∧
          (¬ (zI (sI (sI μ 31 51 (zI μ 31 50)) 31 51 ((zI (sI μ 31 51 (zI μ 31 50)) 31 51) + 1)) 65 (zI (sI (sI μ 31 51 (zI μ 31 50)) 31 51 ((zI (sI μ 31 51 (zI μ 31 50)) 31 51) + 1)) 31 50).toNatClampNeg) ≤ 32 →
            (vp_in (zI (sI (sI μ 31 51 (zI μ 31 50)) 31 51 ((zI (sI μ 31 51 (zI μ 31 50)) 31 51) + 1)) 31 50) 200) ∧
            ∀ μ16, μ16 = (sI (sI (sI μ 31 51 (zI μ 31 50)) 31 51 ((zI (sI μ 31 51 (zI μ 31 50)) 31 51) + 1)) 31 52 (zI (sI (sI μ 31 51 (zI μ 31 50)) 31 51 ((zI (sI μ 31 51 (zI μ 31 50)) 31 51) + 1)) 65 (zI (sI (sI μ 31 51 (zI μ 31 50)) 31 51 ((zI (sI μ 31 51 (zI μ 31 50)) 31 51) + 1)) 31 50).toNatClampNeg)) →
            K none μ16)) ∧
        (¬ 57 < (zI (sI μ 31 51 (zI μ 31 50)) 65 (zI (sI μ 31 51 (zI μ 31 50)) 31 50).toNatClampNeg) →
          AW E l (d + 2) nc ns mX11_next 151 [some (.ref 31)] [] (sI (sI μ 31 51 (zI μ 31 50)) 31 53 0) K))) ∧
    (¬ (zI (sI μ 31 51 (zI μ 31 50)) 65 (zI (sI μ 31 51 (zI μ 31 50)) 31 50).toNatClampNeg) < 97 →
      (122 < (zI (sI μ 31 51 (zI μ 31 50)) 65 (zI (sI μ 31 51 (zI μ 31 50)) 31 50).toNatClampNeg) →
        (vp_in (zI (sI μ 31 51 (zI μ 31 50)) 31 50) 200) ∧
        ((zI (sI μ 31 51 (zI μ 31 50)) 65 (zI (sI μ 31 51 (zI μ 31 50)) 31 50).toNatClampNeg) < 48 →
          (vp_in (zI (sI (sI μ 31 51 (zI μ 31 50)) 31 51 ((zI (sI μ 31 51 (zI μ 31 50)) 31 51) + 1)) 31 50) 200) ∧
          ((zI (sI (sI μ 31 51 (zI μ 31 50)) 31 51 ((zI (sI μ 31 51 (zI μ 31 50)) 31 51) + 1)) 65 (zI (sI (sI μ 31 51 (zI μ 31 50)) 31 51 ((zI (sI μ 31 51 (zI μ 31 50)) 31 51) + 1)) 31 50).toNatClampNeg) ≤ 32 →
            K none (sI (sI (sI μ 31 51 (zI μ 31 50)) 31 51 ((zI (sI μ 31 51 (zI μ 31 50)) 31 51) + 1)) 31 52 (-1))) ∧
          (¬ (zI (sI (sI μ 31 51 (zI μ 31 50)) 31 51 ((zI (sI μ 31 51 (zI μ 31 50)) 31 51) + 1)) 65 (zI (sI (sI μ 31 51 (zI μ 31 50)) 31 51 ((zI (sI μ 31 51 (zI μ 31 50)) 31 51) + 1)) 31 50).toNatClampNeg) ≤ 32 →
            (vp_in (zI (sI (sI μ 31 51 (zI μ 31 50)) 31 51 ((zI (sI μ 31 51 (zI μ 31 50)) 31 51) + 1)) 31 50) 200) ∧
            ∀ μ25, μ25 = (sI (sI (sI μ 31 51 (zI μ 31 50)) 31 51 ((zI (sI μ 31 51 (zI μ 31 50)) 31 51) + 1)) 31 52 (zI (sI (sI μ 31 51 (zI μ 31 50)) 31 51 ((zI (sI μ 31 51 (zI μ 31 50)) 31 51) + 1)) 65 (zI (sI (sI μ 31 51 (zI μ 31 50)) 31 51 ((zI (sI μ 31 51 (zI μ 31 50)) 31 51) + 1)) 31 50).toNatClampNeg)) →
            K none μ25)) ∧
        (¬ (zI (sI μ 31 51 (zI μ 31 50)) 65 (zI (sI μ 31 51 (zI μ 31 50)) 31 50).toNatClampNeg) < 48 →
          (57 < (zI (sI μ 31 51 (zI μ 31 50)) 65 (zI (sI μ 31 51 (zI μ 31 50)) 31 50).toNatClampNeg) →
            (vp_in (zI (sI (sI μ 31 51 (zI μ 31 50)) 31 51 ((zI (sI μ 31 51 (zI μ 31 50)) 31 51) + 1)) 31 50) 200) ∧
            ((zI (sI (sI μ 31 51 (zI μ 31 50)) 31 51 ((zI (sI μ 31 51 (zI μ 31 50)) 31 51) + 1)) 65 (zI (sI (sI μ 31 51 (zI μ 31 50)) 31 51 ((zI (sI μ 31 51 (zI μ 31 50)) 31 51) + 1)) 31 50).toNatClampNeg) ≤ 32 →
              K none (sI (sI (sI μ 31 51 (zI μ 31 50)) 31 51 ((zI (sI μ 31 51 (zI μ 31 50)) 31 51) + 1)) 31 52 (-1))) ∧
            (¬ (zI (sI (sI μ 31 51 (zI μ 31 50)) 31 51 ((zI (sI μ 31 51 (zI μ 31 50)) 31 51) + 1)) 65 (zI (sI (sI μ 31 51 (zI μ 31 50)) 31 51 ((zI (sI μ 31 51 (zI μ 31 50)) 31 51) + 1)) 31 50).toNatClampNeg) ≤ 32 →
              (vp_in (zI (sI (sI μ 31 51 (zI μ 31 50)) 31 51 ((zI (sI μ 31 51 (zI μ 31 50)) 31 51) + 1)) 31 50) 200) ∧
              ∀ μ32, μ32 = (sI (sI (sI μ 31 51 (zI μ 31 50)) 31 51 ((zI (sI μ 31 51 (zI μ 31 50)) 31 51) + 1)) 31 52 (zI (sI (sI μ 31 51 (zI μ 31 50)) 31 51 ((zI (sI μ 31 51 (zI μ 31 50)) 31 51) + 1)) 65 (zI (sI (sI μ 31 51 (zI μ 31 50)) 31 51 ((zI (sI μ 31 51 (zI μ 31 50)) 31 51) + 1)) 31 50).toNatClampNeg)) →
              K none μ32)) ∧
          (¬ 57 < (zI (sI μ 31 51 (zI μ 31 50)) 65 (zI (sI μ 31 51 (zI μ 31 50)) 31 50).toNatClampNeg) →
            AW E l (d + 2) nc ns mX11_next 151 [some (.ref 31)] [] (sI (sI μ 31 51 (zI μ 31 50)) 31 53 0) K))) ∧
      (¬ 122 < (zI (sI μ 31 51 (zI μ 31 50)) 65 (zI (sI μ 31 51 (zI μ 31 50)) 31 50).toNatClampNeg) →
        AW E l (d + 2) nc ns mX11_next 86 [some (.ref 31)] [] (sI μ 31 51 (zI μ 31 50)) K))) ∧
  ((zI (sI μ 31 51 (zI μ 31 50)) 31 50) = (zI (sI μ 31 51 (zI μ 31 50)) 31 41) →
    K none (sI (sI μ 31 51 (zI μ 31 50)) 31 52 0))) : AW E l (d + 2) nc ns mX11_next 46 [some (.ref 31)] [] μ K := by
  refine aw_aload_n (pc' := 47) (dt_X11_next 23 (46, .aload_n 0, 1) rfl) rfl rfl (aw_aload_n (pc' := 48) (dt_X11_next 24 (47, .aload_n 0, 1) rfl) rfl rfl (aw_getI (pc' := 51) (dt_X11_next 25 (48, .getfield 249, 3) rfl) fl_ReturnDeskModel_249 rfl rfl (sk_31 hS) (aw_putI (pc' := 54) (dt_X11_next 26 (51, .putfield 246, 3) rfl) fl_ReturnDeskModel_246 rfl (by decide +kernel) rfl (sk_31 hS) (aw_aload_n (pc' := 55) (dt_X11_next 27 (54, .aload_n 0, 1) rfl) rfl rfl (aw_getI (pc' := 58) (dt_X11_next 28 (55, .getfield 249, 3) rfl) fl_ReturnDeskModel_249 rfl rfl (sk_31 hS.wI) (aw_aload_n (pc' := 59) (dt_X11_next 29 (58, .aload_n 0, 1) rfl) rfl rfl (aw_getI (pc' := 62) (dt_X11_next 30 (59, .getfield 239, 3) rfl) fl_ReturnDeskModel_239 rfl rfl (sk_31 hS.wI) (aw_icmp_ne (pc' := 65) (tgt := 71) (dt_X11_next 31 (62, .if_icmp .ne 9, 3) rfl) (by decide) rfl ?_ ?_))))))))
  · intro q1
    have h := h.1 q1
    obtain ⟨g2, h⟩ := h
    refine aw_aload_n (pc' := 72) (dt_X11_next 36 (71, .aload_n 0, 1) rfl) rfl rfl (aw_getAs (pc' := 75) (dt_X11_next 37 (72, .getfield 110, 3) rfl) fl_ReturnDeskModel_110 rfl rfl (sk_31 hS.wI) (sa_31_40 hS.wI) (aw_aload_n (pc' := 76) (dt_X11_next 38 (75, .aload_n 0, 1) rfl) rfl rfl (aw_getI (pc' := 79) (dt_X11_next 39 (76, .getfield 249, 3) rfl) fl_ReturnDeskModel_249 rfl rfl (sk_31 hS.wI) (aw_bald (pc' := 80) (dt_X11_next 40 (79, .baload, 1) rfl) rfl (sk_65 hS.wI) (vin_eq (sl_65 hS.wI) g2) (aw_inS (pc' := 83) (nc1 := 0) (ns1 := 0) (nc := nc) (ns := ns) (ls' := [some (.int (zI (sI μ 31 51 (zI μ 31 50)) 65 (zI (sI μ 31 51 (zI μ 31 50)) 31 50).toNatClampNeg))]) (y2 := mX11_isLetter) (As := [.int (zI (sI μ 31 51 (zI μ 31 50)) 65 (zI (sI μ 31 51 (zI μ 31 50)) 31 50).toNatClampNeg)]) (rest := []) (dt_X11_next 41 (80, .invokestatic 255, 3) rfl) ok_X11_isLetter ln_ReturnDeskModel_255 sm_X11_isLetter pr_X11_isLetter rfl (Nat.le_of_ble_eq_true rfl) (Nat.le_of_ble_eq_true rfl) rfl rfl (aw_iload_n (pc' := 1) (dt_X11_isLetter 0 (0, .iload_n 0, 1) rfl) rfl rfl (aw_bipush (pc' := 3) (v := 97) (dt_X11_isLetter 1 (1, .bipush 97, 2) rfl) (by decide) rfl (aw_bipush (pc' := 5) (v := 122) (dt_X11_isLetter 2 (3, .bipush 122, 2) rfl) (by decide) rfl (aw_inS (pc' := 8) (nc1 := 0) (ns1 := 0) (nc := 0) (ns := 0) (ls' := [some (.int (zI (sI μ 31 51 (zI μ 31 50)) 65 (zI (sI μ 31 51 (zI μ 31 50)) 31 50).toNatClampNeg)), some (.int 97), some (.int 122)]) (y2 := mX11_in) (As := [.int (zI (sI μ 31 51 (zI μ 31 50)) 65 (zI (sI μ 31 51 (zI μ 31 50)) 31 50).toNatClampNeg), .int 97, .int 122]) (rest := []) (dt_X11_isLetter 3 (5, .invokestatic 185, 3) rfl) ok_X11_in ln_ReturnDeskModel_185 sm_X11_in pr_X11_in rfl (Nat.le_of_ble_eq_true rfl) (Nat.le_of_ble_eq_true rfl) rfl rfl (aw_iload_n (pc' := 1) (dt_X11_in 0 (0, .iload_n 0, 1) rfl) rfl rfl (aw_iload_n (pc' := 2) (dt_X11_in 1 (1, .iload_n 1, 1) rfl) rfl rfl (aw_icmp_lt (pc' := 5) (tgt := 14) (dt_X11_in 2 (2, .if_icmp .lt 12, 3) rfl) (by decide) rfl ?_ ?_))))))))))))
    · intro q3
      have h := h.1 q3
      obtain ⟨g4, h⟩ := h
      refine aw_iconst (pc' := 15) (v := 0) (dt_X11_in 8 (14, .iconst 0, 1) rfl) (by decide) rfl (aw_iret (dt_X11_in 9 (15, .ireturn, 1) rfl) rfl rfl (aw_stk (st' := [.int 0]) rfl (aw_iret (dt_X11_isLetter 4 (8, .ireturn, 1) rfl) rfl rfl (aw_stk (st' := [.int 0]) rfl (aw_if_eq_T (pc' := 86) (tgt := 131) (dt_X11_next 42 (83, .ifCond .eq 48, 3) rfl) (by decide) rfl (by decide) (aw_aload_n (pc' := 132) (dt_X11_next 66 (131, .aload_n 0, 1) rfl) rfl rfl (aw_getAs (pc' := 135) (dt_X11_next 67 (132, .getfield 110, 3) rfl) fl_ReturnDeskModel_110 rfl rfl (sk_31 hS.wI) (sa_31_40 hS.wI) (aw_aload_n (pc' := 136) (dt_X11_next 68 (135, .aload_n 0, 1) rfl) rfl rfl (aw_getI (pc' := 139) (dt_X11_next 69 (136, .getfield 249, 3) rfl) fl_ReturnDeskModel_249 rfl rfl (sk_31 hS.wI) (aw_bald (pc' := 140) (dt_X11_next 70 (139, .baload, 1) rfl) rfl (sk_65 hS.wI) (vin_eq (sl_65 hS.wI) g4) (aw_inS (pc' := 143) (nc1 := 0) (ns1 := 0) (nc := nc) (ns := ns) (ls' := [some (.int (zI (sI μ 31 51 (zI μ 31 50)) 65 (zI (sI μ 31 51 (zI μ 31 50)) 31 50).toNatClampNeg))]) (y2 := mX11_isDigit) (As := [.int (zI (sI μ 31 51 (zI μ 31 50)) 65 (zI (sI μ 31 51 (zI μ 31 50)) 31 50).toNatClampNeg)]) (rest := []) (dt_X11_next 71 (140, .invokestatic 258, 3) rfl) ok_X11_isDigit ln_ReturnDeskModel_258 sm_X11_isDigit pr_X11_isDigit rfl (Nat.le_of_ble_eq_true rfl) (Nat.le_of_ble_eq_true rfl) rfl rfl (aw_iload_n (pc' := 1) (dt_X11_isDigit 0 (0, .iload_n 0, 1) rfl) rfl rfl (aw_bipush (pc' := 3) (v := 48) (dt_X11_isDigit 1 (1, .bipush 48, 2) rfl) (by decide) rfl (aw_bipush (pc' := 5) (v := 57) (dt_X11_isDigit 2 (3, .bipush 57, 2) rfl) (by decide) rfl (aw_inS (pc' := 8) (nc1 := 0) (ns1 := 0) (nc := 0) (ns := 0) (ls' := [some (.int (zI (sI μ 31 51 (zI μ 31 50)) 65 (zI (sI μ 31 51 (zI μ 31 50)) 31 50).toNatClampNeg)), some (.int 48), some (.int 57)]) (y2 := mX11_in) (As := [.int (zI (sI μ 31 51 (zI μ 31 50)) 65 (zI (sI μ 31 51 (zI μ 31 50)) 31 50).toNatClampNeg), .int 48, .int 57]) (rest := []) (dt_X11_isDigit 3 (5, .invokestatic 185, 3) rfl) ok_X11_in ln_ReturnDeskModel_185 sm_X11_in pr_X11_in rfl (Nat.le_of_ble_eq_true rfl) (Nat.le_of_ble_eq_true rfl) rfl rfl (aw_iload_n (pc' := 1) (dt_X11_in 0 (0, .iload_n 0, 1) rfl) rfl rfl (aw_iload_n (pc' := 2) (dt_X11_in 1 (1, .iload_n 1, 1) rfl) rfl rfl (aw_icmp_lt (pc' := 5) (tgt := 14) (dt_X11_in 2 (2, .if_icmp .lt 12, 3) rfl) (by decide) rfl ?_ ?_))))))))))))))))))
      · intro q5
        have h := h.1 q5
        obtain ⟨g6, h⟩ := h
        refine aw_iconst (pc' := 15) (v := 0) (dt_X11_in 8 (14, .iconst 0, 1) rfl) (by decide) rfl (aw_iret (dt_X11_in 9 (15, .ireturn, 1) rfl) rfl rfl (aw_stk (st' := [.int 0]) rfl (aw_iret (dt_X11_isDigit 4 (8, .ireturn, 1) rfl) rfl rfl (aw_stk (st' := [.int 0]) rfl (aw_if_eq_T (pc' := 146) (tgt := 258) (dt_X11_next 72 (143, .ifCond .eq 115, 3) rfl) (by decide) rfl (by decide) (aw_aload_n (pc' := 259) (dt_X11_next 132 (258, .aload_n 0, 1) rfl) rfl rfl (aw_dup (pc' := 260) (dt_X11_next 133 (259, .dup, 1) rfl) rfl rfl (aw_getI (pc' := 263) (dt_X11_next 134 (260, .getfield 246, 3) rfl) fl_ReturnDeskModel_246 rfl rfl (sk_31 hS.wI) (aw_iconst (pc' := 264) (v := 1) (dt_X11_next 135 (263, .iconst 1, 1) rfl) (by decide) rfl (aw_iadd (pc' := 265) (dt_X11_next 136 (264, .iadd, 1) rfl) rfl (aw_putI (pc' := 268) (dt_X11_next 137 (265, .putfield 246, 3) rfl) fl_ReturnDeskModel_246 rfl (by decide +kernel) rfl (sk_31 hS.wI) (aw_aload_n (pc' := 269) (dt_X11_next 138 (268, .aload_n 0, 1) rfl) rfl rfl (aw_aload_n (pc' := 270) (dt_X11_next 139 (269, .aload_n 0, 1) rfl) rfl rfl (aw_getAs (pc' := 273) (dt_X11_next 140 (270, .getfield 110, 3) rfl) fl_ReturnDeskModel_110 rfl rfl (sk_31 hS.wI.wI) (sa_31_40 hS.wI.wI) (aw_aload_n (pc' := 274) (dt_X11_next 141 (273, .aload_n 0, 1) rfl) rfl rfl (aw_getI (pc' := 277) (dt_X11_next 142 (274, .getfield 249, 3) rfl) fl_ReturnDeskModel_249 rfl rfl (sk_31 hS.wI.wI) (aw_bald (pc' := 278) (dt_X11_next 143 (277, .baload, 1) rfl) rfl (sk_65 hS.wI.wI) (vin_eq (sl_65 hS.wI.wI) g6) (aw_bipush (pc' := 280) (v := 32) (dt_X11_next 144 (278, .bipush 32, 2) rfl) (by decide) rfl (aw_icmp_le (pc' := 283) (tgt := 295) (dt_X11_next 145 (280, .if_icmp .le 15, 3) rfl) (by decide) rfl ?_ ?_)))))))))))))))))))
        · intro q7
          have h := h.1 q7
          refine aw_iconst (pc' := 296) (v := (-1)) (dt_X11_next 152 (295, .iconst (-1), 1) rfl) (by decide) rfl (aw_putI (pc' := 299) (dt_X11_next 153 (296, .putfield 252, 3) rfl) fl_ReturnDeskModel_252 rfl (by decide +kernel) rfl (sk_31 hS.wI.wI) (aw_ret (dt_X11_next 154 (299, .return_, 1) rfl) rfl ?_))
          exact h
        · intro q7
          have h := h.2 q7
          obtain ⟨g8, h⟩ := h
          refine aw_aload_n (pc' := 284) (dt_X11_next 146 (283, .aload_n 0, 1) rfl) rfl rfl (aw_getAs (pc' := 287) (dt_X11_next 147 (284, .getfield 110, 3) rfl) fl_ReturnDeskModel_110 rfl rfl (sk_31 hS.wI.wI) (sa_31_40 hS.wI.wI) (aw_aload_n (pc' := 288) (dt_X11_next 148 (287, .aload_n 0, 1) rfl) rfl rfl (aw_getI (pc' := 291) (dt_X11_next 149 (288, .getfield 249, 3) rfl) fl_ReturnDeskModel_249 rfl rfl (sk_31 hS.wI.wI) (aw_bald (pc' := 292) (dt_X11_next 150 (291, .baload, 1) rfl) rfl (sk_65 hS.wI.wI) (vin_eq (sl_65 hS.wI.wI) g8) (aw_goto (tgt := 296) (dt_X11_next 151 (292, .goto 4, 3) rfl) (by decide) (aw_putI (pc' := 299) (dt_X11_next 153 (296, .putfield 252, 3) rfl) fl_ReturnDeskModel_252 rfl (by decide +kernel) rfl (sk_31 hS.wI.wI) ?_))))))
          refine aw_mem (fun μ9 eμ10 => ?_)
          have h := h μ9 eμ10
          have hS11 : Stat μ9 := by rw [eμ10]; exact hS.wI.wI.wI
          refine aw_ret (dt_X11_next 154 (299, .return_, 1) rfl) rfl ?_
          exact h
      · intro q5
        have h := h.2 q5
        refine aw_iload_n (pc' := 6) (dt_X11_in 3 (5, .iload_n 0, 1) rfl) rfl rfl (aw_iload_n (pc' := 7) (dt_X11_in 4 (6, .iload_n 2, 1) rfl) rfl rfl (aw_icmp_gt (pc' := 10) (tgt := 14) (dt_X11_in 5 (7, .if_icmp .gt 7, 3) rfl) (by decide) rfl ?_ ?_))
        · intro q12
          have h := h.1 q12
          obtain ⟨g13, h⟩ := h
          refine aw_iconst (pc' := 15) (v := 0) (dt_X11_in 8 (14, .iconst 0, 1) rfl) (by decide) rfl (aw_iret (dt_X11_in 9 (15, .ireturn, 1) rfl) rfl rfl (aw_stk (st' := [.int 0]) rfl (aw_iret (dt_X11_isDigit 4 (8, .ireturn, 1) rfl) rfl rfl (aw_stk (st' := [.int 0]) rfl (aw_if_eq_T (pc' := 146) (tgt := 258) (dt_X11_next 72 (143, .ifCond .eq 115, 3) rfl) (by decide) rfl (by decide) (aw_aload_n (pc' := 259) (dt_X11_next 132 (258, .aload_n 0, 1) rfl) rfl rfl (aw_dup (pc' := 260) (dt_X11_next 133 (259, .dup, 1) rfl) rfl rfl (aw_getI (pc' := 263) (dt_X11_next 134 (260, .getfield 246, 3) rfl) fl_ReturnDeskModel_246 rfl rfl (sk_31 hS.wI) (aw_iconst (pc' := 264) (v := 1) (dt_X11_next 135 (263, .iconst 1, 1) rfl) (by decide) rfl (aw_iadd (pc' := 265) (dt_X11_next 136 (264, .iadd, 1) rfl) rfl (aw_putI (pc' := 268) (dt_X11_next 137 (265, .putfield 246, 3) rfl) fl_ReturnDeskModel_246 rfl (by decide +kernel) rfl (sk_31 hS.wI) (aw_aload_n (pc' := 269) (dt_X11_next 138 (268, .aload_n 0, 1) rfl) rfl rfl (aw_aload_n (pc' := 270) (dt_X11_next 139 (269, .aload_n 0, 1) rfl) rfl rfl (aw_getAs (pc' := 273) (dt_X11_next 140 (270, .getfield 110, 3) rfl) fl_ReturnDeskModel_110 rfl rfl (sk_31 hS.wI.wI) (sa_31_40 hS.wI.wI) (aw_aload_n (pc' := 274) (dt_X11_next 141 (273, .aload_n 0, 1) rfl) rfl rfl (aw_getI (pc' := 277) (dt_X11_next 142 (274, .getfield 249, 3) rfl) fl_ReturnDeskModel_249 rfl rfl (sk_31 hS.wI.wI) (aw_bald (pc' := 278) (dt_X11_next 143 (277, .baload, 1) rfl) rfl (sk_65 hS.wI.wI) (vin_eq (sl_65 hS.wI.wI) g13) (aw_bipush (pc' := 280) (v := 32) (dt_X11_next 144 (278, .bipush 32, 2) rfl) (by decide) rfl (aw_icmp_le (pc' := 283) (tgt := 295) (dt_X11_next 145 (280, .if_icmp .le 15, 3) rfl) (by decide) rfl ?_ ?_)))))))))))))))))))
          · intro q14
            have h := h.1 q14
            refine aw_iconst (pc' := 296) (v := (-1)) (dt_X11_next 152 (295, .iconst (-1), 1) rfl) (by decide) rfl (aw_putI (pc' := 299) (dt_X11_next 153 (296, .putfield 252, 3) rfl) fl_ReturnDeskModel_252 rfl (by decide +kernel) rfl (sk_31 hS.wI.wI) (aw_ret (dt_X11_next 154 (299, .return_, 1) rfl) rfl ?_))
            exact h
          · intro q14
            have h := h.2 q14
            obtain ⟨g15, h⟩ := h
            refine aw_aload_n (pc' := 284) (dt_X11_next 146 (283, .aload_n 0, 1) rfl) rfl rfl (aw_getAs (pc' := 287) (dt_X11_next 147 (284, .getfield 110, 3) rfl) fl_ReturnDeskModel_110 rfl rfl (sk_31 hS.wI.wI) (sa_31_40 hS.wI.wI) (aw_aload_n (pc' := 288) (dt_X11_next 148 (287, .aload_n 0, 1) rfl) rfl rfl (aw_getI (pc' := 291) (dt_X11_next 149 (288, .getfield 249, 3) rfl) fl_ReturnDeskModel_249 rfl rfl (sk_31 hS.wI.wI) (aw_bald (pc' := 292) (dt_X11_next 150 (291, .baload, 1) rfl) rfl (sk_65 hS.wI.wI) (vin_eq (sl_65 hS.wI.wI) g15) (aw_goto (tgt := 296) (dt_X11_next 151 (292, .goto 4, 3) rfl) (by decide) (aw_putI (pc' := 299) (dt_X11_next 153 (296, .putfield 252, 3) rfl) fl_ReturnDeskModel_252 rfl (by decide +kernel) rfl (sk_31 hS.wI.wI) ?_))))))
            refine aw_mem (fun μ16 eμ17 => ?_)
            have h := h μ16 eμ17
            have hS18 : Stat μ16 := by rw [eμ17]; exact hS.wI.wI.wI
            refine aw_ret (dt_X11_next 154 (299, .return_, 1) rfl) rfl ?_
            exact h
        · intro q12
          have h := h.2 q12
          refine aw_iconst (pc' := 11) (v := 1) (dt_X11_in 6 (10, .iconst 1, 1) rfl) (by decide) rfl (aw_goto (tgt := 15) (dt_X11_in 7 (11, .goto 4, 3) rfl) (by decide) (aw_iret (dt_X11_in 9 (15, .ireturn, 1) rfl) rfl rfl (aw_stk (st' := [.int 1]) rfl (aw_iret (dt_X11_isDigit 4 (8, .ireturn, 1) rfl) rfl rfl (aw_stk (st' := [.int 1]) rfl (aw_if_eq_F (pc' := 146) (tgt := 258) (dt_X11_next 72 (143, .ifCond .eq 115, 3) rfl) (by decide) rfl (by decide) (aw_aload_n (pc' := 147) (dt_X11_next 73 (146, .aload_n 0, 1) rfl) rfl rfl (aw_iconst (pc' := 148) (v := 0) (dt_X11_next 74 (147, .iconst 0, 1) rfl) (by decide) rfl (aw_putI (pc' := 151) (dt_X11_next 75 (148, .putfield 261, 3) rfl) fl_ReturnDeskModel_261 rfl (by decide +kernel) rfl (sk_31 hS.wI) ?_)))))))))
          exact h
    · intro q3
      have h := h.2 q3
      refine aw_iload_n (pc' := 6) (dt_X11_in 3 (5, .iload_n 0, 1) rfl) rfl rfl (aw_iload_n (pc' := 7) (dt_X11_in 4 (6, .iload_n 2, 1) rfl) rfl rfl (aw_icmp_gt (pc' := 10) (tgt := 14) (dt_X11_in 5 (7, .if_icmp .gt 7, 3) rfl) (by decide) rfl ?_ ?_))
      · intro q19
        have h := h.1 q19
        obtain ⟨g20, h⟩ := h
        refine aw_iconst (pc' := 15) (v := 0) (dt_X11_in 8 (14, .iconst 0, 1) rfl) (by decide) rfl (aw_iret (dt_X11_in 9 (15, .ireturn, 1) rfl) rfl rfl (aw_stk (st' := [.int 0]) rfl (aw_iret (dt_X11_isLetter 4 (8, .ireturn, 1) rfl) rfl rfl (aw_stk (st' := [.int 0]) rfl (aw_if_eq_T (pc' := 86) (tgt := 131) (dt_X11_next 42 (83, .ifCond .eq 48, 3) rfl) (by decide) rfl (by decide) (aw_aload_n (pc' := 132) (dt_X11_next 66 (131, .aload_n 0, 1) rfl) rfl rfl (aw_getAs (pc' := 135) (dt_X11_next 67 (132, .getfield 110, 3) rfl) fl_ReturnDeskModel_110 rfl rfl (sk_31 hS.wI) (sa_31_40 hS.wI) (aw_aload_n (pc' := 136) (dt_X11_next 68 (135, .aload_n 0, 1) rfl) rfl rfl (aw_getI (pc' := 139) (dt_X11_next 69 (136, .getfield 249, 3) rfl) fl_ReturnDeskModel_249 rfl rfl (sk_31 hS.wI) (aw_bald (pc' := 140) (dt_X11_next 70 (139, .baload, 1) rfl) rfl (sk_65 hS.wI) (vin_eq (sl_65 hS.wI) g20) (aw_inS (pc' := 143) (nc1 := 0) (ns1 := 0) (nc := nc) (ns := ns) (ls' := [some (.int (zI (sI μ 31 51 (zI μ 31 50)) 65 (zI (sI μ 31 51 (zI μ 31 50)) 31 50).toNatClampNeg))]) (y2 := mX11_isDigit) (As := [.int (zI (sI μ 31 51 (zI μ 31 50)) 65 (zI (sI μ 31 51 (zI μ 31 50)) 31 50).toNatClampNeg)]) (rest := []) (dt_X11_next 71 (140, .invokestatic 258, 3) rfl) ok_X11_isDigit ln_ReturnDeskModel_258 sm_X11_isDigit pr_X11_isDigit rfl (Nat.le_of_ble_eq_true rfl) (Nat.le_of_ble_eq_true rfl) rfl rfl (aw_iload_n (pc' := 1) (dt_X11_isDigit 0 (0, .iload_n 0, 1) rfl) rfl rfl (aw_bipush (pc' := 3) (v := 48) (dt_X11_isDigit 1 (1, .bipush 48, 2) rfl) (by decide) rfl (aw_bipush (pc' := 5) (v := 57) (dt_X11_isDigit 2 (3, .bipush 57, 2) rfl) (by decide) rfl (aw_inS (pc' := 8) (nc1 := 0) (ns1 := 0) (nc := 0) (ns := 0) (ls' := [some (.int (zI (sI μ 31 51 (zI μ 31 50)) 65 (zI (sI μ 31 51 (zI μ 31 50)) 31 50).toNatClampNeg)), some (.int 48), some (.int 57)]) (y2 := mX11_in) (As := [.int (zI (sI μ 31 51 (zI μ 31 50)) 65 (zI (sI μ 31 51 (zI μ 31 50)) 31 50).toNatClampNeg), .int 48, .int 57]) (rest := []) (dt_X11_isDigit 3 (5, .invokestatic 185, 3) rfl) ok_X11_in ln_ReturnDeskModel_185 sm_X11_in pr_X11_in rfl (Nat.le_of_ble_eq_true rfl) (Nat.le_of_ble_eq_true rfl) rfl rfl (aw_iload_n (pc' := 1) (dt_X11_in 0 (0, .iload_n 0, 1) rfl) rfl rfl (aw_iload_n (pc' := 2) (dt_X11_in 1 (1, .iload_n 1, 1) rfl) rfl rfl (aw_icmp_lt (pc' := 5) (tgt := 14) (dt_X11_in 2 (2, .if_icmp .lt 12, 3) rfl) (by decide) rfl ?_ ?_))))))))))))))))))
        · intro q21
          have h := h.1 q21
          obtain ⟨g22, h⟩ := h
          refine aw_iconst (pc' := 15) (v := 0) (dt_X11_in 8 (14, .iconst 0, 1) rfl) (by decide) rfl (aw_iret (dt_X11_in 9 (15, .ireturn, 1) rfl) rfl rfl (aw_stk (st' := [.int 0]) rfl (aw_iret (dt_X11_isDigit 4 (8, .ireturn, 1) rfl) rfl rfl (aw_stk (st' := [.int 0]) rfl (aw_if_eq_T (pc' := 146) (tgt := 258) (dt_X11_next 72 (143, .ifCond .eq 115, 3) rfl) (by decide) rfl (by decide) (aw_aload_n (pc' := 259) (dt_X11_next 132 (258, .aload_n 0, 1) rfl) rfl rfl (aw_dup (pc' := 260) (dt_X11_next 133 (259, .dup, 1) rfl) rfl rfl (aw_getI (pc' := 263) (dt_X11_next 134 (260, .getfield 246, 3) rfl) fl_ReturnDeskModel_246 rfl rfl (sk_31 hS.wI) (aw_iconst (pc' := 264) (v := 1) (dt_X11_next 135 (263, .iconst 1, 1) rfl) (by decide) rfl (aw_iadd (pc' := 265) (dt_X11_next 136 (264, .iadd, 1) rfl) rfl (aw_putI (pc' := 268) (dt_X11_next 137 (265, .putfield 246, 3) rfl) fl_ReturnDeskModel_246 rfl (by decide +kernel) rfl (sk_31 hS.wI) (aw_aload_n (pc' := 269) (dt_X11_next 138 (268, .aload_n 0, 1) rfl) rfl rfl (aw_aload_n (pc' := 270) (dt_X11_next 139 (269, .aload_n 0, 1) rfl) rfl rfl (aw_getAs (pc' := 273) (dt_X11_next 140 (270, .getfield 110, 3) rfl) fl_ReturnDeskModel_110 rfl rfl (sk_31 hS.wI.wI) (sa_31_40 hS.wI.wI) (aw_aload_n (pc' := 274) (dt_X11_next 141 (273, .aload_n 0, 1) rfl) rfl rfl (aw_getI (pc' := 277) (dt_X11_next 142 (274, .getfield 249, 3) rfl) fl_ReturnDeskModel_249 rfl rfl (sk_31 hS.wI.wI) (aw_bald (pc' := 278) (dt_X11_next 143 (277, .baload, 1) rfl) rfl (sk_65 hS.wI.wI) (vin_eq (sl_65 hS.wI.wI) g22) (aw_bipush (pc' := 280) (v := 32) (dt_X11_next 144 (278, .bipush 32, 2) rfl) (by decide) rfl (aw_icmp_le (pc' := 283) (tgt := 295) (dt_X11_next 145 (280, .if_icmp .le 15, 3) rfl) (by decide) rfl ?_ ?_)))))))))))))))))))
          · intro q23
            have h := h.1 q23
            refine aw_iconst (pc' := 296) (v := (-1)) (dt_X11_next 152 (295, .iconst (-1), 1) rfl) (by decide) rfl (aw_putI (pc' := 299) (dt_X11_next 153 (296, .putfield 252, 3) rfl) fl_ReturnDeskModel_252 rfl (by decide +kernel) rfl (sk_31 hS.wI.wI) (aw_ret (dt_X11_next 154 (299, .return_, 1) rfl) rfl ?_))
            exact h
          · intro q23
            have h := h.2 q23
            obtain ⟨g24, h⟩ := h
            refine aw_aload_n (pc' := 284) (dt_X11_next 146 (283, .aload_n 0, 1) rfl) rfl rfl (aw_getAs (pc' := 287) (dt_X11_next 147 (284, .getfield 110, 3) rfl) fl_ReturnDeskModel_110 rfl rfl (sk_31 hS.wI.wI) (sa_31_40 hS.wI.wI) (aw_aload_n (pc' := 288) (dt_X11_next 148 (287, .aload_n 0, 1) rfl) rfl rfl (aw_getI (pc' := 291) (dt_X11_next 149 (288, .getfield 249, 3) rfl) fl_ReturnDeskModel_249 rfl rfl (sk_31 hS.wI.wI) (aw_bald (pc' := 292) (dt_X11_next 150 (291, .baload, 1) rfl) rfl (sk_65 hS.wI.wI) (vin_eq (sl_65 hS.wI.wI) g24) (aw_goto (tgt := 296) (dt_X11_next 151 (292, .goto 4, 3) rfl) (by decide) (aw_putI (pc' := 299) (dt_X11_next 153 (296, .putfield 252, 3) rfl) fl_ReturnDeskModel_252 rfl (by decide +kernel) rfl (sk_31 hS.wI.wI) ?_))))))
            refine aw_mem (fun μ25 eμ26 => ?_)
            have h := h μ25 eμ26
            have hS27 : Stat μ25 := by rw [eμ26]; exact hS.wI.wI.wI
            refine aw_ret (dt_X11_next 154 (299, .return_, 1) rfl) rfl ?_
            exact h
        · intro q21
          have h := h.2 q21
          refine aw_iload_n (pc' := 6) (dt_X11_in 3 (5, .iload_n 0, 1) rfl) rfl rfl (aw_iload_n (pc' := 7) (dt_X11_in 4 (6, .iload_n 2, 1) rfl) rfl rfl (aw_icmp_gt (pc' := 10) (tgt := 14) (dt_X11_in 5 (7, .if_icmp .gt 7, 3) rfl) (by decide) rfl ?_ ?_))
          · intro q28
            have h := h.1 q28
            obtain ⟨g29, h⟩ := h
            refine aw_iconst (pc' := 15) (v := 0) (dt_X11_in 8 (14, .iconst 0, 1) rfl) (by decide) rfl (aw_iret (dt_X11_in 9 (15, .ireturn, 1) rfl) rfl rfl (aw_stk (st' := [.int 0]) rfl (aw_iret (dt_X11_isDigit 4 (8, .ireturn, 1) rfl) rfl rfl (aw_stk (st' := [.int 0]) rfl (aw_if_eq_T (pc' := 146) (tgt := 258) (dt_X11_next 72 (143, .ifCond .eq 115, 3) rfl) (by decide) rfl (by decide) (aw_aload_n (pc' := 259) (dt_X11_next 132 (258, .aload_n 0, 1) rfl) rfl rfl (aw_dup (pc' := 260) (dt_X11_next 133 (259, .dup, 1) rfl) rfl rfl (aw_getI (pc' := 263) (dt_X11_next 134 (260, .getfield 246, 3) rfl) fl_ReturnDeskModel_246 rfl rfl (sk_31 hS.wI) (aw_iconst (pc' := 264) (v := 1) (dt_X11_next 135 (263, .iconst 1, 1) rfl) (by decide) rfl (aw_iadd (pc' := 265) (dt_X11_next 136 (264, .iadd, 1) rfl) rfl (aw_putI (pc' := 268) (dt_X11_next 137 (265, .putfield 246, 3) rfl) fl_ReturnDeskModel_246 rfl (by decide +kernel) rfl (sk_31 hS.wI) (aw_aload_n (pc' := 269) (dt_X11_next 138 (268, .aload_n 0, 1) rfl) rfl rfl (aw_aload_n (pc' := 270) (dt_X11_next 139 (269, .aload_n 0, 1) rfl) rfl rfl (aw_getAs (pc' := 273) (dt_X11_next 140 (270, .getfield 110, 3) rfl) fl_ReturnDeskModel_110 rfl rfl (sk_31 hS.wI.wI) (sa_31_40 hS.wI.wI) (aw_aload_n (pc' := 274) (dt_X11_next 141 (273, .aload_n 0, 1) rfl) rfl rfl (aw_getI (pc' := 277) (dt_X11_next 142 (274, .getfield 249, 3) rfl) fl_ReturnDeskModel_249 rfl rfl (sk_31 hS.wI.wI) (aw_bald (pc' := 278) (dt_X11_next 143 (277, .baload, 1) rfl) rfl (sk_65 hS.wI.wI) (vin_eq (sl_65 hS.wI.wI) g29) (aw_bipush (pc' := 280) (v := 32) (dt_X11_next 144 (278, .bipush 32, 2) rfl) (by decide) rfl (aw_icmp_le (pc' := 283) (tgt := 295) (dt_X11_next 145 (280, .if_icmp .le 15, 3) rfl) (by decide) rfl ?_ ?_)))))))))))))))))))
            · intro q30
              have h := h.1 q30
              refine aw_iconst (pc' := 296) (v := (-1)) (dt_X11_next 152 (295, .iconst (-1), 1) rfl) (by decide) rfl (aw_putI (pc' := 299) (dt_X11_next 153 (296, .putfield 252, 3) rfl) fl_ReturnDeskModel_252 rfl (by decide +kernel) rfl (sk_31 hS.wI.wI) (aw_ret (dt_X11_next 154 (299, .return_, 1) rfl) rfl ?_))
              exact h
            · intro q30
              have h := h.2 q30
              obtain ⟨g31, h⟩ := h
              refine aw_aload_n (pc' := 284) (dt_X11_next 146 (283, .aload_n 0, 1) rfl) rfl rfl (aw_getAs (pc' := 287) (dt_X11_next 147 (284, .getfield 110, 3) rfl) fl_ReturnDeskModel_110 rfl rfl (sk_31 hS.wI.wI) (sa_31_40 hS.wI.wI) (aw_aload_n (pc' := 288) (dt_X11_next 148 (287, .aload_n 0, 1) rfl) rfl rfl (aw_getI (pc' := 291) (dt_X11_next 149 (288, .getfield 249, 3) rfl) fl_ReturnDeskModel_249 rfl rfl (sk_31 hS.wI.wI) (aw_bald (pc' := 292) (dt_X11_next 150 (291, .baload, 1) rfl) rfl (sk_65 hS.wI.wI) (vin_eq (sl_65 hS.wI.wI) g31) (aw_goto (tgt := 296) (dt_X11_next 151 (292, .goto 4, 3) rfl) (by decide) (aw_putI (pc' := 299) (dt_X11_next 153 (296, .putfield 252, 3) rfl) fl_ReturnDeskModel_252 rfl (by decide +kernel) rfl (sk_31 hS.wI.wI) ?_))))))
              refine aw_mem (fun μ32 eμ33 => ?_)
              have h := h μ32 eμ33
              have hS34 : Stat μ32 := by rw [eμ33]; exact hS.wI.wI.wI
              refine aw_ret (dt_X11_next 154 (299, .return_, 1) rfl) rfl ?_
              exact h
          · intro q28
            have h := h.2 q28
            refine aw_iconst (pc' := 11) (v := 1) (dt_X11_in 6 (10, .iconst 1, 1) rfl) (by decide) rfl (aw_goto (tgt := 15) (dt_X11_in 7 (11, .goto 4, 3) rfl) (by decide) (aw_iret (dt_X11_in 9 (15, .ireturn, 1) rfl) rfl rfl (aw_stk (st' := [.int 1]) rfl (aw_iret (dt_X11_isDigit 4 (8, .ireturn, 1) rfl) rfl rfl (aw_stk (st' := [.int 1]) rfl (aw_if_eq_F (pc' := 146) (tgt := 258) (dt_X11_next 72 (143, .ifCond .eq 115, 3) rfl) (by decide) rfl (by decide) (aw_aload_n (pc' := 147) (dt_X11_next 73 (146, .aload_n 0, 1) rfl) rfl rfl (aw_iconst (pc' := 148) (v := 0) (dt_X11_next 74 (147, .iconst 0, 1) rfl) (by decide) rfl (aw_putI (pc' := 151) (dt_X11_next 75 (148, .putfield 261, 3) rfl) fl_ReturnDeskModel_261 rfl (by decide +kernel) rfl (sk_31 hS.wI) ?_)))))))))
            exact h
      · intro q19
        have h := h.2 q19
        refine aw_iconst (pc' := 11) (v := 1) (dt_X11_in 6 (10, .iconst 1, 1) rfl) (by decide) rfl (aw_goto (tgt := 15) (dt_X11_in 7 (11, .goto 4, 3) rfl) (by decide) (aw_iret (dt_X11_in 9 (15, .ireturn, 1) rfl) rfl rfl (aw_stk (st' := [.int 1]) rfl (aw_iret (dt_X11_isLetter 4 (8, .ireturn, 1) rfl) rfl rfl (aw_stk (st' := [.int 1]) rfl (aw_if_eq_F (pc' := 86) (tgt := 131) (dt_X11_next 42 (83, .ifCond .eq 48, 3) rfl) (by decide) rfl (by decide) ?_))))))
        exact h
  · intro q1
    have h := h.2 q1
    refine aw_aload_n (pc' := 66) (dt_X11_next 32 (65, .aload_n 0, 1) rfl) rfl rfl (aw_iconst (pc' := 67) (v := 0) (dt_X11_next 33 (66, .iconst 0, 1) rfl) (by decide) rfl (aw_putI (pc' := 70) (dt_X11_next 34 (67, .putfield 252, 3) rfl) fl_ReturnDeskModel_252 rfl (by decide +kernel) rfl (sk_31 hS.wI) (aw_ret (dt_X11_next 35 (70, .return_, 1) rfl) rfl ?_)))
    exact h

theorem t_X11_next_151 {E : ZE} {l : Launch} {d nc ns : Nat}  {μ : ZM} {K : Option Value → ZM → Prop} (hS : Stat μ) (h :
  ((zI μ 31 41) ≤ (zI μ 31 51) →
    AW E l (d + 2) nc ns mX11_next 235 [some (.ref 31)] [] μ K) ∧
  (¬ (zI μ 31 41) ≤ (zI μ 31 51) →
    (vp_in (zI μ 31 51) 200) ∧
    ((zI μ 65 (zI μ 31 51).toNatClampNeg) < 48 →
      AW E l (d + 2) nc ns mX11_next 235 [some (.ref 31)] [] μ K) ∧
    (¬ (zI μ 65 (zI μ 31 51).toNatClampNeg) < 48 →
      (57 < (zI μ 65 (zI μ 31 51).toNatClampNeg) →
        AW E l (d + 2) nc ns mX11_next 235 [some (.ref 31)] [] μ K) ∧
      (¬ 57 < (zI μ 65 (zI μ 31 51).toNatClampNeg) →
        (6 ≤ ((zI μ 31 51) - (zI μ 31 50)) →
          AW E l (d + 2) nc ns mX11_next 219 [some (.ref 31)] [.int (zI μ 31 53), .ref 31] μ K) ∧
        (¬ 6 ≤ ((zI μ 31 51) - (zI μ 31 50)) →
          (vp_in (zI μ 31 51) 200) ∧
          AW E l (d + 2) nc ns mX11_next 219 [some (.ref 31)] [.int (((10 * (zI μ 31 53)) + (zI μ 65 (zI μ 31 51).toNatClampNeg)) - 48), .ref 31] μ K))))) : AW E l (d + 2) nc ns mX11_next 151 [some (.ref 31)] [] μ K := by
  refine aw_aload_n (pc' := 152) (dt_X11_next 76 (151, .aload_n 0, 1) rfl) rfl rfl (aw_getI (pc' := 155) (dt_X11_next 77 (152, .getfield 246, 3) rfl) fl_ReturnDeskModel_246 rfl rfl (sk_31 hS) (aw_aload_n (pc' := 156) (dt_X11_next 78 (155, .aload_n 0, 1) rfl) rfl rfl (aw_getI (pc' := 159) (dt_X11_next 79 (156, .getfield 239, 3) rfl) fl_ReturnDeskModel_239 rfl rfl (sk_31 hS) (aw_icmp_ge (pc' := 162) (tgt := 235) (dt_X11_next 80 (159, .if_icmp .ge 76, 3) rfl) (by decide) rfl ?_ ?_))))
  · intro q1
    have h := h.1 q1
    exact h
  · intro q1
    have h := h.2 q1
    obtain ⟨g2, h⟩ := h
    refine aw_aload_n (pc' := 163) (dt_X11_next 81 (162, .aload_n 0, 1) rfl) rfl rfl (aw_getAs (pc' := 166) (dt_X11_next 82 (163, .getfield 110, 3) rfl) fl_ReturnDeskModel_110 rfl rfl (sk_31 hS) (sa_31_40 hS) (aw_aload_n (pc' := 167) (dt_X11_next 83 (166, .aload_n 0, 1) rfl) rfl rfl (aw_getI (pc' := 170) (dt_X11_next 84 (167, .getfield 246, 3) rfl) fl_ReturnDeskModel_246 rfl rfl (sk_31 hS) (aw_bald (pc' := 171) (dt_X11_next 85 (170, .baload, 1) rfl) rfl (sk_65 hS) (vin_eq (sl_65 hS) g2) (aw_inS (pc' := 174) (nc1 := 0) (ns1 := 0) (nc := nc) (ns := ns) (ls' := [some (.int (zI μ 65 (zI μ 31 51).toNatClampNeg))]) (y2 := mX11_isDigit) (As := [.int (zI μ 65 (zI μ 31 51).toNatClampNeg)]) (rest := []) (dt_X11_next 86 (171, .invokestatic 258, 3) rfl) ok_X11_isDigit ln_ReturnDeskModel_258 sm_X11_isDigit pr_X11_isDigit rfl (Nat.le_of_ble_eq_true rfl) (Nat.le_of_ble_eq_true rfl) rfl rfl (aw_iload_n (pc' := 1) (dt_X11_isDigit 0 (0, .iload_n 0, 1) rfl) rfl rfl (aw_bipush (pc' := 3) (v := 48) (dt_X11_isDigit 1 (1, .bipush 48, 2) rfl) (by decide) rfl (aw_bipush (pc' := 5) (v := 57) (dt_X11_isDigit 2 (3, .bipush 57, 2) rfl) (by decide) rfl (aw_inS (pc' := 8) (nc1 := 0) (ns1 := 0) (nc := 0) (ns := 0) (ls' := [some (.int (zI μ 65 (zI μ 31 51).toNatClampNeg)), some (.int 48), some (.int 57)]) (y2 := mX11_in) (As := [.int (zI μ 65 (zI μ 31 51).toNatClampNeg), .int 48, .int 57]) (rest := []) (dt_X11_isDigit 3 (5, .invokestatic 185, 3) rfl) ok_X11_in ln_ReturnDeskModel_185 sm_X11_in pr_X11_in rfl (Nat.le_of_ble_eq_true rfl) (Nat.le_of_ble_eq_true rfl) rfl rfl (aw_iload_n (pc' := 1) (dt_X11_in 0 (0, .iload_n 0, 1) rfl) rfl rfl (aw_iload_n (pc' := 2) (dt_X11_in 1 (1, .iload_n 1, 1) rfl) rfl rfl (aw_icmp_lt (pc' := 5) (tgt := 14) (dt_X11_in 2 (2, .if_icmp .lt 12, 3) rfl) (by decide) rfl ?_ ?_))))))))))))
    · intro q3
      have h := h.1 q3
      refine aw_iconst (pc' := 15) (v := 0) (dt_X11_in 8 (14, .iconst 0, 1) rfl) (by decide) rfl (aw_iret (dt_X11_in 9 (15, .ireturn, 1) rfl) rfl rfl (aw_stk (st' := [.int 0]) rfl (aw_iret (dt_X11_isDigit 4 (8, .ireturn, 1) rfl) rfl rfl (aw_stk (st' := [.int 0]) rfl (aw_if_eq_T (pc' := 177) (tgt := 235) (dt_X11_next 87 (174, .ifCond .eq 61, 3) rfl) (by decide) rfl (by decide) ?_)))))
      exact h
    · intro q3
      have h := h.2 q3
      refine aw_iload_n (pc' := 6) (dt_X11_in 3 (5, .iload_n 0, 1) rfl) rfl rfl (aw_iload_n (pc' := 7) (dt_X11_in 4 (6, .iload_n 2, 1) rfl) rfl rfl (aw_icmp_gt (pc' := 10) (tgt := 14) (dt_X11_in 5 (7, .if_icmp .gt 7, 3) rfl) (by decide) rfl ?_ ?_))
      · intro q4
        have h := h.1 q4
        refine aw_iconst (pc' := 15) (v := 0) (dt_X11_in 8 (14, .iconst 0, 1) rfl) (by decide) rfl (aw_iret (dt_X11_in 9 (15, .ireturn, 1) rfl) rfl rfl (aw_stk (st' := [.int 0]) rfl (aw_iret (dt_X11_isDigit 4 (8, .ireturn, 1) rfl) rfl rfl (aw_stk (st' := [.int 0]) rfl (aw_if_eq_T (pc' := 177) (tgt := 235) (dt_X11_next 87 (174, .ifCond .eq 61, 3) rfl) (by decide) rfl (by decide) ?_)))))
        exact h
      · intro q4
        have h := h.2 q4
        refine aw_iconst (pc' := 11) (v := 1) (dt_X11_in 6 (10, .iconst 1, 1) rfl) (by decide) rfl (aw_goto (tgt := 15) (dt_X11_in 7 (11, .goto 4, 3) rfl) (by decide) (aw_iret (dt_X11_in 9 (15, .ireturn, 1) rfl) rfl rfl (aw_stk (st' := [.int 1]) rfl (aw_iret (dt_X11_isDigit 4 (8, .ireturn, 1) rfl) rfl rfl (aw_stk (st' := [.int 1]) rfl (aw_if_eq_F (pc' := 177) (tgt := 235) (dt_X11_next 87 (174, .ifCond .eq 61, 3) rfl) (by decide) rfl (by decide) (aw_aload_n (pc' := 178) (dt_X11_next 88 (177, .aload_n 0, 1) rfl) rfl rfl (aw_aload_n (pc' := 179) (dt_X11_next 89 (178, .aload_n 0, 1) rfl) rfl rfl (aw_getI (pc' := 182) (dt_X11_next 90 (179, .getfield 246, 3) rfl) fl_ReturnDeskModel_246 rfl rfl (sk_31 hS) (aw_aload_n (pc' := 183) (dt_X11_next 91 (182, .aload_n 0, 1) rfl) rfl rfl (aw_getI (pc' := 186) (dt_X11_next 92 (183, .getfield 249, 3) rfl) fl_ReturnDeskModel_249 rfl rfl (sk_31 hS) (aw_isub (pc' := 187) (dt_X11_next 93 (186, .isub, 1) rfl) rfl (aw_bipush (pc' := 189) (v := 6) (dt_X11_next 94 (187, .bipush 6, 2) rfl) (by decide) rfl (aw_icmp_ge (pc' := 192) (tgt := 215) (dt_X11_next 95 (189, .if_icmp .ge 26, 3) rfl) (by decide) rfl ?_ ?_))))))))))))))
        · intro q5
          have h := h.1 q5
          refine aw_aload_n (pc' := 216) (dt_X11_next 109 (215, .aload_n 0, 1) rfl) rfl rfl (aw_getI (pc' := 219) (dt_X11_next 110 (216, .getfield 261, 3) rfl) fl_ReturnDeskModel_261 rfl rfl (sk_31 hS) ?_)
          exact h
        · intro q5
          have h := h.2 q5
          obtain ⟨g6, h⟩ := h
          refine aw_bipush (pc' := 194) (v := 10) (dt_X11_next 96 (192, .bipush 10, 2) rfl) (by decide) rfl (aw_aload_n (pc' := 195) (dt_X11_next 97 (194, .aload_n 0, 1) rfl) rfl rfl (aw_getI (pc' := 198) (dt_X11_next 98 (195, .getfield 261, 3) rfl) fl_ReturnDeskModel_261 rfl rfl (sk_31 hS) (aw_imul (pc' := 199) (dt_X11_next 99 (198, .imul, 1) rfl) rfl (aw_aload_n (pc' := 200) (dt_X11_next 100 (199, .aload_n 0, 1) rfl) rfl rfl (aw_getAs (pc' := 203) (dt_X11_next 101 (200, .getfield 110, 3) rfl) fl_ReturnDeskModel_110 rfl rfl (sk_31 hS) (sa_31_40 hS) (aw_aload_n (pc' := 204) (dt_X11_next 102 (203, .aload_n 0, 1) rfl) rfl rfl (aw_getI (pc' := 207) (dt_X11_next 103 (204, .getfield 246, 3) rfl) fl_ReturnDeskModel_246 rfl rfl (sk_31 hS) (aw_bald (pc' := 208) (dt_X11_next 104 (207, .baload, 1) rfl) rfl (sk_65 hS) (vin_eq (sl_65 hS) g6) (aw_iadd (pc' := 209) (dt_X11_next 105 (208, .iadd, 1) rfl) rfl (aw_bipush (pc' := 211) (v := 48) (dt_X11_next 106 (209, .bipush 48, 2) rfl) (by decide) rfl (aw_isub (pc' := 212) (dt_X11_next 107 (211, .isub, 1) rfl) rfl (aw_goto (tgt := 219) (dt_X11_next 108 (212, .goto 7, 3) rfl) (by decide) ?_))))))))))))
          exact h

theorem t_X11_next_86 {E : ZE} {l : Launch} {d nc ns : Nat}  {μ : ZM} {K : Option Value → ZM → Prop} (hS : Stat μ) (h :
  ((zI μ 31 41) ≤ (zI μ 31 51) →
    K none (sI μ 31 52 1)) ∧
  (¬ (zI μ 31 41) ≤ (zI μ 31 51) →
    (vp_in (zI μ 31 51) 200) ∧
    ((zI μ 65 (zI μ 31 51).toNatClampNeg) < 97 →
      K none (sI μ 31 52 1)) ∧
    (¬ (zI μ 65 (zI μ 31 51).toNatClampNeg) < 97 →
      (122 < (zI μ 65 (zI μ 31 51).toNatClampNeg) →
        K none (sI μ 31 52 1)) ∧
      (¬ 122 < (zI μ 65 (zI μ 31 51).toNatClampNeg) →
        AW E l (d + 2) nc ns mX11_next 86 [some (.ref 31)] [] (sI μ 31 51 ((zI μ 31 51) + 1)) K)))) : AW E l (d + 2) nc ns mX11_next 86 [some (.ref 31)] [] μ K := by
  refine aw_aload_n (pc' := 87) (dt_X11_next 43 (86, .aload_n 0, 1) rfl) rfl rfl (aw_getI (pc' := 90) (dt_X11_next 44 (87, .getfield 246, 3) rfl) fl_ReturnDeskModel_246 rfl rfl (sk_31 hS) (aw_aload_n (pc' := 91) (dt_X11_next 45 (90, .aload_n 0, 1) rfl) rfl rfl (aw_getI (pc' := 94) (dt_X11_next 46 (91, .getfield 239, 3) rfl) fl_ReturnDeskModel_239 rfl rfl (sk_31 hS) (aw_icmp_ge (pc' := 97) (tgt := 125) (dt_X11_next 47 (94, .if_icmp .ge 31, 3) rfl) (by decide) rfl ?_ ?_))))
  · intro q1
    have h := h.1 q1
    refine aw_aload_n (pc' := 126) (dt_X11_next 62 (125, .aload_n 0, 1) rfl) rfl rfl (aw_iconst (pc' := 127) (v := 1) (dt_X11_next 63 (126, .iconst 1, 1) rfl) (by decide) rfl (aw_putI (pc' := 130) (dt_X11_next 64 (127, .putfield 252, 3) rfl) fl_ReturnDeskModel_252 rfl (by decide +kernel) rfl (sk_31 hS) (aw_ret (dt_X11_next 65 (130, .return_, 1) rfl) rfl ?_)))
    exact h
  · intro q1
    have h := h.2 q1
    obtain ⟨g2, h⟩ := h
    refine aw_aload_n (pc' := 98) (dt_X11_next 48 (97, .aload_n 0, 1) rfl) rfl rfl (aw_getAs (pc' := 101) (dt_X11_next 49 (98, .getfield 110, 3) rfl) fl_ReturnDeskModel_110 rfl rfl (sk_31 hS) (sa_31_40 hS) (aw_aload_n (pc' := 102) (dt_X11_next 50 (101, .aload_n 0, 1) rfl) rfl rfl (aw_getI (pc' := 105) (dt_X11_next 51 (102, .getfield 246, 3) rfl) fl_ReturnDeskModel_246 rfl rfl (sk_31 hS) (aw_bald (pc' := 106) (dt_X11_next 52 (105, .baload, 1) rfl) rfl (sk_65 hS) (vin_eq (sl_65 hS) g2) (aw_inS (pc' := 109) (nc1 := 0) (ns1 := 0) (nc := nc) (ns := ns) (ls' := [some (.int (zI μ 65 (zI μ 31 51).toNatClampNeg))]) (y2 := mX11_isLetter) (As := [.int (zI μ 65 (zI μ 31 51).toNatClampNeg)]) (rest := []) (dt_X11_next 53 (106, .invokestatic 255, 3) rfl) ok_X11_isLetter ln_ReturnDeskModel_255 sm_X11_isLetter pr_X11_isLetter rfl (Nat.le_of_ble_eq_true rfl) (Nat.le_of_ble_eq_true rfl) rfl rfl (aw_iload_n (pc' := 1) (dt_X11_isLetter 0 (0, .iload_n 0, 1) rfl) rfl rfl (aw_bipush (pc' := 3) (v := 97) (dt_X11_isLetter 1 (1, .bipush 97, 2) rfl) (by decide) rfl (aw_bipush (pc' := 5) (v := 122) (dt_X11_isLetter 2 (3, .bipush 122, 2) rfl) (by decide) rfl (aw_inS (pc' := 8) (nc1 := 0) (ns1 := 0) (nc := 0) (ns := 0) (ls' := [some (.int (zI μ 65 (zI μ 31 51).toNatClampNeg)), some (.int 97), some (.int 122)]) (y2 := mX11_in) (As := [.int (zI μ 65 (zI μ 31 51).toNatClampNeg), .int 97, .int 122]) (rest := []) (dt_X11_isLetter 3 (5, .invokestatic 185, 3) rfl) ok_X11_in ln_ReturnDeskModel_185 sm_X11_in pr_X11_in rfl (Nat.le_of_ble_eq_true rfl) (Nat.le_of_ble_eq_true rfl) rfl rfl (aw_iload_n (pc' := 1) (dt_X11_in 0 (0, .iload_n 0, 1) rfl) rfl rfl (aw_iload_n (pc' := 2) (dt_X11_in 1 (1, .iload_n 1, 1) rfl) rfl rfl (aw_icmp_lt (pc' := 5) (tgt := 14) (dt_X11_in 2 (2, .if_icmp .lt 12, 3) rfl) (by decide) rfl ?_ ?_))))))))))))
    · intro q3
      have h := h.1 q3
      refine aw_iconst (pc' := 15) (v := 0) (dt_X11_in 8 (14, .iconst 0, 1) rfl) (by decide) rfl (aw_iret (dt_X11_in 9 (15, .ireturn, 1) rfl) rfl rfl (aw_stk (st' := [.int 0]) rfl (aw_iret (dt_X11_isLetter 4 (8, .ireturn, 1) rfl) rfl rfl (aw_stk (st' := [.int 0]) rfl (aw_if_eq_T (pc' := 112) (tgt := 125) (dt_X11_next 54 (109, .ifCond .eq 16, 3) rfl) (by decide) rfl (by decide) (aw_aload_n (pc' := 126) (dt_X11_next 62 (125, .aload_n 0, 1) rfl) rfl rfl (aw_iconst (pc' := 127) (v := 1) (dt_X11_next 63 (126, .iconst 1, 1) rfl) (by decide) rfl (aw_putI (pc' := 130) (dt_X11_next 64 (127, .putfield 252, 3) rfl) fl_ReturnDeskModel_252 rfl (by decide +kernel) rfl (sk_31 hS) (aw_ret (dt_X11_next 65 (130, .return_, 1) rfl) rfl ?_)))))))))
      exact h
    · intro q3
      have h := h.2 q3
      refine aw_iload_n (pc' := 6) (dt_X11_in 3 (5, .iload_n 0, 1) rfl) rfl rfl (aw_iload_n (pc' := 7) (dt_X11_in 4 (6, .iload_n 2, 1) rfl) rfl rfl (aw_icmp_gt (pc' := 10) (tgt := 14) (dt_X11_in 5 (7, .if_icmp .gt 7, 3) rfl) (by decide) rfl ?_ ?_))
      · intro q4
        have h := h.1 q4
        refine aw_iconst (pc' := 15) (v := 0) (dt_X11_in 8 (14, .iconst 0, 1) rfl) (by decide) rfl (aw_iret (dt_X11_in 9 (15, .ireturn, 1) rfl) rfl rfl (aw_stk (st' := [.int 0]) rfl (aw_iret (dt_X11_isLetter 4 (8, .ireturn, 1) rfl) rfl rfl (aw_stk (st' := [.int 0]) rfl (aw_if_eq_T (pc' := 112) (tgt := 125) (dt_X11_next 54 (109, .ifCond .eq 16, 3) rfl) (by decide) rfl (by decide) (aw_aload_n (pc' := 126) (dt_X11_next 62 (125, .aload_n 0, 1) rfl) rfl rfl (aw_iconst (pc' := 127) (v := 1) (dt_X11_next 63 (126, .iconst 1, 1) rfl) (by decide) rfl (aw_putI (pc' := 130) (dt_X11_next 64 (127, .putfield 252, 3) rfl) fl_ReturnDeskModel_252 rfl (by decide +kernel) rfl (sk_31 hS) (aw_ret (dt_X11_next 65 (130, .return_, 1) rfl) rfl ?_)))))))))
        exact h
      · intro q4
        have h := h.2 q4
        refine aw_iconst (pc' := 11) (v := 1) (dt_X11_in 6 (10, .iconst 1, 1) rfl) (by decide) rfl (aw_goto (tgt := 15) (dt_X11_in 7 (11, .goto 4, 3) rfl) (by decide) (aw_iret (dt_X11_in 9 (15, .ireturn, 1) rfl) rfl rfl (aw_stk (st' := [.int 1]) rfl (aw_iret (dt_X11_isLetter 4 (8, .ireturn, 1) rfl) rfl rfl (aw_stk (st' := [.int 1]) rfl (aw_if_eq_F (pc' := 112) (tgt := 125) (dt_X11_next 54 (109, .ifCond .eq 16, 3) rfl) (by decide) rfl (by decide) (aw_aload_n (pc' := 113) (dt_X11_next 55 (112, .aload_n 0, 1) rfl) rfl rfl (aw_dup (pc' := 114) (dt_X11_next 56 (113, .dup, 1) rfl) rfl rfl (aw_getI (pc' := 117) (dt_X11_next 57 (114, .getfield 246, 3) rfl) fl_ReturnDeskModel_246 rfl rfl (sk_31 hS) (aw_iconst (pc' := 118) (v := 1) (dt_X11_next 58 (117, .iconst 1, 1) rfl) (by decide) rfl (aw_iadd (pc' := 119) (dt_X11_next 59 (118, .iadd, 1) rfl) rfl (aw_putI (pc' := 122) (dt_X11_next 60 (119, .putfield 246, 3) rfl) fl_ReturnDeskModel_246 rfl (by decide +kernel) rfl (sk_31 hS) (aw_goto (tgt := 86) (dt_X11_next 61 (122, .goto (-36), 3) rfl) (by decide) ?_)))))))))))))
        exact h

theorem t_X11_next_235 {E : ZE} {l : Launch} {d nc ns : Nat}  {μ : ZM} {K : Option Value → ZM → Prop} (hS : Stat μ) (h :
  (((zI μ 31 51) - (zI μ 31 50)) ≤ 5 →
    K none (sI μ 31 52 2)) ∧
  (¬ ((zI μ 31 51) - (zI μ 31 50)) ≤ 5 →
    K none (sI μ 31 52 (-1)))) : AW E l (d + 2) nc ns mX11_next 235 [some (.ref 31)] [] μ K := by
  refine aw_aload_n (pc' := 236) (dt_X11_next 119 (235, .aload_n 0, 1) rfl) rfl rfl (aw_aload_n (pc' := 237) (dt_X11_next 120 (236, .aload_n 0, 1) rfl) rfl rfl (aw_getI (pc' := 240) (dt_X11_next 121 (237, .getfield 246, 3) rfl) fl_ReturnDeskModel_246 rfl rfl (sk_31 hS) (aw_aload_n (pc' := 241) (dt_X11_next 122 (240, .aload_n 0, 1) rfl) rfl rfl (aw_getI (pc' := 244) (dt_X11_next 123 (241, .getfield 249, 3) rfl) fl_ReturnDeskModel_249 rfl rfl (sk_31 hS) (aw_isub (pc' := 245) (dt_X11_next 124 (244, .isub, 1) rfl) rfl (aw_iconst (pc' := 246) (v := 5) (dt_X11_next 125 (245, .iconst 5, 1) rfl) (by decide) rfl (aw_icmp_le (pc' := 249) (tgt := 253) (dt_X11_next 126 (246, .if_icmp .le 7, 3) rfl) (by decide) rfl ?_ ?_)))))))
  · intro q1
    have h := h.1 q1
    refine aw_iconst (pc' := 254) (v := 2) (dt_X11_next 129 (253, .iconst 2, 1) rfl) (by decide) rfl (aw_putI (pc' := 257) (dt_X11_next 130 (254, .putfield 252, 3) rfl) fl_ReturnDeskModel_252 rfl (by decide +kernel) rfl (sk_31 hS) (aw_ret (dt_X11_next 131 (257, .return_, 1) rfl) rfl ?_))
    exact h
  · intro q1
    have h := h.2 q1
    refine aw_iconst (pc' := 250) (v := (-1)) (dt_X11_next 127 (249, .iconst (-1), 1) rfl) (by decide) rfl (aw_goto (tgt := 254) (dt_X11_next 128 (250, .goto 4, 3) rfl) (by decide) (aw_putI (pc' := 257) (dt_X11_next 130 (254, .putfield 252, 3) rfl) fl_ReturnDeskModel_252 rfl (by decide +kernel) rfl (sk_31 hS) (aw_ret (dt_X11_next 131 (257, .return_, 1) rfl) rfl ?_)))
    exact h

theorem t_X11_next_219 {E : ZE} {l : Launch} {d nc ns : Nat} {y0 : Int32} {μ : ZM} {K : Option Value → ZM → Prop} (hS : Stat μ) (h :
  AW E l (d + 2) nc ns mX11_next 151 [some (.ref 31)] [] (sI (sI μ 31 53 y0) 31 51 ((zI (sI μ 31 53 y0) 31 51) + 1)) K) : AW E l (d + 2) nc ns mX11_next 219 [some (.ref 31)] [.int y0, .ref 31] μ K := by
  refine aw_putI (pc' := 222) (dt_X11_next 111 (219, .putfield 261, 3) rfl) fl_ReturnDeskModel_261 rfl (by decide +kernel) rfl (sk_31 hS) (aw_aload_n (pc' := 223) (dt_X11_next 112 (222, .aload_n 0, 1) rfl) rfl rfl (aw_dup (pc' := 224) (dt_X11_next 113 (223, .dup, 1) rfl) rfl rfl (aw_getI (pc' := 227) (dt_X11_next 114 (224, .getfield 246, 3) rfl) fl_ReturnDeskModel_246 rfl rfl (sk_31 hS.wI) (aw_iconst (pc' := 228) (v := 1) (dt_X11_next 115 (227, .iconst 1, 1) rfl) (by decide) rfl (aw_iadd (pc' := 229) (dt_X11_next 116 (228, .iadd, 1) rfl) rfl (aw_putI (pc' := 232) (dt_X11_next 117 (229, .putfield 246, 3) rfl) fl_ReturnDeskModel_246 rfl (by decide +kernel) rfl (sk_31 hS.wI) (aw_goto (tgt := 151) (dt_X11_next 118 (232, .goto (-81), 3) rfl) (by decide) ?_)))))))
  exact h

theorem t_X11_isWord {E : ZE} {l : Launch} {d nc ns : Nat} {x1 : Int64} {μ : ZM} {K : Option Value → ZM → Prop} (hS : Stat μ) (h :
  (¬ (zI μ 31 52) = 1 →
    K (some (.int 0)) μ) ∧
  ((zI μ 31 52) = 1 →
    (((zI μ 31 51) - (zI μ 31 50)) ≤ 12 →
      AW E l d nc ns mX11_isWord 32 [some (.ref 31), some (.long x1), none, some (.long 0), none, some (.int (zI μ 31 50))] [] μ K) ∧
    (¬ ((zI μ 31 51) - (zI μ 31 50)) ≤ 12 →
      K (some (.int 0)) μ))) : AW E l d nc ns mX11_isWord 0 [some (.ref 31), some (.long x1), none, none, none, none] [] μ K := by
  refine aw_aload_n (pc' := 1) (dt_X11_isWord 0 (0, .aload_n 0, 1) rfl) rfl rfl (aw_getI (pc' := 4) (dt_X11_isWord 1 (1, .getfield 252, 3) rfl) fl_ReturnDeskModel_252 rfl rfl (sk_31 hS) (aw_iconst (pc' := 5) (v := 1) (dt_X11_isWord 2 (4, .iconst 1, 1) rfl) (by decide) rfl (aw_icmp_ne (pc' := 8) (tgt := 22) (dt_X11_isWord 3 (5, .if_icmp .ne 17, 3) rfl) (by decide) rfl ?_ ?_)))
  · intro q1
    have h := h.1 q1
    refine aw_iconst (pc' := 23) (v := 0) (dt_X11_isWord 11 (22, .iconst 0, 1) rfl) (by decide) rfl (aw_iret (dt_X11_isWord 12 (23, .ireturn, 1) rfl) rfl rfl ?_)
    exact h
  · intro q1
    have h := h.2 q1
    refine aw_aload_n (pc' := 9) (dt_X11_isWord 4 (8, .aload_n 0, 1) rfl) rfl rfl (aw_getI (pc' := 12) (dt_X11_isWord 5 (9, .getfield 246, 3) rfl) fl_ReturnDeskModel_246 rfl rfl (sk_31 hS) (aw_aload_n (pc' := 13) (dt_X11_isWord 6 (12, .aload_n 0, 1) rfl) rfl rfl (aw_getI (pc' := 16) (dt_X11_isWord 7 (13, .getfield 249, 3) rfl) fl_ReturnDeskModel_249 rfl rfl (sk_31 hS) (aw_isub (pc' := 17) (dt_X11_isWord 8 (16, .isub, 1) rfl) rfl (aw_bipush (pc' := 19) (v := 12) (dt_X11_isWord 9 (17, .bipush 12, 2) rfl) (by decide) rfl (aw_icmp_le (pc' := 22) (tgt := 24) (dt_X11_isWord 10 (19, .if_icmp .le 5, 3) rfl) (by decide) rfl ?_ ?_))))))
    · intro q2
      have h := h.1 q2
      refine aw_lconst (pc' := 25) (v := 0) (dt_X11_isWord 13 (24, .lconst 0, 1) rfl) (by decide) rfl (aw_lstore_n (pc' := 26) (ls' := [some (.ref 31), some (.long x1), none, some (.long 0), none, none]) (dt_X11_isWord 14 (25, .lstore_n 3, 1) rfl) (by decide) rfl rfl (aw_aload_n (pc' := 27) (dt_X11_isWord 15 (26, .aload_n 0, 1) rfl) rfl rfl (aw_getI (pc' := 30) (dt_X11_isWord 16 (27, .getfield 249, 3) rfl) fl_ReturnDeskModel_249 rfl rfl (sk_31 hS) (aw_istore (pc' := 32) (ls' := [some (.ref 31), some (.long x1), none, some (.long 0), none, some (.int (zI μ 31 50))]) (dt_X11_isWord 17 (30, .istore 5, 2) rfl) (by decide) rfl rfl ?_))))
      exact h
    · intro q2
      have h := h.2 q2
      refine aw_iconst (pc' := 23) (v := 0) (dt_X11_isWord 11 (22, .iconst 0, 1) rfl) (by decide) rfl (aw_iret (dt_X11_isWord 12 (23, .ireturn, 1) rfl) rfl rfl ?_)
      exact h

theorem t_X11_isWord_32 {E : ZE} {l : Launch} {d nc ns : Nat} {x1 : Int64} {x3 : Int64} {x5 : Int32} {μ : ZM} {K : Option Value → ZM → Prop} (hS : Stat μ) (h :
  ((zI μ 31 51) ≤ x5 →
    (¬ (lg_cmp x3 x1) = 0 →
      K (some (.int 0)) μ) ∧
    ((lg_cmp x3 x1) = 0 →
      K (some (.int 1)) μ)) ∧
  (¬ (zI μ 31 51) ≤ x5 →
    (vp_in x5 200) ∧
    AW E l d nc ns mX11_isWord 32 [some (.ref 31), some (.long x1), none, some (.long ((((27 : Int64) * x3) + ((zI μ 65 x5.toNatClampNeg)).toInt64) - 96)), none, some (.int (x5 + 1))] [] μ K)) : AW E l d nc ns mX11_isWord 32 [some (.ref 31), some (.long x1), none, some (.long x3), none, some (.int x5)] [] μ K := by
  refine aw_iload (pc' := 34) (dt_X11_isWord 18 (32, .iload 5, 2) rfl) rfl rfl (aw_aload_n (pc' := 35) (dt_X11_isWord 19 (34, .aload_n 0, 1) rfl) rfl rfl (aw_getI (pc' := 38) (dt_X11_isWord 20 (35, .getfield 246, 3) rfl) fl_ReturnDeskModel_246 rfl rfl (sk_31 hS) (aw_icmp_ge (pc' := 41) (tgt := 66) (dt_X11_isWord 21 (38, .if_icmp .ge 28, 3) rfl) (by decide) rfl ?_ ?_)))
  · intro q1
    have h := h.1 q1
    refine aw_lload_n (pc' := 67) (dt_X11_isWord 36 (66, .lload_n 3, 1) rfl) rfl rfl (aw_lload_n (pc' := 68) (dt_X11_isWord 37 (67, .lload_n 1, 1) rfl) rfl rfl (aw_lcmp (pc' := 69) (dt_X11_isWord 38 (68, .lcmp, 1) rfl) rfl (aw_if_ne (pc' := 72) (tgt := 76) (dt_X11_isWord 39 (69, .ifCond .ne 7, 3) rfl) (by decide) rfl ?_ ?_)))
    · intro q2
      have h := h.1 q2
      refine aw_iconst (pc' := 77) (v := 0) (dt_X11_isWord 42 (76, .iconst 0, 1) rfl) (by decide) rfl (aw_iret (dt_X11_isWord 43 (77, .ireturn, 1) rfl) rfl rfl ?_)
      exact h
    · intro q2
      have h := h.2 q2
      refine aw_iconst (pc' := 73) (v := 1) (dt_X11_isWord 40 (72, .iconst 1, 1) rfl) (by decide) rfl (aw_goto (tgt := 77) (dt_X11_isWord 41 (73, .goto 4, 3) rfl) (by decide) (aw_iret (dt_X11_isWord 43 (77, .ireturn, 1) rfl) rfl rfl ?_))
      exact h
  · intro q1
    have h := h.2 q1
    obtain ⟨g3, h⟩ := h
    refine aw_ldc2 (pc' := 44) (dt_X11_isWord 22 (41, .ldc2_w 264, 3) rfl) ct_ReturnDeskModel_264 rfl (aw_lload_n (pc' := 45) (dt_X11_isWord 23 (44, .lload_n 3, 1) rfl) rfl rfl (aw_lmul (pc' := 46) (dt_X11_isWord 24 (45, .lmul, 1) rfl) rfl (aw_aload_n (pc' := 47) (dt_X11_isWord 25 (46, .aload_n 0, 1) rfl) rfl rfl (aw_getAs (pc' := 50) (dt_X11_isWord 26 (47, .getfield 110, 3) rfl) fl_ReturnDeskModel_110 rfl rfl (sk_31 hS) (sa_31_40 hS) (aw_iload (pc' := 52) (dt_X11_isWord 27 (50, .iload 5, 2) rfl) rfl rfl (aw_bald (pc' := 53) (dt_X11_isWord 28 (52, .baload, 1) rfl) rfl (sk_65 hS) (vin_eq (sl_65 hS) g3) (aw_i2l (pc' := 54) (dt_X11_isWord 29 (53, .i2l, 1) rfl) rfl (aw_ladd (pc' := 55) (dt_X11_isWord 30 (54, .ladd, 1) rfl) rfl (aw_ldc2 (pc' := 58) (dt_X11_isWord 31 (55, .ldc2_w 266, 3) rfl) ct_ReturnDeskModel_266 rfl (aw_lsub (pc' := 59) (dt_X11_isWord 32 (58, .lsub, 1) rfl) rfl (aw_lstore_n (pc' := 60) (ls' := [some (.ref 31), some (.long x1), none, some (.long ((((27 : Int64) * x3) + ((zI μ 65 x5.toNatClampNeg)).toInt64) - 96)), none, some (.int x5)]) (dt_X11_isWord 33 (59, .lstore_n 3, 1) rfl) (by decide) rfl rfl (aw_iinc (pc' := 63) (v := 1) (ls' := [some (.ref 31), some (.long x1), none, some (.long ((((27 : Int64) * x3) + ((zI μ 65 x5.toNatClampNeg)).toInt64) - 96)), none, some (.int (x5 + 1))]) (dt_X11_isWord 34 (60, .iinc 5 1, 3) rfl) rfl (by decide) (by decide) rfl rfl (aw_goto (tgt := 32) (dt_X11_isWord 35 (63, .goto (-31), 3) rfl) (by decide) ?_)))))))))))))
    exact h

