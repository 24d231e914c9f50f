theorem t_X10_model {E : ZE} {l : Launch} {d nc ns : Nat} {x1 : Int32} {x2 : Int32} {x3 : Int32} {μ : ZM} {K : Option Value → ZM → Prop} (hS : Stat μ) (h :
  (x1 < 0 →
    K (some (.int (-1))) μ) ∧
  (¬ x1 < 0 →
    (9 < x1 →
      K (some (.int (-1))) μ) ∧
    (¬ 9 < x1 →
      (x2 < 1 →
        K (some (.int (-1))) μ) ∧
      (¬ x2 < 1 →
        (99999 < x2 →
          K (some (.int (-1))) μ) ∧
        (¬ 99999 < x2 →
          (x3 < 0 →
            K (some (.int (-1))) μ) ∧
          (¬ x3 < 0 →
            (9999 < x3 →
              K (some (.int (-1))) μ) ∧
            (¬ 9999 < x3 →
              ((zI μ 11 12) < 20 →
                ∀ μ8, μ8 = (sI (sI (sI (sI (sA (sNew (sA (sNew (sNew μ 4 0) 13 20) (zN μ) 4 (some (zN (sNew μ 4 0)))) 13 20) (zN μ) 5 (some (zN (sA (sNew (sNew μ 4 0) 13 20) (zN μ) 4 (some (zN (sNew μ 4 0))))))) (zN μ) 0 (zI (sNew μ 4 0) 11 12)) (zN μ) 1 x1) (zN μ) 2 x2) (zN μ) 3 x3) →
                (vp_in (zI μ 11 12) 20) ∧
                K (some (.int ((zI (sI (sA μ8 12 (zI μ 11 12).toNatClampNeg (some (zN μ))) 11 12 ((zI (sA μ8 12 (zI μ 11 12).toNatClampNeg (some (zN μ))) 11 12) + 1)) 11 12) - 1))) (sI (sA μ8 12 (zI μ 11 12).toNatClampNeg (some (zN μ))) 11 12 ((zI (sA μ8 12 (zI μ 11 12).toNatClampNeg (some (zN μ))) 11 12) + 1))) ∧
              (¬ (zI μ 11 12) < 20 →
                K (some (.int (-3))) μ)))))))) : AW E l (d + 2) (nc + 3) (ns + 53) mX10_model 0 [some (.ref 11), some (.int x1), some (.int x2), some (.int x3)] [] μ K := by
  refine aw_iload_n (pc' := 1) (dt_X10_model 0 (0, .iload_n 1, 1) rfl) rfl rfl (aw_iconst (pc' := 2) (v := 0) (dt_X10_model 1 (1, .iconst 0, 1) rfl) (by decide) rfl (aw_bipush (pc' := 4) (v := 9) (dt_X10_model 2 (2, .bipush 9, 2) rfl) (by decide) rfl (aw_inS (pc' := 7) (nc1 := 0) (ns1 := 0) (nc := (nc + 3)) (ns := (ns + 53)) (ls' := [some (.int x1), some (.int 0), some (.int 9)]) (y2 := mX10_within) (As := [.int x1, .int 0, .int 9]) (rest := []) (dt_X10_model 3 (4, .invokestatic 76, 3) rfl) ok_X10_within ln_ReturnDesk_76 sm_X10_within pr_X10_within rfl (Nat.le_of_ble_eq_true rfl) (Nat.le_of_ble_eq_true rfl) rfl rfl (aw_iload_n (pc' := 1) (dt_X10_within 0 (0, .iload_n 0, 1) rfl) rfl rfl (aw_iload_n (pc' := 2) (dt_X10_within 1 (1, .iload_n 1, 1) rfl) rfl rfl (aw_icmp_lt (pc' := 5) (tgt := 14) (dt_X10_within 2 (2, .if_icmp .lt 12, 3) rfl) (by decide) rfl ?_ ?_))))))
  · intro q1
    have h := h.1 q1
    refine aw_iconst (pc' := 15) (v := 0) (dt_X10_within 8 (14, .iconst 0, 1) rfl) (by decide) rfl (aw_iret (dt_X10_within 9 (15, .ireturn, 1) rfl) rfl rfl (aw_stk (st' := [.int 0]) rfl (aw_if_eq_T (pc' := 10) (tgt := 31) (dt_X10_model 4 (7, .ifCond .eq 24, 3) rfl) (by decide) rfl (by decide) (aw_iconst (pc' := 32) (v := (-1)) (dt_X10_model 15 (31, .iconst (-1), 1) rfl) (by decide) rfl (aw_iret (dt_X10_model 16 (32, .ireturn, 1) rfl) rfl rfl ?_)))))
    exact h
  · intro q1
    have h := h.2 q1
    refine aw_iload_n (pc' := 6) (dt_X10_within 3 (5, .iload_n 0, 1) rfl) rfl rfl (aw_iload_n (pc' := 7) (dt_X10_within 4 (6, .iload_n 2, 1) rfl) rfl rfl (aw_icmp_gt (pc' := 10) (tgt := 14) (dt_X10_within 5 (7, .if_icmp .gt 7, 3) rfl) (by decide) rfl ?_ ?_))
    · intro q2
      have h := h.1 q2
      refine aw_iconst (pc' := 15) (v := 0) (dt_X10_within 8 (14, .iconst 0, 1) rfl) (by decide) rfl (aw_iret (dt_X10_within 9 (15, .ireturn, 1) rfl) rfl rfl (aw_stk (st' := [.int 0]) rfl (aw_if_eq_T (pc' := 10) (tgt := 31) (dt_X10_model 4 (7, .ifCond .eq 24, 3) rfl) (by decide) rfl (by decide) (aw_iconst (pc' := 32) (v := (-1)) (dt_X10_model 15 (31, .iconst (-1), 1) rfl) (by decide) rfl (aw_iret (dt_X10_model 16 (32, .ireturn, 1) rfl) rfl rfl ?_)))))
      exact h
    · intro q2
      have h := h.2 q2
      refine aw_iconst (pc' := 11) (v := 1) (dt_X10_within 6 (10, .iconst 1, 1) rfl) (by decide) rfl (aw_goto (tgt := 15) (dt_X10_within 7 (11, .goto 4, 3) rfl) (by decide) (aw_iret (dt_X10_within 9 (15, .ireturn, 1) rfl) rfl rfl (aw_stk (st' := [.int 1]) rfl (aw_if_eq_F (pc' := 10) (tgt := 31) (dt_X10_model 4 (7, .ifCond .eq 24, 3) rfl) (by decide) rfl (by decide) (aw_iload_n (pc' := 11) (dt_X10_model 5 (10, .iload_n 2, 1) rfl) rfl rfl (aw_iconst (pc' := 12) (v := 1) (dt_X10_model 6 (11, .iconst 1, 1) rfl) (by decide) rfl (aw_ldc (pc' := 14) (dt_X10_model 7 (12, .ldc 80, 2) rfl) ct_ReturnDesk_80 rfl (aw_inS (pc' := 17) (nc1 := 0) (ns1 := 0) (nc := (nc + 3)) (ns := (ns + 53)) (ls' := [some (.int x2), some (.int 1), some (.int 99999)]) (y2 := mX10_within) (As := [.int x2, .int 1, .int 99999]) (rest := []) (dt_X10_model 8 (14, .invokestatic 76, 3) rfl) ok_X10_within ln_ReturnDesk_76 sm_X10_within pr_X10_within rfl (Nat.le_of_ble_eq_true rfl) (Nat.le_of_ble_eq_true rfl) rfl rfl (aw_iload_n (pc' := 1) (dt_X10_within 0 (0, .iload_n 0, 1) rfl) rfl rfl (aw_iload_n (pc' := 2) (dt_X10_within 1 (1, .iload_n 1, 1) rfl) rfl rfl (aw_icmp_lt (pc' := 5) (tgt := 14) (dt_X10_within 2 (2, .if_icmp .lt 12, 3) rfl) (by decide) rfl ?_ ?_)))))))))))
      · intro q3
        have h := h.1 q3
        refine aw_iconst (pc' := 15) (v := 0) (dt_X10_within 8 (14, .iconst 0, 1) rfl) (by decide) rfl (aw_iret (dt_X10_within 9 (15, .ireturn, 1) rfl) rfl rfl (aw_stk (st' := [.int 0]) rfl (aw_if_eq_T (pc' := 20) (tgt := 31) (dt_X10_model 9 (17, .ifCond .eq 14, 3) rfl) (by decide) rfl (by decide) (aw_iconst (pc' := 32) (v := (-1)) (dt_X10_model 15 (31, .iconst (-1), 1) rfl) (by decide) rfl (aw_iret (dt_X10_model 16 (32, .ireturn, 1) rfl) rfl rfl ?_)))))
        exact h
      · intro q3
        have h := h.2 q3
        refine aw_iload_n (pc' := 6) (dt_X10_within 3 (5, .iload_n 0, 1) rfl) rfl rfl (aw_iload_n (pc' := 7) (dt_X10_within 4 (6, .iload_n 2, 1) rfl) rfl rfl (aw_icmp_gt (pc' := 10) (tgt := 14) (dt_X10_within 5 (7, .if_icmp .gt 7, 3) rfl) (by decide) rfl ?_ ?_))
        · intro q4
          have h := h.1 q4
          refine aw_iconst (pc' := 15) (v := 0) (dt_X10_within 8 (14, .iconst 0, 1) rfl) (by decide) rfl (aw_iret (dt_X10_within 9 (15, .ireturn, 1) rfl) rfl rfl (aw_stk (st' := [.int 0]) rfl (aw_if_eq_T (pc' := 20) (tgt := 31) (dt_X10_model 9 (17, .ifCond .eq 14, 3) rfl) (by decide) rfl (by decide) (aw_iconst (pc' := 32) (v := (-1)) (dt_X10_model 15 (31, .iconst (-1), 1) rfl) (by decide) rfl (aw_iret (dt_X10_model 16 (32, .ireturn, 1) rfl) rfl rfl ?_)))))
          exact h
        · intro q4
          have h := h.2 q4
          refine aw_iconst (pc' := 11) (v := 1) (dt_X10_within 6 (10, .iconst 1, 1) rfl) (by decide) rfl (aw_goto (tgt := 15) (dt_X10_within 7 (11, .goto 4, 3) rfl) (by decide) (aw_iret (dt_X10_within 9 (15, .ireturn, 1) rfl) rfl rfl (aw_stk (st' := [.int 1]) rfl (aw_if_eq_F (pc' := 20) (tgt := 31) (dt_X10_model 9 (17, .ifCond .eq 14, 3) rfl) (by decide) rfl (by decide) (aw_iload_n (pc' := 21) (dt_X10_model 10 (20, .iload_n 3, 1) rfl) rfl rfl (aw_iconst (pc' := 22) (v := 0) (dt_X10_model 11 (21, .iconst 0, 1) rfl) (by decide) rfl (aw_sipush (pc' := 25) (v := 9999) (dt_X10_model 12 (22, .sipush 9999, 3) rfl) (by decide) rfl (aw_inS (pc' := 28) (nc1 := 0) (ns1 := 0) (nc := (nc + 3)) (ns := (ns + 53)) (ls' := [some (.int x3), some (.int 0), some (.int 9999)]) (y2 := mX10_within) (As := [.int x3, .int 0, .int 9999]) (rest := []) (dt_X10_model 13 (25, .invokestatic 76, 3) rfl) ok_X10_within ln_ReturnDesk_76 sm_X10_within pr_X10_within rfl (Nat.le_of_ble_eq_true rfl) (Nat.le_of_ble_eq_true rfl) rfl rfl (aw_iload_n (pc' := 1) (dt_X10_within 0 (0, .iload_n 0, 1) rfl) rfl rfl (aw_iload_n (pc' := 2) (dt_X10_within 1 (1, .iload_n 1, 1) rfl) rfl rfl (aw_icmp_lt (pc' := 5) (tgt := 14) (dt_X10_within 2 (2, .if_icmp .lt 12, 3) rfl) (by decide) rfl ?_ ?_)))))))))))
          · intro q5
            have h := h.1 q5
            refine aw_iconst (pc' := 15) (v := 0) (dt_X10_within 8 (14, .iconst 0, 1) rfl) (by decide) rfl (aw_iret (dt_X10_within 9 (15, .ireturn, 1) rfl) rfl rfl (aw_stk (st' := [.int 0]) rfl (aw_if_ne_F (pc' := 31) (tgt := 33) (dt_X10_model 14 (28, .ifCond .ne 5, 3) rfl) (by decide) rfl (by decide) (aw_iconst (pc' := 32) (v := (-1)) (dt_X10_model 15 (31, .iconst (-1), 1) rfl) (by decide) rfl (aw_iret (dt_X10_model 16 (32, .ireturn, 1) rfl) rfl rfl ?_)))))
            exact h
          · intro q5
            have h := h.2 q5
            refine aw_iload_n (pc' := 6) (dt_X10_within 3 (5, .iload_n 0, 1) rfl) rfl rfl (aw_iload_n (pc' := 7) (dt_X10_within 4 (6, .iload_n 2, 1) rfl) rfl rfl (aw_icmp_gt (pc' := 10) (tgt := 14) (dt_X10_within 5 (7, .if_icmp .gt 7, 3) rfl) (by decide) rfl ?_ ?_))
            · intro q6
              have h := h.1 q6
              refine aw_iconst (pc' := 15) (v := 0) (dt_X10_within 8 (14, .iconst 0, 1) rfl) (by decide) rfl (aw_iret (dt_X10_within 9 (15, .ireturn, 1) rfl) rfl rfl (aw_stk (st' := [.int 0]) rfl (aw_if_ne_F (pc' := 31) (tgt := 33) (dt_X10_model 14 (28, .ifCond .ne 5, 3) rfl) (by decide) rfl (by decide) (aw_iconst (pc' := 32) (v := (-1)) (dt_X10_model 15 (31, .iconst (-1), 1) rfl) (by decide) rfl (aw_iret (dt_X10_model 16 (32, .ireturn, 1) rfl) rfl rfl ?_)))))
              exact h
            · intro q6
              have h := h.2 q6
              refine aw_iconst (pc' := 11) (v := 1) (dt_X10_within 6 (10, .iconst 1, 1) rfl) (by decide) rfl (aw_goto (tgt := 15) (dt_X10_within 7 (11, .goto 4, 3) rfl) (by decide) (aw_iret (dt_X10_within 9 (15, .ireturn, 1) rfl) rfl rfl (aw_stk (st' := [.int 1]) rfl (aw_if_ne_T (pc' := 31) (tgt := 33) (dt_X10_model 14 (28, .ifCond .ne 5, 3) rfl) (by decide) rfl (by decide) (aw_aload_n (pc' := 34) (dt_X10_model 17 (33, .aload_n 0, 1) rfl) rfl rfl (aw_getI (pc' := 37) (dt_X10_model 18 (34, .getfield 81, 3) rfl) fl_ReturnDesk_81 rfl rfl (sk_11 hS) (aw_aload_n (pc' := 38) (dt_X10_model 19 (37, .aload_n 0, 1) rfl) rfl rfl (aw_getAs (pc' := 41) (dt_X10_model 20 (38, .getfield 11, 3) rfl) fl_ReturnDesk_11 rfl rfl (sk_11 hS) (sa_11_0 hS) (aw_alens (pc' := 42) (n := 20) (v := 20) (dt_X10_model 21 (41, .arraylength, 1) rfl) (by decide) (by decide) rfl (sk_12 hS) (sl_12 hS) (by decide) (aw_icmp_lt (pc' := 45) (tgt := 48) (dt_X10_model 22 (42, .if_icmp .lt 6, 3) rfl) (by decide) rfl ?_ ?_))))))))))
              · intro q7
                have h := h.1 q7
                refine aw_aload_n (pc' := 49) (dt_X10_model 25 (48, .aload_n 0, 1) rfl) rfl rfl (aw_getAs (pc' := 52) (dt_X10_model 26 (49, .getfield 11, 3) rfl) fl_ReturnDesk_11 rfl rfl (sk_11 hS) (sa_11_0 hS) (aw_aload_n (pc' := 53) (dt_X10_model 27 (52, .aload_n 0, 1) rfl) rfl rfl (aw_getI (pc' := 56) (dt_X10_model 28 (53, .getfield 81, 3) rfl) fl_ReturnDesk_81 rfl rfl (sk_11 hS) (aw_new (pc' := 59) (ci := 4) (n := 13) (dt_X10_model 29 (56, .new 9, 3) rfl) (by decide) rfl cn_ReturnDesk_9 ci_4 cj_4 rfl (aw_dup (pc' := 60) (dt_X10_model 30 (59, .dup, 1) rfl) rfl rfl (aw_aload_n (pc' := 61) (dt_X10_model 31 (60, .aload_n 0, 1) rfl) rfl rfl (aw_getI (pc' := 64) (dt_X10_model 32 (61, .getfield 81, 3) rfl) fl_ReturnDesk_81 rfl rfl (sk_11 hS.wNew) (aw_iload_n (pc' := 65) (dt_X10_model 33 (64, .iload_n 1, 1) rfl) rfl rfl (aw_iload_n (pc' := 66) (dt_X10_model 34 (65, .iload_n 2, 1) rfl) rfl rfl (aw_iload_n (pc' := 67) (dt_X10_model 35 (66, .iload_n 3, 1) rfl) rfl rfl (aw_inI (pc' := 70) (nc1 := 2) (ns1 := 40) (nc := nc) (ns := ns) (ls' := [some (.ref (zN μ)), some (.int (zI (sNew μ 4 0) 11 12)), some (.int x1), some (.int x2), some (.int x3)]) (y2 := mX4_init) (As := [.int (zI (sNew μ 4 0) 11 12), .int x1, .int x2, .int x3]) (rest := [.ref (zN μ), .int (zI μ 11 12), .ref 12]) (a := (zN μ)) (dt_X10_model 36 (67, .invokespecial 85, 3) rfl) ok_X4_init rfl rfl ln_ReturnDesk_85 im_X4_init pr_X4_init rfl (Nat.le_of_ble_eq_true rfl) (Nat.le_of_ble_eq_true rfl) rfl rfl (aw_aload_n (pc' := 1) (dt_X4_init 0 (0, .aload_n 0, 1) rfl) rfl rfl (aw_objInit (pc' := 4) (dt_X4_init 1 (1, .invokespecial 3, 3) rfl) oi_Model_3 (Nat.le_of_ble_eq_true rfl) rfl (aw_aload_n (pc' := 5) (dt_X4_init 2 (4, .aload_n 0, 1) rfl) rfl rfl (aw_bipush (pc' := 7) (v := 20) (dt_X4_init 3 (5, .bipush 20, 2) rfl) (by decide) rfl (aw_newa (pc' := 9) (k := 13) (N := 20) (dt_X4_init 4 (7, .newarray .int, 2) rfl) (by decide) (by decide) rfl na_int rfl (by decide) (by decide) (by decide) (aw_putA (pc' := 12) (dt_X4_init 5 (9, .putfield 9, 3) rfl) fl_Model_9 rfl (by decide +kernel) rfl (zK_keep (k := 13) (n := 20) hS.wNew (zK_new μ 4 0) (by decide)) (aw_aload_n (pc' := 13) (dt_X4_init 6 (12, .aload_n 0, 1) rfl) rfl rfl (aw_bipush (pc' := 15) (v := 20) (dt_X4_init 7 (13, .bipush 20, 2) rfl) (by decide) rfl (aw_newa (pc' := 17) (k := 13) (N := 20) (dt_X4_init 8 (15, .newarray .int, 2) rfl) (by decide) (by decide) rfl na_int rfl (by decide) (by decide) (by decide) (aw_putA (pc' := 20) (dt_X4_init 9 (17, .putfield 15, 3) rfl) fl_Model_15 rfl (by decide +kernel) rfl (zK_keep (k := 13) (n := 20) (hS.wNew.wNew.wAd (zK_keep (k := 13) (n := 20) hS.wNew (zK_new μ 4 0) (by decide)) (by decide)) (zK_keep (k := 13) (n := 20) hS.wNew (zK_new μ 4 0) (by decide)) (by decide)) (aw_aload_n (pc' := 21) (dt_X4_init 10 (20, .aload_n 0, 1) rfl) rfl rfl (aw_iload_n (pc' := 22) (dt_X4_init 11 (21, .iload_n 1, 1) rfl) rfl rfl (aw_putI (pc' := 25) (dt_X4_init 12 (22, .putfield 18, 3) rfl) fl_Model_18 rfl (by decide +kernel) rfl (zK_keep (k := 13) (n := 20) (hS.wNew.wNew.wAd (zK_keep (k := 13) (n := 20) hS.wNew (zK_new μ 4 0) (by decide)) (by decide)) (zK_keep (k := 13) (n := 20) hS.wNew (zK_new μ 4 0) (by decide)) (by decide)) (aw_aload_n (pc' := 26) (dt_X4_init 13 (25, .aload_n 0, 1) rfl) rfl rfl (aw_iload_n (pc' := 27) (dt_X4_init 14 (26, .iload_n 2, 1) rfl) rfl rfl (aw_putI (pc' := 30) (dt_X4_init 15 (27, .putfield 22, 3) rfl) fl_Model_22 rfl (by decide +kernel) rfl (zK_keep (k := 13) (n := 20) (hS.wNew.wNew.wAd (zK_keep (k := 13) (n := 20) hS.wNew (zK_new μ 4 0) (by decide)) (by decide)) (zK_keep (k := 13) (n := 20) hS.wNew (zK_new μ 4 0) (by decide)) (by decide)) (aw_aload_n (pc' := 31) (dt_X4_init 16 (30, .aload_n 0, 1) rfl) rfl rfl (aw_iload_n (pc' := 32) (dt_X4_init 17 (31, .iload_n 3, 1) rfl) rfl rfl (aw_putI (pc' := 35) (dt_X4_init 18 (32, .putfield 25, 3) rfl) fl_Model_25 rfl (by decide +kernel) rfl (zK_keep (k := 13) (n := 20) (hS.wNew.wNew.wAd (zK_keep (k := 13) (n := 20) hS.wNew (zK_new μ 4 0) (by decide)) (by decide)) (zK_keep (k := 13) (n := 20) hS.wNew (zK_new μ 4 0) (by decide)) (by decide)) (aw_aload_n (pc' := 36) (dt_X4_init 19 (35, .aload_n 0, 1) rfl) rfl rfl (aw_iload (pc' := 38) (dt_X4_init 20 (36, .iload 4, 2) rfl) rfl rfl (aw_putI (pc' := 41) (dt_X4_init 21 (38, .putfield 28, 3) rfl) fl_Model_28 rfl (by decide +kernel) rfl (zK_keep (k := 13) (n := 20) (hS.wNew.wNew.wAd (zK_keep (k := 13) (n := 20) hS.wNew (zK_new μ 4 0) (by decide)) (by decide)) (zK_keep (k := 13) (n := 20) hS.wNew (zK_new μ 4 0) (by decide)) (by decide)) ?_)))))))))))))))))))))))))))))))))
                refine aw_mem (fun μ8 eμ9 => ?_)
                have h := h μ8 eμ9
                have hS10 : Stat μ8 := by rw [eμ9]; exact ((hS.wNew.wNew.wAd (zK_keep (k := 13) (n := 20) hS.wNew (zK_new μ 4 0) (by decide)) (by decide)).wNew.wAd (zK_keep (k := 13) (n := 20) (hS.wNew.wNew.wAd (zK_keep (k := 13) (n := 20) hS.wNew (zK_new μ 4 0) (by decide)) (by decide)) (zK_keep (k := 13) (n := 20) hS.wNew (zK_new μ 4 0) (by decide)) (by decide)) (by decide)).wI.wI.wI.wI
                have k11 : zK μ8 (zN μ) = 4 := by rw [eμ9]; exact (zK_keep (k := 13) (n := 20) (hS.wNew.wNew.wAd (zK_keep (k := 13) (n := 20) hS.wNew (zK_new μ 4 0) (by decide)) (by decide)) (zK_keep (k := 13) (n := 20) hS.wNew (zK_new μ 4 0) (by decide)) (by decide))
                have k12 : zK μ8 (zN (sNew μ 4 0)) = 13 := by rw [eμ9]; exact (zK_keep (k := 13) (n := 20) (hS.wNew.wNew.wAd (zK_keep (k := 13) (n := 20) hS.wNew (zK_new μ 4 0) (by decide)) (by decide)) (zK_new (sNew μ 4 0) 13 20) (by decide))
                have k13 : zK μ8 (zN (sA (sNew (sNew μ 4 0) 13 20) (zN μ) 4 (some (zN (sNew μ 4 0))))) = 13 := by rw [eμ9]; exact (zK_new (sA (sNew (sNew μ 4 0) 13 20) (zN μ) 4 (some (zN (sNew μ 4 0)))) 13 20)
                obtain ⟨g14, h⟩ := h
                refine aw_ret (dt_X4_init 22 (41, .return_, 1) rfl) rfl (aw_stk (st' := [.ref (zN μ), .int (zI μ 11 12), .ref 12]) rfl (aw_aast (pc' := 71) (ci := 4) (dt_X10_model 37 (70, .aastore, 1) rfl) (by decide) (by decide) (by decide) rfl rfl (sk_12 hS10) (by decide) k11 (vin_eq (sl_12 hS10) g14) (aw_aload_n (pc' := 72) (dt_X10_model 38 (71, .aload_n 0, 1) rfl) rfl rfl (aw_dup (pc' := 73) (dt_X10_model 39 (72, .dup, 1) rfl) rfl rfl (aw_getI (pc' := 76) (dt_X10_model 40 (73, .getfield 81, 3) rfl) fl_ReturnDesk_81 rfl rfl (sk_11 (hS10.wAr (by decide))) (aw_iconst (pc' := 77) (v := 1) (dt_X10_model 41 (76, .iconst 1, 1) rfl) (by decide) rfl (aw_iadd (pc' := 78) (dt_X10_model 42 (77, .iadd, 1) rfl) rfl (aw_putI (pc' := 81) (dt_X10_model 43 (78, .putfield 81, 3) rfl) fl_ReturnDesk_81 rfl (by decide +kernel) rfl (sk_11 (hS10.wAr (by decide))) (aw_aload_n (pc' := 82) (dt_X10_model 44 (81, .aload_n 0, 1) rfl) rfl rfl (aw_getI (pc' := 85) (dt_X10_model 45 (82, .getfield 81, 3) rfl) fl_ReturnDesk_81 rfl rfl (sk_11 (hS10.wAr (by decide)).wI) (aw_iconst (pc' := 86) (v := 1) (dt_X10_model 46 (85, .iconst 1, 1) rfl) (by decide) rfl (aw_isub (pc' := 87) (dt_X10_model 47 (86, .isub, 1) rfl) rfl (aw_iret (dt_X10_model 48 (87, .ireturn, 1) rfl) rfl rfl ?_)))))))))))))
                exact h
              · intro q7
                have h := h.2 q7
                refine aw_bipush (pc' := 47) (v := (-3)) (dt_X10_model 23 (45, .bipush (-3), 2) rfl) (by decide) rfl (aw_iret (dt_X10_model 24 (47, .ireturn, 1) rfl) rfl rfl ?_)
                exact h

theorem t_X10_price {E : ZE} {l : Launch} {d nc ns : Nat} {x1 : Int32} {x2 : Int32} {x3 : Int32} {μ : ZM} {K : Option Value → ZM → Prop} (hS : Stat μ) (h :
  (x1 < 0 →
    K (some (.int (-1))) μ) ∧
  (¬ x1 < 0 →
    (((zI μ 11 12) - 1) < x1 →
      K (some (.int (-1))) μ) ∧
    (¬ ((zI μ 11 12) - 1) < x1 →
      (vp_in x1 20) ∧
      (zA μ 12 x1.toNatClampNeg = none →
        K (some (.int (-1))) μ) ∧
      (∀ b5, zA μ 12 x1.toNatClampNeg = some b5 →
        (x2 < 0 →
          K (some (.int (-1))) μ) ∧
        (¬ x2 < 0 →
          (2999 < x2 →
            K (some (.int (-1))) μ) ∧
          (¬ 2999 < x2 →
            (x3 < 0 →
              K (some (.int (-1))) μ) ∧
            (¬ x3 < 0 →
              (99999 < x3 →
                K (some (.int (-1))) μ) ∧
              (¬ 99999 < x3 →
                (zK μ b5 = 4) ∧
                (zA μ b5 5 = none →
                  False) ∧
                (∀ b12, zA μ b5 5 = some b12 →
                  (zK μ b12 = 13) ∧
                  ((zI μ b5 6) < (nI (zL μ b12)) →
                    (zA μ b5 4 = none →
                      False) ∧
                    (∀ b16, zA μ b5 4 = some b16 →
                      (zK μ b16 = 13) ∧
                      (11 ≤ b16) ∧
                      (vp_in (zI μ b5 6) (zL μ b16)) ∧
                      (11 ≤ b12) ∧
                      (vp_in (zI (sI μ b16 (zI μ b5 6).toNatClampNeg x2) b5 6) (zL (sI μ b16 (zI μ b5 6).toNatClampNeg x2) b12)) ∧
                      ∀ μ22, μ22 = (sI (sI (sI μ b16 (zI μ b5 6).toNatClampNeg x2) b12 (zI (sI μ b16 (zI μ b5 6).toNatClampNeg x2) b5 6).toNatClampNeg x3) b5 6 ((zI (sI (sI μ b16 (zI μ b5 6).toNatClampNeg x2) b12 (zI (sI μ b16 (zI μ b5 6).toNatClampNeg x2) b5 6).toNatClampNeg x3) b5 6) + 1)) →
                      K (some (.int (zI μ22 b5 6))) μ22)) ∧
                  (¬ (zI μ b5 6) < (nI (zL μ b12)) →
                    K (some (.int (-3))) μ)))))))))) : AW E l (d + 2) nc ns mX10_price 0 [some (.ref 11), some (.int x1), some (.int x2), some (.int x3), none] [] μ K := by
  refine aw_aload_n (pc' := 1) (dt_X10_price 0 (0, .aload_n 0, 1) rfl) rfl rfl (aw_iload_n (pc' := 2) (dt_X10_price 1 (1, .iload_n 1, 1) rfl) rfl rfl (aw_inV (pc' := 5) (nc1 := 0) (ns1 := 0) (nc := nc) (ns := ns) (ls' := [some (.ref 11), some (.int x1)]) (y2 := mX10_modelAt) (As := [.int x1]) (rest := []) (a := 11) (dt_X10_price 2 (2, .invokevirtual 88, 3) rfl) ok_X10_modelAt ln_ReturnDesk_88 im_X10_modelAt se_X10_modelAt pr_X10_modelAt (Or.inl ⟨by decide, rfl⟩) rfl (Nat.le_of_ble_eq_true rfl) (Nat.le_of_ble_eq_true rfl) rfl rfl (sk_11 hS) (aw_iload_n (pc' := 1) (dt_X10_modelAt 0 (0, .iload_n 1, 1) rfl) rfl rfl (aw_iconst (pc' := 2) (v := 0) (dt_X10_modelAt 1 (1, .iconst 0, 1) rfl) (by decide) rfl (aw_aload_n (pc' := 3) (dt_X10_modelAt 2 (2, .aload_n 0, 1) rfl) rfl rfl (aw_getI (pc' := 6) (dt_X10_modelAt 3 (3, .getfield 81, 3) rfl) fl_ReturnDesk_81 rfl rfl (sk_11 hS) (aw_iconst (pc' := 7) (v := 1) (dt_X10_modelAt 4 (6, .iconst 1, 1) rfl) (by decide) rfl (aw_isub (pc' := 8) (dt_X10_modelAt 5 (7, .isub, 1) rfl) rfl (aw_inS (pc' := 11) (nc1 := 0) (ns1 := 0) (nc := 0) (ns := 0) (ls' := [some (.int x1), some (.int 0), some (.int ((zI μ 11 12) - 1))]) (y2 := mX10_within) (As := [.int x1, .int 0, .int ((zI μ 11 12) - 1)]) (rest := []) (dt_X10_modelAt 6 (8, .invokestatic 76, 3) rfl) ok_X10_within ln_ReturnDesk_76 sm_X10_within pr_X10_within rfl (Nat.le_of_ble_eq_true rfl) (Nat.le_of_ble_eq_true rfl) rfl rfl (aw_iload_n (pc' := 1) (dt_X10_within 0 (0, .iload_n 0, 1) rfl) rfl rfl (aw_iload_n (pc' := 2) (dt_X10_within 1 (1, .iload_n 1, 1) rfl) rfl rfl (aw_icmp_lt (pc' := 5) (tgt := 14) (dt_X10_within 2 (2, .if_icmp .lt 12, 3) rfl) (by decide) rfl ?_ ?_))))))))))))
  · intro q1
    have h := h.1 q1
    refine aw_iconst (pc' := 15) (v := 0) (dt_X10_within 8 (14, .iconst 0, 1) rfl) (by decide) rfl (aw_iret (dt_X10_within 9 (15, .ireturn, 1) rfl) rfl rfl (aw_stk (st' := [.int 0]) rfl (aw_if_eq_T (pc' := 14) (tgt := 23) (dt_X10_modelAt 7 (11, .ifCond .eq 12, 3) rfl) (by decide) rfl (by decide) (aw_null (pc' := 24) (dt_X10_modelAt 13 (23, .aconst_null, 1) rfl) rfl (aw_aretN (dt_X10_modelAt 14 (24, .areturn, 1) rfl) rfl rfl (aw_stk (st' := [.null]) rfl (aw_astoreN (pc' := 7) (ls' := [some (.ref 11), some (.int x1), some (.int x2), some (.int x3), some (.null)]) (dt_X10_price 3 (5, .astore 4, 2) rfl) (by decide) rfl rfl (aw_aloadN (pc' := 9) (dt_X10_price 4 (7, .aload 4, 2) rfl) rfl rfl (aw_ifnullN (tgt := 29) (dt_X10_price 5 (9, .ifnull 20, 3) rfl) (by decide) (aw_iconst (pc' := 30) (v := (-1)) (dt_X10_price 14 (29, .iconst (-1), 1) rfl) (by decide) rfl (aw_iret (dt_X10_price 15 (30, .ireturn, 1) rfl) rfl rfl ?_)))))))))))
    exact h
  · intro q1
    have h := h.2 q1
    refine aw_iload_n (pc' := 6) (dt_X10_within 3 (5, .iload_n 0, 1) rfl) rfl rfl (aw_iload_n (pc' := 7) (dt_X10_within 4 (6, .iload_n 2, 1) rfl) rfl rfl (aw_icmp_gt (pc' := 10) (tgt := 14) (dt_X10_within 5 (7, .if_icmp .gt 7, 3) rfl) (by decide) rfl ?_ ?_))
    · intro q2
      have h := h.1 q2
      refine aw_iconst (pc' := 15) (v := 0) (dt_X10_within 8 (14, .iconst 0, 1) rfl) (by decide) rfl (aw_iret (dt_X10_within 9 (15, .ireturn, 1) rfl) rfl rfl (aw_stk (st' := [.int 0]) rfl (aw_if_eq_T (pc' := 14) (tgt := 23) (dt_X10_modelAt 7 (11, .ifCond .eq 12, 3) rfl) (by decide) rfl (by decide) (aw_null (pc' := 24) (dt_X10_modelAt 13 (23, .aconst_null, 1) rfl) rfl (aw_aretN (dt_X10_modelAt 14 (24, .areturn, 1) rfl) rfl rfl (aw_stk (st' := [.null]) rfl (aw_astoreN (pc' := 7) (ls' := [some (.ref 11), some (.int x1), some (.int x2), some (.int x3), some (.null)]) (dt_X10_price 3 (5, .astore 4, 2) rfl) (by decide) rfl rfl (aw_aloadN (pc' := 9) (dt_X10_price 4 (7, .aload 4, 2) rfl) rfl rfl (aw_ifnullN (tgt := 29) (dt_X10_price 5 (9, .ifnull 20, 3) rfl) (by decide) (aw_iconst (pc' := 30) (v := (-1)) (dt_X10_price 14 (29, .iconst (-1), 1) rfl) (by decide) rfl (aw_iret (dt_X10_price 15 (30, .ireturn, 1) rfl) rfl rfl ?_)))))))))))
      exact h
    · intro q2
      have h := h.2 q2
      obtain ⟨g3, h⟩ := h
      refine aw_iconst (pc' := 11) (v := 1) (dt_X10_within 6 (10, .iconst 1, 1) rfl) (by decide) rfl (aw_goto (tgt := 15) (dt_X10_within 7 (11, .goto 4, 3) rfl) (by decide) (aw_iret (dt_X10_within 9 (15, .ireturn, 1) rfl) rfl rfl (aw_stk (st' := [.int 1]) rfl (aw_if_eq_F (pc' := 14) (tgt := 23) (dt_X10_modelAt 7 (11, .ifCond .eq 12, 3) rfl) (by decide) rfl (by decide) (aw_aload_n (pc' := 15) (dt_X10_modelAt 8 (14, .aload_n 0, 1) rfl) rfl rfl (aw_getAs (pc' := 18) (dt_X10_modelAt 9 (15, .getfield 11, 3) rfl) fl_ReturnDesk_11 rfl rfl (sk_11 hS) (sa_11_0 hS) (aw_iload_n (pc' := 19) (dt_X10_modelAt 10 (18, .iload_n 1, 1) rfl) rfl rfl (aw_aald (pc' := 20) (dt_X10_modelAt 11 (19, .aaload, 1) rfl) (by decide) (by decide) rfl (sk_12 hS) (vin_eq (sl_12 hS) g3) ?_ ?_))))))))
      · intro e4
        have h := h.1 e4
        refine aw_goto (tgt := 24) (dt_X10_modelAt 12 (20, .goto 4, 3) rfl) (by decide) (aw_aretN (dt_X10_modelAt 14 (24, .areturn, 1) rfl) rfl rfl (aw_stk (st' := [.null]) rfl (aw_astoreN (pc' := 7) (ls' := [some (.ref 11), some (.int x1), some (.int x2), some (.int x3), some (.null)]) (dt_X10_price 3 (5, .astore 4, 2) rfl) (by decide) rfl rfl (aw_aloadN (pc' := 9) (dt_X10_price 4 (7, .aload 4, 2) rfl) rfl rfl (aw_ifnullN (tgt := 29) (dt_X10_price 5 (9, .ifnull 20, 3) rfl) (by decide) (aw_iconst (pc' := 30) (v := (-1)) (dt_X10_price 14 (29, .iconst (-1), 1) rfl) (by decide) rfl (aw_iret (dt_X10_price 15 (30, .ireturn, 1) rfl) rfl rfl ?_)))))))
        exact h
      · intro b5 e4
        have h := h.2 b5 e4
        refine aw_goto (tgt := 24) (dt_X10_modelAt 12 (20, .goto 4, 3) rfl) (by decide) (aw_aret (dt_X10_modelAt 14 (24, .areturn, 1) rfl) rfl rfl (aw_stk (st' := [.ref b5]) rfl (aw_astore (pc' := 7) (ls' := [some (.ref 11), some (.int x1), some (.int x2), some (.int x3), some (.ref b5)]) (dt_X10_price 3 (5, .astore 4, 2) rfl) (by decide) rfl rfl (aw_aload (pc' := 9) (dt_X10_price 4 (7, .aload 4, 2) rfl) rfl rfl (aw_ifnull (pc' := 12) (dt_X10_price 5 (9, .ifnull 20, 3) rfl) rfl (aw_iload_n (pc' := 13) (dt_X10_price 6 (12, .iload_n 2, 1) rfl) rfl rfl (aw_inS (pc' := 16) (nc1 := 0) (ns1 := 0) (nc := nc) (ns := ns) (ls' := [some (.int x2)]) (y2 := mX10_isDay) (As := [.int x2]) (rest := []) (dt_X10_price 7 (13, .invokestatic 92, 3) rfl) ok_X10_isDay ln_ReturnDesk_92 sm_X10_isDay pr_X10_isDay rfl (Nat.le_of_ble_eq_true rfl) (Nat.le_of_ble_eq_true rfl) rfl rfl (aw_iload_n (pc' := 1) (dt_X10_isDay 0 (0, .iload_n 0, 1) rfl) rfl rfl (aw_iconst (pc' := 2) (v := 0) (dt_X10_isDay 1 (1, .iconst 0, 1) rfl) (by decide) rfl (aw_sipush (pc' := 5) (v := 2999) (dt_X10_isDay 2 (2, .sipush 2999, 3) rfl) (by decide) rfl (aw_inS (pc' := 8) (nc1 := 0) (ns1 := 0) (nc := 0) (ns := 0) (ls' := [some (.int x2), some (.int 0), some (.int 2999)]) (y2 := mX10_within) (As := [.int x2, .int 0, .int 2999]) (rest := []) (dt_X10_isDay 3 (5, .invokestatic 76, 3) rfl) ok_X10_within ln_ReturnDesk_76 sm_X10_within pr_X10_within rfl (Nat.le_of_ble_eq_true rfl) (Nat.le_of_ble_eq_true rfl) rfl rfl (aw_iload_n (pc' := 1) (dt_X10_within 0 (0, .iload_n 0, 1) rfl) rfl rfl (aw_iload_n (pc' := 2) (dt_X10_within 1 (1, .iload_n 1, 1) rfl) rfl rfl (aw_icmp_lt (pc' := 5) (tgt := 14) (dt_X10_within 2 (2, .if_icmp .lt 12, 3) rfl) (by decide) rfl ?_ ?_))))))))))))))
        · intro q6
          have h := h.1 q6
          refine aw_iconst (pc' := 15) (v := 0) (dt_X10_within 8 (14, .iconst 0, 1) rfl) (by decide) rfl (aw_iret (dt_X10_within 9 (15, .ireturn, 1) rfl) rfl rfl (aw_stk (st' := [.int 0]) rfl (aw_iret (dt_X10_isDay 4 (8, .ireturn, 1) rfl) rfl rfl (aw_stk (st' := [.int 0]) rfl (aw_if_eq_T (pc' := 19) (tgt := 29) (dt_X10_price 8 (16, .ifCond .eq 13, 3) rfl) (by decide) rfl (by decide) (aw_iconst (pc' := 30) (v := (-1)) (dt_X10_price 14 (29, .iconst (-1), 1) rfl) (by decide) rfl (aw_iret (dt_X10_price 15 (30, .ireturn, 1) rfl) rfl rfl ?_)))))))
          exact h
        · intro q6
          have h := h.2 q6
          refine aw_iload_n (pc' := 6) (dt_X10_within 3 (5, .iload_n 0, 1) rfl) rfl rfl (aw_iload_n (pc' := 7) (dt_X10_within 4 (6, .iload_n 2, 1) rfl) rfl rfl (aw_icmp_gt (pc' := 10) (tgt := 14) (dt_X10_within 5 (7, .if_icmp .gt 7, 3) rfl) (by decide) rfl ?_ ?_))
          · intro q7
            have h := h.1 q7
            refine aw_iconst (pc' := 15) (v := 0) (dt_X10_within 8 (14, .iconst 0, 1) rfl) (by decide) rfl (aw_iret (dt_X10_within 9 (15, .ireturn, 1) rfl) rfl rfl (aw_stk (st' := [.int 0]) rfl (aw_iret (dt_X10_isDay 4 (8, .ireturn, 1) rfl) rfl rfl (aw_stk (st' := [.int 0]) rfl (aw_if_eq_T (pc' := 19) (tgt := 29) (dt_X10_price 8 (16, .ifCond .eq 13, 3) rfl) (by decide) rfl (by decide) (aw_iconst (pc' := 30) (v := (-1)) (dt_X10_price 14 (29, .iconst (-1), 1) rfl) (by decide) rfl (aw_iret (dt_X10_price 15 (30, .ireturn, 1) rfl) rfl rfl ?_)))))))
            exact h
          · intro q7
            have h := h.2 q7
            refine aw_iconst (pc' := 11) (v := 1) (dt_X10_within 6 (10, .iconst 1, 1) rfl) (by decide) rfl (aw_goto (tgt := 15) (dt_X10_within 7 (11, .goto 4, 3) rfl) (by decide) (aw_iret (dt_X10_within 9 (15, .ireturn, 1) rfl) rfl rfl (aw_stk (st' := [.int 1]) rfl (aw_iret (dt_X10_isDay 4 (8, .ireturn, 1) rfl) rfl rfl (aw_stk (st' := [.int 1]) rfl (aw_if_eq_F (pc' := 19) (tgt := 29) (dt_X10_price 8 (16, .ifCond .eq 13, 3) rfl) (by decide) rfl (by decide) (aw_iload_n (pc' := 20) (dt_X10_price 9 (19, .iload_n 3, 1) rfl) rfl rfl (aw_iconst (pc' := 21) (v := 0) (dt_X10_price 10 (20, .iconst 0, 1) rfl) (by decide) rfl (aw_ldc (pc' := 23) (dt_X10_price 11 (21, .ldc 80, 2) rfl) ct_ReturnDesk_80 rfl (aw_inS (pc' := 26) (nc1 := 0) (ns1 := 0) (nc := nc) (ns := ns) (ls' := [some (.int x3), some (.int 0), some (.int 99999)]) (y2 := mX10_within) (As := [.int x3, .int 0, .int 99999]) (rest := []) (dt_X10_price 12 (23, .invokestatic 76, 3) rfl) ok_X10_within ln_ReturnDesk_76 sm_X10_within pr_X10_within rfl (Nat.le_of_ble_eq_true rfl) (Nat.le_of_ble_eq_true rfl) rfl rfl (aw_iload_n (pc' := 1) (dt_X10_within 0 (0, .iload_n 0, 1) rfl) rfl rfl (aw_iload_n (pc' := 2) (dt_X10_within 1 (1, .iload_n 1, 1) rfl) rfl rfl (aw_icmp_lt (pc' := 5) (tgt := 14) (dt_X10_within 2 (2, .if_icmp .lt 12, 3) rfl) (by decide) rfl ?_ ?_)))))))))))))
            · intro q8
              have h := h.1 q8
              refine aw_iconst (pc' := 15) (v := 0) (dt_X10_within 8 (14, .iconst 0, 1) rfl) (by decide) rfl (aw_iret (dt_X10_within 9 (15, .ireturn, 1) rfl) rfl rfl (aw_stk (st' := [.int 0]) rfl (aw_if_ne_F (pc' := 29) (tgt := 31) (dt_X10_price 13 (26, .ifCond .ne 5, 3) rfl) (by decide) rfl (by decide) (aw_iconst (pc' := 30) (v := (-1)) (dt_X10_price 14 (29, .iconst (-1), 1) rfl) (by decide) rfl (aw_iret (dt_X10_price 15 (30, .ireturn, 1) rfl) rfl rfl ?_)))))
              exact h
            · intro q8
              have h := h.2 q8
              refine aw_iload_n (pc' := 6) (dt_X10_within 3 (5, .iload_n 0, 1) rfl) rfl rfl (aw_iload_n (pc' := 7) (dt_X10_within 4 (6, .iload_n 2, 1) rfl) rfl rfl (aw_icmp_gt (pc' := 10) (tgt := 14) (dt_X10_within 5 (7, .if_icmp .gt 7, 3) rfl) (by decide) rfl ?_ ?_))
              · intro q9
                have h := h.1 q9
                refine aw_iconst (pc' := 15) (v := 0) (dt_X10_within 8 (14, .iconst 0, 1) rfl) (by decide) rfl (aw_iret (dt_X10_within 9 (15, .ireturn, 1) rfl) rfl rfl (aw_stk (st' := [.int 0]) rfl (aw_if_ne_F (pc' := 29) (tgt := 31) (dt_X10_price 13 (26, .ifCond .ne 5, 3) rfl) (by decide) rfl (by decide) (aw_iconst (pc' := 30) (v := (-1)) (dt_X10_price 14 (29, .iconst (-1), 1) rfl) (by decide) rfl (aw_iret (dt_X10_price 15 (30, .ireturn, 1) rfl) rfl rfl ?_)))))
                exact h
              · intro q9
                have h := h.2 q9
                obtain ⟨g10, h⟩ := h
                refine aw_iconst (pc' := 11) (v := 1) (dt_X10_within 6 (10, .iconst 1, 1) rfl) (by decide) rfl (aw_goto (tgt := 15) (dt_X10_within 7 (11, .goto 4, 3) rfl) (by decide) (aw_iret (dt_X10_within 9 (15, .ireturn, 1) rfl) rfl rfl (aw_stk (st' := [.int 1]) rfl (aw_if_ne_T (pc' := 29) (tgt := 31) (dt_X10_price 13 (26, .ifCond .ne 5, 3) rfl) (by decide) rfl (by decide) (aw_aload (pc' := 33) (dt_X10_price 16 (31, .aload 4, 2) rfl) rfl rfl (aw_iload_n (pc' := 34) (dt_X10_price 17 (33, .iload_n 2, 1) rfl) rfl rfl (aw_iload_n (pc' := 35) (dt_X10_price 18 (34, .iload_n 3, 1) rfl) rfl rfl (aw_inV (pc' := 38) (nc1 := 0) (ns1 := 0) (nc := nc) (ns := ns) (ls' := [some (.ref b5), some (.int x2), some (.int x3)]) (y2 := mX4_tellPrice) (As := [.int x2, .int x3]) (rest := []) (a := b5) (dt_X10_price 19 (35, .invokevirtual 96, 3) rfl) ok_X4_tellPrice ln_ReturnDesk_96 im_X4_tellPrice se_X4_tellPrice pr_X4_tellPrice (Or.inl ⟨by decide, rfl⟩) rfl (Nat.le_of_ble_eq_true rfl) (Nat.le_of_ble_eq_true rfl) rfl rfl g10 (aw_aload_n (pc' := 1) (dt_X4_tellPrice 0 (0, .aload_n 0, 1) rfl) rfl rfl (aw_getI (pc' := 4) (dt_X4_tellPrice 1 (1, .getfield 31, 3) rfl) fl_Model_31 rfl rfl g10 (aw_aload_n (pc' := 5) (dt_X4_tellPrice 2 (4, .aload_n 0, 1) rfl) rfl rfl (aw_getA (pc' := 8) (dt_X4_tellPrice 3 (5, .getfield 15, 3) rfl) fl_Model_15 rfl rfl g10 ?_ ?_))))))))))))
                · intro e11
                  have h := h.1 e11
                  exact h.elim
                · intro b12 e11
                  have h := h.2 b12 e11
                  obtain ⟨g13, h⟩ := h
                  refine aw_alen (pc' := 9) (dt_X4_tellPrice 4 (8, .arraylength, 1) rfl) (by decide) (by decide) rfl g13 (aw_icmp_lt (pc' := 12) (tgt := 14) (dt_X4_tellPrice 5 (9, .if_icmp .lt 5, 3) rfl) (by decide) rfl ?_ ?_)
                  · intro q14
                    have h := h.1 q14
                    refine aw_aload_n (pc' := 15) (dt_X4_tellPrice 8 (14, .aload_n 0, 1) rfl) rfl rfl (aw_getA (pc' := 18) (dt_X4_tellPrice 9 (15, .getfield 9, 3) rfl) fl_Model_9 rfl rfl g10 ?_ ?_)
                    · intro e15
                      have h := h.1 e15
                      refine aw_aload_n (pc' := 19) (dt_X4_tellPrice 10 (18, .aload_n 0, 1) rfl) rfl rfl (aw_getI (pc' := 22) (dt_X4_tellPrice 11 (19, .getfield 31, 3) rfl) fl_Model_31 rfl rfl g10 (aw_iload_n (pc' := 23) (dt_X4_tellPrice 12 (22, .iload_n 1, 1) rfl) rfl rfl ?_))
                      exact h.elim
                    · intro b16 e15
                      have h := h.2 b16 e15
                      obtain ⟨g17, h⟩ := h
                      obtain ⟨g18, h⟩ := h
                      obtain ⟨g19, h⟩ := h
                      obtain ⟨g20, h⟩ := h
                      obtain ⟨g21, h⟩ := h
                      refine aw_aload_n (pc' := 19) (dt_X4_tellPrice 10 (18, .aload_n 0, 1) rfl) rfl rfl (aw_getI (pc' := 22) (dt_X4_tellPrice 11 (19, .getfield 31, 3) rfl) fl_Model_31 rfl rfl g10 (aw_iload_n (pc' := 23) (dt_X4_tellPrice 12 (22, .iload_n 1, 1) rfl) rfl rfl (aw_iast (pc' := 24) (dt_X4_tellPrice 13 (23, .iastore, 1) rfl) rfl g17 g18 g19 (aw_aload_n (pc' := 25) (dt_X4_tellPrice 14 (24, .aload_n 0, 1) rfl) rfl rfl (aw_getAs (pc' := 28) (dt_X4_tellPrice 15 (25, .getfield 15, 3) rfl) fl_Model_15 rfl rfl g10 e11 (aw_aload_n (pc' := 29) (dt_X4_tellPrice 16 (28, .aload_n 0, 1) rfl) rfl rfl (aw_getI (pc' := 32) (dt_X4_tellPrice 17 (29, .getfield 31, 3) rfl) fl_Model_31 rfl rfl g10 (aw_iload_n (pc' := 33) (dt_X4_tellPrice 18 (32, .iload_n 2, 1) rfl) rfl rfl (aw_iast (pc' := 34) (dt_X4_tellPrice 19 (33, .iastore, 1) rfl) rfl g13 g20 g21 (aw_aload_n (pc' := 35) (dt_X4_tellPrice 20 (34, .aload_n 0, 1) rfl) rfl rfl (aw_dup (pc' := 36) (dt_X4_tellPrice 21 (35, .dup, 1) rfl) rfl rfl (aw_getI (pc' := 39) (dt_X4_tellPrice 22 (36, .getfield 31, 3) rfl) fl_Model_31 rfl rfl g10 (aw_iconst (pc' := 40) (v := 1) (dt_X4_tellPrice 23 (39, .iconst 1, 1) rfl) (by decide) rfl (aw_iadd (pc' := 41) (dt_X4_tellPrice 24 (40, .iadd, 1) rfl) rfl (aw_putI (pc' := 44) (dt_X4_tellPrice 25 (41, .putfield 31, 3) rfl) fl_Model_31 rfl (by decide +kernel) rfl g10 ?_)))))))))))))))
                      refine aw_mem (fun μ22 eμ23 => ?_)
                      have h := h μ22 eμ23
                      have hS24 : Stat μ22 := by rw [eμ23]; exact hS.wI.wI.wI
                      have k25 : zK μ22 b5 = 4 := by rw [eμ23]; exact g10
                      have k26 : zK μ22 b12 = 13 := by rw [eμ23]; exact g13
                      have k27 : zK μ22 b16 = 13 := by rw [eμ23]; exact g17
                      have e28 : zA μ22 b5 5 = some b12 := by rw [eμ23]; exact e11
                      have e29 : zA μ22 b5 4 = some b16 := by rw [eμ23]; exact e15
                      refine aw_iconst (pc' := 45) (v := 1) (dt_X4_tellPrice 26 (44, .iconst 1, 1) rfl) (by decide) rfl (aw_iret (dt_X4_tellPrice 27 (45, .ireturn, 1) rfl) rfl rfl (aw_stk (st' := [.int 1]) rfl (aw_if_eq_F (pc' := 41) (tgt := 49) (dt_X10_price 20 (38, .ifCond .eq 11, 3) rfl) (by decide) rfl (by decide) (aw_aload (pc' := 43) (dt_X10_price 21 (41, .aload 4, 2) rfl) rfl rfl (aw_getI (pc' := 46) (dt_X10_price 22 (43, .getfield 100, 3) rfl) fl_ReturnDesk_100 rfl rfl k25 (aw_goto (tgt := 51) (dt_X10_price 23 (46, .goto 5, 3) rfl) (by decide) (aw_iret (dt_X10_price 25 (51, .ireturn, 1) rfl) rfl rfl ?_)))))))
                      exact h
                  · intro q14
                    have h := h.2 q14
                    refine aw_iconst (pc' := 13) (v := 0) (dt_X4_tellPrice 6 (12, .iconst 0, 1) rfl) (by decide) rfl (aw_iret (dt_X4_tellPrice 7 (13, .ireturn, 1) rfl) rfl rfl (aw_stk (st' := [.int 0]) rfl (aw_if_eq_T (pc' := 41) (tgt := 49) (dt_X10_price 20 (38, .ifCond .eq 11, 3) rfl) (by decide) rfl (by decide) (aw_bipush (pc' := 51) (v := (-3)) (dt_X10_price 24 (49, .bipush (-3), 2) rfl) (by decide) rfl (aw_iret (dt_X10_price 25 (51, .ireturn, 1) rfl) rfl rfl ?_)))))
                    exact h

theorem t_X10_priceOn {E : ZE} {l : Launch} {d nc ns : Nat} {x1 : Int32} {x2 : Int32} {μ : ZM} {K : Option Value → ZM → Prop} (hS : Stat μ) (h :
  (x1 < 0 →
    K (some (.int (-1))) μ) ∧
  (¬ x1 < 0 →
    (((zI μ 11 12) - 1) < x1 →
      K (some (.int (-1))) μ) ∧
    (¬ ((zI μ 11 12) - 1) < x1 →
      (vp_in x1 20) ∧
      (zA μ 12 x1.toNatClampNeg = none →
        K (some (.int (-1))) μ) ∧
      (∀ b5, zA μ 12 x1.toNatClampNeg = some b5 →
        (x2 < 0 →
          K (some (.int (-1))) μ) ∧
        (¬ x2 < 0 →
          (2999 < x2 →
            K (some (.int (-1))) μ) ∧
          (¬ 2999 < x2 →
            (zK μ b5 = 4) ∧
            AW E l (d + 1) 0 0 mX4_priceFor 0 (zargs 5 [.ref b5, .int x2]) [] μ (fun v μ9 => ∃ r11 : Int32, v = some (.int r11) ∧ Stat μ9 ∧ 
              K (some (.int r11)) μ9))))))) : AW E l (d + 2) nc ns mX10_priceOn 0 [some (.ref 11), some (.int x1), some (.int x2), none] [] μ K := by
  refine aw_aload_n (pc' := 1) (dt_X10_priceOn 0 (0, .aload_n 0, 1) rfl) rfl rfl (aw_iload_n (pc' := 2) (dt_X10_priceOn 1 (1, .iload_n 1, 1) rfl) rfl rfl (aw_inV (pc' := 5) (nc1 := 0) (ns1 := 0) (nc := nc) (ns := ns) (ls' := [some (.ref 11), some (.int x1)]) (y2 := mX10_modelAt) (As := [.int x1]) (rest := []) (a := 11) (dt_X10_priceOn 2 (2, .invokevirtual 88, 3) rfl) ok_X10_modelAt ln_ReturnDesk_88 im_X10_modelAt se_X10_modelAt pr_X10_modelAt (Or.inl ⟨by decide, rfl⟩) rfl (Nat.le_of_ble_eq_true rfl) (Nat.le_of_ble_eq_true rfl) rfl rfl (sk_11 hS) (aw_iload_n (pc' := 1) (dt_X10_modelAt 0 (0, .iload_n 1, 1) rfl) rfl rfl (aw_iconst (pc' := 2) (v := 0) (dt_X10_modelAt 1 (1, .iconst 0, 1) rfl) (by decide) rfl (aw_aload_n (pc' := 3) (dt_X10_modelAt 2 (2, .aload_n 0, 1) rfl) rfl rfl (aw_getI (pc' := 6) (dt_X10_modelAt 3 (3, .getfield 81, 3) rfl) fl_ReturnDesk_81 rfl rfl (sk_11 hS) (aw_iconst (pc' := 7) (v := 1) (dt_X10_modelAt 4 (6, .iconst 1, 1) rfl) (by decide) rfl (aw_isub (pc' := 8) (dt_X10_modelAt 5 (7, .isub, 1) rfl) rfl (aw_inS (pc' := 11) (nc1 := 0) (ns1 := 0) (nc := 0) (ns := 0) (ls' := [some (.int x1), some (.int 0), some (.int ((zI μ 11 12) - 1))]) (y2 := mX10_within) (As := [.int x1, .int 0, .int ((zI μ 11 12) - 1)]) (rest := []) (dt_X10_modelAt 6 (8, .invokestatic 76, 3) rfl) ok_X10_within ln_ReturnDesk_76 sm_X10_within pr_X10_within rfl (Nat.le_of_ble_eq_true rfl) (Nat.le_of_ble_eq_true rfl) rfl rfl (aw_iload_n (pc' := 1) (dt_X10_within 0 (0, .iload_n 0, 1) rfl) rfl rfl (aw_iload_n (pc' := 2) (dt_X10_within 1 (1, .iload_n 1, 1) rfl) rfl rfl (aw_icmp_lt (pc' := 5) (tgt := 14) (dt_X10_within 2 (2, .if_icmp .lt 12, 3) rfl) (by decide) rfl ?_ ?_))))))))))))
  · intro q1
    have h := h.1 q1
    refine aw_iconst (pc' := 15) (v := 0) (dt_X10_within 8 (14, .iconst 0, 1) rfl) (by decide) rfl (aw_iret (dt_X10_within 9 (15, .ireturn, 1) rfl) rfl rfl (aw_stk (st' := [.int 0]) rfl (aw_if_eq_T (pc' := 14) (tgt := 23) (dt_X10_modelAt 7 (11, .ifCond .eq 12, 3) rfl) (by decide) rfl (by decide) (aw_null (pc' := 24) (dt_X10_modelAt 13 (23, .aconst_null, 1) rfl) rfl (aw_aretN (dt_X10_modelAt 14 (24, .areturn, 1) rfl) rfl rfl (aw_stk (st' := [.null]) rfl (aw_astore_nN (pc' := 6) (ls' := [some (.ref 11), some (.int x1), some (.int x2), some (.null)]) (dt_X10_priceOn 3 (5, .astore_n 3, 1) rfl) (by decide) rfl rfl (aw_aload_nN (pc' := 7) (dt_X10_priceOn 4 (6, .aload_n 3, 1) rfl) rfl rfl (aw_ifnullN (tgt := 17) (dt_X10_priceOn 5 (7, .ifnull 10, 3) rfl) (by decide) (aw_iconst (pc' := 18) (v := (-1)) (dt_X10_priceOn 9 (17, .iconst (-1), 1) rfl) (by decide) rfl (aw_goto (tgt := 26) (dt_X10_priceOn 10 (18, .goto 8, 3) rfl) (by decide) (aw_iret (dt_X10_priceOn 14 (26, .ireturn, 1) rfl) rfl rfl ?_))))))))))))
    exact h
  · intro q1
    have h := h.2 q1
    refine aw_iload_n (pc' := 6) (dt_X10_within 3 (5, .iload_n 0, 1) rfl) rfl rfl (aw_iload_n (pc' := 7) (dt_X10_within 4 (6, .iload_n 2, 1) rfl) rfl rfl (aw_icmp_gt (pc' := 10) (tgt := 14) (dt_X10_within 5 (7, .if_icmp .gt 7, 3) rfl) (by decide) rfl ?_ ?_))
    · intro q2
      have h := h.1 q2
      refine aw_iconst (pc' := 15) (v := 0) (dt_X10_within 8 (14, .iconst 0, 1) rfl) (by decide) rfl (aw_iret (dt_X10_within 9 (15, .ireturn, 1) rfl) rfl rfl (aw_stk (st' := [.int 0]) rfl (aw_if_eq_T (pc' := 14) (tgt := 23) (dt_X10_modelAt 7 (11, .ifCond .eq 12, 3) rfl) (by decide) rfl (by decide) (aw_null (pc' := 24) (dt_X10_modelAt 13 (23, .aconst_null, 1) rfl) rfl (aw_aretN (dt_X10_modelAt 14 (24, .areturn, 1) rfl) rfl rfl (aw_stk (st' := [.null]) rfl (aw_astore_nN (pc' := 6) (ls' := [some (.ref 11), some (.int x1), some (.int x2), some (.null)]) (dt_X10_priceOn 3 (5, .astore_n 3, 1) rfl) (by decide) rfl rfl (aw_aload_nN (pc' := 7) (dt_X10_priceOn 4 (6, .aload_n 3, 1) rfl) rfl rfl (aw_ifnullN (tgt := 17) (dt_X10_priceOn 5 (7, .ifnull 10, 3) rfl) (by decide) (aw_iconst (pc' := 18) (v := (-1)) (dt_X10_priceOn 9 (17, .iconst (-1), 1) rfl) (by decide) rfl (aw_goto (tgt := 26) (dt_X10_priceOn 10 (18, .goto 8, 3) rfl) (by decide) (aw_iret (dt_X10_priceOn 14 (26, .ireturn, 1) rfl) rfl rfl ?_))))))))))))
      exact h
    · intro q2
      have h := h.2 q2
      obtain ⟨g3, h⟩ := h
      refine aw_iconst (pc' := 11) (v := 1) (dt_X10_within 6 (10, .iconst 1, 1) rfl) (by decide) rfl (aw_goto (tgt := 15) (dt_X10_within 7 (11, .goto 4, 3) rfl) (by decide) (aw_iret (dt_X10_within 9 (15, .ireturn, 1) rfl) rfl rfl (aw_stk (st' := [.int 1]) rfl (aw_if_eq_F (pc' := 14) (tgt := 23) (dt_X10_modelAt 7 (11, .ifCond .eq 12, 3) rfl) (by decide) rfl (by decide) (aw_aload_n (pc' := 15) (dt_X10_modelAt 8 (14, .aload_n 0, 1) rfl) rfl rfl (aw_getAs (pc' := 18) (dt_X10_modelAt 9 (15, .getfield 11, 3) rfl) fl_ReturnDesk_11 rfl rfl (sk_11 hS) (sa_11_0 hS) (aw_iload_n (pc' := 19) (dt_X10_modelAt 10 (18, .iload_n 1, 1) rfl) rfl rfl (aw_aald (pc' := 20) (dt_X10_modelAt 11 (19, .aaload, 1) rfl) (by decide) (by decide) rfl (sk_12 hS) (vin_eq (sl_12 hS) g3) ?_ ?_))))))))
      · intro e4
        have h := h.1 e4
        refine aw_goto (tgt := 24) (dt_X10_modelAt 12 (20, .goto 4, 3) rfl) (by decide) (aw_aretN (dt_X10_modelAt 14 (24, .areturn, 1) rfl) rfl rfl (aw_stk (st' := [.null]) rfl (aw_astore_nN (pc' := 6) (ls' := [some (.ref 11), some (.int x1), some (.int x2), some (.null)]) (dt_X10_priceOn 3 (5, .astore_n 3, 1) rfl) (by decide) rfl rfl (aw_aload_nN (pc' := 7) (dt_X10_priceOn 4 (6, .aload_n 3, 1) rfl) rfl rfl (aw_ifnullN (tgt := 17) (dt_X10_priceOn 5 (7, .ifnull 10, 3) rfl) (by decide) (aw_iconst (pc' := 18) (v := (-1)) (dt_X10_priceOn 9 (17, .iconst (-1), 1) rfl) (by decide) rfl (aw_goto (tgt := 26) (dt_X10_priceOn 10 (18, .goto 8, 3) rfl) (by decide) (aw_iret (dt_X10_priceOn 14 (26, .ireturn, 1) rfl) rfl rfl ?_))))))))
        exact h
      · intro b5 e4
        have h := h.2 b5 e4
        refine aw_goto (tgt := 24) (dt_X10_modelAt 12 (20, .goto 4, 3) rfl) (by decide) (aw_aret (dt_X10_modelAt 14 (24, .areturn, 1) rfl) rfl rfl (aw_stk (st' := [.ref b5]) rfl (aw_astore_n (pc' := 6) (ls' := [some (.ref 11), some (.int x1), some (.int x2), some (.ref b5)]) (dt_X10_priceOn 3 (5, .astore_n 3, 1) rfl) (by decide) rfl rfl (aw_aload_n (pc' := 7) (dt_X10_priceOn 4 (6, .aload_n 3, 1) rfl) rfl rfl (aw_ifnull (pc' := 10) (dt_X10_priceOn 5 (7, .ifnull 10, 3) rfl) rfl (aw_iload_n (pc' := 11) (dt_X10_priceOn 6 (10, .iload_n 2, 1) rfl) rfl rfl (aw_inS (pc' := 14) (nc1 := 0) (ns1 := 0) (nc := nc) (ns := ns) (ls' := [some (.int x2)]) (y2 := mX10_isDay) (As := [.int x2]) (rest := []) (dt_X10_priceOn 7 (11, .invokestatic 92, 3) rfl) ok_X10_isDay ln_ReturnDesk_92 sm_X10_isDay pr_X10_isDay rfl (Nat.le_of_ble_eq_true rfl) (Nat.le_of_ble_eq_true rfl) rfl rfl (aw_iload_n (pc' := 1) (dt_X10_isDay 0 (0, .iload_n 0, 1) rfl) rfl rfl (aw_iconst (pc' := 2) (v := 0) (dt_X10_isDay 1 (1, .iconst 0, 1) rfl) (by decide) rfl (aw_sipush (pc' := 5) (v := 2999) (dt_X10_isDay 2 (2, .sipush 2999, 3) rfl) (by decide) rfl (aw_inS (pc' := 8) (nc1 := 0) (ns1 := 0) (nc := 0) (ns := 0) (ls' := [some (.int x2), some (.int 0), some (.int 2999)]) (y2 := mX10_within) (As := [.int x2, .int 0, .int 2999]) (rest := []) (dt_X10_isDay 3 (5, .invokestatic 76, 3) rfl) ok_X10_within ln_ReturnDesk_76 sm_X10_within pr_X10_within rfl (Nat.le_of_ble_eq_true rfl) (Nat.le_of_ble_eq_true rfl) rfl rfl (aw_iload_n (pc' := 1) (dt_X10_within 0 (0, .iload_n 0, 1) rfl) rfl rfl (aw_iload_n (pc' := 2) (dt_X10_within 1 (1, .iload_n 1, 1) rfl) rfl rfl (aw_icmp_lt (pc' := 5) (tgt := 14) (dt_X10_within 2 (2, .if_icmp .lt 12, 3) rfl) (by decide) rfl ?_ ?_))))))))))))))
        · intro q6
          have h := h.1 q6
          refine aw_iconst (pc' := 15) (v := 0) (dt_X10_within 8 (14, .iconst 0, 1) rfl) (by decide) rfl (aw_iret (dt_X10_within 9 (15, .ireturn, 1) rfl) rfl rfl (aw_stk (st' := [.int 0]) rfl (aw_iret (dt_X10_isDay 4 (8, .ireturn, 1) rfl) rfl rfl (aw_stk (st' := [.int 0]) rfl (aw_if_ne_F (pc' := 17) (tgt := 21) (dt_X10_priceOn 8 (14, .ifCond .ne 7, 3) rfl) (by decide) rfl (by decide) (aw_iconst (pc' := 18) (v := (-1)) (dt_X10_priceOn 9 (17, .iconst (-1), 1) rfl) (by decide) rfl (aw_goto (tgt := 26) (dt_X10_priceOn 10 (18, .goto 8, 3) rfl) (by decide) (aw_iret (dt_X10_priceOn 14 (26, .ireturn, 1) rfl) rfl rfl ?_))))))))
          exact h
        · intro q6
          have h := h.2 q6
          refine aw_iload_n (pc' := 6) (dt_X10_within 3 (5, .iload_n 0, 1) rfl) rfl rfl (aw_iload_n (pc' := 7) (dt_X10_within 4 (6, .iload_n 2, 1) rfl) rfl rfl (aw_icmp_gt (pc' := 10) (tgt := 14) (dt_X10_within 5 (7, .if_icmp .gt 7, 3) rfl) (by decide) rfl ?_ ?_))
          · intro q7
            have h := h.1 q7
            refine aw_iconst (pc' := 15) (v := 0) (dt_X10_within 8 (14, .iconst 0, 1) rfl) (by decide) rfl (aw_iret (dt_X10_within 9 (15, .ireturn, 1) rfl) rfl rfl (aw_stk (st' := [.int 0]) rfl (aw_iret (dt_X10_isDay 4 (8, .ireturn, 1) rfl) rfl rfl (aw_stk (st' := [.int 0]) rfl (aw_if_ne_F (pc' := 17) (tgt := 21) (dt_X10_priceOn 8 (14, .ifCond .ne 7, 3) rfl) (by decide) rfl (by decide) (aw_iconst (pc' := 18) (v := (-1)) (dt_X10_priceOn 9 (17, .iconst (-1), 1) rfl) (by decide) rfl (aw_goto (tgt := 26) (dt_X10_priceOn 10 (18, .goto 8, 3) rfl) (by decide) (aw_iret (dt_X10_priceOn 14 (26, .ireturn, 1) rfl) rfl rfl ?_))))))))
            exact h
          · intro q7
            have h := h.2 q7
            obtain ⟨g8, h⟩ := h
            refine aw_iconst (pc' := 11) (v := 1) (dt_X10_within 6 (10, .iconst 1, 1) rfl) (by decide) rfl (aw_goto (tgt := 15) (dt_X10_within 7 (11, .goto 4, 3) rfl) (by decide) (aw_iret (dt_X10_within 9 (15, .ireturn, 1) rfl) rfl rfl (aw_stk (st' := [.int 1]) rfl (aw_iret (dt_X10_isDay 4 (8, .ireturn, 1) rfl) rfl rfl (aw_stk (st' := [.int 1]) rfl (aw_if_ne_T (pc' := 17) (tgt := 21) (dt_X10_priceOn 8 (14, .ifCond .ne 7, 3) rfl) (by decide) rfl (by decide) (aw_aload_n (pc' := 22) (dt_X10_priceOn 11 (21, .aload_n 3, 1) rfl) rfl rfl (aw_iload_n (pc' := 23) (dt_X10_priceOn 12 (22, .iload_n 2, 1) rfl) rfl rfl (aw_callV0 (pc' := 26) (nc := nc) (ns := ns) (y2 := mX4_priceFor) (As := [.int x2]) (rest := []) (a := b5) (dt_X10_priceOn 13 (23, .invokevirtual 103, 3) rfl) ok_X4_priceFor ln_ReturnDesk_103 im_X4_priceFor se_X4_priceFor pr_X4_priceFor (Or.inl ⟨by decide, rfl⟩) rfl (Nat.le_of_ble_eq_true rfl) (Nat.le_of_ble_eq_true rfl) rfl g8 h ?_)))))))))
            rintro v μ9 ⟨r11, rfl, hS10, h⟩
            refine aw_stk (st' := [.int r11]) rfl ?_
            refine aw_iret (dt_X10_priceOn 14 (26, .ireturn, 1) rfl) rfl rfl ?_
            exact h

theorem t_X10_lot {E : ZE} {l : Launch} {d nc ns : Nat} {x1 : Int32} {x2 : Int32} {x3 : Int32} {μ : ZM} {K : Option Value → ZM → Prop} (hS : Stat μ) (h :
  (x1 < 0 →
    K (some (.int (-1))) μ) ∧
  (¬ x1 < 0 →
    (((zI μ 11 12) - 1) < x1 →
      K (some (.int (-1))) μ) ∧
    (¬ ((zI μ 11 12) - 1) < x1 →
      (vp_in x1 20) ∧
      (zA μ 12 x1.toNatClampNeg = none →
        K (some (.int (-1))) μ) ∧
      (∀ b5, zA μ 12 x1.toNatClampNeg = some b5 →
        (x2 < 0 →
          K (some (.int (-1))) μ) ∧
        (¬ x2 < 0 →
          (9 < x2 →
            K (some (.int (-1))) μ) ∧
          (¬ 9 < x2 →
            (x3 < 1 →
              K (some (.int (-1))) μ) ∧
            (¬ x3 < 1 →
              (99 < x3 →
                K (some (.int (-1))) μ) ∧
              (¬ 99 < x3 →
                ((zI μ 11 13) < 60 →
                  (vp_in (zI μ 11 13) 60) ∧
                  ∀ μ12, μ12 = (sI (sA (sI (sA (sI (sNew μ 2 0) (zN μ) 0 (zI (sNew μ 2 0) 11 13)) (zN μ) 1 (some b5)) (zN μ) 2 x3) 13 (zI μ 11 13).toNatClampNeg (some (zN μ))) 11 13 ((zI (sA (sI (sA (sI (sNew μ 2 0) (zN μ) 0 (zI (sNew μ 2 0) 11 13)) (zN μ) 1 (some b5)) (zN μ) 2 x3) 13 (zI μ 11 13).toNatClampNeg (some (zN μ))) 11 13) + 1)) →
                  K (some (.int ((zI μ12 11 13) - 1))) μ12) ∧
                (¬ (zI μ 11 13) < 60 →
                  K (some (.int (-3))) μ))))))))) : AW E l (d + 2) (nc + 1) (ns + 3) mX10_lot 0 [some (.ref 11), some (.int x1), some (.int x2), some (.int x3), none] [] μ K := by
  refine aw_aload_n (pc' := 1) (dt_X10_lot 0 (0, .aload_n 0, 1) rfl) rfl rfl (aw_iload_n (pc' := 2) (dt_X10_lot 1 (1, .iload_n 1, 1) rfl) rfl rfl (aw_inV (pc' := 5) (nc1 := 0) (ns1 := 0) (nc := (nc + 1)) (ns := (ns + 3)) (ls' := [some (.ref 11), some (.int x1)]) (y2 := mX10_modelAt) (As := [.int x1]) (rest := []) (a := 11) (dt_X10_lot 2 (2, .invokevirtual 88, 3) rfl) ok_X10_modelAt ln_ReturnDesk_88 im_X10_modelAt se_X10_modelAt pr_X10_modelAt (Or.inl ⟨by decide, rfl⟩) rfl (Nat.le_of_ble_eq_true rfl) (Nat.le_of_ble_eq_true rfl) rfl rfl (sk_11 hS) (aw_iload_n (pc' := 1) (dt_X10_modelAt 0 (0, .iload_n 1, 1) rfl) rfl rfl (aw_iconst (pc' := 2) (v := 0) (dt_X10_modelAt 1 (1, .iconst 0, 1) rfl) (by decide) rfl (aw_aload_n (pc' := 3) (dt_X10_modelAt 2 (2, .aload_n 0, 1) rfl) rfl rfl (aw_getI (pc' := 6) (dt_X10_modelAt 3 (3, .getfield 81, 3) rfl) fl_ReturnDesk_81 rfl rfl (sk_11 hS) (aw_iconst (pc' := 7) (v := 1) (dt_X10_modelAt 4 (6, .iconst 1, 1) rfl) (by decide) rfl (aw_isub (pc' := 8) (dt_X10_modelAt 5 (7, .isub, 1) rfl) rfl (aw_inS (pc' := 11) (nc1 := 0) (ns1 := 0) (nc := 0) (ns := 0) (ls' := [some (.int x1), some (.int 0), some (.int ((zI μ 11 12) - 1))]) (y2 := mX10_within) (As := [.int x1, .int 0, .int ((zI μ 11 12) - 1)]) (rest := []) (dt_X10_modelAt 6 (8, .invokestatic 76, 3) rfl) ok_X10_within ln_ReturnDesk_76 sm_X10_within pr_X10_within rfl (Nat.le_of_ble_eq_true rfl) (Nat.le_of_ble_eq_true rfl) rfl rfl (aw_iload_n (pc' := 1) (dt_X10_within 0 (0, .iload_n 0, 1) rfl) rfl rfl (aw_iload_n (pc' := 2) (dt_X10_within 1 (1, .iload_n 1, 1) rfl) rfl rfl (aw_icmp_lt (pc' := 5) (tgt := 14) (dt_X10_within 2 (2, .if_icmp .lt 12, 3) rfl) (by decide) rfl ?_ ?_))))))))))))
  · intro q1
    have h := h.1 q1
    refine aw_iconst (pc' := 15) (v := 0) (dt_X10_within 8 (14, .iconst 0, 1) rfl) (by decide) rfl (aw_iret (dt_X10_within 9 (15, .ireturn, 1) rfl) rfl rfl (aw_stk (st' := [.int 0]) rfl (aw_if_eq_T (pc' := 14) (tgt := 23) (dt_X10_modelAt 7 (11, .ifCond .eq 12, 3) rfl) (by decide) rfl (by decide) (aw_null (pc' := 24) (dt_X10_modelAt 13 (23, .aconst_null, 1) rfl) rfl (aw_aretN (dt_X10_modelAt 14 (24, .areturn, 1) rfl) rfl rfl (aw_stk (st' := [.null]) rfl (aw_astoreN (pc' := 7) (ls' := [some (.ref 11), some (.int x1), some (.int x2), some (.int x3), some (.null)]) (dt_X10_lot 3 (5, .astore 4, 2) rfl) (by decide) rfl rfl (aw_aloadN (pc' := 9) (dt_X10_lot 4 (7, .aload 4, 2) rfl) rfl rfl (aw_ifnullN (tgt := 32) (dt_X10_lot 5 (9, .ifnull 23, 3) rfl) (by decide) (aw_iconst (pc' := 33) (v := (-1)) (dt_X10_lot 16 (32, .iconst (-1), 1) rfl) (by decide) rfl (aw_iret (dt_X10_lot 17 (33, .ireturn, 1) rfl) rfl rfl ?_)))))))))))
    exact h
  · intro q1
    have h := h.2 q1
    refine aw_iload_n (pc' := 6) (dt_X10_within 3 (5, .iload_n 0, 1) rfl) rfl rfl (aw_iload_n (pc' := 7) (dt_X10_within 4 (6, .iload_n 2, 1) rfl) rfl rfl (aw_icmp_gt (pc' := 10) (tgt := 14) (dt_X10_within 5 (7, .if_icmp .gt 7, 3) rfl) (by decide) rfl ?_ ?_))
    · intro q2
      have h := h.1 q2
      refine aw_iconst (pc' := 15) (v := 0) (dt_X10_within 8 (14, .iconst 0, 1) rfl) (by decide) rfl (aw_iret (dt_X10_within 9 (15, .ireturn, 1) rfl) rfl rfl (aw_stk (st' := [.int 0]) rfl (aw_if_eq_T (pc' := 14) (tgt := 23) (dt_X10_modelAt 7 (11, .ifCond .eq 12, 3) rfl) (by decide) rfl (by decide) (aw_null (pc' := 24) (dt_X10_modelAt 13 (23, .aconst_null, 1) rfl) rfl (aw_aretN (dt_X10_modelAt 14 (24, .areturn, 1) rfl) rfl rfl (aw_stk (st' := [.null]) rfl (aw_astoreN (pc' := 7) (ls' := [some (.ref 11), some (.int x1), some (.int x2), some (.int x3), some (.null)]) (dt_X10_lot 3 (5, .astore 4, 2) rfl) (by decide) rfl rfl (aw_aloadN (pc' := 9) (dt_X10_lot 4 (7, .aload 4, 2) rfl) rfl rfl (aw_ifnullN (tgt := 32) (dt_X10_lot 5 (9, .ifnull 23, 3) rfl) (by decide) (aw_iconst (pc' := 33) (v := (-1)) (dt_X10_lot 16 (32, .iconst (-1), 1) rfl) (by decide) rfl (aw_iret (dt_X10_lot 17 (33, .ireturn, 1) rfl) rfl rfl ?_)))))))))))
      exact h
    · intro q2
      have h := h.2 q2
      obtain ⟨g3, h⟩ := h
      refine aw_iconst (pc' := 11) (v := 1) (dt_X10_within 6 (10, .iconst 1, 1) rfl) (by decide) rfl (aw_goto (tgt := 15) (dt_X10_within 7 (11, .goto 4, 3) rfl) (by decide) (aw_iret (dt_X10_within 9 (15, .ireturn, 1) rfl) rfl rfl (aw_stk (st' := [.int 1]) rfl (aw_if_eq_F (pc' := 14) (tgt := 23) (dt_X10_modelAt 7 (11, .ifCond .eq 12, 3) rfl) (by decide) rfl (by decide) (aw_aload_n (pc' := 15) (dt_X10_modelAt 8 (14, .aload_n 0, 1) rfl) rfl rfl (aw_getAs (pc' := 18) (dt_X10_modelAt 9 (15, .getfield 11, 3) rfl) fl_ReturnDesk_11 rfl rfl (sk_11 hS) (sa_11_0 hS) (aw_iload_n (pc' := 19) (dt_X10_modelAt 10 (18, .iload_n 1, 1) rfl) rfl rfl (aw_aald (pc' := 20) (dt_X10_modelAt 11 (19, .aaload, 1) rfl) (by decide) (by decide) rfl (sk_12 hS) (vin_eq (sl_12 hS) g3) ?_ ?_))))))))
      · intro e4
        have h := h.1 e4
        refine aw_goto (tgt := 24) (dt_X10_modelAt 12 (20, .goto 4, 3) rfl) (by decide) (aw_aretN (dt_X10_modelAt 14 (24, .areturn, 1) rfl) rfl rfl (aw_stk (st' := [.null]) rfl (aw_astoreN (pc' := 7) (ls' := [some (.ref 11), some (.int x1), some (.int x2), some (.int x3), some (.null)]) (dt_X10_lot 3 (5, .astore 4, 2) rfl) (by decide) rfl rfl (aw_aloadN (pc' := 9) (dt_X10_lot 4 (7, .aload 4, 2) rfl) rfl rfl (aw_ifnullN (tgt := 32) (dt_X10_lot 5 (9, .ifnull 23, 3) rfl) (by decide) (aw_iconst (pc' := 33) (v := (-1)) (dt_X10_lot 16 (32, .iconst (-1), 1) rfl) (by decide) rfl (aw_iret (dt_X10_lot 17 (33, .ireturn, 1) rfl) rfl rfl ?_)))))))
        exact h
      · intro b5 e4
        have h := h.2 b5 e4
        refine aw_goto (tgt := 24) (dt_X10_modelAt 12 (20, .goto 4, 3) rfl) (by decide) (aw_aret (dt_X10_modelAt 14 (24, .areturn, 1) rfl) rfl rfl (aw_stk (st' := [.ref b5]) rfl (aw_astore (pc' := 7) (ls' := [some (.ref 11), some (.int x1), some (.int x2), some (.int x3), some (.ref b5)]) (dt_X10_lot 3 (5, .astore 4, 2) rfl) (by decide) rfl rfl (aw_aload (pc' := 9) (dt_X10_lot 4 (7, .aload 4, 2) rfl) rfl rfl (aw_ifnull (pc' := 12) (dt_X10_lot 5 (9, .ifnull 23, 3) rfl) rfl (aw_iload_n (pc' := 13) (dt_X10_lot 6 (12, .iload_n 2, 1) rfl) rfl rfl (aw_iconst (pc' := 14) (v := 0) (dt_X10_lot 7 (13, .iconst 0, 1) rfl) (by decide) rfl (aw_bipush (pc' := 16) (v := 9) (dt_X10_lot 8 (14, .bipush 9, 2) rfl) (by decide) rfl (aw_inS (pc' := 19) (nc1 := 0) (ns1 := 0) (nc := (nc + 1)) (ns := (ns + 3)) (ls' := [some (.int x2), some (.int 0), some (.int 9)]) (y2 := mX10_within) (As := [.int x2, .int 0, .int 9]) (rest := []) (dt_X10_lot 9 (16, .invokestatic 76, 3) rfl) ok_X10_within ln_ReturnDesk_76 sm_X10_within pr_X10_within rfl (Nat.le_of_ble_eq_true rfl) (Nat.le_of_ble_eq_true rfl) rfl rfl (aw_iload_n (pc' := 1) (dt_X10_within 0 (0, .iload_n 0, 1) rfl) rfl rfl (aw_iload_n (pc' := 2) (dt_X10_within 1 (1, .iload_n 1, 1) rfl) rfl rfl (aw_icmp_lt (pc' := 5) (tgt := 14) (dt_X10_within 2 (2, .if_icmp .lt 12, 3) rfl) (by decide) rfl ?_ ?_))))))))))))
        · intro q6
          have h := h.1 q6
          refine aw_iconst (pc' := 15) (v := 0) (dt_X10_within 8 (14, .iconst 0, 1) rfl) (by decide) rfl (aw_iret (dt_X10_within 9 (15, .ireturn, 1) rfl) rfl rfl (aw_stk (st' := [.int 0]) rfl (aw_if_eq_T (pc' := 22) (tgt := 32) (dt_X10_lot 10 (19, .ifCond .eq 13, 3) rfl) (by decide) rfl (by decide) (aw_iconst (pc' := 33) (v := (-1)) (dt_X10_lot 16 (32, .iconst (-1), 1) rfl) (by decide) rfl (aw_iret (dt_X10_lot 17 (33, .ireturn, 1) rfl) rfl rfl ?_)))))
          exact h
        · intro q6
          have h := h.2 q6
          refine aw_iload_n (pc' := 6) (dt_X10_within 3 (5, .iload_n 0, 1) rfl) rfl rfl (aw_iload_n (pc' := 7) (dt_X10_within 4 (6, .iload_n 2, 1) rfl) rfl rfl (aw_icmp_gt (pc' := 10) (tgt := 14) (dt_X10_within 5 (7, .if_icmp .gt 7, 3) rfl) (by decide) rfl ?_ ?_))
          · intro q7
            have h := h.1 q7
            refine aw_iconst (pc' := 15) (v := 0) (dt_X10_within 8 (14, .iconst 0, 1) rfl) (by decide) rfl (aw_iret (dt_X10_within 9 (15, .ireturn, 1) rfl) rfl rfl (aw_stk (st' := [.int 0]) rfl (aw_if_eq_T (pc' := 22) (tgt := 32) (dt_X10_lot 10 (19, .ifCond .eq 13, 3) rfl) (by decide) rfl (by decide) (aw_iconst (pc' := 33) (v := (-1)) (dt_X10_lot 16 (32, .iconst (-1), 1) rfl) (by decide) rfl (aw_iret (dt_X10_lot 17 (33, .ireturn, 1) rfl) rfl rfl ?_)))))
            exact h
          · intro q7
            have h := h.2 q7
            refine aw_iconst (pc' := 11) (v := 1) (dt_X10_within 6 (10, .iconst 1, 1) rfl) (by decide) rfl (aw_goto (tgt := 15) (dt_X10_within 7 (11, .goto 4, 3) rfl) (by decide) (aw_iret (dt_X10_within 9 (15, .ireturn, 1) rfl) rfl rfl (aw_stk (st' := [.int 1]) rfl (aw_if_eq_F (pc' := 22) (tgt := 32) (dt_X10_lot 10 (19, .ifCond .eq 13, 3) rfl) (by decide) rfl (by decide) (aw_iload_n (pc' := 23) (dt_X10_lot 11 (22, .iload_n 3, 1) rfl) rfl rfl (aw_iconst (pc' := 24) (v := 1) (dt_X10_lot 12 (23, .iconst 1, 1) rfl) (by decide) rfl (aw_bipush (pc' := 26) (v := 99) (dt_X10_lot 13 (24, .bipush 99, 2) rfl) (by decide) rfl (aw_inS (pc' := 29) (nc1 := 0) (ns1 := 0) (nc := (nc + 1)) (ns := (ns + 3)) (ls' := [some (.int x3), some (.int 1), some (.int 99)]) (y2 := mX10_within) (As := [.int x3, .int 1, .int 99]) (rest := []) (dt_X10_lot 14 (26, .invokestatic 76, 3) rfl) ok_X10_within ln_ReturnDesk_76 sm_X10_within pr_X10_within rfl (Nat.le_of_ble_eq_true rfl) (Nat.le_of_ble_eq_true rfl) rfl rfl (aw_iload_n (pc' := 1) (dt_X10_within 0 (0, .iload_n 0, 1) rfl) rfl rfl (aw_iload_n (pc' := 2) (dt_X10_within 1 (1, .iload_n 1, 1) rfl) rfl rfl (aw_icmp_lt (pc' := 5) (tgt := 14) (dt_X10_within 2 (2, .if_icmp .lt 12, 3) rfl) (by decide) rfl ?_ ?_)))))))))))
            · intro q8
              have h := h.1 q8
              refine aw_iconst (pc' := 15) (v := 0) (dt_X10_within 8 (14, .iconst 0, 1) rfl) (by decide) rfl (aw_iret (dt_X10_within 9 (15, .ireturn, 1) rfl) rfl rfl (aw_stk (st' := [.int 0]) rfl (aw_if_ne_F (pc' := 32) (tgt := 34) (dt_X10_lot 15 (29, .ifCond .ne 5, 3) rfl) (by decide) rfl (by decide) (aw_iconst (pc' := 33) (v := (-1)) (dt_X10_lot 16 (32, .iconst (-1), 1) rfl) (by decide) rfl (aw_iret (dt_X10_lot 17 (33, .ireturn, 1) rfl) rfl rfl ?_)))))
              exact h
            · intro q8
              have h := h.2 q8
              refine aw_iload_n (pc' := 6) (dt_X10_within 3 (5, .iload_n 0, 1) rfl) rfl rfl (aw_iload_n (pc' := 7) (dt_X10_within 4 (6, .iload_n 2, 1) rfl) rfl rfl (aw_icmp_gt (pc' := 10) (tgt := 14) (dt_X10_within 5 (7, .if_icmp .gt 7, 3) rfl) (by decide) rfl ?_ ?_))
              · intro q9
                have h := h.1 q9
                refine aw_iconst (pc' := 15) (v := 0) (dt_X10_within 8 (14, .iconst 0, 1) rfl) (by decide) rfl (aw_iret (dt_X10_within 9 (15, .ireturn, 1) rfl) rfl rfl (aw_stk (st' := [.int 0]) rfl (aw_if_ne_F (pc' := 32) (tgt := 34) (dt_X10_lot 15 (29, .ifCond .ne 5, 3) rfl) (by decide) rfl (by decide) (aw_iconst (pc' := 33) (v := (-1)) (dt_X10_lot 16 (32, .iconst (-1), 1) rfl) (by decide) rfl (aw_iret (dt_X10_lot 17 (33, .ireturn, 1) rfl) rfl rfl ?_)))))
                exact h
              · intro q9
                have h := h.2 q9
                refine aw_iconst (pc' := 11) (v := 1) (dt_X10_within 6 (10, .iconst 1, 1) rfl) (by decide) rfl (aw_goto (tgt := 15) (dt_X10_within 7 (11, .goto 4, 3) rfl) (by decide) (aw_iret (dt_X10_within 9 (15, .ireturn, 1) rfl) rfl rfl (aw_stk (st' := [.int 1]) rfl (aw_if_ne_T (pc' := 32) (tgt := 34) (dt_X10_lot 15 (29, .ifCond .ne 5, 3) rfl) (by decide) rfl (by decide) (aw_aload_n (pc' := 35) (dt_X10_lot 18 (34, .aload_n 0, 1) rfl) rfl rfl (aw_getI (pc' := 38) (dt_X10_lot 19 (35, .getfield 107, 3) rfl) fl_ReturnDesk_107 rfl rfl (sk_11 hS) (aw_aload_n (pc' := 39) (dt_X10_lot 20 (38, .aload_n 0, 1) rfl) rfl rfl (aw_getAs (pc' := 42) (dt_X10_lot 21 (39, .getfield 17, 3) rfl) fl_ReturnDesk_17 rfl rfl (sk_11 hS) (sa_11_1 hS) (aw_alens (pc' := 43) (n := 60) (v := 60) (dt_X10_lot 22 (42, .arraylength, 1) rfl) (by decide) (by decide) rfl (sk_13 hS) (sl_13 hS) (by decide) (aw_icmp_lt (pc' := 46) (tgt := 49) (dt_X10_lot 23 (43, .if_icmp .lt 6, 3) rfl) (by decide) rfl ?_ ?_))))))))))
                · intro q10
                  have h := h.1 q10
                  obtain ⟨g11, h⟩ := h
                  refine aw_aload_n (pc' := 50) (dt_X10_lot 26 (49, .aload_n 0, 1) rfl) rfl rfl (aw_getAs (pc' := 53) (dt_X10_lot 27 (50, .getfield 17, 3) rfl) fl_ReturnDesk_17 rfl rfl (sk_11 hS) (sa_11_1 hS) (aw_aload_n (pc' := 54) (dt_X10_lot 28 (53, .aload_n 0, 1) rfl) rfl rfl (aw_getI (pc' := 57) (dt_X10_lot 29 (54, .getfield 107, 3) rfl) fl_ReturnDesk_107 rfl rfl (sk_11 hS) (aw_new (pc' := 60) (ci := 2) (n := 3) (dt_X10_lot 30 (57, .new 15, 3) rfl) (by decide) rfl cn_ReturnDesk_15 ci_2 cj_2 rfl (aw_dup (pc' := 61) (dt_X10_lot 31 (60, .dup, 1) rfl) rfl rfl (aw_aload_n (pc' := 62) (dt_X10_lot 32 (61, .aload_n 0, 1) rfl) rfl rfl (aw_getI (pc' := 65) (dt_X10_lot 33 (62, .getfield 107, 3) rfl) fl_ReturnDesk_107 rfl rfl (sk_11 hS.wNew) (aw_aload (pc' := 67) (dt_X10_lot 34 (65, .aload 4, 2) rfl) rfl rfl (aw_iload_n (pc' := 68) (dt_X10_lot 35 (67, .iload_n 3, 1) rfl) rfl rfl (aw_inI (pc' := 71) (nc1 := 0) (ns1 := 0) (nc := nc) (ns := ns) (ls' := [some (.ref (zN μ)), some (.int (zI (sNew μ 2 0) 11 13)), some (.ref b5), some (.int x3)]) (y2 := mX2_init) (As := [.int (zI (sNew μ 2 0) 11 13), .ref b5, .int x3]) (rest := [.ref (zN μ), .int (zI μ 11 13), .ref 13]) (a := (zN μ)) (dt_X10_lot 36 (68, .invokespecial 110, 3) rfl) ok_X2_init rfl rfl ln_ReturnDesk_110 im_X2_init pr_X2_init rfl (Nat.le_of_ble_eq_true rfl) (Nat.le_of_ble_eq_true rfl) rfl rfl (aw_aload_n (pc' := 1) (dt_X2_init 0 (0, .aload_n 0, 1) rfl) rfl rfl (aw_objInit (pc' := 4) (dt_X2_init 1 (1, .invokespecial 1, 3) rfl) oi_Lot_1 (Nat.le_of_ble_eq_true rfl) rfl (aw_aload_n (pc' := 5) (dt_X2_init 2 (4, .aload_n 0, 1) rfl) rfl rfl (aw_iload_n (pc' := 6) (dt_X2_init 3 (5, .iload_n 1, 1) rfl) rfl rfl (aw_putI (pc' := 9) (dt_X2_init 4 (6, .putfield 7, 3) rfl) fl_Lot_7 rfl (by decide +kernel) rfl (zK_new μ 2 0) (aw_aload_n (pc' := 10) (dt_X2_init 5 (9, .aload_n 0, 1) rfl) rfl rfl (aw_aload_n (pc' := 11) (dt_X2_init 6 (10, .aload_n 2, 1) rfl) rfl rfl (aw_putA (pc' := 14) (dt_X2_init 7 (11, .putfield 13, 3) rfl) fl_Lot_13 rfl (by decide +kernel) rfl (zK_new μ 2 0) (aw_aload_n (pc' := 15) (dt_X2_init 8 (14, .aload_n 0, 1) rfl) rfl rfl (aw_iload_n (pc' := 16) (dt_X2_init 9 (15, .iload_n 3, 1) rfl) rfl rfl (aw_putI (pc' := 19) (dt_X2_init 10 (16, .putfield 17, 3) rfl) fl_Lot_17 rfl (by decide +kernel) rfl (zK_new μ 2 0) (aw_ret (dt_X2_init 11 (19, .return_, 1) rfl) rfl (aw_stk (st' := [.ref (zN μ), .int (zI μ 11 13), .ref 13]) rfl (aw_aast (pc' := 72) (ci := 2) (dt_X10_lot 37 (71, .aastore, 1) rfl) (by decide) (by decide) (by decide) rfl rfl (sk_13 (hS.wNew.wI.wAd (zK_new μ 2 0) (by decide)).wI) (by decide) (zK_new μ 2 0) (vin_eq (sl_13 (hS.wNew.wI.wAd (zK_new μ 2 0) (by decide)).wI) g11) (aw_aload_n (pc' := 73) (dt_X10_lot 38 (72, .aload_n 0, 1) rfl) rfl rfl (aw_dup (pc' := 74) (dt_X10_lot 39 (73, .dup, 1) rfl) rfl rfl (aw_getI (pc' := 77) (dt_X10_lot 40 (74, .getfield 107, 3) rfl) fl_ReturnDesk_107 rfl rfl (sk_11 ((hS.wNew.wI.wAd (zK_new μ 2 0) (by decide)).wI.wAr (by decide))) (aw_iconst (pc' := 78) (v := 1) (dt_X10_lot 41 (77, .iconst 1, 1) rfl) (by decide) rfl (aw_iadd (pc' := 79) (dt_X10_lot 42 (78, .iadd, 1) rfl) rfl (aw_putI (pc' := 82) (dt_X10_lot 43 (79, .putfield 107, 3) rfl) fl_ReturnDesk_107 rfl (by decide +kernel) rfl (sk_11 ((hS.wNew.wI.wAd (zK_new μ 2 0) (by decide)).wI.wAr (by decide))) ?_))))))))))))))))))))))))))))))
                  refine aw_mem (fun μ12 eμ13 => ?_)
                  have h := h μ12 eμ13
                  have hS14 : Stat μ12 := by rw [eμ13]; exact ((hS.wNew.wI.wAd (zK_new μ 2 0) (by decide)).wI.wAr (by decide)).wI
                  have k15 : zK μ12 (zN μ) = 2 := by rw [eμ13]; exact (zK_new μ 2 0)
                  refine aw_aload_n (pc' := 83) (dt_X10_lot 44 (82, .aload_n 0, 1) rfl) rfl rfl (aw_getI (pc' := 86) (dt_X10_lot 45 (83, .getfield 107, 3) rfl) fl_ReturnDesk_107 rfl rfl (sk_11 hS14) (aw_iconst (pc' := 87) (v := 1) (dt_X10_lot 46 (86, .iconst 1, 1) rfl) (by decide) rfl (aw_isub (pc' := 88) (dt_X10_lot 47 (87, .isub, 1) rfl) rfl (aw_iret (dt_X10_lot 48 (88, .ireturn, 1) rfl) rfl rfl ?_))))
                  exact h
                · intro q10
                  have h := h.2 q10
                  refine aw_bipush (pc' := 48) (v := (-3)) (dt_X10_lot 24 (46, .bipush (-3), 2) rfl) (by decide) rfl (aw_iret (dt_X10_lot 25 (48, .ireturn, 1) rfl) rfl rfl ?_)
                  exact h

theorem t_X10_hours {E : ZE} {l : Launch} {d nc ns : Nat} {x1 : Int32} {μ : ZM} {K : Option Value → ZM → Prop} (hS : Stat μ) (h :
  (x1 < 1 →
    K (some (.int (-1))) μ) ∧
  (¬ x1 < 1 →
    (2400 < x1 →
      K (some (.int (-1))) μ) ∧
    (¬ 2400 < x1 →
      (x1 ≤ (71999 - (zI μ 11 17)) →
        K (some (.int (zI (sI μ 11 17 ((zI μ 11 17) + x1)) 11 17))) (sI μ 11 17 ((zI μ 11 17) + x1))) ∧
      (¬ x1 ≤ (71999 - (zI μ 11 17)) →
        K (some (.int (-1))) μ)))) : AW E l (d + 1) nc ns mX10_hours 0 [some (.ref 11), some (.int x1)] [] μ K := by
  refine aw_iload_n (pc' := 1) (dt_X10_hours 0 (0, .iload_n 1, 1) rfl) rfl rfl (aw_iconst (pc' := 2) (v := 1) (dt_X10_hours 1 (1, .iconst 1, 1) rfl) (by decide) rfl (aw_sipush (pc' := 5) (v := 2400) (dt_X10_hours 2 (2, .sipush 2400, 3) rfl) (by decide) rfl (aw_inS (pc' := 8) (nc1 := 0) (ns1 := 0) (nc := nc) (ns := ns) (ls' := [some (.int x1), some (.int 1), some (.int 2400)]) (y2 := mX10_within) (As := [.int x1, .int 1, .int 2400]) (rest := []) (dt_X10_hours 3 (5, .invokestatic 76, 3) rfl) ok_X10_within ln_ReturnDesk_76 sm_X10_within pr_X10_within rfl (Nat.le_of_ble_eq_true rfl) (Nat.le_of_ble_eq_true rfl) rfl rfl (aw_iload_n (pc' := 1) (dt_X10_within 0 (0, .iload_n 0, 1) rfl) rfl rfl (aw_iload_n (pc' := 2) (dt_X10_within 1 (1, .iload_n 1, 1) rfl) rfl rfl (aw_icmp_lt (pc' := 5) (tgt := 14) (dt_X10_within 2 (2, .if_icmp .lt 12, 3) rfl) (by decide) rfl ?_ ?_))))))
  · intro q1
    have h := h.1 q1
    refine aw_iconst (pc' := 15) (v := 0) (dt_X10_within 8 (14, .iconst 0, 1) rfl) (by decide) rfl (aw_iret (dt_X10_within 9 (15, .ireturn, 1) rfl) rfl rfl (aw_stk (st' := [.int 0]) rfl (aw_if_eq_T (pc' := 11) (tgt := 22) (dt_X10_hours 4 (8, .ifCond .eq 14, 3) rfl) (by decide) rfl (by decide) (aw_iconst (pc' := 23) (v := (-1)) (dt_X10_hours 11 (22, .iconst (-1), 1) rfl) (by decide) rfl (aw_iret (dt_X10_hours 12 (23, .ireturn, 1) rfl) rfl rfl ?_)))))
    exact h
  · intro q1
    have h := h.2 q1
    refine aw_iload_n (pc' := 6) (dt_X10_within 3 (5, .iload_n 0, 1) rfl) rfl rfl (aw_iload_n (pc' := 7) (dt_X10_within 4 (6, .iload_n 2, 1) rfl) rfl rfl (aw_icmp_gt (pc' := 10) (tgt := 14) (dt_X10_within 5 (7, .if_icmp .gt 7, 3) rfl) (by decide) rfl ?_ ?_))
    · intro q2
      have h := h.1 q2
      refine aw_iconst (pc' := 15) (v := 0) (dt_X10_within 8 (14, .iconst 0, 1) rfl) (by decide) rfl (aw_iret (dt_X10_within 9 (15, .ireturn, 1) rfl) rfl rfl (aw_stk (st' := [.int 0]) rfl (aw_if_eq_T (pc' := 11) (tgt := 22) (dt_X10_hours 4 (8, .ifCond .eq 14, 3) rfl) (by decide) rfl (by decide) (aw_iconst (pc' := 23) (v := (-1)) (dt_X10_hours 11 (22, .iconst (-1), 1) rfl) (by decide) rfl (aw_iret (dt_X10_hours 12 (23, .ireturn, 1) rfl) rfl rfl ?_)))))
      exact h
    · intro q2
      have h := h.2 q2
      refine aw_iconst (pc' := 11) (v := 1) (dt_X10_within 6 (10, .iconst 1, 1) rfl) (by decide) rfl (aw_goto (tgt := 15) (dt_X10_within 7 (11, .goto 4, 3) rfl) (by decide) (aw_iret (dt_X10_within 9 (15, .ireturn, 1) rfl) rfl rfl (aw_stk (st' := [.int 1]) rfl (aw_if_eq_F (pc' := 11) (tgt := 22) (dt_X10_hours 4 (8, .ifCond .eq 14, 3) rfl) (by decide) rfl (by decide) (aw_iload_n (pc' := 12) (dt_X10_hours 5 (11, .iload_n 1, 1) rfl) rfl rfl (aw_ldc (pc' := 14) (dt_X10_hours 6 (12, .ldc 113, 2) rfl) ct_ReturnDesk_113 rfl (aw_aload_n (pc' := 15) (dt_X10_hours 7 (14, .aload_n 0, 1) rfl) rfl rfl (aw_getI (pc' := 18) (dt_X10_hours 8 (15, .getfield 114, 3) rfl) fl_ReturnDesk_114 rfl rfl (sk_11 hS) (aw_isub (pc' := 19) (dt_X10_hours 9 (18, .isub, 1) rfl) rfl (aw_icmp_le (pc' := 22) (tgt := 24) (dt_X10_hours 10 (19, .if_icmp .le 5, 3) rfl) (by decide) rfl ?_ ?_))))))))))
      · intro q3
        have h := h.1 q3
        refine aw_aload_n (pc' := 25) (dt_X10_hours 13 (24, .aload_n 0, 1) rfl) rfl rfl (aw_dup (pc' := 26) (dt_X10_hours 14 (25, .dup, 1) rfl) rfl rfl (aw_getI (pc' := 29) (dt_X10_hours 15 (26, .getfield 114, 3) rfl) fl_ReturnDesk_114 rfl rfl (sk_11 hS) (aw_iload_n (pc' := 30) (dt_X10_hours 16 (29, .iload_n 1, 1) rfl) rfl rfl (aw_iadd (pc' := 31) (dt_X10_hours 17 (30, .iadd, 1) rfl) rfl (aw_putI (pc' := 34) (dt_X10_hours 18 (31, .putfield 114, 3) rfl) fl_ReturnDesk_114 rfl (by decide +kernel) rfl (sk_11 hS) (aw_aload_n (pc' := 35) (dt_X10_hours 19 (34, .aload_n 0, 1) rfl) rfl rfl (aw_getI (pc' := 38) (dt_X10_hours 20 (35, .getfield 114, 3) rfl) fl_ReturnDesk_114 rfl rfl (sk_11 hS.wI) (aw_iret (dt_X10_hours 21 (38, .ireturn, 1) rfl) rfl rfl ?_))))))))
        exact h
      · intro q3
        have h := h.2 q3
        refine aw_iconst (pc' := 23) (v := (-1)) (dt_X10_hours 11 (22, .iconst (-1), 1) rfl) (by decide) rfl (aw_iret (dt_X10_hours 12 (23, .ireturn, 1) rfl) rfl rfl ?_)
        exact h

theorem t_X10_till {E : ZE} {l : Launch} {d nc ns : Nat} {x1 : Int32} {μ : ZM} {K : Option Value → ZM → Prop} (hS : Stat μ) (h :
  (x1 < 1 →
    K (some (.int (-1))) μ) ∧
  (¬ x1 < 1 →
    (999999 < x1 →
      K (some (.int (-1))) μ) ∧
    (¬ 999999 < x1 →
      K (some (.int (zI (sI μ 17 2 ((zI μ 17 2) + x1)) 17 2))) (sI μ 17 2 ((zI μ 17 2) + x1))))) : AW E l (d + 1) nc ns mX10_till 0 [some (.ref 11), some (.int x1)] [] μ K := by
  refine aw_iload_n (pc' := 1) (dt_X10_till 0 (0, .iload_n 1, 1) rfl) rfl rfl (aw_iconst (pc' := 2) (v := 1) (dt_X10_till 1 (1, .iconst 1, 1) rfl) (by decide) rfl (aw_ldc (pc' := 4) (dt_X10_till 2 (2, .ldc 117, 2) rfl) ct_ReturnDesk_117 rfl (aw_inS (pc' := 7) (nc1 := 0) (ns1 := 0) (nc := nc) (ns := ns) (ls' := [some (.int x1), some (.int 1), some (.int 999999)]) (y2 := mX10_within) (As := [.int x1, .int 1, .int 999999]) (rest := []) (dt_X10_till 3 (4, .invokestatic 76, 3) rfl) ok_X10_within ln_ReturnDesk_76 sm_X10_within pr_X10_within rfl (Nat.le_of_ble_eq_true rfl) (Nat.le_of_ble_eq_true rfl) rfl rfl (aw_iload_n (pc' := 1) (dt_X10_within 0 (0, .iload_n 0, 1) rfl) rfl rfl (aw_iload_n (pc' := 2) (dt_X10_within 1 (1, .iload_n 1, 1) rfl) rfl rfl (aw_icmp_lt (pc' := 5) (tgt := 14) (dt_X10_within 2 (2, .if_icmp .lt 12, 3) rfl) (by decide) rfl ?_ ?_))))))
  · intro q1
    have h := h.1 q1
    refine aw_iconst (pc' := 15) (v := 0) (dt_X10_within 8 (14, .iconst 0, 1) rfl) (by decide) rfl (aw_iret (dt_X10_within 9 (15, .ireturn, 1) rfl) rfl rfl (aw_stk (st' := [.int 0]) rfl (aw_if_ne_F (pc' := 10) (tgt := 12) (dt_X10_till 4 (7, .ifCond .ne 5, 3) rfl) (by decide) rfl (by decide) (aw_iconst (pc' := 11) (v := (-1)) (dt_X10_till 5 (10, .iconst (-1), 1) rfl) (by decide) rfl (aw_iret (dt_X10_till 6 (11, .ireturn, 1) rfl) rfl rfl ?_)))))
    exact h
  · intro q1
    have h := h.2 q1
    refine aw_iload_n (pc' := 6) (dt_X10_within 3 (5, .iload_n 0, 1) rfl) rfl rfl (aw_iload_n (pc' := 7) (dt_X10_within 4 (6, .iload_n 2, 1) rfl) rfl rfl (aw_icmp_gt (pc' := 10) (tgt := 14) (dt_X10_within 5 (7, .if_icmp .gt 7, 3) rfl) (by decide) rfl ?_ ?_))
    · intro q2
      have h := h.1 q2
      refine aw_iconst (pc' := 15) (v := 0) (dt_X10_within 8 (14, .iconst 0, 1) rfl) (by decide) rfl (aw_iret (dt_X10_within 9 (15, .ireturn, 1) rfl) rfl rfl (aw_stk (st' := [.int 0]) rfl (aw_if_ne_F (pc' := 10) (tgt := 12) (dt_X10_till 4 (7, .ifCond .ne 5, 3) rfl) (by decide) rfl (by decide) (aw_iconst (pc' := 11) (v := (-1)) (dt_X10_till 5 (10, .iconst (-1), 1) rfl) (by decide) rfl (aw_iret (dt_X10_till 6 (11, .ireturn, 1) rfl) rfl rfl ?_)))))
      exact h
    · intro q2
      have h := h.2 q2
      refine aw_iconst (pc' := 11) (v := 1) (dt_X10_within 6 (10, .iconst 1, 1) rfl) (by decide) rfl (aw_goto (tgt := 15) (dt_X10_within 7 (11, .goto 4, 3) rfl) (by decide) (aw_iret (dt_X10_within 9 (15, .ireturn, 1) rfl) rfl rfl (aw_stk (st' := [.int 1]) rfl (aw_if_ne_T (pc' := 10) (tgt := 12) (dt_X10_till 4 (7, .ifCond .ne 5, 3) rfl) (by decide) rfl (by decide) (aw_aload_n (pc' := 13) (dt_X10_till 7 (12, .aload_n 0, 1) rfl) rfl rfl (aw_getAs (pc' := 16) (dt_X10_till 8 (13, .getfield 42, 3) rfl) fl_ReturnDesk_42 rfl rfl (sk_11 hS) (sa_11_5 hS) (aw_dup (pc' := 17) (dt_X10_till 9 (16, .dup, 1) rfl) rfl rfl (aw_getI (pc' := 20) (dt_X10_till 10 (17, .getfield 118, 3) rfl) fl_ReturnDesk_118 rfl rfl (sk_17 hS) (aw_iload_n (pc' := 21) (dt_X10_till 11 (20, .iload_n 1, 1) rfl) rfl rfl (aw_iadd (pc' := 22) (dt_X10_till 12 (21, .iadd, 1) rfl) rfl (aw_putI (pc' := 25) (dt_X10_till 13 (22, .putfield 118, 3) rfl) fl_ReturnDesk_118 rfl (by decide +kernel) rfl (sk_17 hS) (aw_aload_n (pc' := 26) (dt_X10_till 14 (25, .aload_n 0, 1) rfl) rfl rfl (aw_getAs (pc' := 29) (dt_X10_till 15 (26, .getfield 42, 3) rfl) fl_ReturnDesk_42 rfl rfl (sk_11 hS.wI) (sa_11_5 hS.wI) (aw_getI (pc' := 32) (dt_X10_till 16 (29, .getfield 118, 3) rfl) fl_ReturnDesk_118 rfl rfl (sk_17 hS.wI) (aw_iret (dt_X10_till 17 (32, .ireturn, 1) rfl) rfl rfl ?_)))))))))))))))
      exact h

theorem t_X10_sell {E : ZE} {l : Launch} {d nc ns : Nat} {x1 : Int32} {x2 : Int32} {x3 : Int32} {x4 : Int32} {x5 : Int32} {μ : ZM} {K : Option Value → ZM → Prop} (hS : Stat μ) (h :
  (x1 < 0 →
    K (some (.int (-1))) μ) ∧
  (¬ x1 < 0 →
    (((zI μ 11 13) - 1) < x1 →
      K (some (.int (-1))) μ) ∧
    (¬ ((zI μ 11 13) - 1) < x1 →
      (vp_in x1 60) ∧
      (zA μ 13 x1.toNatClampNeg = none →
        K (some (.int (-1))) μ) ∧
      (∀ b5, zA μ 13 x1.toNatClampNeg = some b5 →
        (x2 < 1 →
          K (some (.int (-1))) μ) ∧
        (¬ x2 < 1 →
          (999999 < x2 →
            K (some (.int (-1))) μ) ∧
          (¬ 999999 < x2 →
            (x3 < 0 →
              K (some (.int (-1))) μ) ∧
            (¬ x3 < 0 →
              (20999 < x3 →
                K (some (.int (-1))) μ) ∧
              (¬ 20999 < x3 →
                (x4 < 0 →
                  K (some (.int (-1))) μ) ∧
                (¬ x4 < 0 →
                  (999999 < x4 →
                    K (some (.int (-1))) μ) ∧
                  (¬ 999999 < x4 →
                    ((x4 - x4 / 100 * 100) ≤ 60 →
                      (x5 = (-1) →
                        AW E l (d + 2) (nc + 1) (ns + 20) mX10_sell 78 [some (.ref 11), none, some (.int x2), some (.int x3), some (.int x4), some (.int x5), some (.ref b5), none] [] μ K) ∧
                      (¬ x5 = (-1) →
                        (x5 < 0 →
                          K (some (.int (-1))) μ) ∧
                        (¬ x5 < 0 →
                          ((zI μ 17 1) ≤ x5 →
                            K (some (.int (-1))) μ) ∧
                          (¬ (zI μ 17 1) ≤ x5 →
                            (200 ≤ x5 →
                              K (some (.int (-1))) μ) ∧
                            (¬ 200 ≤ x5 →
                              AW E l (d + 2) (nc + 1) (ns + 20) mX10_sell 78 [some (.ref 11), none, some (.int x2), some (.int x3), some (.int x4), some (.int x5), some (.ref b5), none] [] μ K))))) ∧
                    (¬ (x4 - x4 / 100 * 100) ≤ 60 →
                      K (some (.int (-1))) μ))))))))))) : AW E l (d + 2) (nc + 1) (ns + 20) mX10_sell 0 [some (.ref 11), some (.int x1), some (.int x2), some (.int x3), some (.int x4), some (.int x5), none, none] [] μ K := by
  refine aw_aload_n (pc' := 1) (dt_X10_sell 0 (0, .aload_n 0, 1) rfl) rfl rfl (aw_iload_n (pc' := 2) (dt_X10_sell 1 (1, .iload_n 1, 1) rfl) rfl rfl (aw_inV (pc' := 5) (nc1 := 0) (ns1 := 0) (nc := (nc + 1)) (ns := (ns + 20)) (ls' := [some (.ref 11), some (.int x1)]) (y2 := mX10_lotAt) (As := [.int x1]) (rest := []) (a := 11) (dt_X10_sell 2 (2, .invokevirtual 121, 3) rfl) ok_X10_lotAt ln_ReturnDesk_121 im_X10_lotAt se_X10_lotAt pr_X10_lotAt (Or.inl ⟨by decide, rfl⟩) rfl (Nat.le_of_ble_eq_true rfl) (Nat.le_of_ble_eq_true rfl) rfl rfl (sk_11 hS) (aw_iload_n (pc' := 1) (dt_X10_lotAt 0 (0, .iload_n 1, 1) rfl) rfl rfl (aw_iconst (pc' := 2) (v := 0) (dt_X10_lotAt 1 (1, .iconst 0, 1) rfl) (by decide) rfl (aw_aload_n (pc' := 3) (dt_X10_lotAt 2 (2, .aload_n 0, 1) rfl) rfl rfl (aw_getI (pc' := 6) (dt_X10_lotAt 3 (3, .getfield 107, 3) rfl) fl_ReturnDesk_107 rfl rfl (sk_11 hS) (aw_iconst (pc' := 7) (v := 1) (dt_X10_lotAt 4 (6, .iconst 1, 1) rfl) (by decide) rfl (aw_isub (pc' := 8) (dt_X10_lotAt 5 (7, .isub, 1) rfl) rfl (aw_inS (pc' := 11) (nc1 := 0) (ns1 := 0) (nc := 0) (ns := 0) (ls' := [some (.int x1), some (.int 0), some (.int ((zI μ 11 13) - 1))]) (y2 := mX10_within) (As := [.int x1, .int 0, .int ((zI μ 11 13) - 1)]) (rest := []) (dt_X10_lotAt 6 (8, .invokestatic 76, 3) rfl) ok_X10_within ln_ReturnDesk_76 sm_X10_within pr_X10_within rfl (Nat.le_of_ble_eq_true rfl) (Nat.le_of_ble_eq_true rfl) rfl rfl (aw_iload_n (pc' := 1) (dt_X10_within 0 (0, .iload_n 0, 1) rfl) rfl rfl (aw_iload_n (pc' := 2) (dt_X10_within 1 (1, .iload_n 1, 1) rfl) rfl rfl (aw_icmp_lt (pc' := 5) (tgt := 14) (dt_X10_within 2 (2, .if_icmp .lt 12, 3) rfl) (by decide) rfl ?_ ?_))))))))))))
  · intro q1
    have h := h.1 q1
    refine aw_iconst (pc' := 15) (v := 0) (dt_X10_within 8 (14, .iconst 0, 1) rfl) (by decide) rfl (aw_iret (dt_X10_within 9 (15, .ireturn, 1) rfl) rfl rfl (aw_stk (st' := [.int 0]) rfl (aw_if_eq_T (pc' := 14) (tgt := 23) (dt_X10_lotAt 7 (11, .ifCond .eq 12, 3) rfl) (by decide) rfl (by decide) (aw_null (pc' := 24) (dt_X10_lotAt 13 (23, .aconst_null, 1) rfl) rfl (aw_aretN (dt_X10_lotAt 14 (24, .areturn, 1) rfl) rfl rfl (aw_stk (st' := [.null]) rfl (aw_astoreN (pc' := 7) (ls' := [some (.ref 11), some (.int x1), some (.int x2), some (.int x3), some (.int x4), some (.int x5), some (.null), none]) (dt_X10_sell 3 (5, .astore 6, 2) rfl) (by decide) rfl rfl (aw_aloadN (pc' := 9) (dt_X10_sell 4 (7, .aload 6, 2) rfl) rfl rfl (aw_ifnullN (tgt := 33) (dt_X10_sell 5 (9, .ifnull 24, 3) rfl) (by decide) (aw_iconst (pc' := 34) (v := (-1)) (dt_X10_sell 16 (33, .iconst (-1), 1) rfl) (by decide) rfl (aw_iret (dt_X10_sell 17 (34, .ireturn, 1) rfl) rfl rfl ?_)))))))))))
    exact h
  · intro q1
    have h := h.2 q1
    refine aw_iload_n (pc' := 6) (dt_X10_within 3 (5, .iload_n 0, 1) rfl) rfl rfl (aw_iload_n (pc' := 7) (dt_X10_within 4 (6, .iload_n 2, 1) rfl) rfl rfl (aw_icmp_gt (pc' := 10) (tgt := 14) (dt_X10_within 5 (7, .if_icmp .gt 7, 3) rfl) (by decide) rfl ?_ ?_))
    · intro q2
      have h := h.1 q2
      refine aw_iconst (pc' := 15) (v := 0) (dt_X10_within 8 (14, .iconst 0, 1) rfl) (by decide) rfl (aw_iret (dt_X10_within 9 (15, .ireturn, 1) rfl) rfl rfl (aw_stk (st' := [.int 0]) rfl (aw_if_eq_T (pc' := 14) (tgt := 23) (dt_X10_lotAt 7 (11, .ifCond .eq 12, 3) rfl) (by decide) rfl (by decide) (aw_null (pc' := 24) (dt_X10_lotAt 13 (23, .aconst_null, 1) rfl) rfl (aw_aretN (dt_X10_lotAt 14 (24, .areturn, 1) rfl) rfl rfl (aw_stk (st' := [.null]) rfl (aw_astoreN (pc' := 7) (ls' := [some (.ref 11), some (.int x1), some (.int x2), some (.int x3), some (.int x4), some (.int x5), some (.null), none]) (dt_X10_sell 3 (5, .astore 6, 2) rfl) (by decide) rfl rfl (aw_aloadN (pc' := 9) (dt_X10_sell 4 (7, .aload 6, 2) rfl) rfl rfl (aw_ifnullN (tgt := 33) (dt_X10_sell 5 (9, .ifnull 24, 3) rfl) (by decide) (aw_iconst (pc' := 34) (v := (-1)) (dt_X10_sell 16 (33, .iconst (-1), 1) rfl) (by decide) rfl (aw_iret (dt_X10_sell 17 (34, .ireturn, 1) rfl) rfl rfl ?_)))))))))))
      exact h
    · intro q2
      have h := h.2 q2
      obtain ⟨g3, h⟩ := h
      refine aw_iconst (pc' := 11) (v := 1) (dt_X10_within 6 (10, .iconst 1, 1) rfl) (by decide) rfl (aw_goto (tgt := 15) (dt_X10_within 7 (11, .goto 4, 3) rfl) (by decide) (aw_iret (dt_X10_within 9 (15, .ireturn, 1) rfl) rfl rfl (aw_stk (st' := [.int 1]) rfl (aw_if_eq_F (pc' := 14) (tgt := 23) (dt_X10_lotAt 7 (11, .ifCond .eq 12, 3) rfl) (by decide) rfl (by decide) (aw_aload_n (pc' := 15) (dt_X10_lotAt 8 (14, .aload_n 0, 1) rfl) rfl rfl (aw_getAs (pc' := 18) (dt_X10_lotAt 9 (15, .getfield 17, 3) rfl) fl_ReturnDesk_17 rfl rfl (sk_11 hS) (sa_11_1 hS) (aw_iload_n (pc' := 19) (dt_X10_lotAt 10 (18, .iload_n 1, 1) rfl) rfl rfl (aw_aald (pc' := 20) (dt_X10_lotAt 11 (19, .aaload, 1) rfl) (by decide) (by decide) rfl (sk_13 hS) (vin_eq (sl_13 hS) g3) ?_ ?_))))))))
      · intro e4
        have h := h.1 e4
        refine aw_goto (tgt := 24) (dt_X10_lotAt 12 (20, .goto 4, 3) rfl) (by decide) (aw_aretN (dt_X10_lotAt 14 (24, .areturn, 1) rfl) rfl rfl (aw_stk (st' := [.null]) rfl (aw_astoreN (pc' := 7) (ls' := [some (.ref 11), some (.int x1), some (.int x2), some (.int x3), some (.int x4), some (.int x5), some (.null), none]) (dt_X10_sell 3 (5, .astore 6, 2) rfl) (by decide) rfl rfl (aw_aloadN (pc' := 9) (dt_X10_sell 4 (7, .aload 6, 2) rfl) rfl rfl (aw_ifnullN (tgt := 33) (dt_X10_sell 5 (9, .ifnull 24, 3) rfl) (by decide) (aw_iconst (pc' := 34) (v := (-1)) (dt_X10_sell 16 (33, .iconst (-1), 1) rfl) (by decide) rfl (aw_iret (dt_X10_sell 17 (34, .ireturn, 1) rfl) rfl rfl ?_)))))))
        exact h
      · intro b5 e4
        have h := h.2 b5 e4
        refine aw_goto (tgt := 24) (dt_X10_lotAt 12 (20, .goto 4, 3) rfl) (by decide) (aw_aret (dt_X10_lotAt 14 (24, .areturn, 1) rfl) rfl rfl (aw_stk (st' := [.ref b5]) rfl (aw_astore (pc' := 7) (ls' := [some (.ref 11), some (.int x1), some (.int x2), some (.int x3), some (.int x4), some (.int x5), some (.ref b5), none]) (dt_X10_sell 3 (5, .astore 6, 2) rfl) (by decide) rfl rfl (aw_aload (pc' := 9) (dt_X10_sell 4 (7, .aload 6, 2) rfl) rfl rfl (aw_ifnull (pc' := 12) (dt_X10_sell 5 (9, .ifnull 24, 3) rfl) rfl (aw_iload_n (pc' := 13) (dt_X10_sell 6 (12, .iload_n 2, 1) rfl) rfl rfl (aw_iconst (pc' := 14) (v := 1) (dt_X10_sell 7 (13, .iconst 1, 1) rfl) (by decide) rfl (aw_ldc (pc' := 16) (dt_X10_sell 8 (14, .ldc 117, 2) rfl) ct_ReturnDesk_117 rfl (aw_inS (pc' := 19) (nc1 := 0) (ns1 := 0) (nc := (nc + 1)) (ns := (ns + 20)) (ls' := [some (.int x2), some (.int 1), some (.int 999999)]) (y2 := mX10_within) (As := [.int x2, .int 1, .int 999999]) (rest := []) (dt_X10_sell 9 (16, .invokestatic 76, 3) rfl) ok_X10_within ln_ReturnDesk_76 sm_X10_within pr_X10_within rfl (Nat.le_of_ble_eq_true rfl) (Nat.le_of_ble_eq_true rfl) rfl rfl (aw_iload_n (pc' := 1) (dt_X10_within 0 (0, .iload_n 0, 1) rfl) rfl rfl (aw_iload_n (pc' := 2) (dt_X10_within 1 (1, .iload_n 1, 1) rfl) rfl rfl (aw_icmp_lt (pc' := 5) (tgt := 14) (dt_X10_within 2 (2, .if_icmp .lt 12, 3) rfl) (by decide) rfl ?_ ?_))))))))))))
        · intro q6
          have h := h.1 q6
          refine aw_iconst (pc' := 15) (v := 0) (dt_X10_within 8 (14, .iconst 0, 1) rfl) (by decide) rfl (aw_iret (dt_X10_within 9 (15, .ireturn, 1) rfl) rfl rfl (aw_stk (st' := [.int 0]) rfl (aw_if_eq_T (pc' := 22) (tgt := 33) (dt_X10_sell 10 (19, .ifCond .eq 14, 3) rfl) (by decide) rfl (by decide) (aw_iconst (pc' := 34) (v := (-1)) (dt_X10_sell 16 (33, .iconst (-1), 1) rfl) (by decide) rfl (aw_iret (dt_X10_sell 17 (34, .ireturn, 1) rfl) rfl rfl ?_)))))
          exact h
        · intro q6
          have h := h.2 q6
          refine aw_iload_n (pc' := 6) (dt_X10_within 3 (5, .iload_n 0, 1) rfl) rfl rfl (aw_iload_n (pc' := 7) (dt_X10_within 4 (6, .iload_n 2, 1) rfl) rfl rfl (aw_icmp_gt (pc' := 10) (tgt := 14) (dt_X10_within 5 (7, .if_icmp .gt 7, 3) rfl) (by decide) rfl ?_ ?_))
          · intro q7
            have h := h.1 q7
            refine aw_iconst (pc' := 15) (v := 0) (dt_X10_within 8 (14, .iconst 0, 1) rfl) (by decide) rfl (aw_iret (dt_X10_within 9 (15, .ireturn, 1) rfl) rfl rfl (aw_stk (st' := [.int 0]) rfl (aw_if_eq_T (pc' := 22) (tgt := 33) (dt_X10_sell 10 (19, .ifCond .eq 14, 3) rfl) (by decide) rfl (by decide) (aw_iconst (pc' := 34) (v := (-1)) (dt_X10_sell 16 (33, .iconst (-1), 1) rfl) (by decide) rfl (aw_iret (dt_X10_sell 17 (34, .ireturn, 1) rfl) rfl rfl ?_)))))
            exact h
          · intro q7
            have h := h.2 q7
            refine aw_iconst (pc' := 11) (v := 1) (dt_X10_within 6 (10, .iconst 1, 1) rfl) (by decide) rfl (aw_goto (tgt := 15) (dt_X10_within 7 (11, .goto 4, 3) rfl) (by decide) (aw_iret (dt_X10_within 9 (15, .ireturn, 1) rfl) rfl rfl (aw_stk (st' := [.int 1]) rfl (aw_if_eq_F (pc' := 22) (tgt := 33) (dt_X10_sell 10 (19, .ifCond .eq 14, 3) rfl) (by decide) rfl (by decide) (aw_iload_n (pc' := 23) (dt_X10_sell 11 (22, .iload_n 3, 1) rfl) rfl rfl (aw_iconst (pc' := 24) (v := 0) (dt_X10_sell 12 (23, .iconst 0, 1) rfl) (by decide) rfl (aw_sipush (pc' := 27) (v := 20999) (dt_X10_sell 13 (24, .sipush 20999, 3) rfl) (by decide) rfl (aw_inS (pc' := 30) (nc1 := 0) (ns1 := 0) (nc := (nc + 1)) (ns := (ns + 20)) (ls' := [some (.int x3), some (.int 0), some (.int 20999)]) (y2 := mX10_within) (As := [.int x3, .int 0, .int 20999]) (rest := []) (dt_X10_sell 14 (27, .invokestatic 76, 3) rfl) ok_X10_within ln_ReturnDesk_76 sm_X10_within pr_X10_within rfl (Nat.le_of_ble_eq_true rfl) (Nat.le_of_ble_eq_true rfl) rfl rfl (aw_iload_n (pc' := 1) (dt_X10_within 0 (0, .iload_n 0, 1) rfl) rfl rfl (aw_iload_n (pc' := 2) (dt_X10_within 1 (1, .iload_n 1, 1) rfl) rfl rfl (aw_icmp_lt (pc' := 5) (tgt := 14) (dt_X10_within 2 (2, .if_icmp .lt 12, 3) rfl) (by decide) rfl ?_ ?_)))))))))))
            · intro q8
              have h := h.1 q8
              refine aw_iconst (pc' := 15) (v := 0) (dt_X10_within 8 (14, .iconst 0, 1) rfl) (by decide) rfl (aw_iret (dt_X10_within 9 (15, .ireturn, 1) rfl) rfl rfl (aw_stk (st' := [.int 0]) rfl (aw_if_ne_F (pc' := 33) (tgt := 35) (dt_X10_sell 15 (30, .ifCond .ne 5, 3) rfl) (by decide) rfl (by decide) (aw_iconst (pc' := 34) (v := (-1)) (dt_X10_sell 16 (33, .iconst (-1), 1) rfl) (by decide) rfl (aw_iret (dt_X10_sell 17 (34, .ireturn, 1) rfl) rfl rfl ?_)))))
              exact h
            · intro q8
              have h := h.2 q8
              refine aw_iload_n (pc' := 6) (dt_X10_within 3 (5, .iload_n 0, 1) rfl) rfl rfl (aw_iload_n (pc' := 7) (dt_X10_within 4 (6, .iload_n 2, 1) rfl) rfl rfl (aw_icmp_gt (pc' := 10) (tgt := 14) (dt_X10_within 5 (7, .if_icmp .gt 7, 3) rfl) (by decide) rfl ?_ ?_))
              · intro q9
                have h := h.1 q9
                refine aw_iconst (pc' := 15) (v := 0) (dt_X10_within 8 (14, .iconst 0, 1) rfl) (by decide) rfl (aw_iret (dt_X10_within 9 (15, .ireturn, 1) rfl) rfl rfl (aw_stk (st' := [.int 0]) rfl (aw_if_ne_F (pc' := 33) (tgt := 35) (dt_X10_sell 15 (30, .ifCond .ne 5, 3) rfl) (by decide) rfl (by decide) (aw_iconst (pc' := 34) (v := (-1)) (dt_X10_sell 16 (33, .iconst (-1), 1) rfl) (by decide) rfl (aw_iret (dt_X10_sell 17 (34, .ireturn, 1) rfl) rfl rfl ?_)))))
                exact h
              · intro q9
                have h := h.2 q9
                refine aw_iconst (pc' := 11) (v := 1) (dt_X10_within 6 (10, .iconst 1, 1) rfl) (by decide) rfl (aw_goto (tgt := 15) (dt_X10_within 7 (11, .goto 4, 3) rfl) (by decide) (aw_iret (dt_X10_within 9 (15, .ireturn, 1) rfl) rfl rfl (aw_stk (st' := [.int 1]) rfl (aw_if_ne_T (pc' := 33) (tgt := 35) (dt_X10_sell 15 (30, .ifCond .ne 5, 3) rfl) (by decide) rfl (by decide) (aw_iload (pc' := 37) (dt_X10_sell 18 (35, .iload 4, 2) rfl) rfl rfl (aw_iconst (pc' := 38) (v := 0) (dt_X10_sell 19 (37, .iconst 0, 1) rfl) (by decide) rfl (aw_ldc (pc' := 40) (dt_X10_sell 20 (38, .ldc 117, 2) rfl) ct_ReturnDesk_117 rfl (aw_inS (pc' := 43) (nc1 := 0) (ns1 := 0) (nc := (nc + 1)) (ns := (ns + 20)) (ls' := [some (.int x4), some (.int 0), some (.int 999999)]) (y2 := mX10_within) (As := [.int x4, .int 0, .int 999999]) (rest := []) (dt_X10_sell 21 (40, .invokestatic 76, 3) rfl) ok_X10_within ln_ReturnDesk_76 sm_X10_within pr_X10_within rfl (Nat.le_of_ble_eq_true rfl) (Nat.le_of_ble_eq_true rfl) rfl rfl (aw_iload_n (pc' := 1) (dt_X10_within 0 (0, .iload_n 0, 1) rfl) rfl rfl (aw_iload_n (pc' := 2) (dt_X10_within 1 (1, .iload_n 1, 1) rfl) rfl rfl (aw_icmp_lt (pc' := 5) (tgt := 14) (dt_X10_within 2 (2, .if_icmp .lt 12, 3) rfl) (by decide) rfl ?_ ?_)))))))))))
                · intro q10
                  have h := h.1 q10
                  refine aw_iconst (pc' := 15) (v := 0) (dt_X10_within 8 (14, .iconst 0, 1) rfl) (by decide) rfl (aw_iret (dt_X10_within 9 (15, .ireturn, 1) rfl) rfl rfl (aw_stk (st' := [.int 0]) rfl (aw_if_eq_T (pc' := 46) (tgt := 56) (dt_X10_sell 22 (43, .ifCond .eq 13, 3) rfl) (by decide) rfl (by decide) (aw_iconst (pc' := 57) (v := (-1)) (dt_X10_sell 28 (56, .iconst (-1), 1) rfl) (by decide) rfl (aw_iret (dt_X10_sell 29 (57, .ireturn, 1) rfl) rfl rfl ?_)))))
                  exact h
                · intro q10
                  have h := h.2 q10
                  refine aw_iload_n (pc' := 6) (dt_X10_within 3 (5, .iload_n 0, 1) rfl) rfl rfl (aw_iload_n (pc' := 7) (dt_X10_within 4 (6, .iload_n 2, 1) rfl) rfl rfl (aw_icmp_gt (pc' := 10) (tgt := 14) (dt_X10_within 5 (7, .if_icmp .gt 7, 3) rfl) (by decide) rfl ?_ ?_))
                  · intro q11
                    have h := h.1 q11
                    refine aw_iconst (pc' := 15) (v := 0) (dt_X10_within 8 (14, .iconst 0, 1) rfl) (by decide) rfl (aw_iret (dt_X10_within 9 (15, .ireturn, 1) rfl) rfl rfl (aw_stk (st' := [.int 0]) rfl (aw_if_eq_T (pc' := 46) (tgt := 56) (dt_X10_sell 22 (43, .ifCond .eq 13, 3) rfl) (by decide) rfl (by decide) (aw_iconst (pc' := 57) (v := (-1)) (dt_X10_sell 28 (56, .iconst (-1), 1) rfl) (by decide) rfl (aw_iret (dt_X10_sell 29 (57, .ireturn, 1) rfl) rfl rfl ?_)))))
                    exact h
                  · intro q11
                    have h := h.2 q11
                    refine aw_iconst (pc' := 11) (v := 1) (dt_X10_within 6 (10, .iconst 1, 1) rfl) (by decide) rfl (aw_goto (tgt := 15) (dt_X10_within 7 (11, .goto 4, 3) rfl) (by decide) (aw_iret (dt_X10_within 9 (15, .ireturn, 1) rfl) rfl rfl (aw_stk (st' := [.int 1]) rfl (aw_if_eq_F (pc' := 46) (tgt := 56) (dt_X10_sell 22 (43, .ifCond .eq 13, 3) rfl) (by decide) rfl (by decide) (aw_iload (pc' := 48) (dt_X10_sell 23 (46, .iload 4, 2) rfl) rfl rfl (aw_bipush (pc' := 50) (v := 100) (dt_X10_sell 24 (48, .bipush 100, 2) rfl) (by decide) rfl (aw_irem (pc' := 51) (dt_X10_sell 25 (50, .irem, 1) rfl) (by decide) rfl (aw_bipush (pc' := 53) (v := 60) (dt_X10_sell 26 (51, .bipush 60, 2) rfl) (by decide) rfl (aw_icmp_le (pc' := 56) (tgt := 58) (dt_X10_sell 27 (53, .if_icmp .le 5, 3) rfl) (by decide) rfl ?_ ?_)))))))))
                    · intro q12
                      have h := h.1 q12
                      refine aw_iload (pc' := 60) (dt_X10_sell 30 (58, .iload 5, 2) rfl) rfl rfl (aw_iconst (pc' := 61) (v := (-1)) (dt_X10_sell 31 (60, .iconst (-1), 1) rfl) (by decide) rfl (aw_icmp_eq (pc' := 64) (tgt := 78) (dt_X10_sell 32 (61, .if_icmp .eq 17, 3) rfl) (by decide) rfl ?_ ?_))
                      · intro q13
                        have h := h.1 q13
                        refine aw_drop (ls' := [some (.ref 11), none, some (.int x2), some (.int x3), some (.int x4), some (.int x5), some (.ref b5), none]) ⟨rfl, rfl, rfl, rfl, rfl, rfl, trivial⟩ ?_
                        exact h
                      · intro q13
                        have h := h.2 q13
                        refine aw_aload_n (pc' := 65) (dt_X10_sell 33 (64, .aload_n 0, 1) rfl) rfl rfl (aw_getAs (pc' := 68) (dt_X10_sell 34 (65, .getfield 42, 3) rfl) fl_ReturnDesk_42 rfl rfl (sk_11 hS) (sa_11_5 hS) (aw_iload (pc' := 70) (dt_X10_sell 35 (68, .iload 5, 2) rfl) rfl rfl (aw_inV (pc' := 73) (nc1 := 0) (ns1 := 0) (nc := (nc + 1)) (ns := (ns + 20)) (ls' := [some (.ref 17), some (.int x5)]) (y2 := mX5_hasNote) (As := [.int x5]) (rest := []) (a := 17) (dt_X10_sell 36 (70, .invokevirtual 125, 3) rfl) ok_X5_hasNote ln_ReturnDesk_125 im_X5_hasNote se_X5_hasNote pr_X5_hasNote (Or.inl ⟨by decide, rfl⟩) rfl (Nat.le_of_ble_eq_true rfl) (Nat.le_of_ble_eq_true rfl) rfl rfl (sk_17 hS) (aw_iload_n (pc' := 1) (dt_X5_hasNote 0 (0, .iload_n 1, 1) rfl) rfl rfl (aw_if_lt (pc' := 4) (tgt := 25) (dt_X5_hasNote 1 (1, .ifCond .lt 24, 3) rfl) (by decide) rfl ?_ ?_)))))
                        · intro q14
                          have h := h.1 q14
                          refine aw_iconst (pc' := 26) (v := 0) (dt_X5_hasNote 13 (25, .iconst 0, 1) rfl) (by decide) rfl (aw_iret (dt_X5_hasNote 14 (26, .ireturn, 1) rfl) rfl rfl (aw_stk (st' := [.int 0]) rfl (aw_if_ne_F (pc' := 76) (tgt := 78) (dt_X10_sell 37 (73, .ifCond .ne 5, 3) rfl) (by decide) rfl (by decide) (aw_iconst (pc' := 77) (v := (-1)) (dt_X10_sell 38 (76, .iconst (-1), 1) rfl) (by decide) rfl (aw_iret (dt_X10_sell 39 (77, .ireturn, 1) rfl) rfl rfl ?_)))))
                          exact h
                        · intro q14
                          have h := h.2 q14
                          refine aw_iload_n (pc' := 5) (dt_X5_hasNote 2 (4, .iload_n 1, 1) rfl) rfl rfl (aw_aload_n (pc' := 6) (dt_X5_hasNote 3 (5, .aload_n 0, 1) rfl) rfl rfl (aw_getI (pc' := 9) (dt_X5_hasNote 4 (6, .getfield 15, 3) rfl) fl_Purse_15 rfl rfl (sk_17 hS) (aw_icmp_ge (pc' := 12) (tgt := 25) (dt_X5_hasNote 5 (9, .if_icmp .ge 16, 3) rfl) (by decide) rfl ?_ ?_)))
                          · intro q15
                            have h := h.1 q15
                            refine aw_iconst (pc' := 26) (v := 0) (dt_X5_hasNote 13 (25, .iconst 0, 1) rfl) (by decide) rfl (aw_iret (dt_X5_hasNote 14 (26, .ireturn, 1) rfl) rfl rfl (aw_stk (st' := [.int 0]) rfl (aw_if_ne_F (pc' := 76) (tgt := 78) (dt_X10_sell 37 (73, .ifCond .ne 5, 3) rfl) (by decide) rfl (by decide) (aw_iconst (pc' := 77) (v := (-1)) (dt_X10_sell 38 (76, .iconst (-1), 1) rfl) (by decide) rfl (aw_iret (dt_X10_sell 39 (77, .ireturn, 1) rfl) rfl rfl ?_)))))
                            exact h
                          · intro q15
                            have h := h.2 q15
                            refine aw_iload_n (pc' := 13) (dt_X5_hasNote 6 (12, .iload_n 1, 1) rfl) rfl rfl (aw_aload_n (pc' := 14) (dt_X5_hasNote 7 (13, .aload_n 0, 1) rfl) rfl rfl (aw_getAs (pc' := 17) (dt_X5_hasNote 8 (14, .getfield 9, 3) rfl) fl_Purse_9 rfl rfl (sk_17 hS) (sa_17_0 hS) (aw_alens (pc' := 18) (n := 200) (v := 200) (dt_X5_hasNote 9 (17, .arraylength, 1) rfl) (by decide) (by decide) rfl (sk_18 hS) (sl_18 hS) (by decide) (aw_icmp_ge (pc' := 21) (tgt := 25) (dt_X5_hasNote 10 (18, .if_icmp .ge 7, 3) rfl) (by decide) rfl ?_ ?_))))
                            · intro q16
                              have h := h.1 q16
                              refine aw_iconst (pc' := 26) (v := 0) (dt_X5_hasNote 13 (25, .iconst 0, 1) rfl) (by decide) rfl (aw_iret (dt_X5_hasNote 14 (26, .ireturn, 1) rfl) rfl rfl (aw_stk (st' := [.int 0]) rfl (aw_if_ne_F (pc' := 76) (tgt := 78) (dt_X10_sell 37 (73, .ifCond .ne 5, 3) rfl) (by decide) rfl (by decide) (aw_iconst (pc' := 77) (v := (-1)) (dt_X10_sell 38 (76, .iconst (-1), 1) rfl) (by decide) rfl (aw_iret (dt_X10_sell 39 (77, .ireturn, 1) rfl) rfl rfl ?_)))))
                              exact h
                            · intro q16
                              have h := h.2 q16
                              refine aw_iconst (pc' := 22) (v := 1) (dt_X5_hasNote 11 (21, .iconst 1, 1) rfl) (by decide) rfl (aw_goto (tgt := 26) (dt_X5_hasNote 12 (22, .goto 4, 3) rfl) (by decide) (aw_iret (dt_X5_hasNote 14 (26, .ireturn, 1) rfl) rfl rfl (aw_stk (st' := [.int 1]) rfl (aw_if_ne_T (pc' := 76) (tgt := 78) (dt_X10_sell 37 (73, .ifCond .ne 5, 3) rfl) (by decide) rfl (by decide) (aw_drop (ls' := [some (.ref 11), none, some (.int x2), some (.int x3), some (.int x4), some (.int x5), some (.ref b5), none]) ⟨rfl, rfl, rfl, rfl, rfl, rfl, trivial⟩ ?_)))))
                              exact h
                    · intro q12
                      have h := h.2 q12
                      refine aw_iconst (pc' := 57) (v := (-1)) (dt_X10_sell 28 (56, .iconst (-1), 1) rfl) (by decide) rfl (aw_iret (dt_X10_sell 29 (57, .ireturn, 1) rfl) rfl rfl ?_)
                      exact h

theorem t_X10_sell_78 {E : ZE} {l : Launch} {d nc ns : Nat} {x2 : Int32} {x3 : Int32} {x4 : Int32} {x5 : Int32} {a6 : Nat} {μ : ZM} {K : Option Value → ZM → Prop} (hS : Stat μ) (h :
  (zK μ a6 = 2) ∧
  (0 < (zI μ a6 2) →
    ((zI μ 11 14) < 300 →
      (zA (sNew (sI μ a6 2 ((zI μ a6 2) - 1)) 7 0) a6 1 = none →
        False) ∧
      (∀ b5, zA (sNew (sI μ a6 2 ((zI μ a6 2) - 1)) 7 0) a6 1 = some b5 →
        (zK (sNew (sI μ a6 2 ((zI μ a6 2) - 1)) 7 0) b5 = 4) ∧
        AW E l (d + 1) 0 0 mX4_priceFor 0 (zargs 5 [.ref b5, .int ((zI (sNew (sI μ a6 2 ((zI μ a6 2) - 1)) 7 0) 11 17) / 24)]) [] (sNew (sI μ a6 2 ((zI μ a6 2) - 1)) 7 0) (fun v μ7 => ∃ r9 : Int32, v = some (.int r9) ∧ Stat μ7 ∧ 
          (zK μ7 (zN (sI μ a6 2 ((zI μ a6 2) - 1))) = 7) ∧
          ∀ μ11, μ11 = (sI (sI (sI (sI (sI (sI μ7 (zN (sI μ a6 2 ((zI μ a6 2) - 1))) 11 0) (zN (sI μ a6 2 ((zI μ a6 2) - 1))) 12 3000) (zN (sI μ a6 2 ((zI μ a6 2) - 1))) 13 3000) (zN (sI μ a6 2 ((zI μ a6 2) - 1))) 15 (-1)) (zN (sI μ a6 2 ((zI μ a6 2) - 1))) 16 (-1)) (zN (sI μ a6 2 ((zI μ a6 2) - 1))) 0 (zI (sNew (sI μ a6 2 ((zI μ a6 2) - 1)) 7 0) 11 14)) →
          (zK μ11 a6 = 2) ∧
          (zA μ11 a6 1 = none →
            ∀ μ18, μ18 = (sI (sI (sI (sA (sA μ11 (zN (sI μ a6 2 ((zI μ a6 2) - 1))) 1 none) (zN (sI μ a6 2 ((zI μ a6 2) - 1))) 2 (some a6)) (zN (sI μ a6 2 ((zI μ a6 2) - 1))) 3 x2) (zN (sI μ a6 2 ((zI μ a6 2) - 1))) 4 (x3 / 1000)) (zN (sI μ a6 2 ((zI μ a6 2) - 1))) 5 (x3 - x3 / 1000 * 1000)) →
            ∀ μ23, μ23 = (sI (sI (sI (sI μ18 (zN (sI μ a6 2 ((zI μ a6 2) - 1))) 6 (x4 / 100)) (zN (sI μ a6 2 ((zI μ a6 2) - 1))) 7 (x4 - x4 / 100 * 100)) (zN (sI μ a6 2 ((zI μ a6 2) - 1))) 8 (zI (sNew (sI μ a6 2 ((zI μ a6 2) - 1)) 7 0) 11 17)) (zN (sI μ a6 2 ((zI μ a6 2) - 1))) 9 r9) →
            (x5 < 0 →
              (vp_in (zI (sI μ23 17 2 ((zI μ23 17 2) + ((zI μ23 (zN (sI μ a6 2 ((zI μ a6 2) - 1))) 9) - 0))) 11 14) 300) ∧
              ∀ μ30, μ30 = (sI (sA (sI μ23 17 2 ((zI μ23 17 2) + ((zI μ23 (zN (sI μ a6 2 ((zI μ a6 2) - 1))) 9) - 0))) 14 (zI (sI μ23 17 2 ((zI μ23 17 2) + ((zI μ23 (zN (sI μ a6 2 ((zI μ a6 2) - 1))) 9) - 0))) 11 14).toNatClampNeg (some (zN (sI μ a6 2 ((zI μ a6 2) - 1))))) 11 14 ((zI (sA (sI μ23 17 2 ((zI μ23 17 2) + ((zI μ23 (zN (sI μ a6 2 ((zI μ a6 2) - 1))) 9) - 0))) 14 (zI (sI μ23 17 2 ((zI μ23 17 2) + ((zI μ23 (zN (sI μ a6 2 ((zI μ a6 2) - 1))) 9) - 0))) 11 14).toNatClampNeg (some (zN (sI μ a6 2 ((zI μ a6 2) - 1))))) 11 14) + 1)) →
              K (some (.int ((zI μ30 11 14) - 1))) μ30) ∧
            (¬ x5 < 0 →
              ((zI μ23 17 1) ≤ x5 →
                (vp_in (zI (sI μ23 17 2 ((zI μ23 17 2) + ((zI μ23 (zN (sI μ a6 2 ((zI μ a6 2) - 1))) 9) - 0))) 11 14) 300) ∧
                ∀ μ37, μ37 = (sI (sA (sI μ23 17 2 ((zI μ23 17 2) + ((zI μ23 (zN (sI μ a6 2 ((zI μ a6 2) - 1))) 9) - 0))) 14 (zI (sI μ23 17 2 ((zI μ23 17 2) + ((zI μ23 (zN (sI μ a6 2 ((zI μ a6 2) - 1))) 9) - 0))) 11 14).toNatClampNeg (some (zN (sI μ a6 2 ((zI μ a6 2) - 1))))) 11 14 ((zI (sA (sI μ23 17 2 ((zI μ23 17 2) + ((zI μ23 (zN (sI μ a6 2 ((zI μ a6 2) - 1))) 9) - 0))) 14 (zI (sI μ23 17 2 ((zI μ23 17 2) + ((zI μ23 (zN (sI μ a6 2 ((zI μ a6 2) - 1))) 9) - 0))) 11 14).toNatClampNeg (some (zN (sI μ a6 2 ((zI μ a6 2) - 1))))) 11 14) + 1)) →
                K (some (.int ((zI μ37 11 14) - 1))) μ37) ∧
              (¬ (zI μ23 17 1) ≤ x5 →
                (200 ≤ x5 →
                  (vp_in (zI (sI μ23 17 2 ((zI μ23 17 2) + ((zI μ23 (zN (sI μ a6 2 ((zI μ a6 2) - 1))) 9) - 0))) 11 14) 300) ∧
                  ∀ μ44, μ44 = (sI (sA (sI μ23 17 2 ((zI μ23 17 2) + ((zI μ23 (zN (sI μ a6 2 ((zI μ a6 2) - 1))) 9) - 0))) 14 (zI (sI μ23 17 2 ((zI μ23 17 2) + ((zI μ23 (zN (sI μ a6 2 ((zI μ a6 2) - 1))) 9) - 0))) 11 14).toNatClampNeg (some (zN (sI μ a6 2 ((zI μ a6 2) - 1))))) 11 14 ((zI (sA (sI μ23 17 2 ((zI μ23 17 2) + ((zI μ23 (zN (sI μ a6 2 ((zI μ a6 2) - 1))) 9) - 0))) 14 (zI (sI μ23 17 2 ((zI μ23 17 2) + ((zI μ23 (zN (sI μ a6 2 ((zI μ a6 2) - 1))) 9) - 0))) 11 14).toNatClampNeg (some (zN (sI μ a6 2 ((zI μ a6 2) - 1))))) 11 14) + 1)) →
                  K (some (.int ((zI μ44 11 14) - 1))) μ44) ∧
                (¬ 200 ≤ x5 →
                  (vp_in x5 200) ∧
                  (vp_in x5 200) ∧
                  (vp_in x5 200) ∧
                  ∀ μ52, μ52 = (sI (sI μ23 18 x5.toNatClampNeg ((zI μ23 18 x5.toNatClampNeg) - (if (zI μ23 (zN (sI μ a6 2 ((zI μ a6 2) - 1))) 9) < (zI μ23 18 x5.toNatClampNeg) then (zI μ23 (zN (sI μ a6 2 ((zI μ a6 2) - 1))) 9) else (zI μ23 18 x5.toNatClampNeg)))) 17 2 ((zI μ23 17 2) + ((zI μ23 (zN (sI μ a6 2 ((zI μ a6 2) - 1))) 9) - (if (zI μ23 (zN (sI μ a6 2 ((zI μ a6 2) - 1))) 9) < (zI μ23 18 x5.toNatClampNeg) then (zI μ23 (zN (sI μ a6 2 ((zI μ a6 2) - 1))) 9) else (zI μ23 18 x5.toNatClampNeg))))) →
                  (vp_in (zI μ52 11 14) 300) ∧
                  K (some (.int ((zI (sI (sA μ52 14 (zI μ52 11 14).toNatClampNeg (some (zN (sI μ a6 2 ((zI μ a6 2) - 1))))) 11 14 ((zI (sA μ52 14 (zI μ52 11 14).toNatClampNeg (some (zN (sI μ a6 2 ((zI μ a6 2) - 1))))) 11 14) + 1)) 11 14) - 1))) (sI (sA μ52 14 (zI μ52 11 14).toNatClampNeg (some (zN (sI μ a6 2 ((zI μ a6 2) - 1))))) 11 14 ((zI (sA μ52 14 (zI μ52 11 14).toNatClampNeg (some (zN (sI μ a6 2 ((zI μ a6 2) - 1))))) 11 14) + 1)))))) ∧
          (∀ b17, zA μ11 a6 1 = some b17 →
            ∀ μ58, μ58 = (sI (sI (sI (sA (sA μ11 (zN (sI μ a6 2 ((zI μ a6 2) - 1))) 1 (some b17)) (zN (sI μ a6 2 ((zI μ a6 2) - 1))) 2 (some a6)) (zN (sI μ a6 2 ((zI μ a6 2) - 1))) 3 x2) (zN (sI μ a6 2 ((zI μ a6 2) - 1))) 4 (x3 / 1000)) (zN (sI μ a6 2 ((zI μ a6 2) - 1))) 5 (x3 - x3 / 1000 * 1000)) →
            ∀ μ63, μ63 = (sI (sI (sI (sI μ58 (zN (sI μ a6 2 ((zI μ a6 2) - 1))) 6 (x4 / 100)) (zN (sI μ a6 2 ((zI μ a6 2) - 1))) 7 (x4 - x4 / 100 * 100)) (zN (sI μ a6 2 ((zI μ a6 2) - 1))) 8 (zI (sNew (sI μ a6 2 ((zI μ a6 2) - 1)) 7 0) 11 17)) (zN (sI μ a6 2 ((zI μ a6 2) - 1))) 9 r9) →
            (x5 < 0 →
              (vp_in (zI (sI μ63 17 2 ((zI μ63 17 2) + ((zI μ63 (zN (sI μ a6 2 ((zI μ a6 2) - 1))) 9) - 0))) 11 14) 300) ∧
              ∀ μ70, μ70 = (sI (sA (sI μ63 17 2 ((zI μ63 17 2) + ((zI μ63 (zN (sI μ a6 2 ((zI μ a6 2) - 1))) 9) - 0))) 14 (zI (sI μ63 17 2 ((zI μ63 17 2) + ((zI μ63 (zN (sI μ a6 2 ((zI μ a6 2) - 1))) 9) - 0))) 11 14).toNatClampNeg (some (zN (sI μ a6 2 ((zI μ a6 2) - 1))))) 11 14 ((zI (sA (sI μ63 17 2 ((zI μ63 17 2) + ((zI μ63 (zN (sI μ a6 2 ((zI μ a6 2) - 1))) 9) - 0))) 14 (zI (sI μ63 17 2 ((zI μ63 17 2) + ((zI μ63 (zN (sI μ a6 2 ((zI μ a6 2) - 1))) 9) - 0))) 11 14).toNatClampNeg (some (zN (sI μ a6 2 ((zI μ a6 2) - 1))))) 11 14) + 1)) →
              K (some (.int ((zI μ70 11 14) - 1))) μ70) ∧
            (¬ x5 < 0 →
              ((zI μ63 17 1) ≤ x5 →
                (vp_in (zI (sI μ63 17 2 ((zI μ63 17 2) + ((zI μ63 (zN (sI μ a6 2 ((zI μ a6 2) - 1))) 9) - 0))) 11 14) 300) ∧
                ∀ μ77, μ77 = (sI (sA (sI μ63 17 2 ((zI μ63 17 2) + ((zI μ63 (zN (sI μ a6 2 ((zI μ a6 2) - 1))) 9) - 0))) 14 (zI (sI μ63 17 2 ((zI μ63 17 2) + ((zI μ63 (zN (sI μ a6 2 ((zI μ a6 2) - 1))) 9) - 0))) 11 14).toNatClampNeg (some (zN (sI μ a6 2 ((zI μ a6 2) - 1))))) 11 14 ((zI (sA (sI μ63 17 2 ((zI μ63 17 2) + ((zI μ63 (zN (sI μ a6 2 ((zI μ a6 2) - 1))) 9) - 0))) 14 (zI (sI μ63 17 2 ((zI μ63 17 2) + ((zI μ63 (zN (sI μ a6 2 ((zI μ a6 2) - 1))) 9) - 0))) 11 14).toNatClampNeg (some (zN (sI μ a6 2 ((zI μ a6 2) - 1))))) 11 14) + 1)) →
                K (some (.int ((zI μ77 11 14) - 1))) μ77) ∧
              (¬ (zI μ63 17 1) ≤ x5 →
                (200 ≤ x5 →
                  (vp_in (zI (sI μ63 17 2 ((zI μ63 17 2) + ((zI μ63 (zN (sI μ a6 2 ((zI μ a6 2) - 1))) 9) - 0))) 11 14) 300) ∧
                  ∀ μ84, μ84 = (sI (sA (sI μ63 17 2 ((zI μ63 17 2) + ((zI μ63 (zN (sI μ a6 2 ((zI μ a6 2) - 1))) 9) - 0))) 14 (zI (sI μ63 17 2 ((zI μ63 17 2) + ((zI μ63 (zN (sI μ a6 2 ((zI μ a6 2) - 1))) 9) - 0))) 11 14).toNatClampNeg (some (zN (sI μ a6 2 ((zI μ a6 2) - 1))))) 11 14 ((zI (sA (sI μ63 17 2 ((zI μ63 17 2) + ((zI μ63 (zN (sI μ a6 2 ((zI μ a6 2) - 1))) 9) - 0))) 14 (zI (sI μ63 17 2 ((zI μ63 17 2) + ((zI μ63 (zN (sI μ a6 2 ((zI μ a6 2) - 1))) 9) - 0))) 11 14).toNatClampNeg (some (zN (sI μ a6 2 ((zI μ a6 2) - 1))))) 11 14) + 1)) →
                  K (some (.int ((zI μ84 11 14) - 1))) μ84) ∧
                (¬ 200 ≤ x5 →
                  (vp_in x5 200) ∧
                  (vp_in x5 200) ∧
                  (vp_in x5 200) ∧
                  ∀ μ92, μ92 = (sI (sI μ63 18 x5.toNatClampNeg ((zI μ63 18 x5.toNatClampNeg) - (if (zI μ63 (zN (sI μ a6 2 ((zI μ a6 2) - 1))) 9) < (zI μ63 18 x5.toNatClampNeg) then (zI μ63 (zN (sI μ a6 2 ((zI μ a6 2) - 1))) 9) else (zI μ63 18 x5.toNatClampNeg)))) 17 2 ((zI μ63 17 2) + ((zI μ63 (zN (sI μ a6 2 ((zI μ a6 2) - 1))) 9) - (if (zI μ63 (zN (sI μ a6 2 ((zI μ a6 2) - 1))) 9) < (zI μ63 18 x5.toNatClampNeg) then (zI μ63 (zN (sI μ a6 2 ((zI μ a6 2) - 1))) 9) else (zI μ63 18 x5.toNatClampNeg))))) →
                  (vp_in (zI μ92 11 14) 300) ∧
                  K (some (.int ((zI (sI (sA μ92 14 (zI μ92 11 14).toNatClampNeg (some (zN (sI μ a6 2 ((zI μ a6 2) - 1))))) 11 14 ((zI (sA μ92 14 (zI μ92 11 14).toNatClampNeg (some (zN (sI μ a6 2 ((zI μ a6 2) - 1))))) 11 14) + 1)) 11 14) - 1))) (sI (sA μ92 14 (zI μ92 11 14).toNatClampNeg (some (zN (sI μ a6 2 ((zI μ a6 2) - 1))))) 11 14 ((zI (sA μ92 14 (zI μ92 11 14).toNatClampNeg (some (zN (sI μ a6 2 ((zI μ a6 2) - 1))))) 11 14) + 1))))))))) ∧
    (¬ (zI μ 11 14) < 300 →
      K (some (.int (-3))) μ)) ∧
  (¬ 0 < (zI μ a6 2) →
    K (some (.int (-2))) μ)) : AW E l (d + 2) (nc + 1) (ns + 20) mX10_sell 78 [some (.ref 11), none, some (.int x2), some (.int x3), some (.int x4), some (.int x5), some (.ref a6), none] [] μ K := by
  obtain ⟨g1, h⟩ := h
  refine aw_aload (pc' := 80) (dt_X10_sell 40 (78, .aload 6, 2) rfl) rfl rfl (aw_getI (pc' := 83) (dt_X10_sell 41 (80, .getfield 128, 3) rfl) fl_ReturnDesk_128 rfl rfl g1 (aw_if_gt (pc' := 86) (tgt := 89) (dt_X10_sell 42 (83, .ifCond .gt 6, 3) rfl) (by decide) rfl ?_ ?_))
  · intro q2
    have h := h.1 q2
    refine aw_aload_n (pc' := 90) (dt_X10_sell 45 (89, .aload_n 0, 1) rfl) rfl rfl (aw_getI (pc' := 93) (dt_X10_sell 46 (90, .getfield 131, 3) rfl) fl_ReturnDesk_131 rfl rfl (sk_11 hS) (aw_aload_n (pc' := 94) (dt_X10_sell 47 (93, .aload_n 0, 1) rfl) rfl rfl (aw_getAs (pc' := 97) (dt_X10_sell 48 (94, .getfield 23, 3) rfl) fl_ReturnDesk_23 rfl rfl (sk_11 hS) (sa_11_2 hS) (aw_alens (pc' := 98) (n := 300) (v := 300) (dt_X10_sell 49 (97, .arraylength, 1) rfl) (by decide) (by decide) rfl (sk_14 hS) (sl_14 hS) (by decide) (aw_icmp_lt (pc' := 101) (tgt := 104) (dt_X10_sell 50 (98, .if_icmp .lt 6, 3) rfl) (by decide) rfl ?_ ?_)))))
    · intro q3
      have h := h.1 q3
      refine aw_aload (pc' := 106) (dt_X10_sell 53 (104, .aload 6, 2) rfl) rfl rfl (aw_dup (pc' := 107) (dt_X10_sell 54 (106, .dup, 1) rfl) rfl rfl (aw_getI (pc' := 110) (dt_X10_sell 55 (107, .getfield 128, 3) rfl) fl_ReturnDesk_128 rfl rfl g1 (aw_iconst (pc' := 111) (v := 1) (dt_X10_sell 56 (110, .iconst 1, 1) rfl) (by decide) rfl (aw_isub (pc' := 112) (dt_X10_sell 57 (111, .isub, 1) rfl) rfl (aw_putI (pc' := 115) (dt_X10_sell 58 (112, .putfield 128, 3) rfl) fl_ReturnDesk_128 rfl (by decide +kernel) rfl g1 (aw_new (pc' := 118) (ci := 7) (n := 20) (dt_X10_sell 59 (115, .new 21, 3) rfl) (by decide) rfl cn_ReturnDesk_21 ci_7 cj_7 rfl (aw_dup (pc' := 119) (dt_X10_sell 60 (118, .dup, 1) rfl) rfl rfl (aw_aload_n (pc' := 120) (dt_X10_sell 61 (119, .aload_n 0, 1) rfl) rfl rfl (aw_getI (pc' := 123) (dt_X10_sell 62 (120, .getfield 131, 3) rfl) fl_ReturnDesk_131 rfl rfl (sk_11 hS.wI.wNew) (aw_aload (pc' := 125) (dt_X10_sell 63 (123, .aload 6, 2) rfl) rfl rfl (aw_iload_n (pc' := 126) (dt_X10_sell 64 (125, .iload_n 2, 1) rfl) rfl rfl (aw_iload_n (pc' := 127) (dt_X10_sell 65 (126, .iload_n 3, 1) rfl) rfl rfl (aw_iload (pc' := 129) (dt_X10_sell 66 (127, .iload 4, 2) rfl) rfl rfl (aw_aload_n (pc' := 130) (dt_X10_sell 67 (129, .aload_n 0, 1) rfl) rfl rfl (aw_getI (pc' := 133) (dt_X10_sell 68 (130, .getfield 114, 3) rfl) fl_ReturnDesk_114 rfl rfl (sk_11 hS.wI.wNew) (aw_aload (pc' := 135) (dt_X10_sell 69 (133, .aload 6, 2) rfl) rfl rfl (aw_getA (pc' := 138) (dt_X10_sell 70 (135, .getfield 134, 3) rfl) fl_ReturnDesk_134 rfl rfl (zK_keep (k := 7) (n := 0) hS.wI g1 (by decide)) ?_ ?_)))))))))))))))))
      · intro e4
        have h := h.1 e4
        refine aw_aload_n (pc' := 139) (dt_X10_sell 71 (138, .aload_n 0, 1) rfl) rfl rfl (aw_inV (pc' := 142) (nc1 := 0) (ns1 := 0) (nc := nc) (ns := ns) (ls' := [some (.ref 11)]) (y2 := mX10_today) (As := []) (rest := [.null, .int (zI (sNew (sI μ a6 2 ((zI μ a6 2) - 1)) 7 0) 11 17), .int x4, .int x3, .int x2, .ref a6, .int (zI (sNew (sI μ a6 2 ((zI μ a6 2) - 1)) 7 0) 11 14), .ref (zN (sI μ a6 2 ((zI μ a6 2) - 1))), .ref (zN (sI μ a6 2 ((zI μ a6 2) - 1)))]) (a := 11) (dt_X10_sell 72 (139, .invokevirtual 138, 3) rfl) ok_X10_today ln_ReturnDesk_138 im_X10_today se_X10_today pr_X10_today (Or.inl ⟨by decide, rfl⟩) rfl (Nat.le_of_ble_eq_true rfl) (Nat.le_of_ble_eq_true rfl) rfl rfl (sk_11 hS.wI.wNew) (aw_aload_n (pc' := 1) (dt_X10_today 0 (0, .aload_n 0, 1) rfl) rfl rfl (aw_getI (pc' := 4) (dt_X10_today 1 (1, .getfield 114, 3) rfl) fl_ReturnDesk_114 rfl rfl (sk_11 hS.wI.wNew) (aw_bipush (pc' := 6) (v := 24) (dt_X10_today 2 (4, .bipush 24, 2) rfl) (by decide) rfl (aw_idiv (pc' := 7) (dt_X10_today 3 (6, .idiv, 1) rfl) (by decide) rfl (aw_iret (dt_X10_today 4 (7, .ireturn, 1) rfl) rfl rfl (aw_stk (st' := [.int ((zI (sNew (sI μ a6 2 ((zI μ a6 2) - 1)) 7 0) 11 17) / 24), .null, .int (zI (sNew (sI μ a6 2 ((zI μ a6 2) - 1)) 7 0) 11 17), .int x4, .int x3, .int x2, .ref a6, .int (zI (sNew (sI μ a6 2 ((zI μ a6 2) - 1)) 7 0) 11 14), .ref (zN (sI μ a6 2 ((zI μ a6 2) - 1))), .ref (zN (sI μ a6 2 ((zI μ a6 2) - 1)))]) rfl ?_)))))))
        exact h.elim
      · intro b5 e4
        have h := h.2 b5 e4
        obtain ⟨g6, h⟩ := h
        refine aw_aload_n (pc' := 139) (dt_X10_sell 71 (138, .aload_n 0, 1) rfl) rfl rfl (aw_inV (pc' := 142) (nc1 := 0) (ns1 := 0) (nc := nc) (ns := ns) (ls' := [some (.ref 11)]) (y2 := mX10_today) (As := []) (rest := [.ref b5, .int (zI (sNew (sI μ a6 2 ((zI μ a6 2) - 1)) 7 0) 11 17), .int x4, .int x3, .int x2, .ref a6, .int (zI (sNew (sI μ a6 2 ((zI μ a6 2) - 1)) 7 0) 11 14), .ref (zN (sI μ a6 2 ((zI μ a6 2) - 1))), .ref (zN (sI μ a6 2 ((zI μ a6 2) - 1)))]) (a := 11) (dt_X10_sell 72 (139, .invokevirtual 138, 3) rfl) ok_X10_today ln_ReturnDesk_138 im_X10_today se_X10_today pr_X10_today (Or.inl ⟨by decide, rfl⟩) rfl (Nat.le_of_ble_eq_true rfl) (Nat.le_of_ble_eq_true rfl) rfl rfl (sk_11 hS.wI.wNew) (aw_aload_n (pc' := 1) (dt_X10_today 0 (0, .aload_n 0, 1) rfl) rfl rfl (aw_getI (pc' := 4) (dt_X10_today 1 (1, .getfield 114, 3) rfl) fl_ReturnDesk_114 rfl rfl (sk_11 hS.wI.wNew) (aw_bipush (pc' := 6) (v := 24) (dt_X10_today 2 (4, .bipush 24, 2) rfl) (by decide) rfl (aw_idiv (pc' := 7) (dt_X10_today 3 (6, .idiv, 1) rfl) (by decide) rfl (aw_iret (dt_X10_today 4 (7, .ireturn, 1) rfl) rfl rfl (aw_stk (st' := [.int ((zI (sNew (sI μ a6 2 ((zI μ a6 2) - 1)) 7 0) 11 17) / 24), .ref b5, .int (zI (sNew (sI μ a6 2 ((zI μ a6 2) - 1)) 7 0) 11 17), .int x4, .int x3, .int x2, .ref a6, .int (zI (sNew (sI μ a6 2 ((zI μ a6 2) - 1)) 7 0) 11 14), .ref (zN (sI μ a6 2 ((zI μ a6 2) - 1))), .ref (zN (sI μ a6 2 ((zI μ a6 2) - 1)))]) rfl (aw_callV0 (pc' := 145) (nc := nc) (ns := ns) (y2 := mX4_priceFor) (As := [.int ((zI (sNew (sI μ a6 2 ((zI μ a6 2) - 1)) 7 0) 11 17) / 24)]) (rest := [.int (zI (sNew (sI μ a6 2 ((zI μ a6 2) - 1)) 7 0) 11 17), .int x4, .int x3, .int x2, .ref a6, .int (zI (sNew (sI μ a6 2 ((zI μ a6 2) - 1)) 7 0) 11 14), .ref (zN (sI μ a6 2 ((zI μ a6 2) - 1))), .ref (zN (sI μ a6 2 ((zI μ a6 2) - 1)))]) (a := b5) (dt_X10_sell 73 (142, .invokevirtual 103, 3) rfl) ok_X4_priceFor ln_ReturnDesk_103 im_X4_priceFor se_X4_priceFor pr_X4_priceFor (Or.inl ⟨by decide, rfl⟩) rfl (Nat.le_of_ble_eq_true rfl) (Nat.le_of_ble_eq_true rfl) rfl g6 h ?_))))))))
        rintro v μ7 ⟨r9, rfl, hS8, h⟩
        refine aw_stk (st' := [.int r9, .int (zI (sNew (sI μ a6 2 ((zI μ a6 2) - 1)) 7 0) 11 17), .int x4, .int x3, .int x2, .ref a6, .int (zI (sNew (sI μ a6 2 ((zI μ a6 2) - 1)) 7 0) 11 14), .ref (zN (sI μ a6 2 ((zI μ a6 2) - 1))), .ref (zN (sI μ a6 2 ((zI μ a6 2) - 1)))]) rfl ?_
        obtain ⟨g10, h⟩ := h
        refine aw_inI (pc' := 148) (nc1 := 0) (ns1 := 0) (nc := nc) (ns := ns) (ls' := [some (.ref (zN (sI μ a6 2 ((zI μ a6 2) - 1)))), some (.int (zI (sNew (sI μ a6 2 ((zI μ a6 2) - 1)) 7 0) 11 14)), some (.ref a6), some (.int x2), some (.int x3), some (.int x4), some (.int (zI (sNew (sI μ a6 2 ((zI μ a6 2) - 1)) 7 0) 11 17)), some (.int r9)]) (y2 := mX7_init) (As := [.int (zI (sNew (sI μ a6 2 ((zI μ a6 2) - 1)) 7 0) 11 14), .ref a6, .int x2, .int x3, .int x4, .int (zI (sNew (sI μ a6 2 ((zI μ a6 2) - 1)) 7 0) 11 17), .int r9]) (rest := [.ref (zN (sI μ a6 2 ((zI μ a6 2) - 1)))]) (a := (zN (sI μ a6 2 ((zI μ a6 2) - 1)))) (dt_X10_sell 74 (145, .invokespecial 142, 3) rfl) ok_X7_init rfl rfl ln_ReturnDesk_142 im_X7_init pr_X7_init rfl (Nat.le_of_ble_eq_true rfl) (Nat.le_of_ble_eq_true rfl) rfl rfl (aw_aload_n (pc' := 1) (dt_X7_init 0 (0, .aload_n 0, 1) rfl) rfl rfl (aw_objInit (pc' := 4) (dt_X7_init 1 (1, .invokespecial 3, 3) rfl) oi_Sale_3 (Nat.le_of_ble_eq_true rfl) rfl (aw_aload_n (pc' := 5) (dt_X7_init 2 (4, .aload_n 0, 1) rfl) rfl rfl (aw_iconst (pc' := 6) (v := 0) (dt_X7_init 3 (5, .iconst 0, 1) rfl) (by decide) rfl (aw_putI (pc' := 9) (dt_X7_init 4 (6, .putfield 9, 3) rfl) fl_Sale_9 rfl (by decide +kernel) rfl g10 (aw_aload_n (pc' := 10) (dt_X7_init 5 (9, .aload_n 0, 1) rfl) rfl rfl (aw_sipush (pc' := 13) (v := 3000) (dt_X7_init 6 (10, .sipush 3000, 3) rfl) (by decide) rfl (aw_putI (pc' := 16) (dt_X7_init 7 (13, .putfield 15, 3) rfl) fl_Sale_15 rfl (by decide +kernel) rfl g10 (aw_aload_n (pc' := 17) (dt_X7_init 8 (16, .aload_n 0, 1) rfl) rfl rfl (aw_sipush (pc' := 20) (v := 3000) (dt_X7_init 9 (17, .sipush 3000, 3) rfl) (by decide) rfl (aw_putI (pc' := 23) (dt_X7_init 10 (20, .putfield 18, 3) rfl) fl_Sale_18 rfl (by decide +kernel) rfl g10 (aw_aload_n (pc' := 24) (dt_X7_init 11 (23, .aload_n 0, 1) rfl) rfl rfl (aw_iconst (pc' := 25) (v := (-1)) (dt_X7_init 12 (24, .iconst (-1), 1) rfl) (by decide) rfl (aw_putI (pc' := 28) (dt_X7_init 13 (25, .putfield 21, 3) rfl) fl_Sale_21 rfl (by decide +kernel) rfl g10 (aw_aload_n (pc' := 29) (dt_X7_init 14 (28, .aload_n 0, 1) rfl) rfl rfl (aw_iconst (pc' := 30) (v := (-1)) (dt_X7_init 15 (29, .iconst (-1), 1) rfl) (by decide) rfl (aw_putI (pc' := 33) (dt_X7_init 16 (30, .putfield 24, 3) rfl) fl_Sale_24 rfl (by decide +kernel) rfl g10 (aw_aload_n (pc' := 34) (dt_X7_init 17 (33, .aload_n 0, 1) rfl) rfl rfl (aw_iload_n (pc' := 35) (dt_X7_init 18 (34, .iload_n 1, 1) rfl) rfl rfl (aw_putI (pc' := 38) (dt_X7_init 19 (35, .putfield 27, 3) rfl) fl_Sale_27 rfl (by decide +kernel) rfl g10 ?_))))))))))))))))))))
        refine aw_mem (fun μ11 eμ12 => ?_)
        have h := h μ11 eμ12
        have hS13 : Stat μ11 := by rw [eμ12]; exact hS8.wI.wI.wI.wI.wI.wI
        have k14 : zK μ11 (zN (sI μ a6 2 ((zI μ a6 2) - 1))) = 7 := by rw [eμ12]; exact g10
        obtain ⟨g15, h⟩ := h
        refine aw_aload_n (pc' := 39) (dt_X7_init 20 (38, .aload_n 0, 1) rfl) rfl rfl (aw_aload_n (pc' := 40) (dt_X7_init 21 (39, .aload_n 2, 1) rfl) rfl rfl (aw_getA (pc' := 43) (dt_X7_init 22 (40, .getfield 30, 3) rfl) fl_Sale_30 rfl rfl g15 ?_ ?_))
        · intro e16
          have h := h.1 e16
          refine aw_putAN (pc' := 46) (dt_X7_init 23 (43, .putfield 36, 3) rfl) fl_Sale_36 rfl (by decide +kernel) rfl k14 (aw_aload_n (pc' := 47) (dt_X7_init 24 (46, .aload_n 0, 1) rfl) rfl rfl (aw_aload_n (pc' := 48) (dt_X7_init 25 (47, .aload_n 2, 1) rfl) rfl rfl (aw_putA (pc' := 51) (dt_X7_init 26 (48, .putfield 37, 3) rfl) fl_Sale_37 rfl (by decide +kernel) rfl k14 (aw_aload_n (pc' := 52) (dt_X7_init 27 (51, .aload_n 0, 1) rfl) rfl rfl (aw_iload_n (pc' := 53) (dt_X7_init 28 (52, .iload_n 3, 1) rfl) rfl rfl (aw_putI (pc' := 56) (dt_X7_init 29 (53, .putfield 41, 3) rfl) fl_Sale_41 rfl (by decide +kernel) rfl k14 (aw_aload_n (pc' := 57) (dt_X7_init 30 (56, .aload_n 0, 1) rfl) rfl rfl (aw_iload (pc' := 59) (dt_X7_init 31 (57, .iload 4, 2) rfl) rfl rfl (aw_sipush (pc' := 62) (v := 1000) (dt_X7_init 32 (59, .sipush 1000, 3) rfl) (by decide) rfl (aw_idiv (pc' := 63) (dt_X7_init 33 (62, .idiv, 1) rfl) (by decide) rfl (aw_putI (pc' := 66) (dt_X7_init 34 (63, .putfield 44, 3) rfl) fl_Sale_44 rfl (by decide +kernel) rfl k14 (aw_aload_n (pc' := 67) (dt_X7_init 35 (66, .aload_n 0, 1) rfl) rfl rfl (aw_iload (pc' := 69) (dt_X7_init 36 (67, .iload 4, 2) rfl) rfl rfl (aw_sipush (pc' := 72) (v := 1000) (dt_X7_init 37 (69, .sipush 1000, 3) rfl) (by decide) rfl (aw_irem (pc' := 73) (dt_X7_init 38 (72, .irem, 1) rfl) (by decide) rfl (aw_putI (pc' := 76) (dt_X7_init 39 (73, .putfield 47, 3) rfl) fl_Sale_47 rfl (by decide +kernel) rfl k14 ?_))))))))))))))))
          refine aw_mem (fun μ18 eμ19 => ?_)
          have h := h μ18 eμ19
          have hS20 : Stat μ18 := by rw [eμ19]; exact ((hS13.wAd k14 (by decide)).wAd k14 (by decide)).wI.wI.wI
          have k21 : zK μ18 (zN (sI μ a6 2 ((zI μ a6 2) - 1))) = 7 := by rw [eμ19]; exact k14
          have k22 : zK μ18 a6 = 2 := by rw [eμ19]; exact g15
          refine aw_aload_n (pc' := 77) (dt_X7_init 40 (76, .aload_n 0, 1) rfl) rfl rfl (aw_iload (pc' := 79) (dt_X7_init 41 (77, .iload 5, 2) rfl) rfl rfl (aw_bipush (pc' := 81) (v := 100) (dt_X7_init 42 (79, .bipush 100, 2) rfl) (by decide) rfl (aw_idiv (pc' := 82) (dt_X7_init 43 (81, .idiv, 1) rfl) (by decide) rfl (aw_putI (pc' := 85) (dt_X7_init 44 (82, .putfield 50, 3) rfl) fl_Sale_50 rfl (by decide +kernel) rfl k21 (aw_aload_n (pc' := 86) (dt_X7_init 45 (85, .aload_n 0, 1) rfl) rfl rfl (aw_iload (pc' := 88) (dt_X7_init 46 (86, .iload 5, 2) rfl) rfl rfl (aw_bipush (pc' := 90) (v := 100) (dt_X7_init 47 (88, .bipush 100, 2) rfl) (by decide) rfl (aw_irem (pc' := 91) (dt_X7_init 48 (90, .irem, 1) rfl) (by decide) rfl (aw_putI (pc' := 94) (dt_X7_init 49 (91, .putfield 53, 3) rfl) fl_Sale_53 rfl (by decide +kernel) rfl k21 (aw_aload_n (pc' := 95) (dt_X7_init 50 (94, .aload_n 0, 1) rfl) rfl rfl (aw_iload (pc' := 97) (dt_X7_init 51 (95, .iload 6, 2) rfl) rfl rfl (aw_putI (pc' := 100) (dt_X7_init 52 (97, .putfield 56, 3) rfl) fl_Sale_56 rfl (by decide +kernel) rfl k21 (aw_aload_n (pc' := 101) (dt_X7_init 53 (100, .aload_n 0, 1) rfl) rfl rfl (aw_iload (pc' := 103) (dt_X7_init 54 (101, .iload 7, 2) rfl) rfl rfl (aw_putI (pc' := 106) (dt_X7_init 55 (103, .putfield 59, 3) rfl) fl_Sale_59 rfl (by decide +kernel) rfl k21 ?_)))))))))))))))
          refine aw_mem (fun μ23 eμ24 => ?_)
          have h := h μ23 eμ24
          have hS25 : Stat μ23 := by rw [eμ24]; exact hS20.wI.wI.wI.wI
          have k26 : zK μ23 (zN (sI μ a6 2 ((zI μ a6 2) - 1))) = 7 := by rw [eμ24]; exact k21
          have k27 : zK μ23 a6 = 2 := by rw [eμ24]; exact k22
          refine aw_ret (dt_X7_init 56 (106, .return_, 1) rfl) rfl (aw_stk (st' := [.ref (zN (sI μ a6 2 ((zI μ a6 2) - 1)))]) rfl (aw_astore (pc' := 150) (ls' := [some (.ref 11), none, some (.int x2), some (.int x3), some (.int x4), some (.int x5), some (.ref a6), some (.ref (zN (sI μ a6 2 ((zI μ a6 2) - 1))))]) (dt_X10_sell 75 (148, .astore 7, 2) rfl) (by decide) rfl rfl (aw_aload_n (pc' := 151) (dt_X10_sell 76 (150, .aload_n 0, 1) rfl) rfl rfl (aw_getAs (pc' := 154) (dt_X10_sell 77 (151, .getfield 42, 3) rfl) fl_ReturnDesk_42 rfl rfl (sk_11 hS25) (sa_11_5 hS25) (aw_dup (pc' := 155) (dt_X10_sell 78 (154, .dup, 1) rfl) rfl rfl (aw_getI (pc' := 158) (dt_X10_sell 79 (155, .getfield 118, 3) rfl) fl_ReturnDesk_118 rfl rfl (sk_17 hS25) (aw_aload (pc' := 160) (dt_X10_sell 80 (158, .aload 7, 2) rfl) rfl rfl (aw_getI (pc' := 163) (dt_X10_sell 81 (160, .getfield 145, 3) rfl) fl_ReturnDesk_145 rfl rfl k26 (aw_aload_n (pc' := 164) (dt_X10_sell 82 (163, .aload_n 0, 1) rfl) rfl rfl (aw_getAs (pc' := 167) (dt_X10_sell 83 (164, .getfield 42, 3) rfl) fl_ReturnDesk_42 rfl rfl (sk_11 hS25) (sa_11_5 hS25) (aw_iload (pc' := 169) (dt_X10_sell 84 (167, .iload 5, 2) rfl) rfl rfl (aw_aload (pc' := 171) (dt_X10_sell 85 (169, .aload 7, 2) rfl) rfl rfl (aw_getI (pc' := 174) (dt_X10_sell 86 (171, .getfield 145, 3) rfl) fl_ReturnDesk_145 rfl rfl k26 (aw_inV (pc' := 177) (nc1 := 0) (ns1 := 0) (nc := nc) (ns := ns) (ls' := [some (.ref 17), some (.int x5), some (.int (zI μ23 (zN (sI μ a6 2 ((zI μ a6 2) - 1))) 9)), none]) (y2 := mX5_payByNote) (As := [.int x5, .int (zI μ23 (zN (sI μ a6 2 ((zI μ a6 2) - 1))) 9)]) (rest := [.int (zI μ23 (zN (sI μ a6 2 ((zI μ a6 2) - 1))) 9), .int (zI μ23 17 2), .ref 17]) (a := 17) (dt_X10_sell 87 (174, .invokevirtual 148, 3) rfl) ok_X5_payByNote ln_ReturnDesk_148 im_X5_payByNote se_X5_payByNote pr_X5_payByNote (Or.inl ⟨by decide, rfl⟩) rfl (Nat.le_of_ble_eq_true rfl) (Nat.le_of_ble_eq_true rfl) rfl rfl (sk_17 hS25) (aw_aload_n (pc' := 1) (dt_X5_payByNote 0 (0, .aload_n 0, 1) rfl) rfl rfl (aw_iload_n (pc' := 2) (dt_X5_payByNote 1 (1, .iload_n 1, 1) rfl) rfl rfl (aw_inV (pc' := 5) (nc1 := 0) (ns1 := 0) (nc := 0) (ns := 0) (ls' := [some (.ref 17), some (.int x5)]) (y2 := mX5_hasNote) (As := [.int x5]) (rest := []) (a := 17) (dt_X5_payByNote 2 (2, .invokevirtual 19, 3) rfl) ok_X5_hasNote ln_Purse_19 im_X5_hasNote se_X5_hasNote pr_X5_hasNote (Or.inl ⟨by decide, rfl⟩) rfl (Nat.le_of_ble_eq_true rfl) (Nat.le_of_ble_eq_true rfl) rfl rfl (sk_17 hS25) (aw_iload_n (pc' := 1) (dt_X5_hasNote 0 (0, .iload_n 1, 1) rfl) rfl rfl (aw_if_lt (pc' := 4) (tgt := 25) (dt_X5_hasNote 1 (1, .ifCond .lt 24, 3) rfl) (by decide) rfl ?_ ?_)))))))))))))))))))
          · intro q28
            have h := h.1 q28
            obtain ⟨g29, h⟩ := h
            refine aw_iconst (pc' := 26) (v := 0) (dt_X5_hasNote 13 (25, .iconst 0, 1) rfl) (by decide) rfl (aw_iret (dt_X5_hasNote 14 (26, .ireturn, 1) rfl) rfl rfl (aw_stk (st' := [.int 0]) rfl (aw_if_ne_F (pc' := 8) (tgt := 10) (dt_X5_payByNote 3 (5, .ifCond .ne 5, 3) rfl) (by decide) rfl (by decide) (aw_iconst (pc' := 9) (v := 0) (dt_X5_payByNote 4 (8, .iconst 0, 1) rfl) (by decide) rfl (aw_iret (dt_X5_payByNote 5 (9, .ireturn, 1) rfl) rfl rfl (aw_stk (st' := [.int 0, .int (zI μ23 (zN (sI μ a6 2 ((zI μ a6 2) - 1))) 9), .int (zI μ23 17 2), .ref 17]) rfl (aw_isub (pc' := 178) (dt_X10_sell 88 (177, .isub, 1) rfl) rfl (aw_iadd (pc' := 179) (dt_X10_sell 89 (178, .iadd, 1) rfl) rfl (aw_putI (pc' := 182) (dt_X10_sell 90 (179, .putfield 118, 3) rfl) fl_ReturnDesk_118 rfl (by decide +kernel) rfl (sk_17 hS25) (aw_aload_n (pc' := 183) (dt_X10_sell 91 (182, .aload_n 0, 1) rfl) rfl rfl (aw_getAs (pc' := 186) (dt_X10_sell 92 (183, .getfield 23, 3) rfl) fl_ReturnDesk_23 rfl rfl (sk_11 hS25.wI) (sa_11_2 hS25.wI) (aw_aload_n (pc' := 187) (dt_X10_sell 93 (186, .aload_n 0, 1) rfl) rfl rfl (aw_getI (pc' := 190) (dt_X10_sell 94 (187, .getfield 131, 3) rfl) fl_ReturnDesk_131 rfl rfl (sk_11 hS25.wI) (aw_aload (pc' := 192) (dt_X10_sell 95 (190, .aload 7, 2) rfl) rfl rfl (aw_aast (pc' := 193) (ci := 7) (dt_X10_sell 96 (192, .aastore, 1) rfl) (by decide) (by decide) (by decide) rfl rfl (sk_14 hS25.wI) (by decide) k26 (vin_eq (sl_14 hS25.wI) g29) (aw_aload_n (pc' := 194) (dt_X10_sell 97 (193, .aload_n 0, 1) rfl) rfl rfl (aw_dup (pc' := 195) (dt_X10_sell 98 (194, .dup, 1) rfl) rfl rfl (aw_getI (pc' := 198) (dt_X10_sell 99 (195, .getfield 131, 3) rfl) fl_ReturnDesk_131 rfl rfl (sk_11 (hS25.wI.wAr (by decide))) (aw_iconst (pc' := 199) (v := 1) (dt_X10_sell 100 (198, .iconst 1, 1) rfl) (by decide) rfl (aw_iadd (pc' := 200) (dt_X10_sell 101 (199, .iadd, 1) rfl) rfl (aw_putI (pc' := 203) (dt_X10_sell 102 (200, .putfield 131, 3) rfl) fl_ReturnDesk_131 rfl (by decide +kernel) rfl (sk_11 (hS25.wI.wAr (by decide))) ?_)))))))))))))))))))))
            refine aw_mem (fun μ30 eμ31 => ?_)
            have h := h μ30 eμ31
            have hS32 : Stat μ30 := by rw [eμ31]; exact (hS25.wI.wAr (by decide)).wI
            have k33 : zK μ30 (zN (sI μ a6 2 ((zI μ a6 2) - 1))) = 7 := by rw [eμ31]; exact k26
            have k34 : zK μ30 a6 = 2 := by rw [eμ31]; exact k27
            refine aw_aload_n (pc' := 204) (dt_X10_sell 103 (203, .aload_n 0, 1) rfl) rfl rfl (aw_getI (pc' := 207) (dt_X10_sell 104 (204, .getfield 131, 3) rfl) fl_ReturnDesk_131 rfl rfl (sk_11 hS32) (aw_iconst (pc' := 208) (v := 1) (dt_X10_sell 105 (207, .iconst 1, 1) rfl) (by decide) rfl (aw_isub (pc' := 209) (dt_X10_sell 106 (208, .isub, 1) rfl) rfl (aw_iret (dt_X10_sell 107 (209, .ireturn, 1) rfl) rfl rfl ?_))))
            exact h
          · intro q28
            have h := h.2 q28
            refine aw_iload_n (pc' := 5) (dt_X5_hasNote 2 (4, .iload_n 1, 1) rfl) rfl rfl (aw_aload_n (pc' := 6) (dt_X5_hasNote 3 (5, .aload_n 0, 1) rfl) rfl rfl (aw_getI (pc' := 9) (dt_X5_hasNote 4 (6, .getfield 15, 3) rfl) fl_Purse_15 rfl rfl (sk_17 hS25) (aw_icmp_ge (pc' := 12) (tgt := 25) (dt_X5_hasNote 5 (9, .if_icmp .ge 16, 3) rfl) (by decide) rfl ?_ ?_)))
            · intro q35
              have h := h.1 q35
              obtain ⟨g36, h⟩ := h
              refine aw_iconst (pc' := 26) (v := 0) (dt_X5_hasNote 13 (25, .iconst 0, 1) rfl) (by decide) rfl (aw_iret (dt_X5_hasNote 14 (26, .ireturn, 1) rfl) rfl rfl (aw_stk (st' := [.int 0]) rfl (aw_if_ne_F (pc' := 8) (tgt := 10) (dt_X5_payByNote 3 (5, .ifCond .ne 5, 3) rfl) (by decide) rfl (by decide) (aw_iconst (pc' := 9) (v := 0) (dt_X5_payByNote 4 (8, .iconst 0, 1) rfl) (by decide) rfl (aw_iret (dt_X5_payByNote 5 (9, .ireturn, 1) rfl) rfl rfl (aw_stk (st' := [.int 0, .int (zI μ23 (zN (sI μ a6 2 ((zI μ a6 2) - 1))) 9), .int (zI μ23 17 2), .ref 17]) rfl (aw_isub (pc' := 178) (dt_X10_sell 88 (177, .isub, 1) rfl) rfl (aw_iadd (pc' := 179) (dt_X10_sell 89 (178, .iadd, 1) rfl) rfl (aw_putI (pc' := 182) (dt_X10_sell 90 (179, .putfield 118, 3) rfl) fl_ReturnDesk_118 rfl (by decide +kernel) rfl (sk_17 hS25) (aw_aload_n (pc' := 183) (dt_X10_sell 91 (182, .aload_n 0, 1) rfl) rfl rfl (aw_getAs (pc' := 186) (dt_X10_sell 92 (183, .getfield 23, 3) rfl) fl_ReturnDesk_23 rfl rfl (sk_11 hS25.wI) (sa_11_2 hS25.wI) (aw_aload_n (pc' := 187) (dt_X10_sell 93 (186, .aload_n 0, 1) rfl) rfl rfl (aw_getI (pc' := 190) (dt_X10_sell 94 (187, .getfield 131, 3) rfl) fl_ReturnDesk_131 rfl rfl (sk_11 hS25.wI) (aw_aload (pc' := 192) (dt_X10_sell 95 (190, .aload 7, 2) rfl) rfl rfl (aw_aast (pc' := 193) (ci := 7) (dt_X10_sell 96 (192, .aastore, 1) rfl) (by decide) (by decide) (by decide) rfl rfl (sk_14 hS25.wI) (by decide) k26 (vin_eq (sl_14 hS25.wI) g36) (aw_aload_n (pc' := 194) (dt_X10_sell 97 (193, .aload_n 0, 1) rfl) rfl rfl (aw_dup (pc' := 195) (dt_X10_sell 98 (194, .dup, 1) rfl) rfl rfl (aw_getI (pc' := 198) (dt_X10_sell 99 (195, .getfield 131, 3) rfl) fl_ReturnDesk_131 rfl rfl (sk_11 (hS25.wI.wAr (by decide))) (aw_iconst (pc' := 199) (v := 1) (dt_X10_sell 100 (198, .iconst 1, 1) rfl) (by decide) rfl (aw_iadd (pc' := 200) (dt_X10_sell 101 (199, .iadd, 1) rfl) rfl (aw_putI (pc' := 203) (dt_X10_sell 102 (200, .putfield 131, 3) rfl) fl_ReturnDesk_131 rfl (by decide +kernel) rfl (sk_11 (hS25.wI.wAr (by decide))) ?_)))))))))))))))))))))
              refine aw_mem (fun μ37 eμ38 => ?_)
              have h := h μ37 eμ38
              have hS39 : Stat μ37 := by rw [eμ38]; exact (hS25.wI.wAr (by decide)).wI
              have k40 : zK μ37 (zN (sI μ a6 2 ((zI μ a6 2) - 1))) = 7 := by rw [eμ38]; exact k26
              have k41 : zK μ37 a6 = 2 := by rw [eμ38]; exact k27
              refine aw_aload_n (pc' := 204) (dt_X10_sell 103 (203, .aload_n 0, 1) rfl) rfl rfl (aw_getI (pc' := 207) (dt_X10_sell 104 (204, .getfield 131, 3) rfl) fl_ReturnDesk_131 rfl rfl (sk_11 hS39) (aw_iconst (pc' := 208) (v := 1) (dt_X10_sell 105 (207, .iconst 1, 1) rfl) (by decide) rfl (aw_isub (pc' := 209) (dt_X10_sell 106 (208, .isub, 1) rfl) rfl (aw_iret (dt_X10_sell 107 (209, .ireturn, 1) rfl) rfl rfl ?_))))
              exact h
            · intro q35
              have h := h.2 q35
              refine aw_iload_n (pc' := 13) (dt_X5_hasNote 6 (12, .iload_n 1, 1) rfl) rfl rfl (aw_aload_n (pc' := 14) (dt_X5_hasNote 7 (13, .aload_n 0, 1) rfl) rfl rfl (aw_getAs (pc' := 17) (dt_X5_hasNote 8 (14, .getfield 9, 3) rfl) fl_Purse_9 rfl rfl (sk_17 hS25) (sa_17_0 hS25) (aw_alens (pc' := 18) (n := 200) (v := 200) (dt_X5_hasNote 9 (17, .arraylength, 1) rfl) (by decide) (by decide) rfl (sk_18 hS25) (sl_18 hS25) (by decide) (aw_icmp_ge (pc' := 21) (tgt := 25) (dt_X5_hasNote 10 (18, .if_icmp .ge 7, 3) rfl) (by decide) rfl ?_ ?_))))
              · intro q42
                have h := h.1 q42
                obtain ⟨g43, h⟩ := h
                refine aw_iconst (pc' := 26) (v := 0) (dt_X5_hasNote 13 (25, .iconst 0, 1) rfl) (by decide) rfl (aw_iret (dt_X5_hasNote 14 (26, .ireturn, 1) rfl) rfl rfl (aw_stk (st' := [.int 0]) rfl (aw_if_ne_F (pc' := 8) (tgt := 10) (dt_X5_payByNote 3 (5, .ifCond .ne 5, 3) rfl) (by decide) rfl (by decide) (aw_iconst (pc' := 9) (v := 0) (dt_X5_payByNote 4 (8, .iconst 0, 1) rfl) (by decide) rfl (aw_iret (dt_X5_payByNote 5 (9, .ireturn, 1) rfl) rfl rfl (aw_stk (st' := [.int 0, .int (zI μ23 (zN (sI μ a6 2 ((zI μ a6 2) - 1))) 9), .int (zI μ23 17 2), .ref 17]) rfl (aw_isub (pc' := 178) (dt_X10_sell 88 (177, .isub, 1) rfl) rfl (aw_iadd (pc' := 179) (dt_X10_sell 89 (178, .iadd, 1) rfl) rfl (aw_putI (pc' := 182) (dt_X10_sell 90 (179, .putfield 118, 3) rfl) fl_ReturnDesk_118 rfl (by decide +kernel) rfl (sk_17 hS25) (aw_aload_n (pc' := 183) (dt_X10_sell 91 (182, .aload_n 0, 1) rfl) rfl rfl (aw_getAs (pc' := 186) (dt_X10_sell 92 (183, .getfield 23, 3) rfl) fl_ReturnDesk_23 rfl rfl (sk_11 hS25.wI) (sa_11_2 hS25.wI) (aw_aload_n (pc' := 187) (dt_X10_sell 93 (186, .aload_n 0, 1) rfl) rfl rfl (aw_getI (pc' := 190) (dt_X10_sell 94 (187, .getfield 131, 3) rfl) fl_ReturnDesk_131 rfl rfl (sk_11 hS25.wI) (aw_aload (pc' := 192) (dt_X10_sell 95 (190, .aload 7, 2) rfl) rfl rfl (aw_aast (pc' := 193) (ci := 7) (dt_X10_sell 96 (192, .aastore, 1) rfl) (by decide) (by decide) (by decide) rfl rfl (sk_14 hS25.wI) (by decide) k26 (vin_eq (sl_14 hS25.wI) g43) (aw_aload_n (pc' := 194) (dt_X10_sell 97 (193, .aload_n 0, 1) rfl) rfl rfl (aw_dup (pc' := 195) (dt_X10_sell 98 (194, .dup, 1) rfl) rfl rfl (aw_getI (pc' := 198) (dt_X10_sell 99 (195, .getfield 131, 3) rfl) fl_ReturnDesk_131 rfl rfl (sk_11 (hS25.wI.wAr (by decide))) (aw_iconst (pc' := 199) (v := 1) (dt_X10_sell 100 (198, .iconst 1, 1) rfl) (by decide) rfl (aw_iadd (pc' := 200) (dt_X10_sell 101 (199, .iadd, 1) rfl) rfl (aw_putI (pc' := 203) (dt_X10_sell 102 (200, .putfield 131, 3) rfl) fl_ReturnDesk_131 rfl (by decide +kernel) rfl (sk_11 (hS25.wI.wAr (by decide))) ?_)))))))))))))))))))))
                refine aw_mem (fun μ44 eμ45 => ?_)
                have h := h μ44 eμ45
                have hS46 : Stat μ44 := by rw [eμ45]; exact (hS25.wI.wAr (by decide)).wI
                have k47 : zK μ44 (zN (sI μ a6 2 ((zI μ a6 2) - 1))) = 7 := by rw [eμ45]; exact k26
                have k48 : zK μ44 a6 = 2 := by rw [eμ45]; exact k27
                refine aw_aload_n (pc' := 204) (dt_X10_sell 103 (203, .aload_n 0, 1) rfl) rfl rfl (aw_getI (pc' := 207) (dt_X10_sell 104 (204, .getfield 131, 3) rfl) fl_ReturnDesk_131 rfl rfl (sk_11 hS46) (aw_iconst (pc' := 208) (v := 1) (dt_X10_sell 105 (207, .iconst 1, 1) rfl) (by decide) rfl (aw_isub (pc' := 209) (dt_X10_sell 106 (208, .isub, 1) rfl) rfl (aw_iret (dt_X10_sell 107 (209, .ireturn, 1) rfl) rfl rfl ?_))))
                exact h
              · intro q42
                have h := h.2 q42
                obtain ⟨g49, h⟩ := h
                obtain ⟨g50, h⟩ := h
                obtain ⟨g51, h⟩ := h
                refine aw_iconst (pc' := 22) (v := 1) (dt_X5_hasNote 11 (21, .iconst 1, 1) rfl) (by decide) rfl (aw_goto (tgt := 26) (dt_X5_hasNote 12 (22, .goto 4, 3) rfl) (by decide) (aw_iret (dt_X5_hasNote 14 (26, .ireturn, 1) rfl) rfl rfl (aw_stk (st' := [.int 1]) rfl (aw_if_ne_T (pc' := 8) (tgt := 10) (dt_X5_payByNote 3 (5, .ifCond .ne 5, 3) rfl) (by decide) rfl (by decide) (aw_aload_n (pc' := 11) (dt_X5_payByNote 6 (10, .aload_n 0, 1) rfl) rfl rfl (aw_getAs (pc' := 14) (dt_X5_payByNote 7 (11, .getfield 9, 3) rfl) fl_Purse_9 rfl rfl (sk_17 hS25) (sa_17_0 hS25) (aw_iload_n (pc' := 15) (dt_X5_payByNote 8 (14, .iload_n 1, 1) rfl) rfl rfl (aw_iald (pc' := 16) (dt_X5_payByNote 9 (15, .iaload, 1) rfl) rfl (sk_18 hS25) (vin_eq (sl_18 hS25) g49) (aw_iload_n (pc' := 17) (dt_X5_payByNote 10 (16, .iload_n 2, 1) rfl) rfl rfl (aw_mmin (pc' := 20) (dt_X5_payByNote 11 (17, .invokestatic 23, 3) rfl) mm_Purse_23 (Nat.le_of_ble_eq_true rfl) rfl (aw_istore_n (pc' := 21) (ls' := [some (.ref 17), some (.int x5), some (.int (zI μ23 (zN (sI μ a6 2 ((zI μ a6 2) - 1))) 9)), some (.int (if (zI μ23 (zN (sI μ a6 2 ((zI μ a6 2) - 1))) 9) < (zI μ23 18 x5.toNatClampNeg) then (zI μ23 (zN (sI μ a6 2 ((zI μ a6 2) - 1))) 9) else (zI μ23 18 x5.toNatClampNeg)))]) (dt_X5_payByNote 12 (20, .istore_n 3, 1) rfl) (by decide) rfl rfl (aw_aload_n (pc' := 22) (dt_X5_payByNote 13 (21, .aload_n 0, 1) rfl) rfl rfl (aw_getAs (pc' := 25) (dt_X5_payByNote 14 (22, .getfield 9, 3) rfl) fl_Purse_9 rfl rfl (sk_17 hS25) (sa_17_0 hS25) (aw_iload_n (pc' := 26) (dt_X5_payByNote 15 (25, .iload_n 1, 1) rfl) rfl rfl (aw_dup2 (pc' := 27) (dt_X5_payByNote 16 (26, .dup2, 1) rfl) rfl rfl rfl (aw_iald (pc' := 28) (dt_X5_payByNote 17 (27, .iaload, 1) rfl) rfl (sk_18 hS25) (vin_eq (sl_18 hS25) g50) (aw_iload_n (pc' := 29) (dt_X5_payByNote 18 (28, .iload_n 3, 1) rfl) rfl rfl (aw_isub (pc' := 30) (dt_X5_payByNote 19 (29, .isub, 1) rfl) rfl (aw_iast (pc' := 31) (dt_X5_payByNote 20 (30, .iastore, 1) rfl) rfl (sk_18 hS25) (by decide) (vin_eq (sl_18 hS25) g51) (aw_iload_n (pc' := 32) (dt_X5_payByNote 21 (31, .iload_n 3, 1) rfl) rfl rfl (aw_iret (dt_X5_payByNote 22 (32, .ireturn, 1) rfl) rfl rfl (aw_stk (st' := [.int (if (zI μ23 (zN (sI μ a6 2 ((zI μ a6 2) - 1))) 9) < (zI μ23 18 x5.toNatClampNeg) then (zI μ23 (zN (sI μ a6 2 ((zI μ a6 2) - 1))) 9) else (zI μ23 18 x5.toNatClampNeg)), .int (zI μ23 (zN (sI μ a6 2 ((zI μ a6 2) - 1))) 9), .int (zI μ23 17 2), .ref 17]) rfl (aw_isub (pc' := 178) (dt_X10_sell 88 (177, .isub, 1) rfl) rfl (aw_iadd (pc' := 179) (dt_X10_sell 89 (178, .iadd, 1) rfl) rfl (aw_putI (pc' := 182) (dt_X10_sell 90 (179, .putfield 118, 3) rfl) fl_ReturnDesk_118 rfl (by decide +kernel) rfl (sk_17 hS25.wI) ?_)))))))))))))))))))))))))
                refine aw_mem (fun μ52 eμ53 => ?_)
                have h := h μ52 eμ53
                have hS54 : Stat μ52 := by rw [eμ53]; exact hS25.wI.wI
                have k55 : zK μ52 (zN (sI μ a6 2 ((zI μ a6 2) - 1))) = 7 := by rw [eμ53]; exact k26
                have k56 : zK μ52 a6 = 2 := by rw [eμ53]; exact k27
                obtain ⟨g57, h⟩ := h
                refine aw_aload_n (pc' := 183) (dt_X10_sell 91 (182, .aload_n 0, 1) rfl) rfl rfl (aw_getAs (pc' := 186) (dt_X10_sell 92 (183, .getfield 23, 3) rfl) fl_ReturnDesk_23 rfl rfl (sk_11 hS54) (sa_11_2 hS54) (aw_aload_n (pc' := 187) (dt_X10_sell 93 (186, .aload_n 0, 1) rfl) rfl rfl (aw_getI (pc' := 190) (dt_X10_sell 94 (187, .getfield 131, 3) rfl) fl_ReturnDesk_131 rfl rfl (sk_11 hS54) (aw_aload (pc' := 192) (dt_X10_sell 95 (190, .aload 7, 2) rfl) rfl rfl (aw_aast (pc' := 193) (ci := 7) (dt_X10_sell 96 (192, .aastore, 1) rfl) (by decide) (by decide) (by decide) rfl rfl (sk_14 hS54) (by decide) k55 (vin_eq (sl_14 hS54) g57) (aw_aload_n (pc' := 194) (dt_X10_sell 97 (193, .aload_n 0, 1) rfl) rfl rfl (aw_dup (pc' := 195) (dt_X10_sell 98 (194, .dup, 1) rfl) rfl rfl (aw_getI (pc' := 198) (dt_X10_sell 99 (195, .getfield 131, 3) rfl) fl_ReturnDesk_131 rfl rfl (sk_11 (hS54.wAr (by decide))) (aw_iconst (pc' := 199) (v := 1) (dt_X10_sell 100 (198, .iconst 1, 1) rfl) (by decide) rfl (aw_iadd (pc' := 200) (dt_X10_sell 101 (199, .iadd, 1) rfl) rfl (aw_putI (pc' := 203) (dt_X10_sell 102 (200, .putfield 131, 3) rfl) fl_ReturnDesk_131 rfl (by decide +kernel) rfl (sk_11 (hS54.wAr (by decide))) (aw_aload_n (pc' := 204) (dt_X10_sell 103 (203, .aload_n 0, 1) rfl) rfl rfl (aw_getI (pc' := 207) (dt_X10_sell 104 (204, .getfield 131, 3) rfl) fl_ReturnDesk_131 rfl rfl (sk_11 (hS54.wAr (by decide)).wI) (aw_iconst (pc' := 208) (v := 1) (dt_X10_sell 105 (207, .iconst 1, 1) rfl) (by decide) rfl (aw_isub (pc' := 209) (dt_X10_sell 106 (208, .isub, 1) rfl) rfl (aw_iret (dt_X10_sell 107 (209, .ireturn, 1) rfl) rfl rfl ?_))))))))))))))))
                exact h
        · intro b17 e16
          have h := h.2 b17 e16
          refine aw_putA (pc' := 46) (dt_X7_init 23 (43, .putfield 36, 3) rfl) fl_Sale_36 rfl (by decide +kernel) rfl k14 (aw_aload_n (pc' := 47) (dt_X7_init 24 (46, .aload_n 0, 1) rfl) rfl rfl (aw_aload_n (pc' := 48) (dt_X7_init 25 (47, .aload_n 2, 1) rfl) rfl rfl (aw_putA (pc' := 51) (dt_X7_init 26 (48, .putfield 37, 3) rfl) fl_Sale_37 rfl (by decide +kernel) rfl k14 (aw_aload_n (pc' := 52) (dt_X7_init 27 (51, .aload_n 0, 1) rfl) rfl rfl (aw_iload_n (pc' := 53) (dt_X7_init 28 (52, .iload_n 3, 1) rfl) rfl rfl (aw_putI (pc' := 56) (dt_X7_init 29 (53, .putfield 41, 3) rfl) fl_Sale_41 rfl (by decide +kernel) rfl k14 (aw_aload_n (pc' := 57) (dt_X7_init 30 (56, .aload_n 0, 1) rfl) rfl rfl (aw_iload (pc' := 59) (dt_X7_init 31 (57, .iload 4, 2) rfl) rfl rfl (aw_sipush (pc' := 62) (v := 1000) (dt_X7_init 32 (59, .sipush 1000, 3) rfl) (by decide) rfl (aw_idiv (pc' := 63) (dt_X7_init 33 (62, .idiv, 1) rfl) (by decide) rfl (aw_putI (pc' := 66) (dt_X7_init 34 (63, .putfield 44, 3) rfl) fl_Sale_44 rfl (by decide +kernel) rfl k14 (aw_aload_n (pc' := 67) (dt_X7_init 35 (66, .aload_n 0, 1) rfl) rfl rfl (aw_iload (pc' := 69) (dt_X7_init 36 (67, .iload 4, 2) rfl) rfl rfl (aw_sipush (pc' := 72) (v := 1000) (dt_X7_init 37 (69, .sipush 1000, 3) rfl) (by decide) rfl (aw_irem (pc' := 73) (dt_X7_init 38 (72, .irem, 1) rfl) (by decide) rfl (aw_putI (pc' := 76) (dt_X7_init 39 (73, .putfield 47, 3) rfl) fl_Sale_47 rfl (by decide +kernel) rfl k14 ?_))))))))))))))))
          refine aw_mem (fun μ58 eμ59 => ?_)
          have h := h μ58 eμ59
          have hS60 : Stat μ58 := by rw [eμ59]; exact ((hS13.wAd k14 (by decide)).wAd k14 (by decide)).wI.wI.wI
          have k61 : zK μ58 (zN (sI μ a6 2 ((zI μ a6 2) - 1))) = 7 := by rw [eμ59]; exact k14
          have k62 : zK μ58 a6 = 2 := by rw [eμ59]; exact g15
          refine aw_aload_n (pc' := 77) (dt_X7_init 40 (76, .aload_n 0, 1) rfl) rfl rfl (aw_iload (pc' := 79) (dt_X7_init 41 (77, .iload 5, 2) rfl) rfl rfl (aw_bipush (pc' := 81) (v := 100) (dt_X7_init 42 (79, .bipush 100, 2) rfl) (by decide) rfl (aw_idiv (pc' := 82) (dt_X7_init 43 (81, .idiv, 1) rfl) (by decide) rfl (aw_putI (pc' := 85) (dt_X7_init 44 (82, .putfield 50, 3) rfl) fl_Sale_50 rfl (by decide +kernel) rfl k61 (aw_aload_n (pc' := 86) (dt_X7_init 45 (85, .aload_n 0, 1) rfl) rfl rfl (aw_iload (pc' := 88) (dt_X7_init 46 (86, .iload 5, 2) rfl) rfl rfl (aw_bipush (pc' := 90) (v := 100) (dt_X7_init 47 (88, .bipush 100, 2) rfl) (by decide) rfl (aw_irem (pc' := 91) (dt_X7_init 48 (90, .irem, 1) rfl) (by decide) rfl (aw_putI (pc' := 94) (dt_X7_init 49 (91, .putfield 53, 3) rfl) fl_Sale_53 rfl (by decide +kernel) rfl k61 (aw_aload_n (pc' := 95) (dt_X7_init 50 (94, .aload_n 0, 1) rfl) rfl rfl (aw_iload (pc' := 97) (dt_X7_init 51 (95, .iload 6, 2) rfl) rfl rfl (aw_putI (pc' := 100) (dt_X7_init 52 (97, .putfield 56, 3) rfl) fl_Sale_56 rfl (by decide +kernel) rfl k61 (aw_aload_n (pc' := 101) (dt_X7_init 53 (100, .aload_n 0, 1) rfl) rfl rfl (aw_iload (pc' := 103) (dt_X7_init 54 (101, .iload 7, 2) rfl) rfl rfl (aw_putI (pc' := 106) (dt_X7_init 55 (103, .putfield 59, 3) rfl) fl_Sale_59 rfl (by decide +kernel) rfl k61 ?_)))))))))))))))
          refine aw_mem (fun μ63 eμ64 => ?_)
          have h := h μ63 eμ64
          have hS65 : Stat μ63 := by rw [eμ64]; exact hS60.wI.wI.wI.wI
          have k66 : zK μ63 (zN (sI μ a6 2 ((zI μ a6 2) - 1))) = 7 := by rw [eμ64]; exact k61
          have k67 : zK μ63 a6 = 2 := by rw [eμ64]; exact k62
          refine aw_ret (dt_X7_init 56 (106, .return_, 1) rfl) rfl (aw_stk (st' := [.ref (zN (sI μ a6 2 ((zI μ a6 2) - 1)))]) rfl (aw_astore (pc' := 150) (ls' := [some (.ref 11), none, some (.int x2), some (.int x3), some (.int x4), some (.int x5), some (.ref a6), some (.ref (zN (sI μ a6 2 ((zI μ a6 2) - 1))))]) (dt_X10_sell 75 (148, .astore 7, 2) rfl) (by decide) rfl rfl (aw_aload_n (pc' := 151) (dt_X10_sell 76 (150, .aload_n 0, 1) rfl) rfl rfl (aw_getAs (pc' := 154) (dt_X10_sell 77 (151, .getfield 42, 3) rfl) fl_ReturnDesk_42 rfl rfl (sk_11 hS65) (sa_11_5 hS65) (aw_dup (pc' := 155) (dt_X10_sell 78 (154, .dup, 1) rfl) rfl rfl (aw_getI (pc' := 158) (dt_X10_sell 79 (155, .getfield 118, 3) rfl) fl_ReturnDesk_118 rfl rfl (sk_17 hS65) (aw_aload (pc' := 160) (dt_X10_sell 80 (158, .aload 7, 2) rfl) rfl rfl (aw_getI (pc' := 163) (dt_X10_sell 81 (160, .getfield 145, 3) rfl) fl_ReturnDesk_145 rfl rfl k66 (aw_aload_n (pc' := 164) (dt_X10_sell 82 (163, .aload_n 0, 1) rfl) rfl rfl (aw_getAs (pc' := 167) (dt_X10_sell 83 (164, .getfield 42, 3) rfl) fl_ReturnDesk_42 rfl rfl (sk_11 hS65) (sa_11_5 hS65) (aw_iload (pc' := 169) (dt_X10_sell 84 (167, .iload 5, 2) rfl) rfl rfl (aw_aload (pc' := 171) (dt_X10_sell 85 (169, .aload 7, 2) rfl) rfl rfl (aw_getI (pc' := 174) (dt_X10_sell 86 (171, .getfield 145, 3) rfl) fl_ReturnDesk_145 rfl rfl k66 (aw_inV (pc' := 177) (nc1 := 0) (ns1 := 0) (nc := nc) (ns := ns) (ls' := [some (.ref 17), some (.int x5), some (.int (zI μ63 (zN (sI μ a6 2 ((zI μ a6 2) - 1))) 9)), none]) (y2 := mX5_payByNote) (As := [.int x5, .int (zI μ63 (zN (sI μ a6 2 ((zI μ a6 2) - 1))) 9)]) (rest := [.int (zI μ63 (zN (sI μ a6 2 ((zI μ a6 2) - 1))) 9), .int (zI μ63 17 2), .ref 17]) (a := 17) (dt_X10_sell 87 (174, .invokevirtual 148, 3) rfl) ok_X5_payByNote ln_ReturnDesk_148 im_X5_payByNote se_X5_payByNote pr_X5_payByNote (Or.inl ⟨by decide, rfl⟩) rfl (Nat.le_of_ble_eq_true rfl) (Nat.le_of_ble_eq_true rfl) rfl rfl (sk_17 hS65) (aw_aload_n (pc' := 1) (dt_X5_payByNote 0 (0, .aload_n 0, 1) rfl) rfl rfl (aw_iload_n (pc' := 2) (dt_X5_payByNote 1 (1, .iload_n 1, 1) rfl) rfl rfl (aw_inV (pc' := 5) (nc1 := 0) (ns1 := 0) (nc := 0) (ns := 0) (ls' := [some (.ref 17), some (.int x5)]) (y2 := mX5_hasNote) (As := [.int x5]) (rest := []) (a := 17) (dt_X5_payByNote 2 (2, .invokevirtual 19, 3) rfl) ok_X5_hasNote ln_Purse_19 im_X5_hasNote se_X5_hasNote pr_X5_hasNote (Or.inl ⟨by decide, rfl⟩) rfl (Nat.le_of_ble_eq_true rfl) (Nat.le_of_ble_eq_true rfl) rfl rfl (sk_17 hS65) (aw_iload_n (pc' := 1) (dt_X5_hasNote 0 (0, .iload_n 1, 1) rfl) rfl rfl (aw_if_lt (pc' := 4) (tgt := 25) (dt_X5_hasNote 1 (1, .ifCond .lt 24, 3) rfl) (by decide) rfl ?_ ?_)))))))))))))))))))
          · intro q68
            have h := h.1 q68
            obtain ⟨g69, h⟩ := h
            refine aw_iconst (pc' := 26) (v := 0) (dt_X5_hasNote 13 (25, .iconst 0, 1) rfl) (by decide) rfl (aw_iret (dt_X5_hasNote 14 (26, .ireturn, 1) rfl) rfl rfl (aw_stk (st' := [.int 0]) rfl (aw_if_ne_F (pc' := 8) (tgt := 10) (dt_X5_payByNote 3 (5, .ifCond .ne 5, 3) rfl) (by decide) rfl (by decide) (aw_iconst (pc' := 9) (v := 0) (dt_X5_payByNote 4 (8, .iconst 0, 1) rfl) (by decide) rfl (aw_iret (dt_X5_payByNote 5 (9, .ireturn, 1) rfl) rfl rfl (aw_stk (st' := [.int 0, .int (zI μ63 (zN (sI μ a6 2 ((zI μ a6 2) - 1))) 9), .int (zI μ63 17 2), .ref 17]) rfl (aw_isub (pc' := 178) (dt_X10_sell 88 (177, .isub, 1) rfl) rfl (aw_iadd (pc' := 179) (dt_X10_sell 89 (178, .iadd, 1) rfl) rfl (aw_putI (pc' := 182) (dt_X10_sell 90 (179, .putfield 118, 3) rfl) fl_ReturnDesk_118 rfl (by decide +kernel) rfl (sk_17 hS65) (aw_aload_n (pc' := 183) (dt_X10_sell 91 (182, .aload_n 0, 1) rfl) rfl rfl (aw_getAs (pc' := 186) (dt_X10_sell 92 (183, .getfield 23, 3) rfl) fl_ReturnDesk_23 rfl rfl (sk_11 hS65.wI) (sa_11_2 hS65.wI) (aw_aload_n (pc' := 187) (dt_X10_sell 93 (186, .aload_n 0, 1) rfl) rfl rfl (aw_getI (pc' := 190) (dt_X10_sell 94 (187, .getfield 131, 3) rfl) fl_ReturnDesk_131 rfl rfl (sk_11 hS65.wI) (aw_aload (pc' := 192) (dt_X10_sell 95 (190, .aload 7, 2) rfl) rfl rfl (aw_aast (pc' := 193) (ci := 7) (dt_X10_sell 96 (192, .aastore, 1) rfl) (by decide) (by decide) (by decide) rfl rfl (sk_14 hS65.wI) (by decide) k66 (vin_eq (sl_14 hS65.wI) g69) (aw_aload_n (pc' := 194) (dt_X10_sell 97 (193, .aload_n 0, 1) rfl) rfl rfl (aw_dup (pc' := 195) (dt_X10_sell 98 (194, .dup, 1) rfl) rfl rfl (aw_getI (pc' := 198) (dt_X10_sell 99 (195, .getfield 131, 3) rfl) fl_ReturnDesk_131 rfl rfl (sk_11 (hS65.wI.wAr (by decide))) (aw_iconst (pc' := 199) (v := 1) (dt_X10_sell 100 (198, .iconst 1, 1) rfl) (by decide) rfl (aw_iadd (pc' := 200) (dt_X10_sell 101 (199, .iadd, 1) rfl) rfl (aw_putI (pc' := 203) (dt_X10_sell 102 (200, .putfield 131, 3) rfl) fl_ReturnDesk_131 rfl (by decide +kernel) rfl (sk_11 (hS65.wI.wAr (by decide))) ?_)))))))))))))))))))))
            refine aw_mem (fun μ70 eμ71 => ?_)
            have h := h μ70 eμ71
            have hS72 : Stat μ70 := by rw [eμ71]; exact (hS65.wI.wAr (by decide)).wI
            have k73 : zK μ70 (zN (sI μ a6 2 ((zI μ a6 2) - 1))) = 7 := by rw [eμ71]; exact k66
            have k74 : zK μ70 a6 = 2 := by rw [eμ71]; exact k67
            refine aw_aload_n (pc' := 204) (dt_X10_sell 103 (203, .aload_n 0, 1) rfl) rfl rfl (aw_getI (pc' := 207) (dt_X10_sell 104 (204, .getfield 131, 3) rfl) fl_ReturnDesk_131 rfl rfl (sk_11 hS72) (aw_iconst (pc' := 208) (v := 1) (dt_X10_sell 105 (207, .iconst 1, 1) rfl) (by decide) rfl (aw_isub (pc' := 209) (dt_X10_sell 106 (208, .isub, 1) rfl) rfl (aw_iret (dt_X10_sell 107 (209, .ireturn, 1) rfl) rfl rfl ?_))))
            exact h
          · intro q68
            have h := h.2 q68
            refine aw_iload_n (pc' := 5) (dt_X5_hasNote 2 (4, .iload_n 1, 1) rfl) rfl rfl (aw_aload_n (pc' := 6) (dt_X5_hasNote 3 (5, .aload_n 0, 1) rfl) rfl rfl (aw_getI (pc' := 9) (dt_X5_hasNote 4 (6, .getfield 15, 3) rfl) fl_Purse_15 rfl rfl (sk_17 hS65) (aw_icmp_ge (pc' := 12) (tgt := 25) (dt_X5_hasNote 5 (9, .if_icmp .ge 16, 3) rfl) (by decide) rfl ?_ ?_)))
            · intro q75
              have h := h.1 q75
              obtain ⟨g76, h⟩ := h
              refine aw_iconst (pc' := 26) (v := 0) (dt_X5_hasNote 13 (25, .iconst 0, 1) rfl) (by decide) rfl (aw_iret (dt_X5_hasNote 14 (26, .ireturn, 1) rfl) rfl rfl (aw_stk (st' := [.int 0]) rfl (aw_if_ne_F (pc' := 8) (tgt := 10) (dt_X5_payByNote 3 (5, .ifCond .ne 5, 3) rfl) (by decide) rfl (by decide) (aw_iconst (pc' := 9) (v := 0) (dt_X5_payByNote 4 (8, .iconst 0, 1) rfl) (by decide) rfl (aw_iret (dt_X5_payByNote 5 (9, .ireturn, 1) rfl) rfl rfl (aw_stk (st' := [.int 0, .int (zI μ63 (zN (sI μ a6 2 ((zI μ a6 2) - 1))) 9), .int (zI μ63 17 2), .ref 17]) rfl (aw_isub (pc' := 178) (dt_X10_sell 88 (177, .isub, 1) rfl) rfl (aw_iadd (pc' := 179) (dt_X10_sell 89 (178, .iadd, 1) rfl) rfl (aw_putI (pc' := 182) (dt_X10_sell 90 (179, .putfield 118, 3) rfl) fl_ReturnDesk_118 rfl (by decide +kernel) rfl (sk_17 hS65) (aw_aload_n (pc' := 183) (dt_X10_sell 91 (182, .aload_n 0, 1) rfl) rfl rfl (aw_getAs (pc' := 186) (dt_X10_sell 92 (183, .getfield 23, 3) rfl) fl_ReturnDesk_23 rfl rfl (sk_11 hS65.wI) (sa_11_2 hS65.wI) (aw_aload_n (pc' := 187) (dt_X10_sell 93 (186, .aload_n 0, 1) rfl) rfl rfl (aw_getI (pc' := 190) (dt_X10_sell 94 (187, .getfield 131, 3) rfl) fl_ReturnDesk_131 rfl rfl (sk_11 hS65.wI) (aw_aload (pc' := 192) (dt_X10_sell 95 (190, .aload 7, 2) rfl) rfl rfl (aw_aast (pc' := 193) (ci := 7) (dt_X10_sell 96 (192, .aastore, 1) rfl) (by decide) (by decide) (by decide) rfl rfl (sk_14 hS65.wI) (by decide) k66 (vin_eq (sl_14 hS65.wI) g76) (aw_aload_n (pc' := 194) (dt_X10_sell 97 (193, .aload_n 0, 1) rfl) rfl rfl (aw_dup (pc' := 195) (dt_X10_sell 98 (194, .dup, 1) rfl) rfl rfl (aw_getI (pc' := 198) (dt_X10_sell 99 (195, .getfield 131, 3) rfl) fl_ReturnDesk_131 rfl rfl (sk_11 (hS65.wI.wAr (by decide))) (aw_iconst (pc' := 199) (v := 1) (dt_X10_sell 100 (198, .iconst 1, 1) rfl) (by decide) rfl (aw_iadd (pc' := 200) (dt_X10_sell 101 (199, .iadd, 1) rfl) rfl (aw_putI (pc' := 203) (dt_X10_sell 102 (200, .putfield 131, 3) rfl) fl_ReturnDesk_131 rfl (by decide +kernel) rfl (sk_11 (hS65.wI.wAr (by decide))) ?_)))))))))))))))))))))
              refine aw_mem (fun μ77 eμ78 => ?_)
              have h := h μ77 eμ78
              have hS79 : Stat μ77 := by rw [eμ78]; exact (hS65.wI.wAr (by decide)).wI
              have k80 : zK μ77 (zN (sI μ a6 2 ((zI μ a6 2) - 1))) = 7 := by rw [eμ78]; exact k66
              have k81 : zK μ77 a6 = 2 := by rw [eμ78]; exact k67
              refine aw_aload_n (pc' := 204) (dt_X10_sell 103 (203, .aload_n 0, 1) rfl) rfl rfl (aw_getI (pc' := 207) (dt_X10_sell 104 (204, .getfield 131, 3) rfl) fl_ReturnDesk_131 rfl rfl (sk_11 hS79) (aw_iconst (pc' := 208) (v := 1) (dt_X10_sell 105 (207, .iconst 1, 1) rfl) (by decide) rfl (aw_isub (pc' := 209) (dt_X10_sell 106 (208, .isub, 1) rfl) rfl (aw_iret (dt_X10_sell 107 (209, .ireturn, 1) rfl) rfl rfl ?_))))
              exact h
            · intro q75
              have h := h.2 q75
              refine aw_iload_n (pc' := 13) (dt_X5_hasNote 6 (12, .iload_n 1, 1) rfl) rfl rfl (aw_aload_n (pc' := 14) (dt_X5_hasNote 7 (13, .aload_n 0, 1) rfl) rfl rfl (aw_getAs (pc' := 17) (dt_X5_hasNote 8 (14, .getfield 9, 3) rfl) fl_Purse_9 rfl rfl (sk_17 hS65) (sa_17_0 hS65) (aw_alens (pc' := 18) (n := 200) (v := 200) (dt_X5_hasNote 9 (17, .arraylength, 1) rfl) (by decide) (by decide) rfl (sk_18 hS65) (sl_18 hS65) (by decide) (aw_icmp_ge (pc' := 21) (tgt := 25) (dt_X5_hasNote 10 (18, .if_icmp .ge 7, 3) rfl) (by decide) rfl ?_ ?_))))
              · intro q82
                have h := h.1 q82
                obtain ⟨g83, h⟩ := h
                refine aw_iconst (pc' := 26) (v := 0) (dt_X5_hasNote 13 (25, .iconst 0, 1) rfl) (by decide) rfl (aw_iret (dt_X5_hasNote 14 (26, .ireturn, 1) rfl) rfl rfl (aw_stk (st' := [.int 0]) rfl (aw_if_ne_F (pc' := 8) (tgt := 10) (dt_X5_payByNote 3 (5, .ifCond .ne 5, 3) rfl) (by decide) rfl (by decide) (aw_iconst (pc' := 9) (v := 0) (dt_X5_payByNote 4 (8, .iconst 0, 1) rfl) (by decide) rfl (aw_iret (dt_X5_payByNote 5 (9, .ireturn, 1) rfl) rfl rfl (aw_stk (st' := [.int 0, .int (zI μ63 (zN (sI μ a6 2 ((zI μ a6 2) - 1))) 9), .int (zI μ63 17 2), .ref 17]) rfl (aw_isub (pc' := 178) (dt_X10_sell 88 (177, .isub, 1) rfl) rfl (aw_iadd (pc' := 179) (dt_X10_sell 89 (178, .iadd, 1) rfl) rfl (aw_putI (pc' := 182) (dt_X10_sell 90 (179, .putfield 118, 3) rfl) fl_ReturnDesk_118 rfl (by decide +kernel) rfl (sk_17 hS65) (aw_aload_n (pc' := 183) (dt_X10_sell 91 (182, .aload_n 0, 1) rfl) rfl rfl (aw_getAs (pc' := 186) (dt_X10_sell 92 (183, .getfield 23, 3) rfl) fl_ReturnDesk_23 rfl rfl (sk_11 hS65.wI) (sa_11_2 hS65.wI) (aw_aload_n (pc' := 187) (dt_X10_sell 93 (186, .aload_n 0, 1) rfl) rfl rfl (aw_getI (pc' := 190) (dt_X10_sell 94 (187, .getfield 131, 3) rfl) fl_ReturnDesk_131 rfl rfl (sk_11 hS65.wI) (aw_aload (pc' := 192) (dt_X10_sell 95 (190, .aload 7, 2) rfl) rfl rfl (aw_aast (pc' := 193) (ci := 7) (dt_X10_sell 96 (192, .aastore, 1) rfl) (by decide) (by decide) (by decide) rfl rfl (sk_14 hS65.wI) (by decide) k66 (vin_eq (sl_14 hS65.wI) g83) (aw_aload_n (pc' := 194) (dt_X10_sell 97 (193, .aload_n 0, 1) rfl) rfl rfl (aw_dup (pc' := 195) (dt_X10_sell 98 (194, .dup, 1) rfl) rfl rfl (aw_getI (pc' := 198) (dt_X10_sell 99 (195, .getfield 131, 3) rfl) fl_ReturnDesk_131 rfl rfl (sk_11 (hS65.wI.wAr (by decide))) (aw_iconst (pc' := 199) (v := 1) (dt_X10_sell 100 (198, .iconst 1, 1) rfl) (by decide) rfl (aw_iadd (pc' := 200) (dt_X10_sell 101 (199, .iadd, 1) rfl) rfl (aw_putI (pc' := 203) (dt_X10_sell 102 (200, .putfield 131, 3) rfl) fl_ReturnDesk_131 rfl (by decide +kernel) rfl (sk_11 (hS65.wI.wAr (by decide))) ?_)))))))))))))))))))))
                refine aw_mem (fun μ84 eμ85 => ?_)
                have h := h μ84 eμ85
                have hS86 : Stat μ84 := by rw [eμ85]; exact (hS65.wI.wAr (by decide)).wI
                have k87 : zK μ84 (zN (sI μ a6 2 ((zI μ a6 2) - 1))) = 7 := by rw [eμ85]; exact k66
                have k88 : zK μ84 a6 = 2 := by rw [eμ85]; exact k67
                refine aw_aload_n (pc' := 204) (dt_X10_sell 103 (203, .aload_n 0, 1) rfl) rfl rfl (aw_getI (pc' := 207) (dt_X10_sell 104 (204, .getfield 131, 3) rfl) fl_ReturnDesk_131 rfl rfl (sk_11 hS86) (aw_iconst (pc' := 208) (v := 1) (dt_X10_sell 105 (207, .iconst 1, 1) rfl) (by decide) rfl (aw_isub (pc' := 209) (dt_X10_sell 106 (208, .isub, 1) rfl) rfl (aw_iret (dt_X10_sell 107 (209, .ireturn, 1) rfl) rfl rfl ?_))))
                exact h
              · intro q82
                have h := h.2 q82
                obtain ⟨g89, h⟩ := h
                obtain ⟨g90, h⟩ := h
                obtain ⟨g91, h⟩ := h
                refine aw_iconst (pc' := 22) (v := 1) (dt_X5_hasNote 11 (21, .iconst 1, 1) rfl) (by decide) rfl (aw_goto (tgt := 26) (dt_X5_hasNote 12 (22, .goto 4, 3) rfl) (by decide) (aw_iret (dt_X5_hasNote 14 (26, .ireturn, 1) rfl) rfl rfl (aw_stk (st' := [.int 1]) rfl (aw_if_ne_T (pc' := 8) (tgt := 10) (dt_X5_payByNote 3 (5, .ifCond .ne 5, 3) rfl) (by decide) rfl (by decide) (aw_aload_n (pc' := 11) (dt_X5_payByNote 6 (10, .aload_n 0, 1) rfl) rfl rfl (aw_getAs (pc' := 14) (dt_X5_payByNote 7 (11, .getfield 9, 3) rfl) fl_Purse_9 rfl rfl (sk_17 hS65) (sa_17_0 hS65) (aw_iload_n (pc' := 15) (dt_X5_payByNote 8 (14, .iload_n 1, 1) rfl) rfl rfl (aw_iald (pc' := 16) (dt_X5_payByNote 9 (15, .iaload, 1) rfl) rfl (sk_18 hS65) (vin_eq (sl_18 hS65) g89) (aw_iload_n (pc' := 17) (dt_X5_payByNote 10 (16, .iload_n 2, 1) rfl) rfl rfl (aw_mmin (pc' := 20) (dt_X5_payByNote 11 (17, .invokestatic 23, 3) rfl) mm_Purse_23 (Nat.le_of_ble_eq_true rfl) rfl (aw_istore_n (pc' := 21) (ls' := [some (.ref 17), some (.int x5), some (.int (zI μ63 (zN (sI μ a6 2 ((zI μ a6 2) - 1))) 9)), some (.int (if (zI μ63 (zN (sI μ a6 2 ((zI μ a6 2) - 1))) 9) < (zI μ63 18 x5.toNatClampNeg) then (zI μ63 (zN (sI μ a6 2 ((zI μ a6 2) - 1))) 9) else (zI μ63 18 x5.toNatClampNeg)))]) (dt_X5_payByNote 12 (20, .istore_n 3, 1) rfl) (by decide) rfl rfl (aw_aload_n (pc' := 22) (dt_X5_payByNote 13 (21, .aload_n 0, 1) rfl) rfl rfl (aw_getAs (pc' := 25) (dt_X5_payByNote 14 (22, .getfield 9, 3) rfl) fl_Purse_9 rfl rfl (sk_17 hS65) (sa_17_0 hS65) (aw_iload_n (pc' := 26) (dt_X5_payByNote 15 (25, .iload_n 1, 1) rfl) rfl rfl (aw_dup2 (pc' := 27) (dt_X5_payByNote 16 (26, .dup2, 1) rfl) rfl rfl rfl (aw_iald (pc' := 28) (dt_X5_payByNote 17 (27, .iaload, 1) rfl) rfl (sk_18 hS65) (vin_eq (sl_18 hS65) g90) (aw_iload_n (pc' := 29) (dt_X5_payByNote 18 (28, .iload_n 3, 1) rfl) rfl rfl (aw_isub (pc' := 30) (dt_X5_payByNote 19 (29, .isub, 1) rfl) rfl (aw_iast (pc' := 31) (dt_X5_payByNote 20 (30, .iastore, 1) rfl) rfl (sk_18 hS65) (by decide) (vin_eq (sl_18 hS65) g91) (aw_iload_n (pc' := 32) (dt_X5_payByNote 21 (31, .iload_n 3, 1) rfl) rfl rfl (aw_iret (dt_X5_payByNote 22 (32, .ireturn, 1) rfl) rfl rfl (aw_stk (st' := [.int (if (zI μ63 (zN (sI μ a6 2 ((zI μ a6 2) - 1))) 9) < (zI μ63 18 x5.toNatClampNeg) then (zI μ63 (zN (sI μ a6 2 ((zI μ a6 2) - 1))) 9) else (zI μ63 18 x5.toNatClampNeg)), .int (zI μ63 (zN (sI μ a6 2 ((zI μ a6 2) - 1))) 9), .int (zI μ63 17 2), .ref 17]) rfl (aw_isub (pc' := 178) (dt_X10_sell 88 (177, .isub, 1) rfl) rfl (aw_iadd (pc' := 179) (dt_X10_sell 89 (178, .iadd, 1) rfl) rfl (aw_putI (pc' := 182) (dt_X10_sell 90 (179, .putfield 118, 3) rfl) fl_ReturnDesk_118 rfl (by decide +kernel) rfl (sk_17 hS65.wI) ?_)))))))))))))))))))))))))
                refine aw_mem (fun μ92 eμ93 => ?_)
                have h := h μ92 eμ93
                have hS94 : Stat μ92 := by rw [eμ93]; exact hS65.wI.wI
                have k95 : zK μ92 (zN (sI μ a6 2 ((zI μ a6 2) - 1))) = 7 := by rw [eμ93]; exact k66
                have k96 : zK μ92 a6 = 2 := by rw [eμ93]; exact k67
                obtain ⟨g97, h⟩ := h
                refine aw_aload_n (pc' := 183) (dt_X10_sell 91 (182, .aload_n 0, 1) rfl) rfl rfl (aw_getAs (pc' := 186) (dt_X10_sell 92 (183, .getfield 23, 3) rfl) fl_ReturnDesk_23 rfl rfl (sk_11 hS94) (sa_11_2 hS94) (aw_aload_n (pc' := 187) (dt_X10_sell 93 (186, .aload_n 0, 1) rfl) rfl rfl (aw_getI (pc' := 190) (dt_X10_sell 94 (187, .getfield 131, 3) rfl) fl_ReturnDesk_131 rfl rfl (sk_11 hS94) (aw_aload (pc' := 192) (dt_X10_sell 95 (190, .aload 7, 2) rfl) rfl rfl (aw_aast (pc' := 193) (ci := 7) (dt_X10_sell 96 (192, .aastore, 1) rfl) (by decide) (by decide) (by decide) rfl rfl (sk_14 hS94) (by decide) k95 (vin_eq (sl_14 hS94) g97) (aw_aload_n (pc' := 194) (dt_X10_sell 97 (193, .aload_n 0, 1) rfl) rfl rfl (aw_dup (pc' := 195) (dt_X10_sell 98 (194, .dup, 1) rfl) rfl rfl (aw_getI (pc' := 198) (dt_X10_sell 99 (195, .getfield 131, 3) rfl) fl_ReturnDesk_131 rfl rfl (sk_11 (hS94.wAr (by decide))) (aw_iconst (pc' := 199) (v := 1) (dt_X10_sell 100 (198, .iconst 1, 1) rfl) (by decide) rfl (aw_iadd (pc' := 200) (dt_X10_sell 101 (199, .iadd, 1) rfl) rfl (aw_putI (pc' := 203) (dt_X10_sell 102 (200, .putfield 131, 3) rfl) fl_ReturnDesk_131 rfl (by decide +kernel) rfl (sk_11 (hS94.wAr (by decide))) (aw_aload_n (pc' := 204) (dt_X10_sell 103 (203, .aload_n 0, 1) rfl) rfl rfl (aw_getI (pc' := 207) (dt_X10_sell 104 (204, .getfield 131, 3) rfl) fl_ReturnDesk_131 rfl rfl (sk_11 (hS94.wAr (by decide)).wI) (aw_iconst (pc' := 208) (v := 1) (dt_X10_sell 105 (207, .iconst 1, 1) rfl) (by decide) rfl (aw_isub (pc' := 209) (dt_X10_sell 106 (208, .isub, 1) rfl) rfl (aw_iret (dt_X10_sell 107 (209, .ireturn, 1) rfl) rfl rfl ?_))))))))))))))))
                exact h
    · intro q3
      have h := h.2 q3
      refine aw_bipush (pc' := 103) (v := (-3)) (dt_X10_sell 51 (101, .bipush (-3), 2) rfl) (by decide) rfl (aw_iret (dt_X10_sell 52 (103, .ireturn, 1) rfl) rfl rfl ?_)
      exact h
  · intro q2
    have h := h.2 q2
    refine aw_bipush (pc' := 88) (v := (-2)) (dt_X10_sell 43 (86, .bipush (-2), 2) rfl) (by decide) rfl (aw_iret (dt_X10_sell 44 (88, .ireturn, 1) rfl) rfl rfl ?_)
    exact h

theorem t_X10_gift {E : ZE} {l : Launch} {d nc ns : Nat} {x1 : Int32} {x2 : Int32} {μ : ZM} {K : Option Value → ZM → Prop} (hS : Stat μ) (h :
  (x1 < 0 →
    K (some (.int (-1))) μ) ∧
  (¬ x1 < 0 →
    (((zI μ 11 14) - 1) < x1 →
      K (some (.int (-1))) μ) ∧
    (¬ ((zI μ 11 14) - 1) < x1 →
      (vp_in x1 300) ∧
      (zA μ 14 x1.toNatClampNeg = none →
        K (some (.int (-1))) μ) ∧
      (∀ b5, zA μ 14 x1.toNatClampNeg = some b5 →
        (x2 < 0 →
          K (some (.int (-1))) μ) ∧
        (¬ x2 < 0 →
          (1 < x2 →
            K (some (.int (-1))) μ) ∧
          (¬ 1 < x2 →
            (zK μ b5 = 7) ∧
            K (some (.int (zI μ b5 10))) (sI μ b5 10 x2))))))) : AW E l (d + 2) nc ns mX10_gift 0 [some (.ref 11), some (.int x1), some (.int x2), none, none] [] μ K := by
  refine aw_aload_n (pc' := 1) (dt_X10_gift 0 (0, .aload_n 0, 1) rfl) rfl rfl (aw_iload_n (pc' := 2) (dt_X10_gift 1 (1, .iload_n 1, 1) rfl) rfl rfl (aw_inV (pc' := 5) (nc1 := 0) (ns1 := 0) (nc := nc) (ns := ns) (ls' := [some (.ref 11), some (.int x1)]) (y2 := mX10_saleAt) (As := [.int x1]) (rest := []) (a := 11) (dt_X10_gift 2 (2, .invokevirtual 152, 3) rfl) ok_X10_saleAt ln_ReturnDesk_152 im_X10_saleAt se_X10_saleAt pr_X10_saleAt (Or.inl ⟨by decide, rfl⟩) rfl (Nat.le_of_ble_eq_true rfl) (Nat.le_of_ble_eq_true rfl) rfl rfl (sk_11 hS) (aw_iload_n (pc' := 1) (dt_X10_saleAt 0 (0, .iload_n 1, 1) rfl) rfl rfl (aw_iconst (pc' := 2) (v := 0) (dt_X10_saleAt 1 (1, .iconst 0, 1) rfl) (by decide) rfl (aw_aload_n (pc' := 3) (dt_X10_saleAt 2 (2, .aload_n 0, 1) rfl) rfl rfl (aw_getI (pc' := 6) (dt_X10_saleAt 3 (3, .getfield 131, 3) rfl) fl_ReturnDesk_131 rfl rfl (sk_11 hS) (aw_iconst (pc' := 7) (v := 1) (dt_X10_saleAt 4 (6, .iconst 1, 1) rfl) (by decide) rfl (aw_isub (pc' := 8) (dt_X10_saleAt 5 (7, .isub, 1) rfl) rfl (aw_inS (pc' := 11) (nc1 := 0) (ns1 := 0) (nc := 0) (ns := 0) (ls' := [some (.int x1), some (.int 0), some (.int ((zI μ 11 14) - 1))]) (y2 := mX10_within) (As := [.int x1, .int 0, .int ((zI μ 11 14) - 1)]) (rest := []) (dt_X10_saleAt 6 (8, .invokestatic 76, 3) rfl) ok_X10_within ln_ReturnDesk_76 sm_X10_within pr_X10_within rfl (Nat.le_of_ble_eq_true rfl) (Nat.le_of_ble_eq_true rfl) rfl rfl (aw_iload_n (pc' := 1) (dt_X10_within 0 (0, .iload_n 0, 1) rfl) rfl rfl (aw_iload_n (pc' := 2) (dt_X10_within 1 (1, .iload_n 1, 1) rfl) rfl rfl (aw_icmp_lt (pc' := 5) (tgt := 14) (dt_X10_within 2 (2, .if_icmp .lt 12, 3) rfl) (by decide) rfl ?_ ?_))))))))))))
  · intro q1
    have h := h.1 q1
    refine aw_iconst (pc' := 15) (v := 0) (dt_X10_within 8 (14, .iconst 0, 1) rfl) (by decide) rfl (aw_iret (dt_X10_within 9 (15, .ireturn, 1) rfl) rfl rfl (aw_stk (st' := [.int 0]) rfl (aw_if_eq_T (pc' := 14) (tgt := 23) (dt_X10_saleAt 7 (11, .ifCond .eq 12, 3) rfl) (by decide) rfl (by decide) (aw_null (pc' := 24) (dt_X10_saleAt 13 (23, .aconst_null, 1) rfl) rfl (aw_aretN (dt_X10_saleAt 14 (24, .areturn, 1) rfl) rfl rfl (aw_stk (st' := [.null]) rfl (aw_astore_nN (pc' := 6) (ls' := [some (.ref 11), some (.int x1), some (.int x2), some (.null), none]) (dt_X10_gift 3 (5, .astore_n 3, 1) rfl) (by decide) rfl rfl (aw_aload_nN (pc' := 7) (dt_X10_gift 4 (6, .aload_n 3, 1) rfl) rfl rfl (aw_ifnullN (tgt := 19) (dt_X10_gift 5 (7, .ifnull 12, 3) rfl) (by decide) (aw_iconst (pc' := 20) (v := (-1)) (dt_X10_gift 11 (19, .iconst (-1), 1) rfl) (by decide) rfl (aw_iret (dt_X10_gift 12 (20, .ireturn, 1) rfl) rfl rfl ?_)))))))))))
    exact h
  · intro q1
    have h := h.2 q1
    refine aw_iload_n (pc' := 6) (dt_X10_within 3 (5, .iload_n 0, 1) rfl) rfl rfl (aw_iload_n (pc' := 7) (dt_X10_within 4 (6, .iload_n 2, 1) rfl) rfl rfl (aw_icmp_gt (pc' := 10) (tgt := 14) (dt_X10_within 5 (7, .if_icmp .gt 7, 3) rfl) (by decide) rfl ?_ ?_))
    · intro q2
      have h := h.1 q2
      refine aw_iconst (pc' := 15) (v := 0) (dt_X10_within 8 (14, .iconst 0, 1) rfl) (by decide) rfl (aw_iret (dt_X10_within 9 (15, .ireturn, 1) rfl) rfl rfl (aw_stk (st' := [.int 0]) rfl (aw_if_eq_T (pc' := 14) (tgt := 23) (dt_X10_saleAt 7 (11, .ifCond .eq 12, 3) rfl) (by decide) rfl (by decide) (aw_null (pc' := 24) (dt_X10_saleAt 13 (23, .aconst_null, 1) rfl) rfl (aw_aretN (dt_X10_saleAt 14 (24, .areturn, 1) rfl) rfl rfl (aw_stk (st' := [.null]) rfl (aw_astore_nN (pc' := 6) (ls' := [some (.ref 11), some (.int x1), some (.int x2), some (.null), none]) (dt_X10_gift 3 (5, .astore_n 3, 1) rfl) (by decide) rfl rfl (aw_aload_nN (pc' := 7) (dt_X10_gift 4 (6, .aload_n 3, 1) rfl) rfl rfl (aw_ifnullN (tgt := 19) (dt_X10_gift 5 (7, .ifnull 12, 3) rfl) (by decide) (aw_iconst (pc' := 20) (v := (-1)) (dt_X10_gift 11 (19, .iconst (-1), 1) rfl) (by decide) rfl (aw_iret (dt_X10_gift 12 (20, .ireturn, 1) rfl) rfl rfl ?_)))))))))))
      exact h
    · intro q2
      have h := h.2 q2
      obtain ⟨g3, h⟩ := h
      refine aw_iconst (pc' := 11) (v := 1) (dt_X10_within 6 (10, .iconst 1, 1) rfl) (by decide) rfl (aw_goto (tgt := 15) (dt_X10_within 7 (11, .goto 4, 3) rfl) (by decide) (aw_iret (dt_X10_within 9 (15, .ireturn, 1) rfl) rfl rfl (aw_stk (st' := [.int 1]) rfl (aw_if_eq_F (pc' := 14) (tgt := 23) (dt_X10_saleAt 7 (11, .ifCond .eq 12, 3) rfl) (by decide) rfl (by decide) (aw_aload_n (pc' := 15) (dt_X10_saleAt 8 (14, .aload_n 0, 1) rfl) rfl rfl (aw_getAs (pc' := 18) (dt_X10_saleAt 9 (15, .getfield 23, 3) rfl) fl_ReturnDesk_23 rfl rfl (sk_11 hS) (sa_11_2 hS) (aw_iload_n (pc' := 19) (dt_X10_saleAt 10 (18, .iload_n 1, 1) rfl) rfl rfl (aw_aald (pc' := 20) (dt_X10_saleAt 11 (19, .aaload, 1) rfl) (by decide) (by decide) rfl (sk_14 hS) (vin_eq (sl_14 hS) g3) ?_ ?_))))))))
      · intro e4
        have h := h.1 e4
        refine aw_goto (tgt := 24) (dt_X10_saleAt 12 (20, .goto 4, 3) rfl) (by decide) (aw_aretN (dt_X10_saleAt 14 (24, .areturn, 1) rfl) rfl rfl (aw_stk (st' := [.null]) rfl (aw_astore_nN (pc' := 6) (ls' := [some (.ref 11), some (.int x1), some (.int x2), some (.null), none]) (dt_X10_gift 3 (5, .astore_n 3, 1) rfl) (by decide) rfl rfl (aw_aload_nN (pc' := 7) (dt_X10_gift 4 (6, .aload_n 3, 1) rfl) rfl rfl (aw_ifnullN (tgt := 19) (dt_X10_gift 5 (7, .ifnull 12, 3) rfl) (by decide) (aw_iconst (pc' := 20) (v := (-1)) (dt_X10_gift 11 (19, .iconst (-1), 1) rfl) (by decide) rfl (aw_iret (dt_X10_gift 12 (20, .ireturn, 1) rfl) rfl rfl ?_)))))))
        exact h
      · intro b5 e4
        have h := h.2 b5 e4
        refine aw_goto (tgt := 24) (dt_X10_saleAt 12 (20, .goto 4, 3) rfl) (by decide) (aw_aret (dt_X10_saleAt 14 (24, .areturn, 1) rfl) rfl rfl (aw_stk (st' := [.ref b5]) rfl (aw_astore_n (pc' := 6) (ls' := [some (.ref 11), some (.int x1), some (.int x2), some (.ref b5), none]) (dt_X10_gift 3 (5, .astore_n 3, 1) rfl) (by decide) rfl rfl (aw_aload_n (pc' := 7) (dt_X10_gift 4 (6, .aload_n 3, 1) rfl) rfl rfl (aw_ifnull (pc' := 10) (dt_X10_gift 5 (7, .ifnull 12, 3) rfl) rfl (aw_iload_n (pc' := 11) (dt_X10_gift 6 (10, .iload_n 2, 1) rfl) rfl rfl (aw_iconst (pc' := 12) (v := 0) (dt_X10_gift 7 (11, .iconst 0, 1) rfl) (by decide) rfl (aw_iconst (pc' := 13) (v := 1) (dt_X10_gift 8 (12, .iconst 1, 1) rfl) (by decide) rfl (aw_inS (pc' := 16) (nc1 := 0) (ns1 := 0) (nc := nc) (ns := ns) (ls' := [some (.int x2), some (.int 0), some (.int 1)]) (y2 := mX10_within) (As := [.int x2, .int 0, .int 1]) (rest := []) (dt_X10_gift 9 (13, .invokestatic 76, 3) rfl) ok_X10_within ln_ReturnDesk_76 sm_X10_within pr_X10_within rfl (Nat.le_of_ble_eq_true rfl) (Nat.le_of_ble_eq_true rfl) rfl rfl (aw_iload_n (pc' := 1) (dt_X10_within 0 (0, .iload_n 0, 1) rfl) rfl rfl (aw_iload_n (pc' := 2) (dt_X10_within 1 (1, .iload_n 1, 1) rfl) rfl rfl (aw_icmp_lt (pc' := 5) (tgt := 14) (dt_X10_within 2 (2, .if_icmp .lt 12, 3) rfl) (by decide) rfl ?_ ?_))))))))))))
        · intro q6
          have h := h.1 q6
          refine aw_iconst (pc' := 15) (v := 0) (dt_X10_within 8 (14, .iconst 0, 1) rfl) (by decide) rfl (aw_iret (dt_X10_within 9 (15, .ireturn, 1) rfl) rfl rfl (aw_stk (st' := [.int 0]) rfl (aw_if_ne_F (pc' := 19) (tgt := 21) (dt_X10_gift 10 (16, .ifCond .ne 5, 3) rfl) (by decide) rfl (by decide) (aw_iconst (pc' := 20) (v := (-1)) (dt_X10_gift 11 (19, .iconst (-1), 1) rfl) (by decide) rfl (aw_iret (dt_X10_gift 12 (20, .ireturn, 1) rfl) rfl rfl ?_)))))
          exact h
        · intro q6
          have h := h.2 q6
          refine aw_iload_n (pc' := 6) (dt_X10_within 3 (5, .iload_n 0, 1) rfl) rfl rfl (aw_iload_n (pc' := 7) (dt_X10_within 4 (6, .iload_n 2, 1) rfl) rfl rfl (aw_icmp_gt (pc' := 10) (tgt := 14) (dt_X10_within 5 (7, .if_icmp .gt 7, 3) rfl) (by decide) rfl ?_ ?_))
          · intro q7
            have h := h.1 q7
            refine aw_iconst (pc' := 15) (v := 0) (dt_X10_within 8 (14, .iconst 0, 1) rfl) (by decide) rfl (aw_iret (dt_X10_within 9 (15, .ireturn, 1) rfl) rfl rfl (aw_stk (st' := [.int 0]) rfl (aw_if_ne_F (pc' := 19) (tgt := 21) (dt_X10_gift 10 (16, .ifCond .ne 5, 3) rfl) (by decide) rfl (by decide) (aw_iconst (pc' := 20) (v := (-1)) (dt_X10_gift 11 (19, .iconst (-1), 1) rfl) (by decide) rfl (aw_iret (dt_X10_gift 12 (20, .ireturn, 1) rfl) rfl rfl ?_)))))
            exact h
          · intro q7
            have h := h.2 q7
            obtain ⟨g8, h⟩ := h
            refine aw_iconst (pc' := 11) (v := 1) (dt_X10_within 6 (10, .iconst 1, 1) rfl) (by decide) rfl (aw_goto (tgt := 15) (dt_X10_within 7 (11, .goto 4, 3) rfl) (by decide) (aw_iret (dt_X10_within 9 (15, .ireturn, 1) rfl) rfl rfl (aw_stk (st' := [.int 1]) rfl (aw_if_ne_T (pc' := 19) (tgt := 21) (dt_X10_gift 10 (16, .ifCond .ne 5, 3) rfl) (by decide) rfl (by decide) (aw_aload_n (pc' := 22) (dt_X10_gift 13 (21, .aload_n 3, 1) rfl) rfl rfl (aw_getI (pc' := 25) (dt_X10_gift 14 (22, .getfield 156, 3) rfl) fl_ReturnDesk_156 rfl rfl g8 (aw_istore (pc' := 27) (ls' := [some (.ref 11), some (.int x1), some (.int x2), some (.ref b5), some (.int (zI μ b5 10))]) (dt_X10_gift 15 (25, .istore 4, 2) rfl) (by decide) rfl rfl (aw_aload_n (pc' := 28) (dt_X10_gift 16 (27, .aload_n 3, 1) rfl) rfl rfl (aw_iload_n (pc' := 29) (dt_X10_gift 17 (28, .iload_n 2, 1) rfl) rfl rfl (aw_putI (pc' := 32) (dt_X10_gift 18 (29, .putfield 156, 3) rfl) fl_ReturnDesk_156 rfl (by decide +kernel) rfl g8 (aw_iload (pc' := 34) (dt_X10_gift 19 (32, .iload 4, 2) rfl) rfl rfl (aw_iret (dt_X10_gift 20 (34, .ireturn, 1) rfl) rfl rfl ?_))))))))))))
            exact h

theorem t_X10_ofSale {E : ZE} {l : Launch} {d nc ns : Nat} {x1 : Int32} {x2 : Int32} {μ : ZM} {K : Option Value → ZM → Prop} (hS : Stat μ) (h :
  (x1 < 0 →
    K (some (.int (-2000000000))) μ) ∧
  (¬ x1 < 0 →
    (((zI μ 11 14) - 1) < x1 →
      K (some (.int (-2000000000))) μ) ∧
    (¬ ((zI μ 11 14) - 1) < x1 →
      (vp_in x1 300) ∧
      (zA μ 14 x1.toNatClampNeg = none →
        K (some (.int (-2000000000))) μ) ∧
      (∀ b5, zA μ 14 x1.toNatClampNeg = some b5 →
        (x2 = 0 →
          (zK μ b5 = 7) ∧
          K (some (.int (zI μ b5 11))) μ) ∧
        (x2 = 1 →
          (zK μ b5 = 7) ∧
          (zA μ b5 1 = none →
            False) ∧
          (∀ b11, zA μ b5 1 = some b11 →
            (zK μ b11 = 4) ∧
            K (some (.int (zI μ b11 0))) μ)) ∧
        (x2 = 2 →
          (zK μ b5 = 7) ∧
          (zA μ b5 2 = none →
            False) ∧
          (∀ b16, zA μ b5 2 = some b16 →
            (zK μ b16 = 2) ∧
            K (some (.int (zI μ b16 0))) μ)) ∧
        (x2 = 3 →
          (zK μ b5 = 7) ∧
          K (some (.int (zI μ b5 4))) μ) ∧
        (x2 = 4 →
          (zK μ b5 = 7) ∧
          K (some (.int (zI μ b5 3))) μ) ∧
        (x2 = 5 →
          (zK μ b5 = 7) ∧
          K (some (.int (zI μ b5 6))) μ) ∧
        (x2 = 6 →
          (zK μ b5 = 7) ∧
          K (some (.int (zI μ b5 7))) μ) ∧
        (x2 = 7 →
          (zK μ b5 = 7) ∧
          K (some (.int (zI μ b5 5))) μ) ∧
        (x2 = 8 →
          (zK μ b5 = 7) ∧
          K (some (.int (zI μ b5 8))) μ) ∧
        (x2 = 9 →
          (zK μ b5 = 7) ∧
          K (some (.int (zI μ b5 9))) μ) ∧
        (x2 = 10 →
          (zK μ b5 = 7) ∧
          K (some (.int (zI μ b5 10))) μ) ∧
        (x2 = 11 →
          (zK μ b5 = 7) ∧
          (¬ (zI μ b5 12) = 3000 →
            K (some (.int (zI μ b5 12))) μ) ∧
          ((zI μ b5 12) = 3000 →
            K (some (.int (-1))) μ)) ∧
        (x2 = 12 →
          AW E l (d + 1) 0 0 mX10_threesOf 0 (zargs 4 [.ref 11, .ref b5]) [] μ (fun v μ38 => ∃ r40 : Int32, v = some (.int r40) ∧ Stat μ38 ∧ 
            K (some (.int r40)) μ38)) ∧
        ((¬ x2 = 0 ∧ ¬ x2 = 1 ∧ ¬ x2 = 2 ∧ ¬ x2 = 3 ∧ ¬ x2 = 4 ∧ ¬ x2 = 5 ∧ ¬ x2 = 6 ∧ ¬ x2 = 7 ∧ ¬ x2 = 8 ∧ ¬ x2 = 9 ∧ ¬ x2 = 10 ∧ ¬ x2 = 11 ∧ ¬ x2 = 12) →
        K (some (.int (-2000000000))) μ))))) : AW E l (d + 2) nc ns mX10_ofSale 0 [some (.ref 11), some (.int x1), some (.int x2), none] [] μ K := by
  refine aw_aload_n (pc' := 1) (dt_X10_ofSale 0 (0, .aload_n 0, 1) rfl) rfl rfl (aw_iload_n (pc' := 2) (dt_X10_ofSale 1 (1, .iload_n 1, 1) rfl) rfl rfl (aw_inV (pc' := 5) (nc1 := 0) (ns1 := 0) (nc := nc) (ns := ns) (ls' := [some (.ref 11), some (.int x1)]) (y2 := mX10_saleAt) (As := [.int x1]) (rest := []) (a := 11) (dt_X10_ofSale 2 (2, .invokevirtual 152, 3) rfl) ok_X10_saleAt ln_ReturnDesk_152 im_X10_saleAt se_X10_saleAt pr_X10_saleAt (Or.inl ⟨by decide, rfl⟩) rfl (Nat.le_of_ble_eq_true rfl) (Nat.le_of_ble_eq_true rfl) rfl rfl (sk_11 hS) (aw_iload_n (pc' := 1) (dt_X10_saleAt 0 (0, .iload_n 1, 1) rfl) rfl rfl (aw_iconst (pc' := 2) (v := 0) (dt_X10_saleAt 1 (1, .iconst 0, 1) rfl) (by decide) rfl (aw_aload_n (pc' := 3) (dt_X10_saleAt 2 (2, .aload_n 0, 1) rfl) rfl rfl (aw_getI (pc' := 6) (dt_X10_saleAt 3 (3, .getfield 131, 3) rfl) fl_ReturnDesk_131 rfl rfl (sk_11 hS) (aw_iconst (pc' := 7) (v := 1) (dt_X10_saleAt 4 (6, .iconst 1, 1) rfl) (by decide) rfl (aw_isub (pc' := 8) (dt_X10_saleAt 5 (7, .isub, 1) rfl) rfl (aw_inS (pc' := 11) (nc1 := 0) (ns1 := 0) (nc := 0) (ns := 0) (ls' := [some (.int x1), some (.int 0), some (.int ((zI μ 11 14) - 1))]) (y2 := mX10_within) (As := [.int x1, .int 0, .int ((zI μ 11 14) - 1)]) (rest := []) (dt_X10_saleAt 6 (8, .invokestatic 76, 3) rfl) ok_X10_within ln_ReturnDesk_76 sm_X10_within pr_X10_within rfl (Nat.le_of_ble_eq_true rfl) (Nat.le_of_ble_eq_true rfl) rfl rfl (aw_iload_n (pc' := 1) (dt_X10_within 0 (0, .iload_n 0, 1) rfl) rfl rfl (aw_iload_n (pc' := 2) (dt_X10_within 1 (1, .iload_n 1, 1) rfl) rfl rfl (aw_icmp_lt (pc' := 5) (tgt := 14) (dt_X10_within 2 (2, .if_icmp .lt 12, 3) rfl) (by decide) rfl ?_ ?_))))))))))))
  · intro q1
    have h := h.1 q1
    refine aw_iconst (pc' := 15) (v := 0) (dt_X10_within 8 (14, .iconst 0, 1) rfl) (by decide) rfl (aw_iret (dt_X10_within 9 (15, .ireturn, 1) rfl) rfl rfl (aw_stk (st' := [.int 0]) rfl (aw_if_eq_T (pc' := 14) (tgt := 23) (dt_X10_saleAt 7 (11, .ifCond .eq 12, 3) rfl) (by decide) rfl (by decide) (aw_null (pc' := 24) (dt_X10_saleAt 13 (23, .aconst_null, 1) rfl) rfl (aw_aretN (dt_X10_saleAt 14 (24, .areturn, 1) rfl) rfl rfl (aw_stk (st' := [.null]) rfl (aw_astore_nN (pc' := 6) (ls' := [some (.ref 11), some (.int x1), some (.int x2), some (.null)]) (dt_X10_ofSale 3 (5, .astore_n 3, 1) rfl) (by decide) rfl rfl (aw_aload_nN (pc' := 7) (dt_X10_ofSale 4 (6, .aload_n 3, 1) rfl) rfl rfl (aw_ifnonnullN (pc' := 10) (dt_X10_ofSale 5 (7, .ifnonnull 6, 3) rfl) rfl (aw_ldc (pc' := 12) (dt_X10_ofSale 6 (10, .ldc 159, 2) rfl) ct_ReturnDesk_159 rfl (aw_iret (dt_X10_ofSale 7 (12, .ireturn, 1) rfl) rfl rfl ?_)))))))))))
    exact h
  · intro q1
    have h := h.2 q1
    refine aw_iload_n (pc' := 6) (dt_X10_within 3 (5, .iload_n 0, 1) rfl) rfl rfl (aw_iload_n (pc' := 7) (dt_X10_within 4 (6, .iload_n 2, 1) rfl) rfl rfl (aw_icmp_gt (pc' := 10) (tgt := 14) (dt_X10_within 5 (7, .if_icmp .gt 7, 3) rfl) (by decide) rfl ?_ ?_))
    · intro q2
      have h := h.1 q2
      refine aw_iconst (pc' := 15) (v := 0) (dt_X10_within 8 (14, .iconst 0, 1) rfl) (by decide) rfl (aw_iret (dt_X10_within 9 (15, .ireturn, 1) rfl) rfl rfl (aw_stk (st' := [.int 0]) rfl (aw_if_eq_T (pc' := 14) (tgt := 23) (dt_X10_saleAt 7 (11, .ifCond .eq 12, 3) rfl) (by decide) rfl (by decide) (aw_null (pc' := 24) (dt_X10_saleAt 13 (23, .aconst_null, 1) rfl) rfl (aw_aretN (dt_X10_saleAt 14 (24, .areturn, 1) rfl) rfl rfl (aw_stk (st' := [.null]) rfl (aw_astore_nN (pc' := 6) (ls' := [some (.ref 11), some (.int x1), some (.int x2), some (.null)]) (dt_X10_ofSale 3 (5, .astore_n 3, 1) rfl) (by decide) rfl rfl (aw_aload_nN (pc' := 7) (dt_X10_ofSale 4 (6, .aload_n 3, 1) rfl) rfl rfl (aw_ifnonnullN (pc' := 10) (dt_X10_ofSale 5 (7, .ifnonnull 6, 3) rfl) rfl (aw_ldc (pc' := 12) (dt_X10_ofSale 6 (10, .ldc 159, 2) rfl) ct_ReturnDesk_159 rfl (aw_iret (dt_X10_ofSale 7 (12, .ireturn, 1) rfl) rfl rfl ?_)))))))))))
      exact h
    · intro q2
      have h := h.2 q2
      obtain ⟨g3, h⟩ := h
      refine aw_iconst (pc' := 11) (v := 1) (dt_X10_within 6 (10, .iconst 1, 1) rfl) (by decide) rfl (aw_goto (tgt := 15) (dt_X10_within 7 (11, .goto 4, 3) rfl) (by decide) (aw_iret (dt_X10_within 9 (15, .ireturn, 1) rfl) rfl rfl (aw_stk (st' := [.int 1]) rfl (aw_if_eq_F (pc' := 14) (tgt := 23) (dt_X10_saleAt 7 (11, .ifCond .eq 12, 3) rfl) (by decide) rfl (by decide) (aw_aload_n (pc' := 15) (dt_X10_saleAt 8 (14, .aload_n 0, 1) rfl) rfl rfl (aw_getAs (pc' := 18) (dt_X10_saleAt 9 (15, .getfield 23, 3) rfl) fl_ReturnDesk_23 rfl rfl (sk_11 hS) (sa_11_2 hS) (aw_iload_n (pc' := 19) (dt_X10_saleAt 10 (18, .iload_n 1, 1) rfl) rfl rfl (aw_aald (pc' := 20) (dt_X10_saleAt 11 (19, .aaload, 1) rfl) (by decide) (by decide) rfl (sk_14 hS) (vin_eq (sl_14 hS) g3) ?_ ?_))))))))
      · intro e4
        have h := h.1 e4
        refine aw_goto (tgt := 24) (dt_X10_saleAt 12 (20, .goto 4, 3) rfl) (by decide) (aw_aretN (dt_X10_saleAt 14 (24, .areturn, 1) rfl) rfl rfl (aw_stk (st' := [.null]) rfl (aw_astore_nN (pc' := 6) (ls' := [some (.ref 11), some (.int x1), some (.int x2), some (.null)]) (dt_X10_ofSale 3 (5, .astore_n 3, 1) rfl) (by decide) rfl rfl (aw_aload_nN (pc' := 7) (dt_X10_ofSale 4 (6, .aload_n 3, 1) rfl) rfl rfl (aw_ifnonnullN (pc' := 10) (dt_X10_ofSale 5 (7, .ifnonnull 6, 3) rfl) rfl (aw_ldc (pc' := 12) (dt_X10_ofSale 6 (10, .ldc 159, 2) rfl) ct_ReturnDesk_159 rfl (aw_iret (dt_X10_ofSale 7 (12, .ireturn, 1) rfl) rfl rfl ?_)))))))
        exact h
      · intro b5 e4
        have h := h.2 b5 e4
        refine aw_goto (tgt := 24) (dt_X10_saleAt 12 (20, .goto 4, 3) rfl) (by decide) (aw_aret (dt_X10_saleAt 14 (24, .areturn, 1) rfl) rfl rfl (aw_stk (st' := [.ref b5]) rfl (aw_astore_n (pc' := 6) (ls' := [some (.ref 11), some (.int x1), some (.int x2), some (.ref b5)]) (dt_X10_ofSale 3 (5, .astore_n 3, 1) rfl) (by decide) rfl rfl (aw_aload_n (pc' := 7) (dt_X10_ofSale 4 (6, .aload_n 3, 1) rfl) rfl rfl (aw_ifnonnull (tgt := 13) (dt_X10_ofSale 5 (7, .ifnonnull 6, 3) rfl) (by decide) (aw_iload_n (pc' := 14) (dt_X10_ofSale 8 (13, .iload_n 2, 1) rfl) rfl rfl ?_))))))
        by_cases q6 : x2 = 0
        · have h := h.1 q6
          refine aw_tableE (tgt := 80) (off := 66) (dt_X10_ofSale 9 (14, .tableswitch 152 0 12 #[66, 71, 79, 87, 92, 97, 102, 107, 112, 117, 122, 127, 146], 66) rfl) q6 (by decide) (by decide) (by decide) (by decide) ?_
          obtain ⟨g7, h⟩ := h
          refine aw_aload_n (pc' := 81) (dt_X10_ofSale 10 (80, .aload_n 3, 1) rfl) rfl rfl (aw_getI (pc' := 84) (dt_X10_ofSale 11 (81, .getfield 160, 3) rfl) fl_ReturnDesk_160 rfl rfl g7 (aw_iret (dt_X10_ofSale 12 (84, .ireturn, 1) rfl) rfl rfl ?_))
          exact h
        by_cases q8 : x2 = 1
        · have h := h.2.1 q8
          refine aw_tableE (tgt := 85) (off := 71) (dt_X10_ofSale 9 (14, .tableswitch 152 0 12 #[66, 71, 79, 87, 92, 97, 102, 107, 112, 117, 122, 127, 146], 66) rfl) q8 (by decide) (by decide) (by decide) (by decide) ?_
          obtain ⟨g9, h⟩ := h
          refine aw_aload_n (pc' := 86) (dt_X10_ofSale 13 (85, .aload_n 3, 1) rfl) rfl rfl (aw_getA (pc' := 89) (dt_X10_ofSale 14 (86, .getfield 163, 3) rfl) fl_ReturnDesk_163 rfl rfl g9 ?_ ?_)
          · intro e10
            have h := h.1 e10
            exact h.elim
          · intro b11 e10
            have h := h.2 b11 e10
            obtain ⟨g12, h⟩ := h
            refine aw_getI (pc' := 92) (dt_X10_ofSale 15 (89, .getfield 164, 3) rfl) fl_ReturnDesk_164 rfl rfl g12 (aw_iret (dt_X10_ofSale 16 (92, .ireturn, 1) rfl) rfl rfl ?_)
            exact h
        by_cases q13 : x2 = 2
        · have h := h.2.2.1 q13
          refine aw_tableE (tgt := 93) (off := 79) (dt_X10_ofSale 9 (14, .tableswitch 152 0 12 #[66, 71, 79, 87, 92, 97, 102, 107, 112, 117, 122, 127, 146], 66) rfl) q13 (by decide) (by decide) (by decide) (by decide) ?_
          obtain ⟨g14, h⟩ := h
          refine aw_aload_n (pc' := 94) (dt_X10_ofSale 17 (93, .aload_n 3, 1) rfl) rfl rfl (aw_getA (pc' := 97) (dt_X10_ofSale 18 (94, .getfield 167, 3) rfl) fl_ReturnDesk_167 rfl rfl g14 ?_ ?_)
          · intro e15
            have h := h.1 e15
            exact h.elim
          · intro b16 e15
            have h := h.2 b16 e15
            obtain ⟨g17, h⟩ := h
            refine aw_getI (pc' := 100) (dt_X10_ofSale 19 (97, .getfield 171, 3) rfl) fl_ReturnDesk_171 rfl rfl g17 (aw_iret (dt_X10_ofSale 20 (100, .ireturn, 1) rfl) rfl rfl ?_)
            exact h
        by_cases q18 : x2 = 3
        · have h := h.2.2.2.1 q18
          refine aw_tableE (tgt := 101) (off := 87) (dt_X10_ofSale 9 (14, .tableswitch 152 0 12 #[66, 71, 79, 87, 92, 97, 102, 107, 112, 117, 122, 127, 146], 66) rfl) q18 (by decide) (by decide) (by decide) (by decide) ?_
          obtain ⟨g19, h⟩ := h
          refine aw_aload_n (pc' := 102) (dt_X10_ofSale 21 (101, .aload_n 3, 1) rfl) rfl rfl (aw_getI (pc' := 105) (dt_X10_ofSale 22 (102, .getfield 172, 3) rfl) fl_ReturnDesk_172 rfl rfl g19 (aw_iret (dt_X10_ofSale 23 (105, .ireturn, 1) rfl) rfl rfl ?_))
          exact h
        by_cases q20 : x2 = 4
        · have h := h.2.2.2.2.1 q20
          refine aw_tableE (tgt := 106) (off := 92) (dt_X10_ofSale 9 (14, .tableswitch 152 0 12 #[66, 71, 79, 87, 92, 97, 102, 107, 112, 117, 122, 127, 146], 66) rfl) q20 (by decide) (by decide) (by decide) (by decide) ?_
          obtain ⟨g21, h⟩ := h
          refine aw_aload_n (pc' := 107) (dt_X10_ofSale 24 (106, .aload_n 3, 1) rfl) rfl rfl (aw_getI (pc' := 110) (dt_X10_ofSale 25 (107, .getfield 175, 3) rfl) fl_ReturnDesk_175 rfl rfl g21 (aw_iret (dt_X10_ofSale 26 (110, .ireturn, 1) rfl) rfl rfl ?_))
          exact h
        by_cases q22 : x2 = 5
        · have h := h.2.2.2.2.2.1 q22
          refine aw_tableE (tgt := 111) (off := 97) (dt_X10_ofSale 9 (14, .tableswitch 152 0 12 #[66, 71, 79, 87, 92, 97, 102, 107, 112, 117, 122, 127, 146], 66) rfl) q22 (by decide) (by decide) (by decide) (by decide) ?_
          obtain ⟨g23, h⟩ := h
          refine aw_aload_n (pc' := 112) (dt_X10_ofSale 27 (111, .aload_n 3, 1) rfl) rfl rfl (aw_getI (pc' := 115) (dt_X10_ofSale 28 (112, .getfield 176, 3) rfl) fl_ReturnDesk_176 rfl rfl g23 (aw_iret (dt_X10_ofSale 29 (115, .ireturn, 1) rfl) rfl rfl ?_))
          exact h
        by_cases q24 : x2 = 6
        · have h := h.2.2.2.2.2.2.1 q24
          refine aw_tableE (tgt := 116) (off := 102) (dt_X10_ofSale 9 (14, .tableswitch 152 0 12 #[66, 71, 79, 87, 92, 97, 102, 107, 112, 117, 122, 127, 146], 66) rfl) q24 (by decide) (by decide) (by decide) (by decide) ?_
          obtain ⟨g25, h⟩ := h
          refine aw_aload_n (pc' := 117) (dt_X10_ofSale 30 (116, .aload_n 3, 1) rfl) rfl rfl (aw_getI (pc' := 120) (dt_X10_ofSale 31 (117, .getfield 179, 3) rfl) fl_ReturnDesk_179 rfl rfl g25 (aw_iret (dt_X10_ofSale 32 (120, .ireturn, 1) rfl) rfl rfl ?_))
          exact h
        by_cases q26 : x2 = 7
        · have h := h.2.2.2.2.2.2.2.1 q26
          refine aw_tableE (tgt := 121) (off := 107) (dt_X10_ofSale 9 (14, .tableswitch 152 0 12 #[66, 71, 79, 87, 92, 97, 102, 107, 112, 117, 122, 127, 146], 66) rfl) q26 (by decide) (by decide) (by decide) (by decide) ?_
          obtain ⟨g27, h⟩ := h
          refine aw_aload_n (pc' := 122) (dt_X10_ofSale 33 (121, .aload_n 3, 1) rfl) rfl rfl (aw_getI (pc' := 125) (dt_X10_ofSale 34 (122, .getfield 182, 3) rfl) fl_ReturnDesk_182 rfl rfl g27 (aw_iret (dt_X10_ofSale 35 (125, .ireturn, 1) rfl) rfl rfl ?_))
          exact h
        by_cases q28 : x2 = 8
        · have h := h.2.2.2.2.2.2.2.2.1 q28
          refine aw_tableE (tgt := 126) (off := 112) (dt_X10_ofSale 9 (14, .tableswitch 152 0 12 #[66, 71, 79, 87, 92, 97, 102, 107, 112, 117, 122, 127, 146], 66) rfl) q28 (by decide) (by decide) (by decide) (by decide) ?_
          obtain ⟨g29, h⟩ := h
          refine aw_aload_n (pc' := 127) (dt_X10_ofSale 36 (126, .aload_n 3, 1) rfl) rfl rfl (aw_getI (pc' := 130) (dt_X10_ofSale 37 (127, .getfield 185, 3) rfl) fl_ReturnDesk_185 rfl rfl g29 (aw_iret (dt_X10_ofSale 38 (130, .ireturn, 1) rfl) rfl rfl ?_))
          exact h
        by_cases q30 : x2 = 9
        · have h := h.2.2.2.2.2.2.2.2.2.1 q30
          refine aw_tableE (tgt := 131) (off := 117) (dt_X10_ofSale 9 (14, .tableswitch 152 0 12 #[66, 71, 79, 87, 92, 97, 102, 107, 112, 117, 122, 127, 146], 66) rfl) q30 (by decide) (by decide) (by decide) (by decide) ?_
          obtain ⟨g31, h⟩ := h
          refine aw_aload_n (pc' := 132) (dt_X10_ofSale 39 (131, .aload_n 3, 1) rfl) rfl rfl (aw_getI (pc' := 135) (dt_X10_ofSale 40 (132, .getfield 145, 3) rfl) fl_ReturnDesk_145 rfl rfl g31 (aw_iret (dt_X10_ofSale 41 (135, .ireturn, 1) rfl) rfl rfl ?_))
          exact h
        by_cases q32 : x2 = 10
        · have h := h.2.2.2.2.2.2.2.2.2.2.1 q32
          refine aw_tableE (tgt := 136) (off := 122) (dt_X10_ofSale 9 (14, .tableswitch 152 0 12 #[66, 71, 79, 87, 92, 97, 102, 107, 112, 117, 122, 127, 146], 66) rfl) q32 (by decide) (by decide) (by decide) (by decide) ?_
          obtain ⟨g33, h⟩ := h
          refine aw_aload_n (pc' := 137) (dt_X10_ofSale 42 (136, .aload_n 3, 1) rfl) rfl rfl (aw_getI (pc' := 140) (dt_X10_ofSale 43 (137, .getfield 156, 3) rfl) fl_ReturnDesk_156 rfl rfl g33 (aw_iret (dt_X10_ofSale 44 (140, .ireturn, 1) rfl) rfl rfl ?_))
          exact h
        by_cases q34 : x2 = 11
        · have h := h.2.2.2.2.2.2.2.2.2.2.2.1 q34
          refine aw_tableE (tgt := 141) (off := 127) (dt_X10_ofSale 9 (14, .tableswitch 152 0 12 #[66, 71, 79, 87, 92, 97, 102, 107, 112, 117, 122, 127, 146], 66) rfl) q34 (by decide) (by decide) (by decide) (by decide) ?_
          obtain ⟨g35, h⟩ := h
          refine aw_aload_n (pc' := 142) (dt_X10_ofSale 45 (141, .aload_n 3, 1) rfl) rfl rfl (aw_getI (pc' := 145) (dt_X10_ofSale 46 (142, .getfield 186, 3) rfl) fl_ReturnDesk_186 rfl rfl g35 (aw_sipush (pc' := 148) (v := 3000) (dt_X10_ofSale 47 (145, .sipush 3000, 3) rfl) (by decide) rfl (aw_icmp_ne (pc' := 151) (tgt := 155) (dt_X10_ofSale 48 (148, .if_icmp .ne 7, 3) rfl) (by decide) rfl ?_ ?_)))
          · intro q36
            have h := h.1 q36
            refine aw_aload_n (pc' := 156) (dt_X10_ofSale 51 (155, .aload_n 3, 1) rfl) rfl rfl (aw_getI (pc' := 159) (dt_X10_ofSale 52 (156, .getfield 186, 3) rfl) fl_ReturnDesk_186 rfl rfl g35 (aw_iret (dt_X10_ofSale 53 (159, .ireturn, 1) rfl) rfl rfl ?_))
            exact h
          · intro q36
            have h := h.2 q36
            refine aw_iconst (pc' := 152) (v := (-1)) (dt_X10_ofSale 49 (151, .iconst (-1), 1) rfl) (by decide) rfl (aw_goto (tgt := 159) (dt_X10_ofSale 50 (152, .goto 7, 3) rfl) (by decide) (aw_iret (dt_X10_ofSale 53 (159, .ireturn, 1) rfl) rfl rfl ?_))
            exact h
        by_cases q37 : x2 = 12
        · have h := h.2.2.2.2.2.2.2.2.2.2.2.2.1 q37
          refine aw_tableE (tgt := 160) (off := 146) (dt_X10_ofSale 9 (14, .tableswitch 152 0 12 #[66, 71, 79, 87, 92, 97, 102, 107, 112, 117, 122, 127, 146], 66) rfl) q37 (by decide) (by decide) (by decide) (by decide) ?_
          refine aw_aload_n (pc' := 161) (dt_X10_ofSale 54 (160, .aload_n 0, 1) rfl) rfl rfl (aw_aload_n (pc' := 162) (dt_X10_ofSale 55 (161, .aload_n 3, 1) rfl) rfl rfl (aw_callV0 (pc' := 165) (nc := nc) (ns := ns) (y2 := mX10_threesOf) (As := [.ref b5]) (rest := []) (a := 11) (dt_X10_ofSale 56 (162, .invokevirtual 189, 3) rfl) ok_X10_threesOf ln_ReturnDesk_189 im_X10_threesOf se_X10_threesOf pr_X10_threesOf (Or.inl ⟨by decide, rfl⟩) rfl (Nat.le_of_ble_eq_true rfl) (Nat.le_of_ble_eq_true rfl) rfl (sk_11 hS) h ?_))
          rintro v μ38 ⟨r40, rfl, hS39, h⟩
          refine aw_stk (st' := [.int r40]) rfl ?_
          refine aw_iret (dt_X10_ofSale 57 (165, .ireturn, 1) rfl) rfl rfl ?_
          exact h
        have h := h.2.2.2.2.2.2.2.2.2.2.2.2.2 ⟨q6, q8, q13, q18, q20, q22, q24, q26, q28, q30, q32, q34, q37⟩
        refine aw_tableOut (tgt := 166) (dt_X10_ofSale 9 (14, .tableswitch 152 0 12 #[66, 71, 79, 87, 92, 97, 102, 107, 112, 117, 122, 127, 146], 66) rfl) (tab_out (lo := 0) (n := 13) (by decide) (by decide) (by decide) (by
            intro k hk
            match k, hk with
            | 0, _ => exact q6
            | 1, _ => exact q8
            | 2, _ => exact q13
            | 3, _ => exact q18
            | 4, _ => exact q20
            | 5, _ => exact q22
            | 6, _ => exact q24
            | 7, _ => exact q26
            | 8, _ => exact q28
            | 9, _ => exact q30
            | 10, _ => exact q32
            | 11, _ => exact q34
            | 12, _ => exact q37
            | k + 13, hk => omega)) (by decide) ?_
        refine aw_ldc (pc' := 168) (dt_X10_ofSale 58 (166, .ldc 159, 2) rfl) ct_ReturnDesk_159 rfl (aw_iret (dt_X10_ofSale 59 (168, .ireturn, 1) rfl) rfl rfl ?_)
        exact h

theorem t_X10_join {E : ZE} {l : Launch} {d nc ns : Nat} {x1 : Int32} {x2 : Int32} {x3 : Int32} {x4 : Int32} {μ : ZM} {K : Option Value → ZM → Prop} (hS : Stat μ) (h :
  (x1 < 0 →
    K (some (.int (-1))) μ) ∧
  (¬ x1 < 0 →
    (((zI μ 11 12) - 1) < x1 →
      K (some (.int (-1))) μ) ∧
    (¬ ((zI μ 11 12) - 1) < x1 →
      (vp_in x1 20) ∧
      (zA μ 12 x1.toNatClampNeg = none →
        K (some (.int (-1))) μ) ∧
      (∀ b5, zA μ 12 x1.toNatClampNeg = some b5 →
        (x2 < 1 →
          K (some (.int (-1))) μ) ∧
        (¬ x2 < 1 →
          (9999 < x2 →
            K (some (.int (-1))) μ) ∧
          (¬ 9999 < x2 →
            (x3 < 0 →
              K (some (.int (-1))) μ) ∧
            (¬ x3 < 0 →
              (x4 < x3 →
                K (some (.int (-1))) μ) ∧
              (¬ x4 < x3 →
                (71999 < x4 →
                  K (some (.int (-1))) μ) ∧
                (¬ 71999 < x4 →
                  AW E l (d + 2) nc ns mX10_join 45 [some (.ref 11), none, some (.int x2), some (.int x3), some (.int x4), some (.ref b5), some (.int 0), some (.int 0), some (.int 0), none] [] μ K))))))))) : AW E l (d + 2) nc ns mX10_join 0 [some (.ref 11), some (.int x1), some (.int x2), some (.int x3), some (.int x4), none, none, none, none, none] [] μ K := by
  refine aw_aload_n (pc' := 1) (dt_X10_join 0 (0, .aload_n 0, 1) rfl) rfl rfl (aw_iload_n (pc' := 2) (dt_X10_join 1 (1, .iload_n 1, 1) rfl) rfl rfl (aw_inV (pc' := 5) (nc1 := 0) (ns1 := 0) (nc := nc) (ns := ns) (ls' := [some (.ref 11), some (.int x1)]) (y2 := mX10_modelAt) (As := [.int x1]) (rest := []) (a := 11) (dt_X10_join 2 (2, .invokevirtual 88, 3) rfl) ok_X10_modelAt ln_ReturnDesk_88 im_X10_modelAt se_X10_modelAt pr_X10_modelAt (Or.inl ⟨by decide, rfl⟩) rfl (Nat.le_of_ble_eq_true rfl) (Nat.le_of_ble_eq_true rfl) rfl rfl (sk_11 hS) (aw_iload_n (pc' := 1) (dt_X10_modelAt 0 (0, .iload_n 1, 1) rfl) rfl rfl (aw_iconst (pc' := 2) (v := 0) (dt_X10_modelAt 1 (1, .iconst 0, 1) rfl) (by decide) rfl (aw_aload_n (pc' := 3) (dt_X10_modelAt 2 (2, .aload_n 0, 1) rfl) rfl rfl (aw_getI (pc' := 6) (dt_X10_modelAt 3 (3, .getfield 81, 3) rfl) fl_ReturnDesk_81 rfl rfl (sk_11 hS) (aw_iconst (pc' := 7) (v := 1) (dt_X10_modelAt 4 (6, .iconst 1, 1) rfl) (by decide) rfl (aw_isub (pc' := 8) (dt_X10_modelAt 5 (7, .isub, 1) rfl) rfl (aw_inS (pc' := 11) (nc1 := 0) (ns1 := 0) (nc := 0) (ns := 0) (ls' := [some (.int x1), some (.int 0), some (.int ((zI μ 11 12) - 1))]) (y2 := mX10_within) (As := [.int x1, .int 0, .int ((zI μ 11 12) - 1)]) (rest := []) (dt_X10_modelAt 6 (8, .invokestatic 76, 3) rfl) ok_X10_within ln_ReturnDesk_76 sm_X10_within pr_X10_within rfl (Nat.le_of_ble_eq_true rfl) (Nat.le_of_ble_eq_true rfl) rfl rfl (aw_iload_n (pc' := 1) (dt_X10_within 0 (0, .iload_n 0, 1) rfl) rfl rfl (aw_iload_n (pc' := 2) (dt_X10_within 1 (1, .iload_n 1, 1) rfl) rfl rfl (aw_icmp_lt (pc' := 5) (tgt := 14) (dt_X10_within 2 (2, .if_icmp .lt 12, 3) rfl) (by decide) rfl ?_ ?_))))))))))))
  · intro q1
    have h := h.1 q1
    refine aw_iconst (pc' := 15) (v := 0) (dt_X10_within 8 (14, .iconst 0, 1) rfl) (by decide) rfl (aw_iret (dt_X10_within 9 (15, .ireturn, 1) rfl) rfl rfl (aw_stk (st' := [.int 0]) rfl (aw_if_eq_T (pc' := 14) (tgt := 23) (dt_X10_modelAt 7 (11, .ifCond .eq 12, 3) rfl) (by decide) rfl (by decide) (aw_null (pc' := 24) (dt_X10_modelAt 13 (23, .aconst_null, 1) rfl) rfl (aw_aretN (dt_X10_modelAt 14 (24, .areturn, 1) rfl) rfl rfl (aw_stk (st' := [.null]) rfl (aw_astoreN (pc' := 7) (ls' := [some (.ref 11), some (.int x1), some (.int x2), some (.int x3), some (.int x4), some (.null), none, none, none, none]) (dt_X10_join 3 (5, .astore 5, 2) rfl) (by decide) rfl rfl (aw_aloadN (pc' := 9) (dt_X10_join 4 (7, .aload 5, 2) rfl) rfl rfl (aw_ifnullN (tgt := 34) (dt_X10_join 5 (9, .ifnull 25, 3) rfl) (by decide) (aw_iconst (pc' := 35) (v := (-1)) (dt_X10_join 16 (34, .iconst (-1), 1) rfl) (by decide) rfl (aw_iret (dt_X10_join 17 (35, .ireturn, 1) rfl) rfl rfl ?_)))))))))))
    exact h
  · intro q1
    have h := h.2 q1
    refine aw_iload_n (pc' := 6) (dt_X10_within 3 (5, .iload_n 0, 1) rfl) rfl rfl (aw_iload_n (pc' := 7) (dt_X10_within 4 (6, .iload_n 2, 1) rfl) rfl rfl (aw_icmp_gt (pc' := 10) (tgt := 14) (dt_X10_within 5 (7, .if_icmp .gt 7, 3) rfl) (by decide) rfl ?_ ?_))
    · intro q2
      have h := h.1 q2
      refine aw_iconst (pc' := 15) (v := 0) (dt_X10_within 8 (14, .iconst 0, 1) rfl) (by decide) rfl (aw_iret (dt_X10_within 9 (15, .ireturn, 1) rfl) rfl rfl (aw_stk (st' := [.int 0]) rfl (aw_if_eq_T (pc' := 14) (tgt := 23) (dt_X10_modelAt 7 (11, .ifCond .eq 12, 3) rfl) (by decide) rfl (by decide) (aw_null (pc' := 24) (dt_X10_modelAt 13 (23, .aconst_null, 1) rfl) rfl (aw_aretN (dt_X10_modelAt 14 (24, .areturn, 1) rfl) rfl rfl (aw_stk (st' := [.null]) rfl (aw_astoreN (pc' := 7) (ls' := [some (.ref 11), some (.int x1), some (.int x2), some (.int x3), some (.int x4), some (.null), none, none, none, none]) (dt_X10_join 3 (5, .astore 5, 2) rfl) (by decide) rfl rfl (aw_aloadN (pc' := 9) (dt_X10_join 4 (7, .aload 5, 2) rfl) rfl rfl (aw_ifnullN (tgt := 34) (dt_X10_join 5 (9, .ifnull 25, 3) rfl) (by decide) (aw_iconst (pc' := 35) (v := (-1)) (dt_X10_join 16 (34, .iconst (-1), 1) rfl) (by decide) rfl (aw_iret (dt_X10_join 17 (35, .ireturn, 1) rfl) rfl rfl ?_)))))))))))
      exact h
    · intro q2
      have h := h.2 q2
      obtain ⟨g3, h⟩ := h
      refine aw_iconst (pc' := 11) (v := 1) (dt_X10_within 6 (10, .iconst 1, 1) rfl) (by decide) rfl (aw_goto (tgt := 15) (dt_X10_within 7 (11, .goto 4, 3) rfl) (by decide) (aw_iret (dt_X10_within 9 (15, .ireturn, 1) rfl) rfl rfl (aw_stk (st' := [.int 1]) rfl (aw_if_eq_F (pc' := 14) (tgt := 23) (dt_X10_modelAt 7 (11, .ifCond .eq 12, 3) rfl) (by decide) rfl (by decide) (aw_aload_n (pc' := 15) (dt_X10_modelAt 8 (14, .aload_n 0, 1) rfl) rfl rfl (aw_getAs (pc' := 18) (dt_X10_modelAt 9 (15, .getfield 11, 3) rfl) fl_ReturnDesk_11 rfl rfl (sk_11 hS) (sa_11_0 hS) (aw_iload_n (pc' := 19) (dt_X10_modelAt 10 (18, .iload_n 1, 1) rfl) rfl rfl (aw_aald (pc' := 20) (dt_X10_modelAt 11 (19, .aaload, 1) rfl) (by decide) (by decide) rfl (sk_12 hS) (vin_eq (sl_12 hS) g3) ?_ ?_))))))))
      · intro e4
        have h := h.1 e4
        refine aw_goto (tgt := 24) (dt_X10_modelAt 12 (20, .goto 4, 3) rfl) (by decide) (aw_aretN (dt_X10_modelAt 14 (24, .areturn, 1) rfl) rfl rfl (aw_stk (st' := [.null]) rfl (aw_astoreN (pc' := 7) (ls' := [some (.ref 11), some (.int x1), some (.int x2), some (.int x3), some (.int x4), some (.null), none, none, none, none]) (dt_X10_join 3 (5, .astore 5, 2) rfl) (by decide) rfl rfl (aw_aloadN (pc' := 9) (dt_X10_join 4 (7, .aload 5, 2) rfl) rfl rfl (aw_ifnullN (tgt := 34) (dt_X10_join 5 (9, .ifnull 25, 3) rfl) (by decide) (aw_iconst (pc' := 35) (v := (-1)) (dt_X10_join 16 (34, .iconst (-1), 1) rfl) (by decide) rfl (aw_iret (dt_X10_join 17 (35, .ireturn, 1) rfl) rfl rfl ?_)))))))
        exact h
      · intro b5 e4
        have h := h.2 b5 e4
        refine aw_goto (tgt := 24) (dt_X10_modelAt 12 (20, .goto 4, 3) rfl) (by decide) (aw_aret (dt_X10_modelAt 14 (24, .areturn, 1) rfl) rfl rfl (aw_stk (st' := [.ref b5]) rfl (aw_astore (pc' := 7) (ls' := [some (.ref 11), some (.int x1), some (.int x2), some (.int x3), some (.int x4), some (.ref b5), none, none, none, none]) (dt_X10_join 3 (5, .astore 5, 2) rfl) (by decide) rfl rfl (aw_aload (pc' := 9) (dt_X10_join 4 (7, .aload 5, 2) rfl) rfl rfl (aw_ifnull (pc' := 12) (dt_X10_join 5 (9, .ifnull 25, 3) rfl) rfl (aw_iload_n (pc' := 13) (dt_X10_join 6 (12, .iload_n 2, 1) rfl) rfl rfl (aw_iconst (pc' := 14) (v := 1) (dt_X10_join 7 (13, .iconst 1, 1) rfl) (by decide) rfl (aw_sipush (pc' := 17) (v := 9999) (dt_X10_join 8 (14, .sipush 9999, 3) rfl) (by decide) rfl (aw_inS (pc' := 20) (nc1 := 0) (ns1 := 0) (nc := nc) (ns := ns) (ls' := [some (.int x2), some (.int 1), some (.int 9999)]) (y2 := mX10_within) (As := [.int x2, .int 1, .int 9999]) (rest := []) (dt_X10_join 9 (17, .invokestatic 76, 3) rfl) ok_X10_within ln_ReturnDesk_76 sm_X10_within pr_X10_within rfl (Nat.le_of_ble_eq_true rfl) (Nat.le_of_ble_eq_true rfl) rfl rfl (aw_iload_n (pc' := 1) (dt_X10_within 0 (0, .iload_n 0, 1) rfl) rfl rfl (aw_iload_n (pc' := 2) (dt_X10_within 1 (1, .iload_n 1, 1) rfl) rfl rfl (aw_icmp_lt (pc' := 5) (tgt := 14) (dt_X10_within 2 (2, .if_icmp .lt 12, 3) rfl) (by decide) rfl ?_ ?_))))))))))))
        · intro q6
          have h := h.1 q6
          refine aw_iconst (pc' := 15) (v := 0) (dt_X10_within 8 (14, .iconst 0, 1) rfl) (by decide) rfl (aw_iret (dt_X10_within 9 (15, .ireturn, 1) rfl) rfl rfl (aw_stk (st' := [.int 0]) rfl (aw_if_eq_T (pc' := 23) (tgt := 34) (dt_X10_join 10 (20, .ifCond .eq 14, 3) rfl) (by decide) rfl (by decide) (aw_iconst (pc' := 35) (v := (-1)) (dt_X10_join 16 (34, .iconst (-1), 1) rfl) (by decide) rfl (aw_iret (dt_X10_join 17 (35, .ireturn, 1) rfl) rfl rfl ?_)))))
          exact h
        · intro q6
          have h := h.2 q6
          refine aw_iload_n (pc' := 6) (dt_X10_within 3 (5, .iload_n 0, 1) rfl) rfl rfl (aw_iload_n (pc' := 7) (dt_X10_within 4 (6, .iload_n 2, 1) rfl) rfl rfl (aw_icmp_gt (pc' := 10) (tgt := 14) (dt_X10_within 5 (7, .if_icmp .gt 7, 3) rfl) (by decide) rfl ?_ ?_))
          · intro q7
            have h := h.1 q7
            refine aw_iconst (pc' := 15) (v := 0) (dt_X10_within 8 (14, .iconst 0, 1) rfl) (by decide) rfl (aw_iret (dt_X10_within 9 (15, .ireturn, 1) rfl) rfl rfl (aw_stk (st' := [.int 0]) rfl (aw_if_eq_T (pc' := 23) (tgt := 34) (dt_X10_join 10 (20, .ifCond .eq 14, 3) rfl) (by decide) rfl (by decide) (aw_iconst (pc' := 35) (v := (-1)) (dt_X10_join 16 (34, .iconst (-1), 1) rfl) (by decide) rfl (aw_iret (dt_X10_join 17 (35, .ireturn, 1) rfl) rfl rfl ?_)))))
            exact h
          · intro q7
            have h := h.2 q7
            refine aw_iconst (pc' := 11) (v := 1) (dt_X10_within 6 (10, .iconst 1, 1) rfl) (by decide) rfl (aw_goto (tgt := 15) (dt_X10_within 7 (11, .goto 4, 3) rfl) (by decide) (aw_iret (dt_X10_within 9 (15, .ireturn, 1) rfl) rfl rfl (aw_stk (st' := [.int 1]) rfl (aw_if_eq_F (pc' := 23) (tgt := 34) (dt_X10_join 10 (20, .ifCond .eq 14, 3) rfl) (by decide) rfl (by decide) (aw_iload_n (pc' := 24) (dt_X10_join 11 (23, .iload_n 3, 1) rfl) rfl rfl (aw_iload (pc' := 26) (dt_X10_join 12 (24, .iload 4, 2) rfl) rfl rfl (aw_ldc (pc' := 28) (dt_X10_join 13 (26, .ldc 113, 2) rfl) ct_ReturnDesk_113 rfl (aw_inS (pc' := 31) (nc1 := 0) (ns1 := 0) (nc := nc) (ns := ns) (ls' := [some (.int x3), some (.int x4), some (.int 71999)]) (y2 := mX10_isSpan) (As := [.int x3, .int x4, .int 71999]) (rest := []) (dt_X10_join 14 (28, .invokestatic 193, 3) rfl) ok_X10_isSpan ln_ReturnDesk_193 sm_X10_isSpan pr_X10_isSpan rfl (Nat.le_of_ble_eq_true rfl) (Nat.le_of_ble_eq_true rfl) rfl rfl (aw_iload_n (pc' := 1) (dt_X10_isSpan 0 (0, .iload_n 0, 1) rfl) rfl rfl (aw_if_lt (pc' := 4) (tgt := 18) (dt_X10_isSpan 1 (1, .ifCond .lt 17, 3) rfl) (by decide) rfl ?_ ?_))))))))))
            · intro q8
              have h := h.1 q8
              refine aw_iconst (pc' := 19) (v := 0) (dt_X10_isSpan 10 (18, .iconst 0, 1) rfl) (by decide) rfl (aw_iret (dt_X10_isSpan 11 (19, .ireturn, 1) rfl) rfl rfl (aw_stk (st' := [.int 0]) rfl (aw_if_ne_F (pc' := 34) (tgt := 36) (dt_X10_join 15 (31, .ifCond .ne 5, 3) rfl) (by decide) rfl (by decide) (aw_iconst (pc' := 35) (v := (-1)) (dt_X10_join 16 (34, .iconst (-1), 1) rfl) (by decide) rfl (aw_iret (dt_X10_join 17 (35, .ireturn, 1) rfl) rfl rfl ?_)))))
              exact h
            · intro q8
              have h := h.2 q8
              refine aw_iload_n (pc' := 5) (dt_X10_isSpan 2 (4, .iload_n 0, 1) rfl) rfl rfl (aw_iload_n (pc' := 6) (dt_X10_isSpan 3 (5, .iload_n 1, 1) rfl) rfl rfl (aw_icmp_gt (pc' := 9) (tgt := 18) (dt_X10_isSpan 4 (6, .if_icmp .gt 12, 3) rfl) (by decide) rfl ?_ ?_))
              · intro q9
                have h := h.1 q9
                refine aw_iconst (pc' := 19) (v := 0) (dt_X10_isSpan 10 (18, .iconst 0, 1) rfl) (by decide) rfl (aw_iret (dt_X10_isSpan 11 (19, .ireturn, 1) rfl) rfl rfl (aw_stk (st' := [.int 0]) rfl (aw_if_ne_F (pc' := 34) (tgt := 36) (dt_X10_join 15 (31, .ifCond .ne 5, 3) rfl) (by decide) rfl (by decide) (aw_iconst (pc' := 35) (v := (-1)) (dt_X10_join 16 (34, .iconst (-1), 1) rfl) (by decide) rfl (aw_iret (dt_X10_join 17 (35, .ireturn, 1) rfl) rfl rfl ?_)))))
                exact h
              · intro q9
                have h := h.2 q9
                refine aw_iload_n (pc' := 10) (dt_X10_isSpan 5 (9, .iload_n 1, 1) rfl) rfl rfl (aw_iload_n (pc' := 11) (dt_X10_isSpan 6 (10, .iload_n 2, 1) rfl) rfl rfl (aw_icmp_gt (pc' := 14) (tgt := 18) (dt_X10_isSpan 7 (11, .if_icmp .gt 7, 3) rfl) (by decide) rfl ?_ ?_))
                · intro q10
                  have h := h.1 q10
                  refine aw_iconst (pc' := 19) (v := 0) (dt_X10_isSpan 10 (18, .iconst 0, 1) rfl) (by decide) rfl (aw_iret (dt_X10_isSpan 11 (19, .ireturn, 1) rfl) rfl rfl (aw_stk (st' := [.int 0]) rfl (aw_if_ne_F (pc' := 34) (tgt := 36) (dt_X10_join 15 (31, .ifCond .ne 5, 3) rfl) (by decide) rfl (by decide) (aw_iconst (pc' := 35) (v := (-1)) (dt_X10_join 16 (34, .iconst (-1), 1) rfl) (by decide) rfl (aw_iret (dt_X10_join 17 (35, .ireturn, 1) rfl) rfl rfl ?_)))))
                  exact h
                · intro q10
                  have h := h.2 q10
                  refine aw_iconst (pc' := 15) (v := 1) (dt_X10_isSpan 8 (14, .iconst 1, 1) rfl) (by decide) rfl (aw_goto (tgt := 19) (dt_X10_isSpan 9 (15, .goto 4, 3) rfl) (by decide) (aw_iret (dt_X10_isSpan 11 (19, .ireturn, 1) rfl) rfl rfl (aw_stk (st' := [.int 1]) rfl (aw_if_ne_T (pc' := 34) (tgt := 36) (dt_X10_join 15 (31, .ifCond .ne 5, 3) rfl) (by decide) rfl (by decide) (aw_iconst (pc' := 37) (v := 0) (dt_X10_join 18 (36, .iconst 0, 1) rfl) (by decide) rfl (aw_istore (pc' := 39) (ls' := [some (.ref 11), some (.int x1), some (.int x2), some (.int x3), some (.int x4), some (.ref b5), some (.int 0), none, none, none]) (dt_X10_join 19 (37, .istore 6, 2) rfl) (by decide) rfl rfl (aw_iconst (pc' := 40) (v := 0) (dt_X10_join 20 (39, .iconst 0, 1) rfl) (by decide) rfl (aw_istore (pc' := 42) (ls' := [some (.ref 11), some (.int x1), some (.int x2), some (.int x3), some (.int x4), some (.ref b5), some (.int 0), some (.int 0), none, none]) (dt_X10_join 21 (40, .istore 7, 2) rfl) (by decide) rfl rfl (aw_iconst (pc' := 43) (v := 0) (dt_X10_join 22 (42, .iconst 0, 1) rfl) (by decide) rfl (aw_istore (pc' := 45) (ls' := [some (.ref 11), some (.int x1), some (.int x2), some (.int x3), some (.int x4), some (.ref b5), some (.int 0), some (.int 0), some (.int 0), none]) (dt_X10_join 23 (43, .istore 8, 2) rfl) (by decide) rfl rfl (aw_drop (ls' := [some (.ref 11), none, some (.int x2), some (.int x3), some (.int x4), some (.ref b5), some (.int 0), some (.int 0), some (.int 0), none]) ⟨rfl, rfl, rfl, rfl, rfl, rfl, rfl, rfl, trivial⟩ ?_)))))))))))
                  exact h

theorem t_X10_join_45 {E : ZE} {l : Launch} {d nc ns : Nat} {x2 : Int32} {x3 : Int32} {x4 : Int32} {a5 : Nat} {x6 : Int32} {x7 : Int32} {x8 : Int32} {μ : ZM} {K : Option Value → ZM → Prop} (hS : Stat μ) (h :
  ((zI μ 11 14) ≤ x8 →
    (¬ x6 = 1 →
      K (some (.int ((-10) - x6))) μ) ∧
    (x6 = 1 →
      K (some (.int x7)) μ)) ∧
  (¬ (zI μ 11 14) ≤ x8 →
    (vp_in x8 300) ∧
    (zA μ 14 x8.toNatClampNeg = none →
      False) ∧
    (∀ b5, zA μ 14 x8.toNatClampNeg = some b5 →
      (zK μ b5 = 7) ∧
      (zA μ b5 1 = none →
        False) ∧
      (∀ b8, zA μ b5 1 = some b8 →
        (11 ≤ b8) ∧
        (11 ≤ a5) ∧
        (¬ b8 = a5 →
          AW E l (d + 2) nc ns mX10_join 45 [some (.ref 11), none, some (.int x2), some (.int x3), some (.int x4), some (.ref a5), some (.int x6), some (.int x7), some (.int (x8 + 1)), none] [] μ K) ∧
        (b8 = a5 →
          (¬ (zI μ b5 6) = x2 →
            AW E l (d + 2) nc ns mX10_join 45 [some (.ref 11), none, some (.int x2), some (.int x3), some (.int x4), some (.ref a5), some (.int x6), some (.int x7), some (.int (x8 + 1)), none] [] μ K) ∧
          ((zI μ b5 6) = x2 →
            (¬ (zI μ b5 11) = 0 →
              AW E l (d + 2) nc ns mX10_join 45 [some (.ref 11), none, some (.int x2), some (.int x3), some (.int x4), some (.ref a5), some (.int x6), some (.int x7), some (.int (x8 + 1)), none] [] μ K) ∧
            ((zI μ b5 11) = 0 →
              ((zI μ b5 8) < x3 →
                AW E l (d + 2) nc ns mX10_join 45 [some (.ref 11), none, some (.int x2), some (.int x3), some (.int x4), some (.ref a5), some (.int x6), some (.int x7), some (.int (x8 + 1)), none] [] μ K) ∧
              (¬ (zI μ b5 8) < x3 →
                (x4 < (zI μ b5 8) →
                  AW E l (d + 2) nc ns mX10_join 45 [some (.ref 11), none, some (.int x2), some (.int x3), some (.int x4), some (.ref a5), some (.int x6), some (.int x7), some (.int (x8 + 1)), none] [] μ K) ∧
                (¬ x4 < (zI μ b5 8) →
                  AW E l (d + 2) nc ns mX10_join 45 [some (.ref 11), none, some (.int x2), some (.int x3), some (.int x4), some (.ref a5), some (.int (x6 + 1)), some (.int x8), some (.int (x8 + 1)), none] [] μ K))))))))) : AW E l (d + 2) nc ns mX10_join 45 [some (.ref 11), none, some (.int x2), some (.int x3), some (.int x4), some (.ref a5), some (.int x6), some (.int x7), some (.int x8), none] [] μ K := by
  refine aw_iload (pc' := 47) (dt_X10_join 24 (45, .iload 8, 2) rfl) rfl rfl (aw_aload_n (pc' := 48) (dt_X10_join 25 (47, .aload_n 0, 1) rfl) rfl rfl (aw_getI (pc' := 51) (dt_X10_join 26 (48, .getfield 131, 3) rfl) fl_ReturnDesk_131 rfl rfl (sk_11 hS) (aw_icmp_ge (pc' := 54) (tgt := 117) (dt_X10_join 27 (51, .if_icmp .ge 66, 3) rfl) (by decide) rfl ?_ ?_)))
  · intro q1
    have h := h.1 q1
    refine aw_iload (pc' := 119) (dt_X10_join 55 (117, .iload 6, 2) rfl) rfl rfl (aw_iconst (pc' := 120) (v := 1) (dt_X10_join 56 (119, .iconst 1, 1) rfl) (by decide) rfl (aw_icmp_ne (pc' := 123) (tgt := 128) (dt_X10_join 57 (120, .if_icmp .ne 8, 3) rfl) (by decide) rfl ?_ ?_))
    · intro q2
      have h := h.1 q2
      refine aw_bipush (pc' := 130) (v := (-10)) (dt_X10_join 60 (128, .bipush (-10), 2) rfl) (by decide) rfl (aw_iload (pc' := 132) (dt_X10_join 61 (130, .iload 6, 2) rfl) rfl rfl (aw_isub (pc' := 133) (dt_X10_join 62 (132, .isub, 1) rfl) rfl (aw_iret (dt_X10_join 63 (133, .ireturn, 1) rfl) rfl rfl ?_)))
      exact h
    · intro q2
      have h := h.2 q2
      refine aw_iload (pc' := 125) (dt_X10_join 58 (123, .iload 7, 2) rfl) rfl rfl (aw_goto (tgt := 133) (dt_X10_join 59 (125, .goto 8, 3) rfl) (by decide) (aw_iret (dt_X10_join 63 (133, .ireturn, 1) rfl) rfl rfl ?_))
      exact h
  · intro q1
    have h := h.2 q1
    obtain ⟨g3, h⟩ := h
    refine aw_aload_n (pc' := 55) (dt_X10_join 28 (54, .aload_n 0, 1) rfl) rfl rfl (aw_getAs (pc' := 58) (dt_X10_join 29 (55, .getfield 23, 3) rfl) fl_ReturnDesk_23 rfl rfl (sk_11 hS) (sa_11_2 hS) (aw_iload (pc' := 60) (dt_X10_join 30 (58, .iload 8, 2) rfl) rfl rfl (aw_aald (pc' := 61) (dt_X10_join 31 (60, .aaload, 1) rfl) (by decide) (by decide) rfl (sk_14 hS) (vin_eq (sl_14 hS) g3) ?_ ?_)))
    · intro e4
      have h := h.1 e4
      refine aw_astoreN (pc' := 63) (ls' := [some (.ref 11), none, some (.int x2), some (.int x3), some (.int x4), some (.ref a5), some (.int x6), some (.int x7), some (.int x8), some (.null)]) (dt_X10_join 32 (61, .astore 9, 2) rfl) (by decide) rfl rfl (aw_aloadN (pc' := 65) (dt_X10_join 33 (63, .aload 9, 2) rfl) rfl rfl ?_)
      exact h.elim
    · intro b5 e4
      have h := h.2 b5 e4
      obtain ⟨g6, h⟩ := h
      refine aw_astore (pc' := 63) (ls' := [some (.ref 11), none, some (.int x2), some (.int x3), some (.int x4), some (.ref a5), some (.int x6), some (.int x7), some (.int x8), some (.ref b5)]) (dt_X10_join 32 (61, .astore 9, 2) rfl) (by decide) rfl rfl (aw_aload (pc' := 65) (dt_X10_join 33 (63, .aload 9, 2) rfl) rfl rfl (aw_getA (pc' := 68) (dt_X10_join 34 (65, .getfield 163, 3) rfl) fl_ReturnDesk_163 rfl rfl g6 ?_ ?_))
      · intro e7
        have h := h.1 e7
        refine aw_aload (pc' := 70) (dt_X10_join 35 (68, .aload 5, 2) rfl) rfl rfl ?_
        exact h.elim
      · intro b8 e7
        have h := h.2 b8 e7
        obtain ⟨g9, h⟩ := h
        obtain ⟨g10, h⟩ := h
        refine aw_aload (pc' := 70) (dt_X10_join 35 (68, .aload 5, 2) rfl) rfl rfl (aw_acmp_ne (pc' := 73) (tgt := 111) (dt_X10_join 36 (70, .if_acmp .ne 41, 3) rfl) (by decide) rfl g9 g10 ?_ ?_)
        · intro q11
          have h := h.1 q11
          refine aw_iinc (pc' := 114) (v := 1) (ls' := [some (.ref 11), none, some (.int x2), some (.int x3), some (.int x4), some (.ref a5), some (.int x6), some (.int x7), some (.int (x8 + 1)), some (.ref b5)]) (dt_X10_join 53 (111, .iinc 8 1, 3) rfl) rfl (by decide) (by decide) rfl rfl (aw_goto (tgt := 45) (dt_X10_join 54 (114, .goto (-69), 3) rfl) (by decide) (aw_drop (ls' := [some (.ref 11), none, some (.int x2), some (.int x3), some (.int x4), some (.ref a5), some (.int x6), some (.int x7), some (.int (x8 + 1)), none]) ⟨rfl, rfl, rfl, rfl, rfl, rfl, rfl, rfl, trivial⟩ ?_))
          exact h
        · intro q11
          have h := h.2 q11
          refine aw_aload (pc' := 75) (dt_X10_join 37 (73, .aload 9, 2) rfl) rfl rfl (aw_getI (pc' := 78) (dt_X10_join 38 (75, .getfield 176, 3) rfl) fl_ReturnDesk_176 rfl rfl g6 (aw_iload_n (pc' := 79) (dt_X10_join 39 (78, .iload_n 2, 1) rfl) rfl rfl (aw_icmp_ne (pc' := 82) (tgt := 111) (dt_X10_join 40 (79, .if_icmp .ne 32, 3) rfl) (by decide) rfl ?_ ?_)))
          · intro q12
            have h := h.1 q12
            refine aw_iinc (pc' := 114) (v := 1) (ls' := [some (.ref 11), none, some (.int x2), some (.int x3), some (.int x4), some (.ref a5), some (.int x6), some (.int x7), some (.int (x8 + 1)), some (.ref b5)]) (dt_X10_join 53 (111, .iinc 8 1, 3) rfl) rfl (by decide) (by decide) rfl rfl (aw_goto (tgt := 45) (dt_X10_join 54 (114, .goto (-69), 3) rfl) (by decide) (aw_drop (ls' := [some (.ref 11), none, some (.int x2), some (.int x3), some (.int x4), some (.ref a5), some (.int x6), some (.int x7), some (.int (x8 + 1)), none]) ⟨rfl, rfl, rfl, rfl, rfl, rfl, rfl, rfl, trivial⟩ ?_))
            exact h
          · intro q12
            have h := h.2 q12
            refine aw_aload (pc' := 84) (dt_X10_join 41 (82, .aload 9, 2) rfl) rfl rfl (aw_getI (pc' := 87) (dt_X10_join 42 (84, .getfield 160, 3) rfl) fl_ReturnDesk_160 rfl rfl g6 (aw_if_ne (pc' := 90) (tgt := 111) (dt_X10_join 43 (87, .ifCond .ne 24, 3) rfl) (by decide) rfl ?_ ?_))
            · intro q13
              have h := h.1 q13
              refine aw_iinc (pc' := 114) (v := 1) (ls' := [some (.ref 11), none, some (.int x2), some (.int x3), some (.int x4), some (.ref a5), some (.int x6), some (.int x7), some (.int (x8 + 1)), some (.ref b5)]) (dt_X10_join 53 (111, .iinc 8 1, 3) rfl) rfl (by decide) (by decide) rfl rfl (aw_goto (tgt := 45) (dt_X10_join 54 (114, .goto (-69), 3) rfl) (by decide) (aw_drop (ls' := [some (.ref 11), none, some (.int x2), some (.int x3), some (.int x4), some (.ref a5), some (.int x6), some (.int x7), some (.int (x8 + 1)), none]) ⟨rfl, rfl, rfl, rfl, rfl, rfl, rfl, rfl, trivial⟩ ?_))
              exact h
            · intro q13
              have h := h.2 q13
              refine aw_aload (pc' := 92) (dt_X10_join 44 (90, .aload 9, 2) rfl) rfl rfl (aw_getI (pc' := 95) (dt_X10_join 45 (92, .getfield 185, 3) rfl) fl_ReturnDesk_185 rfl rfl g6 (aw_iload_n (pc' := 96) (dt_X10_join 46 (95, .iload_n 3, 1) rfl) rfl rfl (aw_iload (pc' := 98) (dt_X10_join 47 (96, .iload 4, 2) rfl) rfl rfl (aw_inS (pc' := 101) (nc1 := 0) (ns1 := 0) (nc := nc) (ns := ns) (ls' := [some (.int (zI μ b5 8)), some (.int x3), some (.int x4)]) (y2 := mX10_within) (As := [.int (zI μ b5 8), .int x3, .int x4]) (rest := []) (dt_X10_join 48 (98, .invokestatic 76, 3) rfl) ok_X10_within ln_ReturnDesk_76 sm_X10_within pr_X10_within rfl (Nat.le_of_ble_eq_true rfl) (Nat.le_of_ble_eq_true rfl) rfl rfl (aw_iload_n (pc' := 1) (dt_X10_within 0 (0, .iload_n 0, 1) rfl) rfl rfl (aw_iload_n (pc' := 2) (dt_X10_within 1 (1, .iload_n 1, 1) rfl) rfl rfl (aw_icmp_lt (pc' := 5) (tgt := 14) (dt_X10_within 2 (2, .if_icmp .lt 12, 3) rfl) (by decide) rfl ?_ ?_)))))))
              · intro q14
                have h := h.1 q14
                refine aw_iconst (pc' := 15) (v := 0) (dt_X10_within 8 (14, .iconst 0, 1) rfl) (by decide) rfl (aw_iret (dt_X10_within 9 (15, .ireturn, 1) rfl) rfl rfl (aw_stk (st' := [.int 0]) rfl (aw_if_eq_T (pc' := 104) (tgt := 111) (dt_X10_join 49 (101, .ifCond .eq 10, 3) rfl) (by decide) rfl (by decide) (aw_iinc (pc' := 114) (v := 1) (ls' := [some (.ref 11), none, some (.int x2), some (.int x3), some (.int x4), some (.ref a5), some (.int x6), some (.int x7), some (.int (x8 + 1)), some (.ref b5)]) (dt_X10_join 53 (111, .iinc 8 1, 3) rfl) rfl (by decide) (by decide) rfl rfl (aw_goto (tgt := 45) (dt_X10_join 54 (114, .goto (-69), 3) rfl) (by decide) (aw_drop (ls' := [some (.ref 11), none, some (.int x2), some (.int x3), some (.int x4), some (.ref a5), some (.int x6), some (.int x7), some (.int (x8 + 1)), none]) ⟨rfl, rfl, rfl, rfl, rfl, rfl, rfl, rfl, trivial⟩ ?_))))))
                exact h
              · intro q14
                have h := h.2 q14
                refine aw_iload_n (pc' := 6) (dt_X10_within 3 (5, .iload_n 0, 1) rfl) rfl rfl (aw_iload_n (pc' := 7) (dt_X10_within 4 (6, .iload_n 2, 1) rfl) rfl rfl (aw_icmp_gt (pc' := 10) (tgt := 14) (dt_X10_within 5 (7, .if_icmp .gt 7, 3) rfl) (by decide) rfl ?_ ?_))
                · intro q15
                  have h := h.1 q15
                  refine aw_iconst (pc' := 15) (v := 0) (dt_X10_within 8 (14, .iconst 0, 1) rfl) (by decide) rfl (aw_iret (dt_X10_within 9 (15, .ireturn, 1) rfl) rfl rfl (aw_stk (st' := [.int 0]) rfl (aw_if_eq_T (pc' := 104) (tgt := 111) (dt_X10_join 49 (101, .ifCond .eq 10, 3) rfl) (by decide) rfl (by decide) (aw_iinc (pc' := 114) (v := 1) (ls' := [some (.ref 11), none, some (.int x2), some (.int x3), some (.int x4), some (.ref a5), some (.int x6), some (.int x7), some (.int (x8 + 1)), some (.ref b5)]) (dt_X10_join 53 (111, .iinc 8 1, 3) rfl) rfl (by decide) (by decide) rfl rfl (aw_goto (tgt := 45) (dt_X10_join 54 (114, .goto (-69), 3) rfl) (by decide) (aw_drop (ls' := [some (.ref 11), none, some (.int x2), some (.int x3), some (.int x4), some (.ref a5), some (.int x6), some (.int x7), some (.int (x8 + 1)), none]) ⟨rfl, rfl, rfl, rfl, rfl, rfl, rfl, rfl, trivial⟩ ?_))))))
                  exact h
                · intro q15
                  have h := h.2 q15
                  refine aw_iconst (pc' := 11) (v := 1) (dt_X10_within 6 (10, .iconst 1, 1) rfl) (by decide) rfl (aw_goto (tgt := 15) (dt_X10_within 7 (11, .goto 4, 3) rfl) (by decide) (aw_iret (dt_X10_within 9 (15, .ireturn, 1) rfl) rfl rfl (aw_stk (st' := [.int 1]) rfl (aw_if_eq_F (pc' := 104) (tgt := 111) (dt_X10_join 49 (101, .ifCond .eq 10, 3) rfl) (by decide) rfl (by decide) (aw_iinc (pc' := 107) (v := 1) (ls' := [some (.ref 11), none, some (.int x2), some (.int x3), some (.int x4), some (.ref a5), some (.int (x6 + 1)), some (.int x7), some (.int x8), some (.ref b5)]) (dt_X10_join 50 (104, .iinc 6 1, 3) rfl) rfl (by decide) (by decide) rfl rfl (aw_iload (pc' := 109) (dt_X10_join 51 (107, .iload 8, 2) rfl) rfl rfl (aw_istore (pc' := 111) (ls' := [some (.ref 11), none, some (.int x2), some (.int x3), some (.int x4), some (.ref a5), some (.int (x6 + 1)), some (.int x8), some (.int x8), some (.ref b5)]) (dt_X10_join 52 (109, .istore 7, 2) rfl) (by decide) rfl rfl (aw_iinc (pc' := 114) (v := 1) (ls' := [some (.ref 11), none, some (.int x2), some (.int x3), some (.int x4), some (.ref a5), some (.int (x6 + 1)), some (.int x8), some (.int (x8 + 1)), some (.ref b5)]) (dt_X10_join 53 (111, .iinc 8 1, 3) rfl) rfl (by decide) (by decide) rfl rfl (aw_goto (tgt := 45) (dt_X10_join 54 (114, .goto (-69), 3) rfl) (by decide) (aw_drop (ls' := [some (.ref 11), none, some (.int x2), some (.int x3), some (.int x4), some (.ref a5), some (.int (x6 + 1)), some (.int x8), some (.int (x8 + 1)), none]) ⟨rfl, rfl, rfl, rfl, rfl, rfl, rfl, rfl, trivial⟩ ?_))))))))))
                  exact h

theorem t_X10_keep {E : ZE} {l : Launch} {d nc ns : Nat} {x1 : Int32} {μ : ZM} {K : Option Value → ZM → Prop} (hS : Stat μ) (h :
  (x1 < 0 →
    K (some (.int (-1))) μ) ∧
  (¬ x1 < 0 →
    (((zI μ 11 14) - 1) < x1 →
      K (some (.int (-1))) μ) ∧
    (¬ ((zI μ 11 14) - 1) < x1 →
      (vp_in x1 300) ∧
      (zA μ 14 x1.toNatClampNeg = none →
        K (some (.int (-1))) μ) ∧
      (∀ b5, zA μ 14 x1.toNatClampNeg = some b5 →
        (zK μ b5 = 7) ∧
        ((zI μ b5 11) = 0 →
          K (some (.int 1)) (sI μ b5 11 3)) ∧
        (¬ (zI μ b5 11) = 0 →
          K (some (.int (-2))) μ))))) : AW E l (d + 2) nc ns mX10_keep 0 [some (.ref 11), some (.int x1), none] [] μ K := by
  refine aw_aload_n (pc' := 1) (dt_X10_keep 0 (0, .aload_n 0, 1) rfl) rfl rfl (aw_iload_n (pc' := 2) (dt_X10_keep 1 (1, .iload_n 1, 1) rfl) rfl rfl (aw_inV (pc' := 5) (nc1 := 0) (ns1 := 0) (nc := nc) (ns := ns) (ls' := [some (.ref 11), some (.int x1)]) (y2 := mX10_saleAt) (As := [.int x1]) (rest := []) (a := 11) (dt_X10_keep 2 (2, .invokevirtual 152, 3) rfl) ok_X10_saleAt ln_ReturnDesk_152 im_X10_saleAt se_X10_saleAt pr_X10_saleAt (Or.inl ⟨by decide, rfl⟩) rfl (Nat.le_of_ble_eq_true rfl) (Nat.le_of_ble_eq_true rfl) rfl rfl (sk_11 hS) (aw_iload_n (pc' := 1) (dt_X10_saleAt 0 (0, .iload_n 1, 1) rfl) rfl rfl (aw_iconst (pc' := 2) (v := 0) (dt_X10_saleAt 1 (1, .iconst 0, 1) rfl) (by decide) rfl (aw_aload_n (pc' := 3) (dt_X10_saleAt 2 (2, .aload_n 0, 1) rfl) rfl rfl (aw_getI (pc' := 6) (dt_X10_saleAt 3 (3, .getfield 131, 3) rfl) fl_ReturnDesk_131 rfl rfl (sk_11 hS) (aw_iconst (pc' := 7) (v := 1) (dt_X10_saleAt 4 (6, .iconst 1, 1) rfl) (by decide) rfl (aw_isub (pc' := 8) (dt_X10_saleAt 5 (7, .isub, 1) rfl) rfl (aw_inS (pc' := 11) (nc1 := 0) (ns1 := 0) (nc := 0) (ns := 0) (ls' := [some (.int x1), some (.int 0), some (.int ((zI μ 11 14) - 1))]) (y2 := mX10_within) (As := [.int x1, .int 0, .int ((zI μ 11 14) - 1)]) (rest := []) (dt_X10_saleAt 6 (8, .invokestatic 76, 3) rfl) ok_X10_within ln_ReturnDesk_76 sm_X10_within pr_X10_within rfl (Nat.le_of_ble_eq_true rfl) (Nat.le_of_ble_eq_true rfl) rfl rfl (aw_iload_n (pc' := 1) (dt_X10_within 0 (0, .iload_n 0, 1) rfl) rfl rfl (aw_iload_n (pc' := 2) (dt_X10_within 1 (1, .iload_n 1, 1) rfl) rfl rfl (aw_icmp_lt (pc' := 5) (tgt := 14) (dt_X10_within 2 (2, .if_icmp .lt 12, 3) rfl) (by decide) rfl ?_ ?_))))))))))))
  · intro q1
    have h := h.1 q1
    refine aw_iconst (pc' := 15) (v := 0) (dt_X10_within 8 (14, .iconst 0, 1) rfl) (by decide) rfl (aw_iret (dt_X10_within 9 (15, .ireturn, 1) rfl) rfl rfl (aw_stk (st' := [.int 0]) rfl (aw_if_eq_T (pc' := 14) (tgt := 23) (dt_X10_saleAt 7 (11, .ifCond .eq 12, 3) rfl) (by decide) rfl (by decide) (aw_null (pc' := 24) (dt_X10_saleAt 13 (23, .aconst_null, 1) rfl) rfl (aw_aretN (dt_X10_saleAt 14 (24, .areturn, 1) rfl) rfl rfl (aw_stk (st' := [.null]) rfl (aw_astore_nN (pc' := 6) (ls' := [some (.ref 11), some (.int x1), some (.null)]) (dt_X10_keep 3 (5, .astore_n 2, 1) rfl) (by decide) rfl rfl (aw_aload_nN (pc' := 7) (dt_X10_keep 4 (6, .aload_n 2, 1) rfl) rfl rfl (aw_ifnonnullN (pc' := 10) (dt_X10_keep 5 (7, .ifnonnull 5, 3) rfl) rfl (aw_iconst (pc' := 11) (v := (-1)) (dt_X10_keep 6 (10, .iconst (-1), 1) rfl) (by decide) rfl (aw_iret (dt_X10_keep 7 (11, .ireturn, 1) rfl) rfl rfl ?_)))))))))))
    exact h
  · intro q1
    have h := h.2 q1
    refine aw_iload_n (pc' := 6) (dt_X10_within 3 (5, .iload_n 0, 1) rfl) rfl rfl (aw_iload_n (pc' := 7) (dt_X10_within 4 (6, .iload_n 2, 1) rfl) rfl rfl (aw_icmp_gt (pc' := 10) (tgt := 14) (dt_X10_within 5 (7, .if_icmp .gt 7, 3) rfl) (by decide) rfl ?_ ?_))
    · intro q2
      have h := h.1 q2
      refine aw_iconst (pc' := 15) (v := 0) (dt_X10_within 8 (14, .iconst 0, 1) rfl) (by decide) rfl (aw_iret (dt_X10_within 9 (15, .ireturn, 1) rfl) rfl rfl (aw_stk (st' := [.int 0]) rfl (aw_if_eq_T (pc' := 14) (tgt := 23) (dt_X10_saleAt 7 (11, .ifCond .eq 12, 3) rfl) (by decide) rfl (by decide) (aw_null (pc' := 24) (dt_X10_saleAt 13 (23, .aconst_null, 1) rfl) rfl (aw_aretN (dt_X10_saleAt 14 (24, .areturn, 1) rfl) rfl rfl (aw_stk (st' := [.null]) rfl (aw_astore_nN (pc' := 6) (ls' := [some (.ref 11), some (.int x1), some (.null)]) (dt_X10_keep 3 (5, .astore_n 2, 1) rfl) (by decide) rfl rfl (aw_aload_nN (pc' := 7) (dt_X10_keep 4 (6, .aload_n 2, 1) rfl) rfl rfl (aw_ifnonnullN (pc' := 10) (dt_X10_keep 5 (7, .ifnonnull 5, 3) rfl) rfl (aw_iconst (pc' := 11) (v := (-1)) (dt_X10_keep 6 (10, .iconst (-1), 1) rfl) (by decide) rfl (aw_iret (dt_X10_keep 7 (11, .ireturn, 1) rfl) rfl rfl ?_)))))))))))
      exact h
    · intro q2
      have h := h.2 q2
      obtain ⟨g3, h⟩ := h
      refine aw_iconst (pc' := 11) (v := 1) (dt_X10_within 6 (10, .iconst 1, 1) rfl) (by decide) rfl (aw_goto (tgt := 15) (dt_X10_within 7 (11, .goto 4, 3) rfl) (by decide) (aw_iret (dt_X10_within 9 (15, .ireturn, 1) rfl) rfl rfl (aw_stk (st' := [.int 1]) rfl (aw_if_eq_F (pc' := 14) (tgt := 23) (dt_X10_saleAt 7 (11, .ifCond .eq 12, 3) rfl) (by decide) rfl (by decide) (aw_aload_n (pc' := 15) (dt_X10_saleAt 8 (14, .aload_n 0, 1) rfl) rfl rfl (aw_getAs (pc' := 18) (dt_X10_saleAt 9 (15, .getfield 23, 3) rfl) fl_ReturnDesk_23 rfl rfl (sk_11 hS) (sa_11_2 hS) (aw_iload_n (pc' := 19) (dt_X10_saleAt 10 (18, .iload_n 1, 1) rfl) rfl rfl (aw_aald (pc' := 20) (dt_X10_saleAt 11 (19, .aaload, 1) rfl) (by decide) (by decide) rfl (sk_14 hS) (vin_eq (sl_14 hS) g3) ?_ ?_))))))))
      · intro e4
        have h := h.1 e4
        refine aw_goto (tgt := 24) (dt_X10_saleAt 12 (20, .goto 4, 3) rfl) (by decide) (aw_aretN (dt_X10_saleAt 14 (24, .areturn, 1) rfl) rfl rfl (aw_stk (st' := [.null]) rfl (aw_astore_nN (pc' := 6) (ls' := [some (.ref 11), some (.int x1), some (.null)]) (dt_X10_keep 3 (5, .astore_n 2, 1) rfl) (by decide) rfl rfl (aw_aload_nN (pc' := 7) (dt_X10_keep 4 (6, .aload_n 2, 1) rfl) rfl rfl (aw_ifnonnullN (pc' := 10) (dt_X10_keep 5 (7, .ifnonnull 5, 3) rfl) rfl (aw_iconst (pc' := 11) (v := (-1)) (dt_X10_keep 6 (10, .iconst (-1), 1) rfl) (by decide) rfl (aw_iret (dt_X10_keep 7 (11, .ireturn, 1) rfl) rfl rfl ?_)))))))
        exact h
      · intro b5 e4
        have h := h.2 b5 e4
        obtain ⟨g6, h⟩ := h
        refine aw_goto (tgt := 24) (dt_X10_saleAt 12 (20, .goto 4, 3) rfl) (by decide) (aw_aret (dt_X10_saleAt 14 (24, .areturn, 1) rfl) rfl rfl (aw_stk (st' := [.ref b5]) rfl (aw_astore_n (pc' := 6) (ls' := [some (.ref 11), some (.int x1), some (.ref b5)]) (dt_X10_keep 3 (5, .astore_n 2, 1) rfl) (by decide) rfl rfl (aw_aload_n (pc' := 7) (dt_X10_keep 4 (6, .aload_n 2, 1) rfl) rfl rfl (aw_ifnonnull (tgt := 12) (dt_X10_keep 5 (7, .ifnonnull 5, 3) rfl) (by decide) (aw_aload_n (pc' := 13) (dt_X10_keep 8 (12, .aload_n 2, 1) rfl) rfl rfl (aw_getI (pc' := 16) (dt_X10_keep 9 (13, .getfield 160, 3) rfl) fl_ReturnDesk_160 rfl rfl g6 (aw_if_eq (pc' := 19) (tgt := 22) (dt_X10_keep 10 (16, .ifCond .eq 6, 3) rfl) (by decide) rfl ?_ ?_))))))))
        · intro q7
          have h := h.1 q7
          refine aw_aload_n (pc' := 23) (dt_X10_keep 13 (22, .aload_n 2, 1) rfl) rfl rfl (aw_iconst (pc' := 24) (v := 3) (dt_X10_keep 14 (23, .iconst 3, 1) rfl) (by decide) rfl (aw_putI (pc' := 27) (dt_X10_keep 15 (24, .putfield 160, 3) rfl) fl_ReturnDesk_160 rfl (by decide +kernel) rfl g6 (aw_iconst (pc' := 28) (v := 1) (dt_X10_keep 16 (27, .iconst 1, 1) rfl) (by decide) rfl (aw_iret (dt_X10_keep 17 (28, .ireturn, 1) rfl) rfl rfl ?_))))
          exact h
        · intro q7
          have h := h.2 q7
          refine aw_bipush (pc' := 21) (v := (-2)) (dt_X10_keep 11 (19, .bipush (-2), 2) rfl) (by decide) rfl (aw_iret (dt_X10_keep 12 (21, .ireturn, 1) rfl) rfl rfl ?_)
          exact h

theorem t_X10_feed {E : ZE} {l : Launch} {d nc ns : Nat} {x1 : Int32} {x2 : Int32} {x3 : Int32} {x4 : Int32} {x5 : Int32} {μ : ZM} {K : Option Value → ZM → Prop} (hS : Stat μ) (h :
  ((zI μ 20 1) ≤ 180 →
    AW E l d 0 0 mX8_append 0 (zargs 3 [.ref 20, .int x1]) [] μ (fun v μ2 => v = none ∧ Stat μ2 ∧ 
      AW E l d 0 0 mX8_append 0 (zargs 3 [.ref 20, .int x2]) [] μ2 (fun v μ4 => v = none ∧ Stat μ4 ∧ 
        AW E l d 0 0 mX8_append 0 (zargs 3 [.ref 20, .int x3]) [] μ4 (fun v μ6 => v = none ∧ Stat μ6 ∧ 
          AW E l d 0 0 mX8_append 0 (zargs 3 [.ref 20, .int x4]) [] μ6 (fun v μ8 => v = none ∧ Stat μ8 ∧ 
            AW E l d 0 0 mX8_append 0 (zargs 3 [.ref 20, .int x5]) [] μ8 (fun v μ10 => v = none ∧ Stat μ10 ∧ 
              K (some (.int (zI μ10 20 1))) μ10)))))) ∧
  (¬ (zI μ 20 1) ≤ 180 →
    K (some (.int (-3))) μ)) : AW E l (d + 1) nc ns mX10_feed 0 [some (.ref 11), some (.int x1), some (.int x2), some (.int x3), some (.int x4), some (.int x5)] [] μ K := by
  refine aw_aload_n (pc' := 1) (dt_X10_feed 0 (0, .aload_n 0, 1) rfl) rfl rfl (aw_getAs (pc' := 4) (dt_X10_feed 1 (1, .getfield 57, 3) rfl) fl_ReturnDesk_57 rfl rfl (sk_11 hS) (sa_11_7 hS) (aw_getI (pc' := 7) (dt_X10_feed 2 (4, .getfield 196, 3) rfl) fl_ReturnDesk_196 rfl rfl (sk_20 hS) (aw_sipush (pc' := 10) (v := 180) (dt_X10_feed 3 (7, .sipush 180, 3) rfl) (by decide) rfl (aw_icmp_le (pc' := 13) (tgt := 16) (dt_X10_feed 4 (10, .if_icmp .le 6, 3) rfl) (by decide) rfl ?_ ?_))))
  · intro q1
    have h := h.1 q1
    refine aw_aload_n (pc' := 17) (dt_X10_feed 7 (16, .aload_n 0, 1) rfl) rfl rfl (aw_getAs (pc' := 20) (dt_X10_feed 8 (17, .getfield 57, 3) rfl) fl_ReturnDesk_57 rfl rfl (sk_11 hS) (sa_11_7 hS) (aw_iload_n (pc' := 21) (dt_X10_feed 9 (20, .iload_n 1, 1) rfl) rfl rfl (aw_callV0 (pc' := 24) (nc := nc) (ns := ns) (y2 := mX8_append) (As := [.int x1]) (rest := []) (a := 20) (dt_X10_feed 10 (21, .invokevirtual 201, 3) rfl) ok_X8_append ln_ReturnDesk_201 im_X8_append se_X8_append pr_X8_append (Or.inl ⟨by decide, rfl⟩) rfl (Nat.le_of_ble_eq_true rfl) (Nat.le_of_ble_eq_true rfl) rfl (sk_20 hS) h ?_)))
    rintro v μ2 ⟨rfl, hS3, h⟩
    refine aw_stk (st' := []) rfl ?_
    refine aw_aload_n (pc' := 25) (dt_X10_feed 11 (24, .aload_n 0, 1) rfl) rfl rfl (aw_getAs (pc' := 28) (dt_X10_feed 12 (25, .getfield 57, 3) rfl) fl_ReturnDesk_57 rfl rfl (sk_11 hS3) (sa_11_7 hS3) (aw_iload_n (pc' := 29) (dt_X10_feed 13 (28, .iload_n 2, 1) rfl) rfl rfl (aw_callV0 (pc' := 32) (nc := nc) (ns := ns) (y2 := mX8_append) (As := [.int x2]) (rest := []) (a := 20) (dt_X10_feed 14 (29, .invokevirtual 201, 3) rfl) ok_X8_append ln_ReturnDesk_201 im_X8_append se_X8_append pr_X8_append (Or.inl ⟨by decide, rfl⟩) rfl (Nat.le_of_ble_eq_true rfl) (Nat.le_of_ble_eq_true rfl) rfl (sk_20 hS3) h ?_)))
    rintro v μ4 ⟨rfl, hS5, h⟩
    refine aw_stk (st' := []) rfl ?_
    refine aw_aload_n (pc' := 33) (dt_X10_feed 15 (32, .aload_n 0, 1) rfl) rfl rfl (aw_getAs (pc' := 36) (dt_X10_feed 16 (33, .getfield 57, 3) rfl) fl_ReturnDesk_57 rfl rfl (sk_11 hS5) (sa_11_7 hS5) (aw_iload_n (pc' := 37) (dt_X10_feed 17 (36, .iload_n 3, 1) rfl) rfl rfl (aw_callV0 (pc' := 40) (nc := nc) (ns := ns) (y2 := mX8_append) (As := [.int x3]) (rest := []) (a := 20) (dt_X10_feed 18 (37, .invokevirtual 201, 3) rfl) ok_X8_append ln_ReturnDesk_201 im_X8_append se_X8_append pr_X8_append (Or.inl ⟨by decide, rfl⟩) rfl (Nat.le_of_ble_eq_true rfl) (Nat.le_of_ble_eq_true rfl) rfl (sk_20 hS5) h ?_)))
    rintro v μ6 ⟨rfl, hS7, h⟩
    refine aw_stk (st' := []) rfl ?_
    refine aw_aload_n (pc' := 41) (dt_X10_feed 19 (40, .aload_n 0, 1) rfl) rfl rfl (aw_getAs (pc' := 44) (dt_X10_feed 20 (41, .getfield 57, 3) rfl) fl_ReturnDesk_57 rfl rfl (sk_11 hS7) (sa_11_7 hS7) (aw_iload (pc' := 46) (dt_X10_feed 21 (44, .iload 4, 2) rfl) rfl rfl (aw_callV0 (pc' := 49) (nc := nc) (ns := ns) (y2 := mX8_append) (As := [.int x4]) (rest := []) (a := 20) (dt_X10_feed 22 (46, .invokevirtual 201, 3) rfl) ok_X8_append ln_ReturnDesk_201 im_X8_append se_X8_append pr_X8_append (Or.inl ⟨by decide, rfl⟩) rfl (Nat.le_of_ble_eq_true rfl) (Nat.le_of_ble_eq_true rfl) rfl (sk_20 hS7) h ?_)))
    rintro v μ8 ⟨rfl, hS9, h⟩
    refine aw_stk (st' := []) rfl ?_
    refine aw_aload_n (pc' := 50) (dt_X10_feed 23 (49, .aload_n 0, 1) rfl) rfl rfl (aw_getAs (pc' := 53) (dt_X10_feed 24 (50, .getfield 57, 3) rfl) fl_ReturnDesk_57 rfl rfl (sk_11 hS9) (sa_11_7 hS9) (aw_iload (pc' := 55) (dt_X10_feed 25 (53, .iload 5, 2) rfl) rfl rfl (aw_callV0 (pc' := 58) (nc := nc) (ns := ns) (y2 := mX8_append) (As := [.int x5]) (rest := []) (a := 20) (dt_X10_feed 26 (55, .invokevirtual 201, 3) rfl) ok_X8_append ln_ReturnDesk_201 im_X8_append se_X8_append pr_X8_append (Or.inl ⟨by decide, rfl⟩) rfl (Nat.le_of_ble_eq_true rfl) (Nat.le_of_ble_eq_true rfl) rfl (sk_20 hS9) h ?_)))
    rintro v μ10 ⟨rfl, hS11, h⟩
    refine aw_stk (st' := []) rfl ?_
    refine aw_aload_n (pc' := 59) (dt_X10_feed 27 (58, .aload_n 0, 1) rfl) rfl rfl (aw_getAs (pc' := 62) (dt_X10_feed 28 (59, .getfield 57, 3) rfl) fl_ReturnDesk_57 rfl rfl (sk_11 hS11) (sa_11_7 hS11) (aw_getI (pc' := 65) (dt_X10_feed 29 (62, .getfield 196, 3) rfl) fl_ReturnDesk_196 rfl rfl (sk_20 hS11) (aw_iret (dt_X10_feed 30 (65, .ireturn, 1) rfl) rfl rfl ?_)))
    exact h
  · intro q1
    have h := h.2 q1
    refine aw_bipush (pc' := 15) (v := (-3)) (dt_X10_feed 5 (13, .bipush (-3), 2) rfl) (by decide) rfl (aw_iret (dt_X10_feed 6 (15, .ireturn, 1) rfl) rfl rfl ?_)
    exact h

theorem t_X10_end {E : ZE} {l : Launch} {d nc ns : Nat} {x1 : Int32} {μ : ZM} {K : Option Value → ZM → Prop} (hS : Stat μ) (h :
  (x1 < 0 →
    K (some (.int (-1))) μ) ∧
  (¬ x1 < 0 →
    ((zI μ 20 1) < x1 →
      K (some (.int (-1))) μ) ∧
    (¬ (zI μ 20 1) < x1 →
      K (some (.int x1)) (sI μ 20 1 x1)))) : AW E l (d + 1) nc ns mX10_end 0 [some (.ref 11), some (.int x1)] [] μ K := by
  refine aw_iload_n (pc' := 1) (dt_X10_end 0 (0, .iload_n 1, 1) rfl) rfl rfl (aw_iconst (pc' := 2) (v := 0) (dt_X10_end 1 (1, .iconst 0, 1) rfl) (by decide) rfl (aw_aload_n (pc' := 3) (dt_X10_end 2 (2, .aload_n 0, 1) rfl) rfl rfl (aw_getAs (pc' := 6) (dt_X10_end 3 (3, .getfield 57, 3) rfl) fl_ReturnDesk_57 rfl rfl (sk_11 hS) (sa_11_7 hS) (aw_getI (pc' := 9) (dt_X10_end 4 (6, .getfield 196, 3) rfl) fl_ReturnDesk_196 rfl rfl (sk_20 hS) (aw_inS (pc' := 12) (nc1 := 0) (ns1 := 0) (nc := nc) (ns := ns) (ls' := [some (.int x1), some (.int 0), some (.int (zI μ 20 1))]) (y2 := mX10_within) (As := [.int x1, .int 0, .int (zI μ 20 1)]) (rest := []) (dt_X10_end 5 (9, .invokestatic 76, 3) rfl) ok_X10_within ln_ReturnDesk_76 sm_X10_within pr_X10_within rfl (Nat.le_of_ble_eq_true rfl) (Nat.le_of_ble_eq_true rfl) rfl rfl (aw_iload_n (pc' := 1) (dt_X10_within 0 (0, .iload_n 0, 1) rfl) rfl rfl (aw_iload_n (pc' := 2) (dt_X10_within 1 (1, .iload_n 1, 1) rfl) rfl rfl (aw_icmp_lt (pc' := 5) (tgt := 14) (dt_X10_within 2 (2, .if_icmp .lt 12, 3) rfl) (by decide) rfl ?_ ?_))))))))
  · intro q1
    have h := h.1 q1
    refine aw_iconst (pc' := 15) (v := 0) (dt_X10_within 8 (14, .iconst 0, 1) rfl) (by decide) rfl (aw_iret (dt_X10_within 9 (15, .ireturn, 1) rfl) rfl rfl (aw_stk (st' := [.int 0]) rfl (aw_if_ne_F (pc' := 15) (tgt := 17) (dt_X10_end 6 (12, .ifCond .ne 5, 3) rfl) (by decide) rfl (by decide) (aw_iconst (pc' := 16) (v := (-1)) (dt_X10_end 7 (15, .iconst (-1), 1) rfl) (by decide) rfl (aw_iret (dt_X10_end 8 (16, .ireturn, 1) rfl) rfl rfl ?_)))))
    exact h
  · intro q1
    have h := h.2 q1
    refine aw_iload_n (pc' := 6) (dt_X10_within 3 (5, .iload_n 0, 1) rfl) rfl rfl (aw_iload_n (pc' := 7) (dt_X10_within 4 (6, .iload_n 2, 1) rfl) rfl rfl (aw_icmp_gt (pc' := 10) (tgt := 14) (dt_X10_within 5 (7, .if_icmp .gt 7, 3) rfl) (by decide) rfl ?_ ?_))
    · intro q2
      have h := h.1 q2
      refine aw_iconst (pc' := 15) (v := 0) (dt_X10_within 8 (14, .iconst 0, 1) rfl) (by decide) rfl (aw_iret (dt_X10_within 9 (15, .ireturn, 1) rfl) rfl rfl (aw_stk (st' := [.int 0]) rfl (aw_if_ne_F (pc' := 15) (tgt := 17) (dt_X10_end 6 (12, .ifCond .ne 5, 3) rfl) (by decide) rfl (by decide) (aw_iconst (pc' := 16) (v := (-1)) (dt_X10_end 7 (15, .iconst (-1), 1) rfl) (by decide) rfl (aw_iret (dt_X10_end 8 (16, .ireturn, 1) rfl) rfl rfl ?_)))))
      exact h
    · intro q2
      have h := h.2 q2
      refine aw_iconst (pc' := 11) (v := 1) (dt_X10_within 6 (10, .iconst 1, 1) rfl) (by decide) rfl (aw_goto (tgt := 15) (dt_X10_within 7 (11, .goto 4, 3) rfl) (by decide) (aw_iret (dt_X10_within 9 (15, .ireturn, 1) rfl) rfl rfl (aw_stk (st' := [.int 1]) rfl (aw_if_ne_T (pc' := 15) (tgt := 17) (dt_X10_end 6 (12, .ifCond .ne 5, 3) rfl) (by decide) rfl (by decide) (aw_aload_n (pc' := 18) (dt_X10_end 9 (17, .aload_n 0, 1) rfl) rfl rfl (aw_getAs (pc' := 21) (dt_X10_end 10 (18, .getfield 57, 3) rfl) fl_ReturnDesk_57 rfl rfl (sk_11 hS) (sa_11_7 hS) (aw_iload_n (pc' := 22) (dt_X10_end 11 (21, .iload_n 1, 1) rfl) rfl rfl (aw_putI (pc' := 25) (dt_X10_end 12 (22, .putfield 196, 3) rfl) fl_ReturnDesk_196 rfl (by decide +kernel) rfl (sk_20 hS) (aw_iload_n (pc' := 26) (dt_X10_end 13 (25, .iload_n 1, 1) rfl) rfl rfl (aw_iret (dt_X10_end 14 (26, .ireturn, 1) rfl) rfl rfl ?_))))))))))
      exact h

theorem t_X10_text {E : ZE} {l : Launch} {d nc ns : Nat} {x1 : Int32} {x2 : Int32} {μ : ZM} {K : Option Value → ZM → Prop} (hS : Stat μ) (h :
  (x1 < 0 →
    K (some (.int (-1))) μ) ∧
  (¬ x1 < 0 →
    (1 < x1 →
      K (some (.int (-1))) μ) ∧
    (¬ 1 < x1 →
      (x2 < 0 →
        K (some (.int (-1))) μ) ∧
      (¬ x2 < 0 →
        (2999 < x2 →
          K (some (.int (-1))) μ) ∧
        (¬ 2999 < x2 →
          ((zI μ 11 16) < 20 →
            AW E l (d + 9) 0 0 mX6_readText 0 (zargs 3 [.ref 19]) [] μ (fun v μ6 => ∃ r8 : Int32, v = some (.int r8) ∧ Stat μ6 ∧ 
              (¬ r8 = 0 →
                (¬ (zI (sNew (sI μ6 20 1 0) 9 0) 19 2) < 0) ∧
                ((zI (sNew (sI μ6 20 1 0) 9 0) 19 2).toNatClampNeg ≤ 400) ∧
                (11 ≤ (zN (sNew (sI μ6 20 1 0) 9 0))) ∧
                (¬ (zI (sNew (sNew (sI μ6 20 1 0) 9 0) 13 ((zI (sNew (sI μ6 20 1 0) 9 0) 19 2).toNatClampNeg)) 19 2) < 0) ∧
                (0 + (zI (sNew (sNew (sI μ6 20 1 0) 9 0) 13 ((zI (sNew (sI μ6 20 1 0) 9 0) 19 2).toNatClampNeg)) 19 2).toNatClampNeg ≤ zL (sNew (sNew (sI μ6 20 1 0) 9 0) 13 ((zI (sNew (sI μ6 20 1 0) 9 0) 19 2).toNatClampNeg)) 25) ∧
                (0 + (zI (sNew (sNew (sI μ6 20 1 0) 9 0) 13 ((zI (sNew (sI μ6 20 1 0) 9 0) 19 2).toNatClampNeg)) 19 2).toNatClampNeg ≤ zL (sNew (sNew (sI μ6 20 1 0) 9 0) 13 ((zI (sNew (sI μ6 20 1 0) 9 0) 19 2).toNatClampNeg)) (zN (sNew (sI μ6 20 1 0) 9 0))) ∧
                AW E l (d + 9) 0 0 mX9_init 0 (zargs 8 [.ref (zN (sI μ6 20 1 0)), .int (zI (sNew (sI μ6 20 1 0) 9 0) 11 16), .int x1, .int x2, .int ((zI (sNew (sI μ6 20 1 0) 9 0) 11 17) / 24), .ref (zN (sNew (sI μ6 20 1 0) 9 0))]) [] (sCpy (sNew (sNew (sI μ6 20 1 0) 9 0) 13 ((zI (sNew (sI μ6 20 1 0) 9 0) 19 2).toNatClampNeg)) 25 0 (zN (sNew (sI μ6 20 1 0) 9 0)) 0 (zI (sNew (sNew (sI μ6 20 1 0) 9 0) 13 ((zI (sNew (sI μ6 20 1 0) 9 0) 19 2).toNatClampNeg)) 19 2).toNatClampNeg) (fun v μ16 => v = none ∧ Stat μ16 ∧ 
                  (zK μ16 (zN (sI μ6 20 1 0)) = 9) ∧
                  (vp_in (zI (sI μ6 20 1 0) 11 16) 20) ∧
                  K (some (.int ((zI (sI (sA μ16 16 (zI (sI μ6 20 1 0) 11 16).toNatClampNeg (some (zN (sI μ6 20 1 0)))) 11 16 ((zI (sA μ16 16 (zI (sI μ6 20 1 0) 11 16).toNatClampNeg (some (zN (sI μ6 20 1 0)))) 11 16) + 1)) 11 16) - 1))) (sI (sA μ16 16 (zI (sI μ6 20 1 0) 11 16).toNatClampNeg (some (zN (sI μ6 20 1 0)))) 11 16 ((zI (sA μ16 16 (zI (sI μ6 20 1 0) 11 16).toNatClampNeg (some (zN (sI μ6 20 1 0)))) 11 16) + 1)))) ∧
              (r8 = 0 →
                (201 ≤ (zI (sI μ6 20 1 0) 19 3) →
                  K (some (.int ((-100) - (zI (sI μ6 20 1 0) 20 1)))) (sI μ6 20 1 0)) ∧
                (¬ 201 ≤ (zI (sI μ6 20 1 0) 19 3) →
                  (vp_in (zI (sI μ6 20 1 0) 19 3) 201) ∧
                  K (some (.int ((-100) - (zI (sI μ6 20 1 0) 23 (zI (sI μ6 20 1 0) 19 3).toNatClampNeg)))) (sI μ6 20 1 0))))) ∧
          (¬ (zI μ 11 16) < 20 →
            K (some (.int (-3))) μ)))))) : AW E l (d + 10) (nc + 2) (ns + 406) mX10_text 0 [some (.ref 11), some (.int x1), some (.int x2), none] [] μ K := by
  refine aw_iload_n (pc' := 1) (dt_X10_text 0 (0, .iload_n 1, 1) rfl) rfl rfl (aw_iconst (pc' := 2) (v := 0) (dt_X10_text 1 (1, .iconst 0, 1) rfl) (by decide) rfl (aw_iconst (pc' := 3) (v := 1) (dt_X10_text 2 (2, .iconst 1, 1) rfl) (by decide) rfl (aw_inS (pc' := 6) (nc1 := 0) (ns1 := 0) (nc := (nc + 2)) (ns := (ns + 406)) (ls' := [some (.int x1), some (.int 0), some (.int 1)]) (y2 := mX10_within) (As := [.int x1, .int 0, .int 1]) (rest := []) (dt_X10_text 3 (3, .invokestatic 76, 3) rfl) ok_X10_within ln_ReturnDesk_76 sm_X10_within pr_X10_within rfl (Nat.le_of_ble_eq_true rfl) (Nat.le_of_ble_eq_true rfl) rfl rfl (aw_iload_n (pc' := 1) (dt_X10_within 0 (0, .iload_n 0, 1) rfl) rfl rfl (aw_iload_n (pc' := 2) (dt_X10_within 1 (1, .iload_n 1, 1) rfl) rfl rfl (aw_icmp_lt (pc' := 5) (tgt := 14) (dt_X10_within 2 (2, .if_icmp .lt 12, 3) rfl) (by decide) rfl ?_ ?_))))))
  · intro q1
    have h := h.1 q1
    refine aw_iconst (pc' := 15) (v := 0) (dt_X10_within 8 (14, .iconst 0, 1) rfl) (by decide) rfl (aw_iret (dt_X10_within 9 (15, .ireturn, 1) rfl) rfl rfl (aw_stk (st' := [.int 0]) rfl (aw_if_eq_T (pc' := 9) (tgt := 16) (dt_X10_text 4 (6, .ifCond .eq 10, 3) rfl) (by decide) rfl (by decide) (aw_iconst (pc' := 17) (v := (-1)) (dt_X10_text 8 (16, .iconst (-1), 1) rfl) (by decide) rfl (aw_iret (dt_X10_text 9 (17, .ireturn, 1) rfl) rfl rfl ?_)))))
    exact h
  · intro q1
    have h := h.2 q1
    refine aw_iload_n (pc' := 6) (dt_X10_within 3 (5, .iload_n 0, 1) rfl) rfl rfl (aw_iload_n (pc' := 7) (dt_X10_within 4 (6, .iload_n 2, 1) rfl) rfl rfl (aw_icmp_gt (pc' := 10) (tgt := 14) (dt_X10_within 5 (7, .if_icmp .gt 7, 3) rfl) (by decide) rfl ?_ ?_))
    · intro q2
      have h := h.1 q2
      refine aw_iconst (pc' := 15) (v := 0) (dt_X10_within 8 (14, .iconst 0, 1) rfl) (by decide) rfl (aw_iret (dt_X10_within 9 (15, .ireturn, 1) rfl) rfl rfl (aw_stk (st' := [.int 0]) rfl (aw_if_eq_T (pc' := 9) (tgt := 16) (dt_X10_text 4 (6, .ifCond .eq 10, 3) rfl) (by decide) rfl (by decide) (aw_iconst (pc' := 17) (v := (-1)) (dt_X10_text 8 (16, .iconst (-1), 1) rfl) (by decide) rfl (aw_iret (dt_X10_text 9 (17, .ireturn, 1) rfl) rfl rfl ?_)))))
      exact h
    · intro q2
      have h := h.2 q2
      refine aw_iconst (pc' := 11) (v := 1) (dt_X10_within 6 (10, .iconst 1, 1) rfl) (by decide) rfl (aw_goto (tgt := 15) (dt_X10_within 7 (11, .goto 4, 3) rfl) (by decide) (aw_iret (dt_X10_within 9 (15, .ireturn, 1) rfl) rfl rfl (aw_stk (st' := [.int 1]) rfl (aw_if_eq_F (pc' := 9) (tgt := 16) (dt_X10_text 4 (6, .ifCond .eq 10, 3) rfl) (by decide) rfl (by decide) (aw_iload_n (pc' := 10) (dt_X10_text 5 (9, .iload_n 2, 1) rfl) rfl rfl (aw_inS (pc' := 13) (nc1 := 0) (ns1 := 0) (nc := (nc + 2)) (ns := (ns + 406)) (ls' := [some (.int x2)]) (y2 := mX10_isDay) (As := [.int x2]) (rest := []) (dt_X10_text 6 (10, .invokestatic 92, 3) rfl) ok_X10_isDay ln_ReturnDesk_92 sm_X10_isDay pr_X10_isDay rfl (Nat.le_of_ble_eq_true rfl) (Nat.le_of_ble_eq_true rfl) rfl rfl (aw_iload_n (pc' := 1) (dt_X10_isDay 0 (0, .iload_n 0, 1) rfl) rfl rfl (aw_iconst (pc' := 2) (v := 0) (dt_X10_isDay 1 (1, .iconst 0, 1) rfl) (by decide) rfl (aw_sipush (pc' := 5) (v := 2999) (dt_X10_isDay 2 (2, .sipush 2999, 3) rfl) (by decide) rfl (aw_inS (pc' := 8) (nc1 := 0) (ns1 := 0) (nc := 0) (ns := 0) (ls' := [some (.int x2), some (.int 0), some (.int 2999)]) (y2 := mX10_within) (As := [.int x2, .int 0, .int 2999]) (rest := []) (dt_X10_isDay 3 (5, .invokestatic 76, 3) rfl) ok_X10_within ln_ReturnDesk_76 sm_X10_within pr_X10_within rfl (Nat.le_of_ble_eq_true rfl) (Nat.le_of_ble_eq_true rfl) rfl rfl (aw_iload_n (pc' := 1) (dt_X10_within 0 (0, .iload_n 0, 1) rfl) rfl rfl (aw_iload_n (pc' := 2) (dt_X10_within 1 (1, .iload_n 1, 1) rfl) rfl rfl (aw_icmp_lt (pc' := 5) (tgt := 14) (dt_X10_within 2 (2, .if_icmp .lt 12, 3) rfl) (by decide) rfl ?_ ?_)))))))))))))
      · intro q3
        have h := h.1 q3
        refine aw_iconst (pc' := 15) (v := 0) (dt_X10_within 8 (14, .iconst 0, 1) rfl) (by decide) rfl (aw_iret (dt_X10_within 9 (15, .ireturn, 1) rfl) rfl rfl (aw_stk (st' := [.int 0]) rfl (aw_iret (dt_X10_isDay 4 (8, .ireturn, 1) rfl) rfl rfl (aw_stk (st' := [.int 0]) rfl (aw_if_ne_F (pc' := 16) (tgt := 18) (dt_X10_text 7 (13, .ifCond .ne 5, 3) rfl) (by decide) rfl (by decide) (aw_iconst (pc' := 17) (v := (-1)) (dt_X10_text 8 (16, .iconst (-1), 1) rfl) (by decide) rfl (aw_iret (dt_X10_text 9 (17, .ireturn, 1) rfl) rfl rfl ?_)))))))
        exact h
      · intro q3
        have h := h.2 q3
        refine aw_iload_n (pc' := 6) (dt_X10_within 3 (5, .iload_n 0, 1) rfl) rfl rfl (aw_iload_n (pc' := 7) (dt_X10_within 4 (6, .iload_n 2, 1) rfl) rfl rfl (aw_icmp_gt (pc' := 10) (tgt := 14) (dt_X10_within 5 (7, .if_icmp .gt 7, 3) rfl) (by decide) rfl ?_ ?_))
        · intro q4
          have h := h.1 q4
          refine aw_iconst (pc' := 15) (v := 0) (dt_X10_within 8 (14, .iconst 0, 1) rfl) (by decide) rfl (aw_iret (dt_X10_within 9 (15, .ireturn, 1) rfl) rfl rfl (aw_stk (st' := [.int 0]) rfl (aw_iret (dt_X10_isDay 4 (8, .ireturn, 1) rfl) rfl rfl (aw_stk (st' := [.int 0]) rfl (aw_if_ne_F (pc' := 16) (tgt := 18) (dt_X10_text 7 (13, .ifCond .ne 5, 3) rfl) (by decide) rfl (by decide) (aw_iconst (pc' := 17) (v := (-1)) (dt_X10_text 8 (16, .iconst (-1), 1) rfl) (by decide) rfl (aw_iret (dt_X10_text 9 (17, .ireturn, 1) rfl) rfl rfl ?_)))))))
          exact h
        · intro q4
          have h := h.2 q4
          refine aw_iconst (pc' := 11) (v := 1) (dt_X10_within 6 (10, .iconst 1, 1) rfl) (by decide) rfl (aw_goto (tgt := 15) (dt_X10_within 7 (11, .goto 4, 3) rfl) (by decide) (aw_iret (dt_X10_within 9 (15, .ireturn, 1) rfl) rfl rfl (aw_stk (st' := [.int 1]) rfl (aw_iret (dt_X10_isDay 4 (8, .ireturn, 1) rfl) rfl rfl (aw_stk (st' := [.int 1]) rfl (aw_if_ne_T (pc' := 16) (tgt := 18) (dt_X10_text 7 (13, .ifCond .ne 5, 3) rfl) (by decide) rfl (by decide) (aw_aload_n (pc' := 19) (dt_X10_text 10 (18, .aload_n 0, 1) rfl) rfl rfl (aw_getI (pc' := 22) (dt_X10_text 11 (19, .getfield 205, 3) rfl) fl_ReturnDesk_205 rfl rfl (sk_11 hS) (aw_aload_n (pc' := 23) (dt_X10_text 12 (22, .aload_n 0, 1) rfl) rfl rfl (aw_getAs (pc' := 26) (dt_X10_text 13 (23, .getfield 35, 3) rfl) fl_ReturnDesk_35 rfl rfl (sk_11 hS) (sa_11_4 hS) (aw_alens (pc' := 27) (n := 20) (v := 20) (dt_X10_text 14 (26, .arraylength, 1) rfl) (by decide) (by decide) rfl (sk_16 hS) (sl_16 hS) (by decide) (aw_icmp_lt (pc' := 30) (tgt := 33) (dt_X10_text 15 (27, .if_icmp .lt 6, 3) rfl) (by decide) rfl ?_ ?_))))))))))))
          · intro q5
            have h := h.1 q5
            refine aw_aload_n (pc' := 34) (dt_X10_text 18 (33, .aload_n 0, 1) rfl) rfl rfl (aw_getAs (pc' := 37) (dt_X10_text 19 (34, .getfield 49, 3) rfl) fl_ReturnDesk_49 rfl rfl (sk_11 hS) (sa_11_6 hS) (aw_callV0 (pc' := 40) (nc := (nc + 2)) (ns := (ns + 406)) (y2 := mX6_readText) (As := []) (rest := []) (a := 19) (dt_X10_text 20 (37, .invokevirtual 208, 3) rfl) ok_X6_readText ln_ReturnDesk_208 im_X6_readText se_X6_readText pr_X6_readText (Or.inl ⟨by decide, rfl⟩) rfl (Nat.le_of_ble_eq_true rfl) (Nat.le_of_ble_eq_true rfl) rfl (sk_19 hS) h ?_))
            rintro v μ6 ⟨r8, rfl, hS7, h⟩
            refine aw_stk (st' := [.int r8]) rfl ?_
            refine aw_istore_n (pc' := 41) (ls' := [some (.ref 11), some (.int x1), some (.int x2), some (.int r8)]) (dt_X10_text 21 (40, .istore_n 3, 1) rfl) (by decide) rfl rfl (aw_aload_n (pc' := 42) (dt_X10_text 22 (41, .aload_n 0, 1) rfl) rfl rfl (aw_getAs (pc' := 45) (dt_X10_text 23 (42, .getfield 57, 3) rfl) fl_ReturnDesk_57 rfl rfl (sk_11 hS7) (sa_11_7 hS7) (aw_iconst (pc' := 46) (v := 0) (dt_X10_text 24 (45, .iconst 0, 1) rfl) (by decide) rfl (aw_putI (pc' := 49) (dt_X10_text 25 (46, .putfield 196, 3) rfl) fl_ReturnDesk_196 rfl (by decide +kernel) rfl (sk_20 hS7) (aw_iload_n (pc' := 50) (dt_X10_text 26 (49, .iload_n 3, 1) rfl) rfl rfl (aw_if_ne (pc' := 53) (tgt := 64) (dt_X10_text 27 (50, .ifCond .ne 14, 3) rfl) (by decide) rfl ?_ ?_))))))
            · intro q9
              have h := h.1 q9
              obtain ⟨g10, h⟩ := h
              obtain ⟨g11, h⟩ := h
              obtain ⟨g12, h⟩ := h
              obtain ⟨g13, h⟩ := h
              obtain ⟨g14, h⟩ := h
              obtain ⟨g15, h⟩ := h
              refine aw_aload_n (pc' := 65) (dt_X10_text 34 (64, .aload_n 0, 1) rfl) rfl rfl (aw_getAs (pc' := 68) (dt_X10_text 35 (65, .getfield 35, 3) rfl) fl_ReturnDesk_35 rfl rfl (sk_11 hS7.wI) (sa_11_4 hS7.wI) (aw_aload_n (pc' := 69) (dt_X10_text 36 (68, .aload_n 0, 1) rfl) rfl rfl (aw_getI (pc' := 72) (dt_X10_text 37 (69, .getfield 205, 3) rfl) fl_ReturnDesk_205 rfl rfl (sk_11 hS7.wI) (aw_new (pc' := 75) (ci := 9) (n := 6) (dt_X10_text 38 (72, .new 33, 3) rfl) (by decide) rfl cn_ReturnDesk_33 ci_9 cj_9 rfl (aw_dup (pc' := 76) (dt_X10_text 39 (75, .dup, 1) rfl) rfl rfl (aw_aload_n (pc' := 77) (dt_X10_text 40 (76, .aload_n 0, 1) rfl) rfl rfl (aw_getI (pc' := 80) (dt_X10_text 41 (77, .getfield 205, 3) rfl) fl_ReturnDesk_205 rfl rfl (sk_11 hS7.wI.wNew) (aw_iload_n (pc' := 81) (dt_X10_text 42 (80, .iload_n 1, 1) rfl) rfl rfl (aw_iload_n (pc' := 82) (dt_X10_text 43 (81, .iload_n 2, 1) rfl) rfl rfl (aw_aload_n (pc' := 83) (dt_X10_text 44 (82, .aload_n 0, 1) rfl) rfl rfl (aw_inV (pc' := 86) (nc1 := 0) (ns1 := 0) (nc := (nc + 1)) (ns := (ns + 400)) (ls' := [some (.ref 11)]) (y2 := mX10_today) (As := []) (rest := [.int x2, .int x1, .int (zI (sNew (sI μ6 20 1 0) 9 0) 11 16), .ref (zN (sI μ6 20 1 0)), .ref (zN (sI μ6 20 1 0)), .int (zI (sI μ6 20 1 0) 11 16), .ref 16]) (a := 11) (dt_X10_text 45 (83, .invokevirtual 138, 3) rfl) ok_X10_today ln_ReturnDesk_138 im_X10_today se_X10_today pr_X10_today (Or.inl ⟨by decide, rfl⟩) rfl (Nat.le_of_ble_eq_true rfl) (Nat.le_of_ble_eq_true rfl) rfl rfl (sk_11 hS7.wI.wNew) (aw_aload_n (pc' := 1) (dt_X10_today 0 (0, .aload_n 0, 1) rfl) rfl rfl (aw_getI (pc' := 4) (dt_X10_today 1 (1, .getfield 114, 3) rfl) fl_ReturnDesk_114 rfl rfl (sk_11 hS7.wI.wNew) (aw_bipush (pc' := 6) (v := 24) (dt_X10_today 2 (4, .bipush 24, 2) rfl) (by decide) rfl (aw_idiv (pc' := 7) (dt_X10_today 3 (6, .idiv, 1) rfl) (by decide) rfl (aw_iret (dt_X10_today 4 (7, .ireturn, 1) rfl) rfl rfl (aw_stk (st' := [.int ((zI (sNew (sI μ6 20 1 0) 9 0) 11 17) / 24), .int x2, .int x1, .int (zI (sNew (sI μ6 20 1 0) 9 0) 11 16), .ref (zN (sI μ6 20 1 0)), .ref (zN (sI μ6 20 1 0)), .int (zI (sI μ6 20 1 0) 11 16), .ref 16]) rfl (aw_aload_n (pc' := 87) (dt_X10_text 46 (86, .aload_n 0, 1) rfl) rfl rfl (aw_getAs (pc' := 90) (dt_X10_text 47 (87, .getfield 49, 3) rfl) fl_ReturnDesk_49 rfl rfl (sk_11 hS7.wI.wNew) (sa_11_6 hS7.wI.wNew) (aw_inV (pc' := 93) (nc1 := 1) (ns1 := 400) (nc := nc) (ns := ns) (ls' := [some (.ref 19), none]) (y2 := mX6_written) (As := []) (rest := [.int ((zI (sNew (sI μ6 20 1 0) 9 0) 11 17) / 24), .int x2, .int x1, .int (zI (sNew (sI μ6 20 1 0) 9 0) 11 16), .ref (zN (sI μ6 20 1 0)), .ref (zN (sI μ6 20 1 0)), .int (zI (sI μ6 20 1 0) 11 16), .ref 16]) (a := 19) (dt_X10_text 48 (90, .invokevirtual 215, 3) rfl) ok_X6_written ln_ReturnDesk_215 im_X6_written se_X6_written pr_X6_written (Or.inl ⟨by decide, rfl⟩) rfl (Nat.le_of_ble_eq_true rfl) (Nat.le_of_ble_eq_true rfl) rfl rfl (sk_19 hS7.wI.wNew) (aw_aload_n (pc' := 1) (dt_X6_written 0 (0, .aload_n 0, 1) rfl) rfl rfl (aw_getI (pc' := 4) (dt_X6_written 1 (1, .getfield 54, 3) rfl) fl_Reader_54 rfl rfl (sk_19 hS7.wI.wNew) (aw_newaB (pc' := 6) (k := 13) (N := (zI (sNew (sI μ6 20 1 0) 9 0) 19 2).toNatClampNeg) (B := 400) (dt_X6_written 2 (4, .newarray .int, 2) rfl) (by decide) (by decide) rfl na_int rfl g10 rfl g11 (by decide) (aw_astore_n (pc' := 7) (ls' := [some (.ref 19), some (.ref (zN (sNew (sI μ6 20 1 0) 9 0)))]) (dt_X6_written 3 (6, .astore_n 1, 1) rfl) (by decide) rfl rfl (aw_aload_n (pc' := 8) (dt_X6_written 4 (7, .aload_n 0, 1) rfl) rfl rfl (aw_getAs (pc' := 11) (dt_X6_written 5 (8, .getfield 18, 3) rfl) fl_Reader_18 rfl rfl (sk_19 hS7.wI.wNew.wNew) (sa_19_1 hS7.wI.wNew.wNew) (aw_iconst (pc' := 12) (v := 0) (dt_X6_written 6 (11, .iconst 0, 1) rfl) (by decide) rfl (aw_aload_n (pc' := 13) (dt_X6_written 7 (12, .aload_n 1, 1) rfl) rfl rfl (aw_iconst (pc' := 14) (v := 0) (dt_X6_written 8 (13, .iconst 0, 1) rfl) (by decide) rfl (aw_aload_n (pc' := 15) (dt_X6_written 9 (14, .aload_n 0, 1) rfl) rfl rfl (aw_getI (pc' := 18) (dt_X6_written 10 (15, .getfield 54, 3) rfl) fl_Reader_54 rfl rfl (sk_19 hS7.wI.wNew.wNew) (aw_copy (pc' := 21) (dt_X6_written 11 (18, .invokestatic 57, 3) rfl) ac_Reader_57 (Nat.le_of_ble_eq_true rfl) rfl (sk_25 hS7.wI.wNew.wNew) (zK_new (sNew (sI μ6 20 1 0) 9 0) 13 ((zI (sNew (sI μ6 20 1 0) 9 0) 19 2).toNatClampNeg)) (by decide) g12 (by decide) (by decide) g13 g14 g15 (aw_aload_n (pc' := 22) (dt_X6_written 12 (21, .aload_n 1, 1) rfl) rfl rfl (aw_aret (dt_X6_written 13 (22, .areturn, 1) rfl) rfl rfl (aw_stk (st' := [.ref (zN (sNew (sI μ6 20 1 0) 9 0)), .int ((zI (sNew (sI μ6 20 1 0) 9 0) 11 17) / 24), .int x2, .int x1, .int (zI (sNew (sI μ6 20 1 0) 9 0) 11 16), .ref (zN (sI μ6 20 1 0)), .ref (zN (sI μ6 20 1 0)), .int (zI (sI μ6 20 1 0) 11 16), .ref 16]) rfl (aw_callI0 (pc' := 96) (nc := nc) (ns := ns) (y2 := mX9_init) (As := [.int (zI (sNew (sI μ6 20 1 0) 9 0) 11 16), .int x1, .int x2, .int ((zI (sNew (sI μ6 20 1 0) 9 0) 11 17) / 24), .ref (zN (sNew (sI μ6 20 1 0) 9 0))]) (rest := [.ref (zN (sI μ6 20 1 0)), .int (zI (sI μ6 20 1 0) 11 16), .ref 16]) (a := (zN (sI μ6 20 1 0))) (dt_X10_text 49 (93, .invokespecial 219, 3) rfl) ok_X9_init rfl rfl ln_ReturnDesk_219 im_X9_init pr_X9_init rfl (Nat.le_of_ble_eq_true rfl) (Nat.le_of_ble_eq_true rfl) rfl  h ?_))))))))))))))))))))))))))))))))))))
              rintro v μ16 ⟨rfl, hS17, h⟩
              refine aw_stk (st' := [.ref (zN (sI μ6 20 1 0)), .int (zI (sI μ6 20 1 0) 11 16), .ref 16]) rfl ?_
              obtain ⟨g18, h⟩ := h
              obtain ⟨g19, h⟩ := h
              refine aw_aast (pc' := 97) (ci := 9) (dt_X10_text 50 (96, .aastore, 1) rfl) (by decide) (by decide) (by decide) rfl rfl (sk_16 hS17) (by decide) g18 (vin_eq (sl_16 hS17) g19) (aw_aload_n (pc' := 98) (dt_X10_text 51 (97, .aload_n 0, 1) rfl) rfl rfl (aw_dup (pc' := 99) (dt_X10_text 52 (98, .dup, 1) rfl) rfl rfl (aw_getI (pc' := 102) (dt_X10_text 53 (99, .getfield 205, 3) rfl) fl_ReturnDesk_205 rfl rfl (sk_11 (hS17.wAr (by decide))) (aw_iconst (pc' := 103) (v := 1) (dt_X10_text 54 (102, .iconst 1, 1) rfl) (by decide) rfl (aw_iadd (pc' := 104) (dt_X10_text 55 (103, .iadd, 1) rfl) rfl (aw_putI (pc' := 107) (dt_X10_text 56 (104, .putfield 205, 3) rfl) fl_ReturnDesk_205 rfl (by decide +kernel) rfl (sk_11 (hS17.wAr (by decide))) (aw_aload_n (pc' := 108) (dt_X10_text 57 (107, .aload_n 0, 1) rfl) rfl rfl (aw_getI (pc' := 111) (dt_X10_text 58 (108, .getfield 205, 3) rfl) fl_ReturnDesk_205 rfl rfl (sk_11 (hS17.wAr (by decide)).wI) (aw_iconst (pc' := 112) (v := 1) (dt_X10_text 59 (111, .iconst 1, 1) rfl) (by decide) rfl (aw_isub (pc' := 113) (dt_X10_text 60 (112, .isub, 1) rfl) rfl (aw_iret (dt_X10_text 61 (113, .ireturn, 1) rfl) rfl rfl ?_)))))))))))
              exact h
            · intro q9
              have h := h.2 q9
              refine aw_bipush (pc' := 55) (v := (-100)) (dt_X10_text 28 (53, .bipush (-100), 2) rfl) (by decide) rfl (aw_aload_n (pc' := 56) (dt_X10_text 29 (55, .aload_n 0, 1) rfl) rfl rfl (aw_getAs (pc' := 59) (dt_X10_text 30 (56, .getfield 49, 3) rfl) fl_ReturnDesk_49 rfl rfl (sk_11 hS7.wI) (sa_11_6 hS7.wI) (aw_inV (pc' := 62) (nc1 := 0) (ns1 := 0) (nc := (nc + 2)) (ns := (ns + 406)) (ls' := [some (.ref 19)]) (y2 := mX6_fault) (As := []) (rest := [.int (-100)]) (a := 19) (dt_X10_text 31 (59, .invokevirtual 212, 3) rfl) ok_X6_fault ln_ReturnDesk_212 im_X6_fault se_X6_fault pr_X6_fault (Or.inl ⟨by decide, rfl⟩) rfl (Nat.le_of_ble_eq_true rfl) (Nat.le_of_ble_eq_true rfl) rfl rfl (sk_19 hS7.wI) (aw_aload_n (pc' := 1) (dt_X6_fault 0 (0, .aload_n 0, 1) rfl) rfl rfl (aw_getI (pc' := 4) (dt_X6_fault 1 (1, .getfield 45, 3) rfl) fl_Reader_45 rfl rfl (sk_19 hS7.wI) (aw_aload_n (pc' := 5) (dt_X6_fault 2 (4, .aload_n 0, 1) rfl) rfl rfl (aw_getAs (pc' := 8) (dt_X6_fault 3 (5, .getfield 12, 3) rfl) fl_Reader_12 rfl rfl (sk_19 hS7.wI) (sa_19_0 hS7.wI) (aw_getAs (pc' := 11) (dt_X6_fault 4 (8, .getfield 48, 3) rfl) fl_Reader_48 rfl rfl (sk_20 hS7.wI) (sa_20_3 hS7.wI) (aw_alens (pc' := 12) (n := 201) (v := 201) (dt_X6_fault 5 (11, .arraylength, 1) rfl) (by decide) (by decide) rfl (sk_23 hS7.wI) (sl_23 hS7.wI) (by decide) (aw_icmp_ge (pc' := 15) (tgt := 30) (dt_X6_fault 6 (12, .if_icmp .ge 18, 3) rfl) (by decide) rfl ?_ ?_))))))))))
              · intro q20
                have h := h.1 q20
                refine aw_aload_n (pc' := 31) (dt_X6_fault 14 (30, .aload_n 0, 1) rfl) rfl rfl (aw_getAs (pc' := 34) (dt_X6_fault 15 (31, .getfield 12, 3) rfl) fl_Reader_12 rfl rfl (sk_19 hS7.wI) (sa_19_0 hS7.wI) (aw_getI (pc' := 37) (dt_X6_fault 16 (34, .getfield 51, 3) rfl) fl_Reader_51 rfl rfl (sk_20 hS7.wI) (aw_iret (dt_X6_fault 17 (37, .ireturn, 1) rfl) rfl rfl (aw_stk (st' := [.int (zI (sI μ6 20 1 0) 20 1), .int (-100)]) rfl (aw_isub (pc' := 63) (dt_X10_text 32 (62, .isub, 1) rfl) rfl (aw_iret (dt_X10_text 33 (63, .ireturn, 1) rfl) rfl rfl ?_))))))
                exact h
              · intro q20
                have h := h.2 q20
                obtain ⟨g21, h⟩ := h
                refine aw_aload_n (pc' := 16) (dt_X6_fault 7 (15, .aload_n 0, 1) rfl) rfl rfl (aw_getAs (pc' := 19) (dt_X6_fault 8 (16, .getfield 12, 3) rfl) fl_Reader_12 rfl rfl (sk_19 hS7.wI) (sa_19_0 hS7.wI) (aw_getAs (pc' := 22) (dt_X6_fault 9 (19, .getfield 48, 3) rfl) fl_Reader_48 rfl rfl (sk_20 hS7.wI) (sa_20_3 hS7.wI) (aw_aload_n (pc' := 23) (dt_X6_fault 10 (22, .aload_n 0, 1) rfl) rfl rfl (aw_getI (pc' := 26) (dt_X6_fault 11 (23, .getfield 45, 3) rfl) fl_Reader_45 rfl rfl (sk_19 hS7.wI) (aw_iald (pc' := 27) (dt_X6_fault 12 (26, .iaload, 1) rfl) rfl (sk_23 hS7.wI) (vin_eq (sl_23 hS7.wI) g21) (aw_goto (tgt := 37) (dt_X6_fault 13 (27, .goto 10, 3) rfl) (by decide) (aw_iret (dt_X6_fault 17 (37, .ireturn, 1) rfl) rfl rfl (aw_stk (st' := [.int (zI (sI μ6 20 1 0) 23 (zI (sI μ6 20 1 0) 19 3).toNatClampNeg), .int (-100)]) rfl (aw_isub (pc' := 63) (dt_X10_text 32 (62, .isub, 1) rfl) rfl (aw_iret (dt_X10_text 33 (63, .ireturn, 1) rfl) rfl rfl ?_))))))))))
                exact h
          · intro q5
            have h := h.2 q5
            refine aw_bipush (pc' := 32) (v := (-3)) (dt_X10_text 16 (30, .bipush (-3), 2) rfl) (by decide) rfl (aw_iret (dt_X10_text 17 (32, .ireturn, 1) rfl) rfl rfl ?_)
            exact h

theorem t_X10_inForce {E : ZE} {l : Launch} {d nc ns : Nat} {x1 : Int32} {x2 : Int32} {x3 : Int32} {μ : ZM} {K : Option Value → ZM → Prop} (hS : Stat μ) (h :
  (x2 < 0 →
    (x1 < 0 →
      K (some (.int (-1))) μ) ∧
    (¬ x1 < 0 →
      (1 < x1 →
        K (some (.int (-1))) μ) ∧
      (¬ 1 < x1 →
        K (some (.int (-1))) μ))) ∧
  (¬ x2 < 0 →
    (((zI μ 11 14) - 1) < x2 →
      (x1 < 0 →
        K (some (.int (-1))) μ) ∧
      (¬ x1 < 0 →
        (1 < x1 →
          K (some (.int (-1))) μ) ∧
        (¬ 1 < x1 →
          K (some (.int (-1))) μ))) ∧
    (¬ ((zI μ 11 14) - 1) < x2 →
      (vp_in x2 300) ∧
      (zA μ 14 x2.toNatClampNeg = none →
        (x1 < 0 →
          K (some (.int (-1))) μ) ∧
        (¬ x1 < 0 →
          (1 < x1 →
            K (some (.int (-1))) μ) ∧
          (¬ 1 < x1 →
            K (some (.int (-1))) μ))) ∧
      (∀ b9, zA μ 14 x2.toNatClampNeg = some b9 →
        (x1 < 0 →
          K (some (.int (-1))) μ) ∧
        (¬ x1 < 0 →
          (1 < x1 →
            K (some (.int (-1))) μ) ∧
          (¬ 1 < x1 →
            (x3 < 0 →
              K (some (.int (-1))) μ) ∧
            (¬ x3 < 0 →
              (2999 < x3 →
                K (some (.int (-1))) μ) ∧
              (¬ 2999 < x3 →
                AW E l (d + 1) 0 0 mX10_textFor 0 (zargs 6 [.ref 11, .int x1, .ref b9, .int x3]) [] μ (fun v μ16 =>
                  (v = some .null ∧ Stat μ16 ∧ 
                  K (some (.int (-2))) μ16) ∨
                  (∃ b18, v = some (.ref b18) ∧ Stat μ16 ∧ 
                  (zK μ16 b18 = 9) ∧
                  K (some (.int (zI μ16 b18 0))) μ16)))))))))) : AW E l (d + 2) nc ns mX10_inForce 0 [some (.ref 11), some (.int x1), some (.int x2), some (.int x3), none, none] [] μ K := by
  refine aw_aload_n (pc' := 1) (dt_X10_inForce 0 (0, .aload_n 0, 1) rfl) rfl rfl (aw_iload_n (pc' := 2) (dt_X10_inForce 1 (1, .iload_n 2, 1) rfl) rfl rfl (aw_inV (pc' := 5) (nc1 := 0) (ns1 := 0) (nc := nc) (ns := ns) (ls' := [some (.ref 11), some (.int x2)]) (y2 := mX10_saleAt) (As := [.int x2]) (rest := []) (a := 11) (dt_X10_inForce 2 (2, .invokevirtual 152, 3) rfl) ok_X10_saleAt ln_ReturnDesk_152 im_X10_saleAt se_X10_saleAt pr_X10_saleAt (Or.inl ⟨by decide, rfl⟩) rfl (Nat.le_of_ble_eq_true rfl) (Nat.le_of_ble_eq_true rfl) rfl rfl (sk_11 hS) (aw_iload_n (pc' := 1) (dt_X10_saleAt 0 (0, .iload_n 1, 1) rfl) rfl rfl (aw_iconst (pc' := 2) (v := 0) (dt_X10_saleAt 1 (1, .iconst 0, 1) rfl) (by decide) rfl (aw_aload_n (pc' := 3) (dt_X10_saleAt 2 (2, .aload_n 0, 1) rfl) rfl rfl (aw_getI (pc' := 6) (dt_X10_saleAt 3 (3, .getfield 131, 3) rfl) fl_ReturnDesk_131 rfl rfl (sk_11 hS) (aw_iconst (pc' := 7) (v := 1) (dt_X10_saleAt 4 (6, .iconst 1, 1) rfl) (by decide) rfl (aw_isub (pc' := 8) (dt_X10_saleAt 5 (7, .isub, 1) rfl) rfl (aw_inS (pc' := 11) (nc1 := 0) (ns1 := 0) (nc := 0) (ns := 0) (ls' := [some (.int x2), some (.int 0), some (.int ((zI μ 11 14) - 1))]) (y2 := mX10_within) (As := [.int x2, .int 0, .int ((zI μ 11 14) - 1)]) (rest := []) (dt_X10_saleAt 6 (8, .invokestatic 76, 3) rfl) ok_X10_within ln_ReturnDesk_76 sm_X10_within pr_X10_within rfl (Nat.le_of_ble_eq_true rfl) (Nat.le_of_ble_eq_true rfl) rfl rfl (aw_iload_n (pc' := 1) (dt_X10_within 0 (0, .iload_n 0, 1) rfl) rfl rfl (aw_iload_n (pc' := 2) (dt_X10_within 1 (1, .iload_n 1, 1) rfl) rfl rfl (aw_icmp_lt (pc' := 5) (tgt := 14) (dt_X10_within 2 (2, .if_icmp .lt 12, 3) rfl) (by decide) rfl ?_ ?_))))))))))))
  · intro q1
    have h := h.1 q1
    refine aw_iconst (pc' := 15) (v := 0) (dt_X10_within 8 (14, .iconst 0, 1) rfl) (by decide) rfl (aw_iret (dt_X10_within 9 (15, .ireturn, 1) rfl) rfl rfl (aw_stk (st' := [.int 0]) rfl (aw_if_eq_T (pc' := 14) (tgt := 23) (dt_X10_saleAt 7 (11, .ifCond .eq 12, 3) rfl) (by decide) rfl (by decide) (aw_null (pc' := 24) (dt_X10_saleAt 13 (23, .aconst_null, 1) rfl) rfl (aw_aretN (dt_X10_saleAt 14 (24, .areturn, 1) rfl) rfl rfl (aw_stk (st' := [.null]) rfl (aw_astoreN (pc' := 7) (ls' := [some (.ref 11), some (.int x1), some (.int x2), some (.int x3), some (.null), none]) (dt_X10_inForce 3 (5, .astore 4, 2) rfl) (by decide) rfl rfl (aw_iload_n (pc' := 8) (dt_X10_inForce 4 (7, .iload_n 1, 1) rfl) rfl rfl (aw_iconst (pc' := 9) (v := 0) (dt_X10_inForce 5 (8, .iconst 0, 1) rfl) (by decide) rfl (aw_iconst (pc' := 10) (v := 1) (dt_X10_inForce 6 (9, .iconst 1, 1) rfl) (by decide) rfl (aw_inS (pc' := 13) (nc1 := 0) (ns1 := 0) (nc := nc) (ns := ns) (ls' := [some (.int x1), some (.int 0), some (.int 1)]) (y2 := mX10_within) (As := [.int x1, .int 0, .int 1]) (rest := []) (dt_X10_inForce 7 (10, .invokestatic 76, 3) rfl) ok_X10_within ln_ReturnDesk_76 sm_X10_within pr_X10_within rfl (Nat.le_of_ble_eq_true rfl) (Nat.le_of_ble_eq_true rfl) rfl rfl (aw_iload_n (pc' := 1) (dt_X10_within 0 (0, .iload_n 0, 1) rfl) rfl rfl (aw_iload_n (pc' := 2) (dt_X10_within 1 (1, .iload_n 1, 1) rfl) rfl rfl (aw_icmp_lt (pc' := 5) (tgt := 14) (dt_X10_within 2 (2, .if_icmp .lt 12, 3) rfl) (by decide) rfl ?_ ?_))))))))))))))
    · intro q2
      have h := h.1 q2
      refine aw_iconst (pc' := 15) (v := 0) (dt_X10_within 8 (14, .iconst 0, 1) rfl) (by decide) rfl (aw_iret (dt_X10_within 9 (15, .ireturn, 1) rfl) rfl rfl (aw_stk (st' := [.int 0]) rfl (aw_if_eq_T (pc' := 16) (tgt := 28) (dt_X10_inForce 8 (13, .ifCond .eq 15, 3) rfl) (by decide) rfl (by decide) (aw_iconst (pc' := 29) (v := (-1)) (dt_X10_inForce 14 (28, .iconst (-1), 1) rfl) (by decide) rfl (aw_iret (dt_X10_inForce 15 (29, .ireturn, 1) rfl) rfl rfl ?_)))))
      exact h
    · intro q2
      have h := h.2 q2
      refine aw_iload_n (pc' := 6) (dt_X10_within 3 (5, .iload_n 0, 1) rfl) rfl rfl (aw_iload_n (pc' := 7) (dt_X10_within 4 (6, .iload_n 2, 1) rfl) rfl rfl (aw_icmp_gt (pc' := 10) (tgt := 14) (dt_X10_within 5 (7, .if_icmp .gt 7, 3) rfl) (by decide) rfl ?_ ?_))
      · intro q3
        have h := h.1 q3
        refine aw_iconst (pc' := 15) (v := 0) (dt_X10_within 8 (14, .iconst 0, 1) rfl) (by decide) rfl (aw_iret (dt_X10_within 9 (15, .ireturn, 1) rfl) rfl rfl (aw_stk (st' := [.int 0]) rfl (aw_if_eq_T (pc' := 16) (tgt := 28) (dt_X10_inForce 8 (13, .ifCond .eq 15, 3) rfl) (by decide) rfl (by decide) (aw_iconst (pc' := 29) (v := (-1)) (dt_X10_inForce 14 (28, .iconst (-1), 1) rfl) (by decide) rfl (aw_iret (dt_X10_inForce 15 (29, .ireturn, 1) rfl) rfl rfl ?_)))))
        exact h
      · intro q3
        have h := h.2 q3
        refine aw_iconst (pc' := 11) (v := 1) (dt_X10_within 6 (10, .iconst 1, 1) rfl) (by decide) rfl (aw_goto (tgt := 15) (dt_X10_within 7 (11, .goto 4, 3) rfl) (by decide) (aw_iret (dt_X10_within 9 (15, .ireturn, 1) rfl) rfl rfl (aw_stk (st' := [.int 1]) rfl (aw_if_eq_F (pc' := 16) (tgt := 28) (dt_X10_inForce 8 (13, .ifCond .eq 15, 3) rfl) (by decide) rfl (by decide) (aw_aloadN (pc' := 18) (dt_X10_inForce 9 (16, .aload 4, 2) rfl) rfl rfl (aw_ifnullN (tgt := 28) (dt_X10_inForce 10 (18, .ifnull 10, 3) rfl) (by decide) (aw_iconst (pc' := 29) (v := (-1)) (dt_X10_inForce 14 (28, .iconst (-1), 1) rfl) (by decide) rfl (aw_iret (dt_X10_inForce 15 (29, .ireturn, 1) rfl) rfl rfl ?_))))))))
        exact h
  · intro q1
    have h := h.2 q1
    refine aw_iload_n (pc' := 6) (dt_X10_within 3 (5, .iload_n 0, 1) rfl) rfl rfl (aw_iload_n (pc' := 7) (dt_X10_within 4 (6, .iload_n 2, 1) rfl) rfl rfl (aw_icmp_gt (pc' := 10) (tgt := 14) (dt_X10_within 5 (7, .if_icmp .gt 7, 3) rfl) (by decide) rfl ?_ ?_))
    · intro q4
      have h := h.1 q4
      refine aw_iconst (pc' := 15) (v := 0) (dt_X10_within 8 (14, .iconst 0, 1) rfl) (by decide) rfl (aw_iret (dt_X10_within 9 (15, .ireturn, 1) rfl) rfl rfl (aw_stk (st' := [.int 0]) rfl (aw_if_eq_T (pc' := 14) (tgt := 23) (dt_X10_saleAt 7 (11, .ifCond .eq 12, 3) rfl) (by decide) rfl (by decide) (aw_null (pc' := 24) (dt_X10_saleAt 13 (23, .aconst_null, 1) rfl) rfl (aw_aretN (dt_X10_saleAt 14 (24, .areturn, 1) rfl) rfl rfl (aw_stk (st' := [.null]) rfl (aw_astoreN (pc' := 7) (ls' := [some (.ref 11), some (.int x1), some (.int x2), some (.int x3), some (.null), none]) (dt_X10_inForce 3 (5, .astore 4, 2) rfl) (by decide) rfl rfl (aw_iload_n (pc' := 8) (dt_X10_inForce 4 (7, .iload_n 1, 1) rfl) rfl rfl (aw_iconst (pc' := 9) (v := 0) (dt_X10_inForce 5 (8, .iconst 0, 1) rfl) (by decide) rfl (aw_iconst (pc' := 10) (v := 1) (dt_X10_inForce 6 (9, .iconst 1, 1) rfl) (by decide) rfl (aw_inS (pc' := 13) (nc1 := 0) (ns1 := 0) (nc := nc) (ns := ns) (ls' := [some (.int x1), some (.int 0), some (.int 1)]) (y2 := mX10_within) (As := [.int x1, .int 0, .int 1]) (rest := []) (dt_X10_inForce 7 (10, .invokestatic 76, 3) rfl) ok_X10_within ln_ReturnDesk_76 sm_X10_within pr_X10_within rfl (Nat.le_of_ble_eq_true rfl) (Nat.le_of_ble_eq_true rfl) rfl rfl (aw_iload_n (pc' := 1) (dt_X10_within 0 (0, .iload_n 0, 1) rfl) rfl rfl (aw_iload_n (pc' := 2) (dt_X10_within 1 (1, .iload_n 1, 1) rfl) rfl rfl (aw_icmp_lt (pc' := 5) (tgt := 14) (dt_X10_within 2 (2, .if_icmp .lt 12, 3) rfl) (by decide) rfl ?_ ?_))))))))))))))
      · intro q5
        have h := h.1 q5
        refine aw_iconst (pc' := 15) (v := 0) (dt_X10_within 8 (14, .iconst 0, 1) rfl) (by decide) rfl (aw_iret (dt_X10_within 9 (15, .ireturn, 1) rfl) rfl rfl (aw_stk (st' := [.int 0]) rfl (aw_if_eq_T (pc' := 16) (tgt := 28) (dt_X10_inForce 8 (13, .ifCond .eq 15, 3) rfl) (by decide) rfl (by decide) (aw_iconst (pc' := 29) (v := (-1)) (dt_X10_inForce 14 (28, .iconst (-1), 1) rfl) (by decide) rfl (aw_iret (dt_X10_inForce 15 (29, .ireturn, 1) rfl) rfl rfl ?_)))))
        exact h
      · intro q5
        have h := h.2 q5
        refine aw_iload_n (pc' := 6) (dt_X10_within 3 (5, .iload_n 0, 1) rfl) rfl rfl (aw_iload_n (pc' := 7) (dt_X10_within 4 (6, .iload_n 2, 1) rfl) rfl rfl (aw_icmp_gt (pc' := 10) (tgt := 14) (dt_X10_within 5 (7, .if_icmp .gt 7, 3) rfl) (by decide) rfl ?_ ?_))
        · intro q6
          have h := h.1 q6
          refine aw_iconst (pc' := 15) (v := 0) (dt_X10_within 8 (14, .iconst 0, 1) rfl) (by decide) rfl (aw_iret (dt_X10_within 9 (15, .ireturn, 1) rfl) rfl rfl (aw_stk (st' := [.int 0]) rfl (aw_if_eq_T (pc' := 16) (tgt := 28) (dt_X10_inForce 8 (13, .ifCond .eq 15, 3) rfl) (by decide) rfl (by decide) (aw_iconst (pc' := 29) (v := (-1)) (dt_X10_inForce 14 (28, .iconst (-1), 1) rfl) (by decide) rfl (aw_iret (dt_X10_inForce 15 (29, .ireturn, 1) rfl) rfl rfl ?_)))))
          exact h
        · intro q6
          have h := h.2 q6
          refine aw_iconst (pc' := 11) (v := 1) (dt_X10_within 6 (10, .iconst 1, 1) rfl) (by decide) rfl (aw_goto (tgt := 15) (dt_X10_within 7 (11, .goto 4, 3) rfl) (by decide) (aw_iret (dt_X10_within 9 (15, .ireturn, 1) rfl) rfl rfl (aw_stk (st' := [.int 1]) rfl (aw_if_eq_F (pc' := 16) (tgt := 28) (dt_X10_inForce 8 (13, .ifCond .eq 15, 3) rfl) (by decide) rfl (by decide) (aw_aloadN (pc' := 18) (dt_X10_inForce 9 (16, .aload 4, 2) rfl) rfl rfl (aw_ifnullN (tgt := 28) (dt_X10_inForce 10 (18, .ifnull 10, 3) rfl) (by decide) (aw_iconst (pc' := 29) (v := (-1)) (dt_X10_inForce 14 (28, .iconst (-1), 1) rfl) (by decide) rfl (aw_iret (dt_X10_inForce 15 (29, .ireturn, 1) rfl) rfl rfl ?_))))))))
          exact h
    · intro q4
      have h := h.2 q4
      obtain ⟨g7, h⟩ := h
      refine aw_iconst (pc' := 11) (v := 1) (dt_X10_within 6 (10, .iconst 1, 1) rfl) (by decide) rfl (aw_goto (tgt := 15) (dt_X10_within 7 (11, .goto 4, 3) rfl) (by decide) (aw_iret (dt_X10_within 9 (15, .ireturn, 1) rfl) rfl rfl (aw_stk (st' := [.int 1]) rfl (aw_if_eq_F (pc' := 14) (tgt := 23) (dt_X10_saleAt 7 (11, .ifCond .eq 12, 3) rfl) (by decide) rfl (by decide) (aw_aload_n (pc' := 15) (dt_X10_saleAt 8 (14, .aload_n 0, 1) rfl) rfl rfl (aw_getAs (pc' := 18) (dt_X10_saleAt 9 (15, .getfield 23, 3) rfl) fl_ReturnDesk_23 rfl rfl (sk_11 hS) (sa_11_2 hS) (aw_iload_n (pc' := 19) (dt_X10_saleAt 10 (18, .iload_n 1, 1) rfl) rfl rfl (aw_aald (pc' := 20) (dt_X10_saleAt 11 (19, .aaload, 1) rfl) (by decide) (by decide) rfl (sk_14 hS) (vin_eq (sl_14 hS) g7) ?_ ?_))))))))
      · intro e8
        have h := h.1 e8
        refine aw_goto (tgt := 24) (dt_X10_saleAt 12 (20, .goto 4, 3) rfl) (by decide) (aw_aretN (dt_X10_saleAt 14 (24, .areturn, 1) rfl) rfl rfl (aw_stk (st' := [.null]) rfl (aw_astoreN (pc' := 7) (ls' := [some (.ref 11), some (.int x1), some (.int x2), some (.int x3), some (.null), none]) (dt_X10_inForce 3 (5, .astore 4, 2) rfl) (by decide) rfl rfl (aw_iload_n (pc' := 8) (dt_X10_inForce 4 (7, .iload_n 1, 1) rfl) rfl rfl (aw_iconst (pc' := 9) (v := 0) (dt_X10_inForce 5 (8, .iconst 0, 1) rfl) (by decide) rfl (aw_iconst (pc' := 10) (v := 1) (dt_X10_inForce 6 (9, .iconst 1, 1) rfl) (by decide) rfl (aw_inS (pc' := 13) (nc1 := 0) (ns1 := 0) (nc := nc) (ns := ns) (ls' := [some (.int x1), some (.int 0), some (.int 1)]) (y2 := mX10_within) (As := [.int x1, .int 0, .int 1]) (rest := []) (dt_X10_inForce 7 (10, .invokestatic 76, 3) rfl) ok_X10_within ln_ReturnDesk_76 sm_X10_within pr_X10_within rfl (Nat.le_of_ble_eq_true rfl) (Nat.le_of_ble_eq_true rfl) rfl rfl (aw_iload_n (pc' := 1) (dt_X10_within 0 (0, .iload_n 0, 1) rfl) rfl rfl (aw_iload_n (pc' := 2) (dt_X10_within 1 (1, .iload_n 1, 1) rfl) rfl rfl (aw_icmp_lt (pc' := 5) (tgt := 14) (dt_X10_within 2 (2, .if_icmp .lt 12, 3) rfl) (by decide) rfl ?_ ?_))))))))))
        · intro q10
          have h := h.1 q10
          refine aw_iconst (pc' := 15) (v := 0) (dt_X10_within 8 (14, .iconst 0, 1) rfl) (by decide) rfl (aw_iret (dt_X10_within 9 (15, .ireturn, 1) rfl) rfl rfl (aw_stk (st' := [.int 0]) rfl (aw_if_eq_T (pc' := 16) (tgt := 28) (dt_X10_inForce 8 (13, .ifCond .eq 15, 3) rfl) (by decide) rfl (by decide) (aw_iconst (pc' := 29) (v := (-1)) (dt_X10_inForce 14 (28, .iconst (-1), 1) rfl) (by decide) rfl (aw_iret (dt_X10_inForce 15 (29, .ireturn, 1) rfl) rfl rfl ?_)))))
          exact h
        · intro q10
          have h := h.2 q10
          refine aw_iload_n (pc' := 6) (dt_X10_within 3 (5, .iload_n 0, 1) rfl) rfl rfl (aw_iload_n (pc' := 7) (dt_X10_within 4 (6, .iload_n 2, 1) rfl) rfl rfl (aw_icmp_gt (pc' := 10) (tgt := 14) (dt_X10_within 5 (7, .if_icmp .gt 7, 3) rfl) (by decide) rfl ?_ ?_))
          · intro q11
            have h := h.1 q11
            refine aw_iconst (pc' := 15) (v := 0) (dt_X10_within 8 (14, .iconst 0, 1) rfl) (by decide) rfl (aw_iret (dt_X10_within 9 (15, .ireturn, 1) rfl) rfl rfl (aw_stk (st' := [.int 0]) rfl (aw_if_eq_T (pc' := 16) (tgt := 28) (dt_X10_inForce 8 (13, .ifCond .eq 15, 3) rfl) (by decide) rfl (by decide) (aw_iconst (pc' := 29) (v := (-1)) (dt_X10_inForce 14 (28, .iconst (-1), 1) rfl) (by decide) rfl (aw_iret (dt_X10_inForce 15 (29, .ireturn, 1) rfl) rfl rfl ?_)))))
            exact h
          · intro q11
            have h := h.2 q11
            refine aw_iconst (pc' := 11) (v := 1) (dt_X10_within 6 (10, .iconst 1, 1) rfl) (by decide) rfl (aw_goto (tgt := 15) (dt_X10_within 7 (11, .goto 4, 3) rfl) (by decide) (aw_iret (dt_X10_within 9 (15, .ireturn, 1) rfl) rfl rfl (aw_stk (st' := [.int 1]) rfl (aw_if_eq_F (pc' := 16) (tgt := 28) (dt_X10_inForce 8 (13, .ifCond .eq 15, 3) rfl) (by decide) rfl (by decide) (aw_aloadN (pc' := 18) (dt_X10_inForce 9 (16, .aload 4, 2) rfl) rfl rfl (aw_ifnullN (tgt := 28) (dt_X10_inForce 10 (18, .ifnull 10, 3) rfl) (by decide) (aw_iconst (pc' := 29) (v := (-1)) (dt_X10_inForce 14 (28, .iconst (-1), 1) rfl) (by decide) rfl (aw_iret (dt_X10_inForce 15 (29, .ireturn, 1) rfl) rfl rfl ?_))))))))
            exact h
      · intro b9 e8
        have h := h.2 b9 e8
        refine aw_goto (tgt := 24) (dt_X10_saleAt 12 (20, .goto 4, 3) rfl) (by decide) (aw_aret (dt_X10_saleAt 14 (24, .areturn, 1) rfl) rfl rfl (aw_stk (st' := [.ref b9]) rfl (aw_astore (pc' := 7) (ls' := [some (.ref 11), some (.int x1), some (.int x2), some (.int x3), some (.ref b9), none]) (dt_X10_inForce 3 (5, .astore 4, 2) rfl) (by decide) rfl rfl (aw_iload_n (pc' := 8) (dt_X10_inForce 4 (7, .iload_n 1, 1) rfl) rfl rfl (aw_iconst (pc' := 9) (v := 0) (dt_X10_inForce 5 (8, .iconst 0, 1) rfl) (by decide) rfl (aw_iconst (pc' := 10) (v := 1) (dt_X10_inForce 6 (9, .iconst 1, 1) rfl) (by decide) rfl (aw_inS (pc' := 13) (nc1 := 0) (ns1 := 0) (nc := nc) (ns := ns) (ls' := [some (.int x1), some (.int 0), some (.int 1)]) (y2 := mX10_within) (As := [.int x1, .int 0, .int 1]) (rest := []) (dt_X10_inForce 7 (10, .invokestatic 76, 3) rfl) ok_X10_within ln_ReturnDesk_76 sm_X10_within pr_X10_within rfl (Nat.le_of_ble_eq_true rfl) (Nat.le_of_ble_eq_true rfl) rfl rfl (aw_iload_n (pc' := 1) (dt_X10_within 0 (0, .iload_n 0, 1) rfl) rfl rfl (aw_iload_n (pc' := 2) (dt_X10_within 1 (1, .iload_n 1, 1) rfl) rfl rfl (aw_icmp_lt (pc' := 5) (tgt := 14) (dt_X10_within 2 (2, .if_icmp .lt 12, 3) rfl) (by decide) rfl ?_ ?_))))))))))
        · intro q12
          have h := h.1 q12
          refine aw_iconst (pc' := 15) (v := 0) (dt_X10_within 8 (14, .iconst 0, 1) rfl) (by decide) rfl (aw_iret (dt_X10_within 9 (15, .ireturn, 1) rfl) rfl rfl (aw_stk (st' := [.int 0]) rfl (aw_if_eq_T (pc' := 16) (tgt := 28) (dt_X10_inForce 8 (13, .ifCond .eq 15, 3) rfl) (by decide) rfl (by decide) (aw_iconst (pc' := 29) (v := (-1)) (dt_X10_inForce 14 (28, .iconst (-1), 1) rfl) (by decide) rfl (aw_iret (dt_X10_inForce 15 (29, .ireturn, 1) rfl) rfl rfl ?_)))))
          exact h
        · intro q12
          have h := h.2 q12
          refine aw_iload_n (pc' := 6) (dt_X10_within 3 (5, .iload_n 0, 1) rfl) rfl rfl (aw_iload_n (pc' := 7) (dt_X10_within 4 (6, .iload_n 2, 1) rfl) rfl rfl (aw_icmp_gt (pc' := 10) (tgt := 14) (dt_X10_within 5 (7, .if_icmp .gt 7, 3) rfl) (by decide) rfl ?_ ?_))
          · intro q13
            have h := h.1 q13
            refine aw_iconst (pc' := 15) (v := 0) (dt_X10_within 8 (14, .iconst 0, 1) rfl) (by decide) rfl (aw_iret (dt_X10_within 9 (15, .ireturn, 1) rfl) rfl rfl (aw_stk (st' := [.int 0]) rfl (aw_if_eq_T (pc' := 16) (tgt := 28) (dt_X10_inForce 8 (13, .ifCond .eq 15, 3) rfl) (by decide) rfl (by decide) (aw_iconst (pc' := 29) (v := (-1)) (dt_X10_inForce 14 (28, .iconst (-1), 1) rfl) (by decide) rfl (aw_iret (dt_X10_inForce 15 (29, .ireturn, 1) rfl) rfl rfl ?_)))))
            exact h
          · intro q13
            have h := h.2 q13
            refine aw_iconst (pc' := 11) (v := 1) (dt_X10_within 6 (10, .iconst 1, 1) rfl) (by decide) rfl (aw_goto (tgt := 15) (dt_X10_within 7 (11, .goto 4, 3) rfl) (by decide) (aw_iret (dt_X10_within 9 (15, .ireturn, 1) rfl) rfl rfl (aw_stk (st' := [.int 1]) rfl (aw_if_eq_F (pc' := 16) (tgt := 28) (dt_X10_inForce 8 (13, .ifCond .eq 15, 3) rfl) (by decide) rfl (by decide) (aw_aload (pc' := 18) (dt_X10_inForce 9 (16, .aload 4, 2) rfl) rfl rfl (aw_ifnull (pc' := 21) (dt_X10_inForce 10 (18, .ifnull 10, 3) rfl) rfl (aw_iload_n (pc' := 22) (dt_X10_inForce 11 (21, .iload_n 3, 1) rfl) rfl rfl (aw_inS (pc' := 25) (nc1 := 0) (ns1 := 0) (nc := nc) (ns := ns) (ls' := [some (.int x3)]) (y2 := mX10_isDay) (As := [.int x3]) (rest := []) (dt_X10_inForce 12 (22, .invokestatic 92, 3) rfl) ok_X10_isDay ln_ReturnDesk_92 sm_X10_isDay pr_X10_isDay rfl (Nat.le_of_ble_eq_true rfl) (Nat.le_of_ble_eq_true rfl) rfl rfl (aw_iload_n (pc' := 1) (dt_X10_isDay 0 (0, .iload_n 0, 1) rfl) rfl rfl (aw_iconst (pc' := 2) (v := 0) (dt_X10_isDay 1 (1, .iconst 0, 1) rfl) (by decide) rfl (aw_sipush (pc' := 5) (v := 2999) (dt_X10_isDay 2 (2, .sipush 2999, 3) rfl) (by decide) rfl (aw_inS (pc' := 8) (nc1 := 0) (ns1 := 0) (nc := 0) (ns := 0) (ls' := [some (.int x3), some (.int 0), some (.int 2999)]) (y2 := mX10_within) (As := [.int x3, .int 0, .int 2999]) (rest := []) (dt_X10_isDay 3 (5, .invokestatic 76, 3) rfl) ok_X10_within ln_ReturnDesk_76 sm_X10_within pr_X10_within rfl (Nat.le_of_ble_eq_true rfl) (Nat.le_of_ble_eq_true rfl) rfl rfl (aw_iload_n (pc' := 1) (dt_X10_within 0 (0, .iload_n 0, 1) rfl) rfl rfl (aw_iload_n (pc' := 2) (dt_X10_within 1 (1, .iload_n 1, 1) rfl) rfl rfl (aw_icmp_lt (pc' := 5) (tgt := 14) (dt_X10_within 2 (2, .if_icmp .lt 12, 3) rfl) (by decide) rfl ?_ ?_)))))))))))))))
            · intro q14
              have h := h.1 q14
              refine aw_iconst (pc' := 15) (v := 0) (dt_X10_within 8 (14, .iconst 0, 1) rfl) (by decide) rfl (aw_iret (dt_X10_within 9 (15, .ireturn, 1) rfl) rfl rfl (aw_stk (st' := [.int 0]) rfl (aw_iret (dt_X10_isDay 4 (8, .ireturn, 1) rfl) rfl rfl (aw_stk (st' := [.int 0]) rfl (aw_if_ne_F (pc' := 28) (tgt := 30) (dt_X10_inForce 13 (25, .ifCond .ne 5, 3) rfl) (by decide) rfl (by decide) (aw_iconst (pc' := 29) (v := (-1)) (dt_X10_inForce 14 (28, .iconst (-1), 1) rfl) (by decide) rfl (aw_iret (dt_X10_inForce 15 (29, .ireturn, 1) rfl) rfl rfl ?_)))))))
              exact h
            · intro q14
              have h := h.2 q14
              refine aw_iload_n (pc' := 6) (dt_X10_within 3 (5, .iload_n 0, 1) rfl) rfl rfl (aw_iload_n (pc' := 7) (dt_X10_within 4 (6, .iload_n 2, 1) rfl) rfl rfl (aw_icmp_gt (pc' := 10) (tgt := 14) (dt_X10_within 5 (7, .if_icmp .gt 7, 3) rfl) (by decide) rfl ?_ ?_))
              · intro q15
                have h := h.1 q15
                refine aw_iconst (pc' := 15) (v := 0) (dt_X10_within 8 (14, .iconst 0, 1) rfl) (by decide) rfl (aw_iret (dt_X10_within 9 (15, .ireturn, 1) rfl) rfl rfl (aw_stk (st' := [.int 0]) rfl (aw_iret (dt_X10_isDay 4 (8, .ireturn, 1) rfl) rfl rfl (aw_stk (st' := [.int 0]) rfl (aw_if_ne_F (pc' := 28) (tgt := 30) (dt_X10_inForce 13 (25, .ifCond .ne 5, 3) rfl) (by decide) rfl (by decide) (aw_iconst (pc' := 29) (v := (-1)) (dt_X10_inForce 14 (28, .iconst (-1), 1) rfl) (by decide) rfl (aw_iret (dt_X10_inForce 15 (29, .ireturn, 1) rfl) rfl rfl ?_)))))))
                exact h
              · intro q15
                have h := h.2 q15
                refine aw_iconst (pc' := 11) (v := 1) (dt_X10_within 6 (10, .iconst 1, 1) rfl) (by decide) rfl (aw_goto (tgt := 15) (dt_X10_within 7 (11, .goto 4, 3) rfl) (by decide) (aw_iret (dt_X10_within 9 (15, .ireturn, 1) rfl) rfl rfl (aw_stk (st' := [.int 1]) rfl (aw_iret (dt_X10_isDay 4 (8, .ireturn, 1) rfl) rfl rfl (aw_stk (st' := [.int 1]) rfl (aw_if_ne_T (pc' := 28) (tgt := 30) (dt_X10_inForce 13 (25, .ifCond .ne 5, 3) rfl) (by decide) rfl (by decide) (aw_aload_n (pc' := 31) (dt_X10_inForce 16 (30, .aload_n 0, 1) rfl) rfl rfl (aw_iload_n (pc' := 32) (dt_X10_inForce 17 (31, .iload_n 1, 1) rfl) rfl rfl (aw_aload (pc' := 34) (dt_X10_inForce 18 (32, .aload 4, 2) rfl) rfl rfl (aw_iload_n (pc' := 35) (dt_X10_inForce 19 (34, .iload_n 3, 1) rfl) rfl rfl (aw_callV0 (pc' := 38) (nc := nc) (ns := ns) (y2 := mX10_textFor) (As := [.int x1, .ref b9, .int x3]) (rest := []) (a := 11) (dt_X10_inForce 20 (35, .invokevirtual 222, 3) rfl) ok_X10_textFor ln_ReturnDesk_222 im_X10_textFor se_X10_textFor pr_X10_textFor (Or.inl ⟨by decide, rfl⟩) rfl (Nat.le_of_ble_eq_true rfl) (Nat.le_of_ble_eq_true rfl) rfl (sk_11 hS) h ?_)))))))))))
                rintro v μ16 (⟨rfl, hS17, h⟩ | ⟨b18, rfl, hS17, h⟩)
                · refine aw_stk (st' := [.null]) rfl ?_
                  refine aw_astoreN (pc' := 40) (ls' := [some (.ref 11), some (.int x1), some (.int x2), some (.int x3), some (.ref b9), some (.null)]) (dt_X10_inForce 21 (38, .astore 5, 2) rfl) (by decide) rfl rfl (aw_aloadN (pc' := 42) (dt_X10_inForce 22 (40, .aload 5, 2) rfl) rfl rfl (aw_ifnonnullN (pc' := 45) (dt_X10_inForce 23 (42, .ifnonnull 8, 3) rfl) rfl (aw_bipush (pc' := 47) (v := (-2)) (dt_X10_inForce 24 (45, .bipush (-2), 2) rfl) (by decide) rfl (aw_goto (tgt := 55) (dt_X10_inForce 25 (47, .goto 8, 3) rfl) (by decide) (aw_iret (dt_X10_inForce 28 (55, .ireturn, 1) rfl) rfl rfl ?_)))))
                  exact h
                · refine aw_stk (st' := [.ref b18]) rfl ?_
                  obtain ⟨g19, h⟩ := h
                  refine aw_astore (pc' := 40) (ls' := [some (.ref 11), some (.int x1), some (.int x2), some (.int x3), some (.ref b9), some (.ref b18)]) (dt_X10_inForce 21 (38, .astore 5, 2) rfl) (by decide) rfl rfl (aw_aload (pc' := 42) (dt_X10_inForce 22 (40, .aload 5, 2) rfl) rfl rfl (aw_ifnonnull (tgt := 50) (dt_X10_inForce 23 (42, .ifnonnull 8, 3) rfl) (by decide) (aw_aload (pc' := 52) (dt_X10_inForce 26 (50, .aload 5, 2) rfl) rfl rfl (aw_getI (pc' := 55) (dt_X10_inForce 27 (52, .getfield 226, 3) rfl) fl_ReturnDesk_226 rfl rfl g19 (aw_iret (dt_X10_inForce 28 (55, .ireturn, 1) rfl) rfl rfl ?_)))))
                  exact h

theorem t_X10_says {E : ZE} {l : Launch} {d nc ns : Nat} {x1 : Int32} {x2 : Int32} {x3 : Int32} {x4 : Int32} {μ : ZM} {K : Option Value → ZM → Prop} (hS : Stat μ) (h :
  (x2 < 0 →
    (x1 < 0 →
      K (some (.int (-1))) μ) ∧
    (¬ x1 < 0 →
      (1 < x1 →
        K (some (.int (-1))) μ) ∧
      (¬ 1 < x1 →
        K (some (.int (-1))) μ))) ∧
  (¬ x2 < 0 →
    (((zI μ 11 14) - 1) < x2 →
      (x1 < 0 →
        K (some (.int (-1))) μ) ∧
      (¬ x1 < 0 →
        (1 < x1 →
          K (some (.int (-1))) μ) ∧
        (¬ 1 < x1 →
          K (some (.int (-1))) μ))) ∧
    (¬ ((zI μ 11 14) - 1) < x2 →
      (vp_in x2 300) ∧
      (zA μ 14 x2.toNatClampNeg = none →
        (x1 < 0 →
          K (some (.int (-1))) μ) ∧
        (¬ x1 < 0 →
          (1 < x1 →
            K (some (.int (-1))) μ) ∧
          (¬ 1 < x1 →
            K (some (.int (-1))) μ))) ∧
      (∀ b9, zA μ 14 x2.toNatClampNeg = some b9 →
        (x1 < 0 →
          K (some (.int (-1))) μ) ∧
        (¬ x1 < 0 →
          (1 < x1 →
            K (some (.int (-1))) μ) ∧
          (¬ 1 < x1 →
            (x4 < 0 →
              K (some (.int (-1))) μ) ∧
            (¬ x4 < 0 →
              (2 < x4 →
                K (some (.int (-1))) μ) ∧
              (¬ 2 < x4 →
                (x3 < 0 →
                  K (some (.int (-1))) μ) ∧
                (¬ x3 < 0 →
                  (999999 < x3 →
                    K (some (.int (-1))) μ) ∧
                  (¬ 999999 < x3 →
                    (1 < ((x3 / 100) - (x3 / 100) / 10 * 10) →
                      K (some (.int (-1))) μ) ∧
                    (¬ 1 < ((x3 / 100) - (x3 / 100) / 10 * 10) →
                      (((x3 / 1) - (x3 / 1) / 10 * 10) ≤ 1 →
                        AW E l (d + 4) 0 0 mX10_tellSale 0 (zargs 4 [.ref 11, .ref b9, .int x4, .int ((zI μ 11 17) / 24)]) [] μ (fun v μ20 => v = none ∧ Stat μ20 ∧ 
                          AW E l (d + 4) 0 0 mX10_textFor 0 (zargs 6 [.ref 11, .int x1, .ref b9, .int ((zI (sI (sI (sI (sI μ20 27 0 (x3 / 1000)) 27 1 ((x3 / 100) - (x3 / 100) / 10 * 10)) 27 2 ((x3 / 10) - (x3 / 10) / 10 * 10)) 27 3 ((x3 / 1) - (x3 / 1) / 10 * 10)) 11 17) / 24)]) [] (sI (sI (sI (sI μ20 27 0 (x3 / 1000)) 27 1 ((x3 / 100) - (x3 / 100) / 10 * 10)) 27 2 ((x3 / 10) - (x3 / 10) / 10 * 10)) 27 3 ((x3 / 1) - (x3 / 1) / 10 * 10)) (fun v μ22 =>
                            (v = some .null ∧ Stat μ22 ∧ 
                            K (some (.int 0)) μ22) ∨
                            (∃ b24, v = some (.ref b24) ∧ Stat μ22 ∧ 
                            (zK μ22 b24 = 9) ∧
                            (zA μ22 b24 4 = none →
                              AW E l (d + 3) 0 0 mX3_run 0 (zargs 5 [.ref 26, .null]) [] μ22 (fun v μ28 => ∃ r30 : Int32, v = some (.int r30) ∧ Stat μ28 ∧ 
                                K (some (.int r30)) μ28)) ∧
                            (∀ b27, zA μ22 b24 4 = some b27 →
                              AW E l (d + 3) 0 0 mX3_run 0 (zargs 5 [.ref 26, .ref b27]) [] μ22 (fun v μ31 => ∃ r33 : Int32, v = some (.int r33) ∧ Stat μ31 ∧ 
                                K (some (.int r33)) μ31)))))) ∧
                      (¬ ((x3 / 1) - (x3 / 1) / 10 * 10) ≤ 1 →
                        K (some (.int (-1))) μ)))))))))))) : AW E l (d + 5) nc ns mX10_says 0 [some (.ref 11), some (.int x1), some (.int x2), some (.int x3), some (.int x4), none, none, none] [] μ K := by
  refine aw_aload_n (pc' := 1) (dt_X10_says 0 (0, .aload_n 0, 1) rfl) rfl rfl (aw_iload_n (pc' := 2) (dt_X10_says 1 (1, .iload_n 2, 1) rfl) rfl rfl (aw_inV (pc' := 5) (nc1 := 0) (ns1 := 0) (nc := nc) (ns := ns) (ls' := [some (.ref 11), some (.int x2)]) (y2 := mX10_saleAt) (As := [.int x2]) (rest := []) (a := 11) (dt_X10_says 2 (2, .invokevirtual 152, 3) rfl) ok_X10_saleAt ln_ReturnDesk_152 im_X10_saleAt se_X10_saleAt pr_X10_saleAt (Or.inl ⟨by decide, rfl⟩) rfl (Nat.le_of_ble_eq_true rfl) (Nat.le_of_ble_eq_true rfl) rfl rfl (sk_11 hS) (aw_iload_n (pc' := 1) (dt_X10_saleAt 0 (0, .iload_n 1, 1) rfl) rfl rfl (aw_iconst (pc' := 2) (v := 0) (dt_X10_saleAt 1 (1, .iconst 0, 1) rfl) (by decide) rfl (aw_aload_n (pc' := 3) (dt_X10_saleAt 2 (2, .aload_n 0, 1) rfl) rfl rfl (aw_getI (pc' := 6) (dt_X10_saleAt 3 (3, .getfield 131, 3) rfl) fl_ReturnDesk_131 rfl rfl (sk_11 hS) (aw_iconst (pc' := 7) (v := 1) (dt_X10_saleAt 4 (6, .iconst 1, 1) rfl) (by decide) rfl (aw_isub (pc' := 8) (dt_X10_saleAt 5 (7, .isub, 1) rfl) rfl (aw_inS (pc' := 11) (nc1 := 0) (ns1 := 0) (nc := 0) (ns := 0) (ls' := [some (.int x2), some (.int 0), some (.int ((zI μ 11 14) - 1))]) (y2 := mX10_within) (As := [.int x2, .int 0, .int ((zI μ 11 14) - 1)]) (rest := []) (dt_X10_saleAt 6 (8, .invokestatic 76, 3) rfl) ok_X10_within ln_ReturnDesk_76 sm_X10_within pr_X10_within rfl (Nat.le_of_ble_eq_true rfl) (Nat.le_of_ble_eq_true rfl) rfl rfl (aw_iload_n (pc' := 1) (dt_X10_within 0 (0, .iload_n 0, 1) rfl) rfl rfl (aw_iload_n (pc' := 2) (dt_X10_within 1 (1, .iload_n 1, 1) rfl) rfl rfl (aw_icmp_lt (pc' := 5) (tgt := 14) (dt_X10_within 2 (2, .if_icmp .lt 12, 3) rfl) (by decide) rfl ?_ ?_))))))))))))
  · intro q1
    have h := h.1 q1
    refine aw_iconst (pc' := 15) (v := 0) (dt_X10_within 8 (14, .iconst 0, 1) rfl) (by decide) rfl (aw_iret (dt_X10_within 9 (15, .ireturn, 1) rfl) rfl rfl (aw_stk (st' := [.int 0]) rfl (aw_if_eq_T (pc' := 14) (tgt := 23) (dt_X10_saleAt 7 (11, .ifCond .eq 12, 3) rfl) (by decide) rfl (by decide) (aw_null (pc' := 24) (dt_X10_saleAt 13 (23, .aconst_null, 1) rfl) rfl (aw_aretN (dt_X10_saleAt 14 (24, .areturn, 1) rfl) rfl rfl (aw_stk (st' := [.null]) rfl (aw_astoreN (pc' := 7) (ls' := [some (.ref 11), some (.int x1), some (.int x2), some (.int x3), some (.int x4), some (.null), none, none]) (dt_X10_says 3 (5, .astore 5, 2) rfl) (by decide) rfl rfl (aw_iload_n (pc' := 8) (dt_X10_says 4 (7, .iload_n 1, 1) rfl) rfl rfl (aw_iconst (pc' := 9) (v := 0) (dt_X10_says 5 (8, .iconst 0, 1) rfl) (by decide) rfl (aw_iconst (pc' := 10) (v := 1) (dt_X10_says 6 (9, .iconst 1, 1) rfl) (by decide) rfl (aw_inS (pc' := 13) (nc1 := 0) (ns1 := 0) (nc := nc) (ns := ns) (ls' := [some (.int x1), some (.int 0), some (.int 1)]) (y2 := mX10_within) (As := [.int x1, .int 0, .int 1]) (rest := []) (dt_X10_says 7 (10, .invokestatic 76, 3) rfl) ok_X10_within ln_ReturnDesk_76 sm_X10_within pr_X10_within rfl (Nat.le_of_ble_eq_true rfl) (Nat.le_of_ble_eq_true rfl) rfl rfl (aw_iload_n (pc' := 1) (dt_X10_within 0 (0, .iload_n 0, 1) rfl) rfl rfl (aw_iload_n (pc' := 2) (dt_X10_within 1 (1, .iload_n 1, 1) rfl) rfl rfl (aw_icmp_lt (pc' := 5) (tgt := 14) (dt_X10_within 2 (2, .if_icmp .lt 12, 3) rfl) (by decide) rfl ?_ ?_))))))))))))))
    · intro q2
      have h := h.1 q2
      refine aw_iconst (pc' := 15) (v := 0) (dt_X10_within 8 (14, .iconst 0, 1) rfl) (by decide) rfl (aw_iret (dt_X10_within 9 (15, .ireturn, 1) rfl) rfl rfl (aw_stk (st' := [.int 0]) rfl (aw_if_eq_T (pc' := 16) (tgt := 41) (dt_X10_says 8 (13, .ifCond .eq 28, 3) rfl) (by decide) rfl (by decide) (aw_iconst (pc' := 42) (v := (-1)) (dt_X10_says 21 (41, .iconst (-1), 1) rfl) (by decide) rfl (aw_iret (dt_X10_says 22 (42, .ireturn, 1) rfl) rfl rfl ?_)))))
      exact h
    · intro q2
      have h := h.2 q2
      refine aw_iload_n (pc' := 6) (dt_X10_within 3 (5, .iload_n 0, 1) rfl) rfl rfl (aw_iload_n (pc' := 7) (dt_X10_within 4 (6, .iload_n 2, 1) rfl) rfl rfl (aw_icmp_gt (pc' := 10) (tgt := 14) (dt_X10_within 5 (7, .if_icmp .gt 7, 3) rfl) (by decide) rfl ?_ ?_))
      · intro q3
        have h := h.1 q3
        refine aw_iconst (pc' := 15) (v := 0) (dt_X10_within 8 (14, .iconst 0, 1) rfl) (by decide) rfl (aw_iret (dt_X10_within 9 (15, .ireturn, 1) rfl) rfl rfl (aw_stk (st' := [.int 0]) rfl (aw_if_eq_T (pc' := 16) (tgt := 41) (dt_X10_says 8 (13, .ifCond .eq 28, 3) rfl) (by decide) rfl (by decide) (aw_iconst (pc' := 42) (v := (-1)) (dt_X10_says 21 (41, .iconst (-1), 1) rfl) (by decide) rfl (aw_iret (dt_X10_says 22 (42, .ireturn, 1) rfl) rfl rfl ?_)))))
        exact h
      · intro q3
        have h := h.2 q3
        refine aw_iconst (pc' := 11) (v := 1) (dt_X10_within 6 (10, .iconst 1, 1) rfl) (by decide) rfl (aw_goto (tgt := 15) (dt_X10_within 7 (11, .goto 4, 3) rfl) (by decide) (aw_iret (dt_X10_within 9 (15, .ireturn, 1) rfl) rfl rfl (aw_stk (st' := [.int 1]) rfl (aw_if_eq_F (pc' := 16) (tgt := 41) (dt_X10_says 8 (13, .ifCond .eq 28, 3) rfl) (by decide) rfl (by decide) (aw_aloadN (pc' := 18) (dt_X10_says 9 (16, .aload 5, 2) rfl) rfl rfl (aw_ifnullN (tgt := 41) (dt_X10_says 10 (18, .ifnull 23, 3) rfl) (by decide) (aw_iconst (pc' := 42) (v := (-1)) (dt_X10_says 21 (41, .iconst (-1), 1) rfl) (by decide) rfl (aw_iret (dt_X10_says 22 (42, .ireturn, 1) rfl) rfl rfl ?_))))))))
        exact h
  · intro q1
    have h := h.2 q1
    refine aw_iload_n (pc' := 6) (dt_X10_within 3 (5, .iload_n 0, 1) rfl) rfl rfl (aw_iload_n (pc' := 7) (dt_X10_within 4 (6, .iload_n 2, 1) rfl) rfl rfl (aw_icmp_gt (pc' := 10) (tgt := 14) (dt_X10_within 5 (7, .if_icmp .gt 7, 3) rfl) (by decide) rfl ?_ ?_))
    · intro q4
      have h := h.1 q4
      refine aw_iconst (pc' := 15) (v := 0) (dt_X10_within 8 (14, .iconst 0, 1) rfl) (by decide) rfl (aw_iret (dt_X10_within 9 (15, .ireturn, 1) rfl) rfl rfl (aw_stk (st' := [.int 0]) rfl (aw_if_eq_T (pc' := 14) (tgt := 23) (dt_X10_saleAt 7 (11, .ifCond .eq 12, 3) rfl) (by decide) rfl (by decide) (aw_null (pc' := 24) (dt_X10_saleAt 13 (23, .aconst_null, 1) rfl) rfl (aw_aretN (dt_X10_saleAt 14 (24, .areturn, 1) rfl) rfl rfl (aw_stk (st' := [.null]) rfl (aw_astoreN (pc' := 7) (ls' := [some (.ref 11), some (.int x1), some (.int x2), some (.int x3), some (.int x4), some (.null), none, none]) (dt_X10_says 3 (5, .astore 5, 2) rfl) (by decide) rfl rfl (aw_iload_n (pc' := 8) (dt_X10_says 4 (7, .iload_n 1, 1) rfl) rfl rfl (aw_iconst (pc' := 9) (v := 0) (dt_X10_says 5 (8, .iconst 0, 1) rfl) (by decide) rfl (aw_iconst (pc' := 10) (v := 1) (dt_X10_says 6 (9, .iconst 1, 1) rfl) (by decide) rfl (aw_inS (pc' := 13) (nc1 := 0) (ns1 := 0) (nc := nc) (ns := ns) (ls' := [some (.int x1), some (.int 0), some (.int 1)]) (y2 := mX10_within) (As := [.int x1, .int 0, .int 1]) (rest := []) (dt_X10_says 7 (10, .invokestatic 76, 3) rfl) ok_X10_within ln_ReturnDesk_76 sm_X10_within pr_X10_within rfl (Nat.le_of_ble_eq_true rfl) (Nat.le_of_ble_eq_true rfl) rfl rfl (aw_iload_n (pc' := 1) (dt_X10_within 0 (0, .iload_n 0, 1) rfl) rfl rfl (aw_iload_n (pc' := 2) (dt_X10_within 1 (1, .iload_n 1, 1) rfl) rfl rfl (aw_icmp_lt (pc' := 5) (tgt := 14) (dt_X10_within 2 (2, .if_icmp .lt 12, 3) rfl) (by decide) rfl ?_ ?_))))))))))))))
      · intro q5
        have h := h.1 q5
        refine aw_iconst (pc' := 15) (v := 0) (dt_X10_within 8 (14, .iconst 0, 1) rfl) (by decide) rfl (aw_iret (dt_X10_within 9 (15, .ireturn, 1) rfl) rfl rfl (aw_stk (st' := [.int 0]) rfl (aw_if_eq_T (pc' := 16) (tgt := 41) (dt_X10_says 8 (13, .ifCond .eq 28, 3) rfl) (by decide) rfl (by decide) (aw_iconst (pc' := 42) (v := (-1)) (dt_X10_says 21 (41, .iconst (-1), 1) rfl) (by decide) rfl (aw_iret (dt_X10_says 22 (42, .ireturn, 1) rfl) rfl rfl ?_)))))
        exact h
      · intro q5
        have h := h.2 q5
        refine aw_iload_n (pc' := 6) (dt_X10_within 3 (5, .iload_n 0, 1) rfl) rfl rfl (aw_iload_n (pc' := 7) (dt_X10_within 4 (6, .iload_n 2, 1) rfl) rfl rfl (aw_icmp_gt (pc' := 10) (tgt := 14) (dt_X10_within 5 (7, .if_icmp .gt 7, 3) rfl) (by decide) rfl ?_ ?_))
        · intro q6
          have h := h.1 q6
          refine aw_iconst (pc' := 15) (v := 0) (dt_X10_within 8 (14, .iconst 0, 1) rfl) (by decide) rfl (aw_iret (dt_X10_within 9 (15, .ireturn, 1) rfl) rfl rfl (aw_stk (st' := [.int 0]) rfl (aw_if_eq_T (pc' := 16) (tgt := 41) (dt_X10_says 8 (13, .ifCond .eq 28, 3) rfl) (by decide) rfl (by decide) (aw_iconst (pc' := 42) (v := (-1)) (dt_X10_says 21 (41, .iconst (-1), 1) rfl) (by decide) rfl (aw_iret (dt_X10_says 22 (42, .ireturn, 1) rfl) rfl rfl ?_)))))
          exact h
        · intro q6
          have h := h.2 q6
          refine aw_iconst (pc' := 11) (v := 1) (dt_X10_within 6 (10, .iconst 1, 1) rfl) (by decide) rfl (aw_goto (tgt := 15) (dt_X10_within 7 (11, .goto 4, 3) rfl) (by decide) (aw_iret (dt_X10_within 9 (15, .ireturn, 1) rfl) rfl rfl (aw_stk (st' := [.int 1]) rfl (aw_if_eq_F (pc' := 16) (tgt := 41) (dt_X10_says 8 (13, .ifCond .eq 28, 3) rfl) (by decide) rfl (by decide) (aw_aloadN (pc' := 18) (dt_X10_says 9 (16, .aload 5, 2) rfl) rfl rfl (aw_ifnullN (tgt := 41) (dt_X10_says 10 (18, .ifnull 23, 3) rfl) (by decide) (aw_iconst (pc' := 42) (v := (-1)) (dt_X10_says 21 (41, .iconst (-1), 1) rfl) (by decide) rfl (aw_iret (dt_X10_says 22 (42, .ireturn, 1) rfl) rfl rfl ?_))))))))
          exact h
    · intro q4
      have h := h.2 q4
      obtain ⟨g7, h⟩ := h
      refine aw_iconst (pc' := 11) (v := 1) (dt_X10_within 6 (10, .iconst 1, 1) rfl) (by decide) rfl (aw_goto (tgt := 15) (dt_X10_within 7 (11, .goto 4, 3) rfl) (by decide) (aw_iret (dt_X10_within 9 (15, .ireturn, 1) rfl) rfl rfl (aw_stk (st' := [.int 1]) rfl (aw_if_eq_F (pc' := 14) (tgt := 23) (dt_X10_saleAt 7 (11, .ifCond .eq 12, 3) rfl) (by decide) rfl (by decide) (aw_aload_n (pc' := 15) (dt_X10_saleAt 8 (14, .aload_n 0, 1) rfl) rfl rfl (aw_getAs (pc' := 18) (dt_X10_saleAt 9 (15, .getfield 23, 3) rfl) fl_ReturnDesk_23 rfl rfl (sk_11 hS) (sa_11_2 hS) (aw_iload_n (pc' := 19) (dt_X10_saleAt 10 (18, .iload_n 1, 1) rfl) rfl rfl (aw_aald (pc' := 20) (dt_X10_saleAt 11 (19, .aaload, 1) rfl) (by decide) (by decide) rfl (sk_14 hS) (vin_eq (sl_14 hS) g7) ?_ ?_))))))))
      · intro e8
        have h := h.1 e8
        refine aw_goto (tgt := 24) (dt_X10_saleAt 12 (20, .goto 4, 3) rfl) (by decide) (aw_aretN (dt_X10_saleAt 14 (24, .areturn, 1) rfl) rfl rfl (aw_stk (st' := [.null]) rfl (aw_astoreN (pc' := 7) (ls' := [some (.ref 11), some (.int x1), some (.int x2), some (.int x3), some (.int x4), some (.null), none, none]) (dt_X10_says 3 (5, .astore 5, 2) rfl) (by decide) rfl rfl (aw_iload_n (pc' := 8) (dt_X10_says 4 (7, .iload_n 1, 1) rfl) rfl rfl (aw_iconst (pc' := 9) (v := 0) (dt_X10_says 5 (8, .iconst 0, 1) rfl) (by decide) rfl (aw_iconst (pc' := 10) (v := 1) (dt_X10_says 6 (9, .iconst 1, 1) rfl) (by decide) rfl (aw_inS (pc' := 13) (nc1 := 0) (ns1 := 0) (nc := nc) (ns := ns) (ls' := [some (.int x1), some (.int 0), some (.int 1)]) (y2 := mX10_within) (As := [.int x1, .int 0, .int 1]) (rest := []) (dt_X10_says 7 (10, .invokestatic 76, 3) rfl) ok_X10_within ln_ReturnDesk_76 sm_X10_within pr_X10_within rfl (Nat.le_of_ble_eq_true rfl) (Nat.le_of_ble_eq_true rfl) rfl rfl (aw_iload_n (pc' := 1) (dt_X10_within 0 (0, .iload_n 0, 1) rfl) rfl rfl (aw_iload_n (pc' := 2) (dt_X10_within 1 (1, .iload_n 1, 1) rfl) rfl rfl (aw_icmp_lt (pc' := 5) (tgt := 14) (dt_X10_within 2 (2, .if_icmp .lt 12, 3) rfl) (by decide) rfl ?_ ?_))))))))))
        · intro q10
          have h := h.1 q10
          refine aw_iconst (pc' := 15) (v := 0) (dt_X10_within 8 (14, .iconst 0, 1) rfl) (by decide) rfl (aw_iret (dt_X10_within 9 (15, .ireturn, 1) rfl) rfl rfl (aw_stk (st' := [.int 0]) rfl (aw_if_eq_T (pc' := 16) (tgt := 41) (dt_X10_says 8 (13, .ifCond .eq 28, 3) rfl) (by decide) rfl (by decide) (aw_iconst (pc' := 42) (v := (-1)) (dt_X10_says 21 (41, .iconst (-1), 1) rfl) (by decide) rfl (aw_iret (dt_X10_says 22 (42, .ireturn, 1) rfl) rfl rfl ?_)))))
          exact h
        · intro q10
          have h := h.2 q10
          refine aw_iload_n (pc' := 6) (dt_X10_within 3 (5, .iload_n 0, 1) rfl) rfl rfl (aw_iload_n (pc' := 7) (dt_X10_within 4 (6, .iload_n 2, 1) rfl) rfl rfl (aw_icmp_gt (pc' := 10) (tgt := 14) (dt_X10_within 5 (7, .if_icmp .gt 7, 3) rfl) (by decide) rfl ?_ ?_))
          · intro q11
            have h := h.1 q11
            refine aw_iconst (pc' := 15) (v := 0) (dt_X10_within 8 (14, .iconst 0, 1) rfl) (by decide) rfl (aw_iret (dt_X10_within 9 (15, .ireturn, 1) rfl) rfl rfl (aw_stk (st' := [.int 0]) rfl (aw_if_eq_T (pc' := 16) (tgt := 41) (dt_X10_says 8 (13, .ifCond .eq 28, 3) rfl) (by decide) rfl (by decide) (aw_iconst (pc' := 42) (v := (-1)) (dt_X10_says 21 (41, .iconst (-1), 1) rfl) (by decide) rfl (aw_iret (dt_X10_says 22 (42, .ireturn, 1) rfl) rfl rfl ?_)))))
            exact h
          · intro q11
            have h := h.2 q11
            refine aw_iconst (pc' := 11) (v := 1) (dt_X10_within 6 (10, .iconst 1, 1) rfl) (by decide) rfl (aw_goto (tgt := 15) (dt_X10_within 7 (11, .goto 4, 3) rfl) (by decide) (aw_iret (dt_X10_within 9 (15, .ireturn, 1) rfl) rfl rfl (aw_stk (st' := [.int 1]) rfl (aw_if_eq_F (pc' := 16) (tgt := 41) (dt_X10_says 8 (13, .ifCond .eq 28, 3) rfl) (by decide) rfl (by decide) (aw_aloadN (pc' := 18) (dt_X10_says 9 (16, .aload 5, 2) rfl) rfl rfl (aw_ifnullN (tgt := 41) (dt_X10_says 10 (18, .ifnull 23, 3) rfl) (by decide) (aw_iconst (pc' := 42) (v := (-1)) (dt_X10_says 21 (41, .iconst (-1), 1) rfl) (by decide) rfl (aw_iret (dt_X10_says 22 (42, .ireturn, 1) rfl) rfl rfl ?_))))))))
            exact h
      · intro b9 e8
        have h := h.2 b9 e8
        refine aw_goto (tgt := 24) (dt_X10_saleAt 12 (20, .goto 4, 3) rfl) (by decide) (aw_aret (dt_X10_saleAt 14 (24, .areturn, 1) rfl) rfl rfl (aw_stk (st' := [.ref b9]) rfl (aw_astore (pc' := 7) (ls' := [some (.ref 11), some (.int x1), some (.int x2), some (.int x3), some (.int x4), some (.ref b9), none, none]) (dt_X10_says 3 (5, .astore 5, 2) rfl) (by decide) rfl rfl (aw_iload_n (pc' := 8) (dt_X10_says 4 (7, .iload_n 1, 1) rfl) rfl rfl (aw_iconst (pc' := 9) (v := 0) (dt_X10_says 5 (8, .iconst 0, 1) rfl) (by decide) rfl (aw_iconst (pc' := 10) (v := 1) (dt_X10_says 6 (9, .iconst 1, 1) rfl) (by decide) rfl (aw_inS (pc' := 13) (nc1 := 0) (ns1 := 0) (nc := nc) (ns := ns) (ls' := [some (.int x1), some (.int 0), some (.int 1)]) (y2 := mX10_within) (As := [.int x1, .int 0, .int 1]) (rest := []) (dt_X10_says 7 (10, .invokestatic 76, 3) rfl) ok_X10_within ln_ReturnDesk_76 sm_X10_within pr_X10_within rfl (Nat.le_of_ble_eq_true rfl) (Nat.le_of_ble_eq_true rfl) rfl rfl (aw_iload_n (pc' := 1) (dt_X10_within 0 (0, .iload_n 0, 1) rfl) rfl rfl (aw_iload_n (pc' := 2) (dt_X10_within 1 (1, .iload_n 1, 1) rfl) rfl rfl (aw_icmp_lt (pc' := 5) (tgt := 14) (dt_X10_within 2 (2, .if_icmp .lt 12, 3) rfl) (by decide) rfl ?_ ?_))))))))))
        · intro q12
          have h := h.1 q12
          refine aw_iconst (pc' := 15) (v := 0) (dt_X10_within 8 (14, .iconst 0, 1) rfl) (by decide) rfl (aw_iret (dt_X10_within 9 (15, .ireturn, 1) rfl) rfl rfl (aw_stk (st' := [.int 0]) rfl (aw_if_eq_T (pc' := 16) (tgt := 41) (dt_X10_says 8 (13, .ifCond .eq 28, 3) rfl) (by decide) rfl (by decide) (aw_iconst (pc' := 42) (v := (-1)) (dt_X10_says 21 (41, .iconst (-1), 1) rfl) (by decide) rfl (aw_iret (dt_X10_says 22 (42, .ireturn, 1) rfl) rfl rfl ?_)))))
          exact h
        · intro q12
          have h := h.2 q12
          refine aw_iload_n (pc' := 6) (dt_X10_within 3 (5, .iload_n 0, 1) rfl) rfl rfl (aw_iload_n (pc' := 7) (dt_X10_within 4 (6, .iload_n 2, 1) rfl) rfl rfl (aw_icmp_gt (pc' := 10) (tgt := 14) (dt_X10_within 5 (7, .if_icmp .gt 7, 3) rfl) (by decide) rfl ?_ ?_))
          · intro q13
            have h := h.1 q13
            refine aw_iconst (pc' := 15) (v := 0) (dt_X10_within 8 (14, .iconst 0, 1) rfl) (by decide) rfl (aw_iret (dt_X10_within 9 (15, .ireturn, 1) rfl) rfl rfl (aw_stk (st' := [.int 0]) rfl (aw_if_eq_T (pc' := 16) (tgt := 41) (dt_X10_says 8 (13, .ifCond .eq 28, 3) rfl) (by decide) rfl (by decide) (aw_iconst (pc' := 42) (v := (-1)) (dt_X10_says 21 (41, .iconst (-1), 1) rfl) (by decide) rfl (aw_iret (dt_X10_says 22 (42, .ireturn, 1) rfl) rfl rfl ?_)))))
            exact h
          · intro q13
            have h := h.2 q13
            refine aw_iconst (pc' := 11) (v := 1) (dt_X10_within 6 (10, .iconst 1, 1) rfl) (by decide) rfl (aw_goto (tgt := 15) (dt_X10_within 7 (11, .goto 4, 3) rfl) (by decide) (aw_iret (dt_X10_within 9 (15, .ireturn, 1) rfl) rfl rfl (aw_stk (st' := [.int 1]) rfl (aw_if_eq_F (pc' := 16) (tgt := 41) (dt_X10_says 8 (13, .ifCond .eq 28, 3) rfl) (by decide) rfl (by decide) (aw_aload (pc' := 18) (dt_X10_says 9 (16, .aload 5, 2) rfl) rfl rfl (aw_ifnull (pc' := 21) (dt_X10_says 10 (18, .ifnull 23, 3) rfl) rfl (aw_iload (pc' := 23) (dt_X10_says 11 (21, .iload 4, 2) rfl) rfl rfl (aw_iconst (pc' := 24) (v := 0) (dt_X10_says 12 (23, .iconst 0, 1) rfl) (by decide) rfl (aw_iconst (pc' := 25) (v := 2) (dt_X10_says 13 (24, .iconst 2, 1) rfl) (by decide) rfl (aw_inS (pc' := 28) (nc1 := 0) (ns1 := 0) (nc := nc) (ns := ns) (ls' := [some (.int x4), some (.int 0), some (.int 2)]) (y2 := mX10_within) (As := [.int x4, .int 0, .int 2]) (rest := []) (dt_X10_says 14 (25, .invokestatic 76, 3) rfl) ok_X10_within ln_ReturnDesk_76 sm_X10_within pr_X10_within rfl (Nat.le_of_ble_eq_true rfl) (Nat.le_of_ble_eq_true rfl) rfl rfl (aw_iload_n (pc' := 1) (dt_X10_within 0 (0, .iload_n 0, 1) rfl) rfl rfl (aw_iload_n (pc' := 2) (dt_X10_within 1 (1, .iload_n 1, 1) rfl) rfl rfl (aw_icmp_lt (pc' := 5) (tgt := 14) (dt_X10_within 2 (2, .if_icmp .lt 12, 3) rfl) (by decide) rfl ?_ ?_)))))))))))))
            · intro q14
              have h := h.1 q14
              refine aw_iconst (pc' := 15) (v := 0) (dt_X10_within 8 (14, .iconst 0, 1) rfl) (by decide) rfl (aw_iret (dt_X10_within 9 (15, .ireturn, 1) rfl) rfl rfl (aw_stk (st' := [.int 0]) rfl (aw_if_eq_T (pc' := 31) (tgt := 41) (dt_X10_says 15 (28, .ifCond .eq 13, 3) rfl) (by decide) rfl (by decide) (aw_iconst (pc' := 42) (v := (-1)) (dt_X10_says 21 (41, .iconst (-1), 1) rfl) (by decide) rfl (aw_iret (dt_X10_says 22 (42, .ireturn, 1) rfl) rfl rfl ?_)))))
              exact h
            · intro q14
              have h := h.2 q14
              refine aw_iload_n (pc' := 6) (dt_X10_within 3 (5, .iload_n 0, 1) rfl) rfl rfl (aw_iload_n (pc' := 7) (dt_X10_within 4 (6, .iload_n 2, 1) rfl) rfl rfl (aw_icmp_gt (pc' := 10) (tgt := 14) (dt_X10_within 5 (7, .if_icmp .gt 7, 3) rfl) (by decide) rfl ?_ ?_))
              · intro q15
                have h := h.1 q15
                refine aw_iconst (pc' := 15) (v := 0) (dt_X10_within 8 (14, .iconst 0, 1) rfl) (by decide) rfl (aw_iret (dt_X10_within 9 (15, .ireturn, 1) rfl) rfl rfl (aw_stk (st' := [.int 0]) rfl (aw_if_eq_T (pc' := 31) (tgt := 41) (dt_X10_says 15 (28, .ifCond .eq 13, 3) rfl) (by decide) rfl (by decide) (aw_iconst (pc' := 42) (v := (-1)) (dt_X10_says 21 (41, .iconst (-1), 1) rfl) (by decide) rfl (aw_iret (dt_X10_says 22 (42, .ireturn, 1) rfl) rfl rfl ?_)))))
                exact h
              · intro q15
                have h := h.2 q15
                refine aw_iconst (pc' := 11) (v := 1) (dt_X10_within 6 (10, .iconst 1, 1) rfl) (by decide) rfl (aw_goto (tgt := 15) (dt_X10_within 7 (11, .goto 4, 3) rfl) (by decide) (aw_iret (dt_X10_within 9 (15, .ireturn, 1) rfl) rfl rfl (aw_stk (st' := [.int 1]) rfl (aw_if_eq_F (pc' := 31) (tgt := 41) (dt_X10_says 15 (28, .ifCond .eq 13, 3) rfl) (by decide) rfl (by decide) (aw_iload_n (pc' := 32) (dt_X10_says 16 (31, .iload_n 3, 1) rfl) rfl rfl (aw_iconst (pc' := 33) (v := 0) (dt_X10_says 17 (32, .iconst 0, 1) rfl) (by decide) rfl (aw_ldc (pc' := 35) (dt_X10_says 18 (33, .ldc 117, 2) rfl) ct_ReturnDesk_117 rfl (aw_inS (pc' := 38) (nc1 := 0) (ns1 := 0) (nc := nc) (ns := ns) (ls' := [some (.int x3), some (.int 0), some (.int 999999)]) (y2 := mX10_within) (As := [.int x3, .int 0, .int 999999]) (rest := []) (dt_X10_says 19 (35, .invokestatic 76, 3) rfl) ok_X10_within ln_ReturnDesk_76 sm_X10_within pr_X10_within rfl (Nat.le_of_ble_eq_true rfl) (Nat.le_of_ble_eq_true rfl) rfl rfl (aw_iload_n (pc' := 1) (dt_X10_within 0 (0, .iload_n 0, 1) rfl) rfl rfl (aw_iload_n (pc' := 2) (dt_X10_within 1 (1, .iload_n 1, 1) rfl) rfl rfl (aw_icmp_lt (pc' := 5) (tgt := 14) (dt_X10_within 2 (2, .if_icmp .lt 12, 3) rfl) (by decide) rfl ?_ ?_)))))))))))
                · intro q16
                  have h := h.1 q16
                  refine aw_iconst (pc' := 15) (v := 0) (dt_X10_within 8 (14, .iconst 0, 1) rfl) (by decide) rfl (aw_iret (dt_X10_within 9 (15, .ireturn, 1) rfl) rfl rfl (aw_stk (st' := [.int 0]) rfl (aw_if_ne_F (pc' := 41) (tgt := 43) (dt_X10_says 20 (38, .ifCond .ne 5, 3) rfl) (by decide) rfl (by decide) (aw_iconst (pc' := 42) (v := (-1)) (dt_X10_says 21 (41, .iconst (-1), 1) rfl) (by decide) rfl (aw_iret (dt_X10_says 22 (42, .ireturn, 1) rfl) rfl rfl ?_)))))
                  exact h
                · intro q16
                  have h := h.2 q16
                  refine aw_iload_n (pc' := 6) (dt_X10_within 3 (5, .iload_n 0, 1) rfl) rfl rfl (aw_iload_n (pc' := 7) (dt_X10_within 4 (6, .iload_n 2, 1) rfl) rfl rfl (aw_icmp_gt (pc' := 10) (tgt := 14) (dt_X10_within 5 (7, .if_icmp .gt 7, 3) rfl) (by decide) rfl ?_ ?_))
                  · intro q17
                    have h := h.1 q17
                    refine aw_iconst (pc' := 15) (v := 0) (dt_X10_within 8 (14, .iconst 0, 1) rfl) (by decide) rfl (aw_iret (dt_X10_within 9 (15, .ireturn, 1) rfl) rfl rfl (aw_stk (st' := [.int 0]) rfl (aw_if_ne_F (pc' := 41) (tgt := 43) (dt_X10_says 20 (38, .ifCond .ne 5, 3) rfl) (by decide) rfl (by decide) (aw_iconst (pc' := 42) (v := (-1)) (dt_X10_says 21 (41, .iconst (-1), 1) rfl) (by decide) rfl (aw_iret (dt_X10_says 22 (42, .ireturn, 1) rfl) rfl rfl ?_)))))
                    exact h
                  · intro q17
                    have h := h.2 q17
                    refine aw_iconst (pc' := 11) (v := 1) (dt_X10_within 6 (10, .iconst 1, 1) rfl) (by decide) rfl (aw_goto (tgt := 15) (dt_X10_within 7 (11, .goto 4, 3) rfl) (by decide) (aw_iret (dt_X10_within 9 (15, .ireturn, 1) rfl) rfl rfl (aw_stk (st' := [.int 1]) rfl (aw_if_ne_T (pc' := 41) (tgt := 43) (dt_X10_says 20 (38, .ifCond .ne 5, 3) rfl) (by decide) rfl (by decide) (aw_iload_n (pc' := 44) (dt_X10_says 23 (43, .iload_n 3, 1) rfl) rfl rfl (aw_bipush (pc' := 46) (v := 100) (dt_X10_says 24 (44, .bipush 100, 2) rfl) (by decide) rfl (aw_inS (pc' := 49) (nc1 := 0) (ns1 := 0) (nc := nc) (ns := ns) (ls' := [some (.int x3), some (.int 100)]) (y2 := mX10_digit) (As := [.int x3, .int 100]) (rest := []) (dt_X10_says 25 (46, .invokestatic 227, 3) rfl) ok_X10_digit ln_ReturnDesk_227 sm_X10_digit pr_X10_digit rfl (Nat.le_of_ble_eq_true rfl) (Nat.le_of_ble_eq_true rfl) rfl rfl (aw_iload_n (pc' := 1) (dt_X10_digit 0 (0, .iload_n 1, 1) rfl) rfl rfl (aw_if_le_F (pc' := 4) (tgt := 13) (dt_X10_digit 1 (1, .ifCond .le 12, 3) rfl) (by decide) rfl (by decide) (aw_iload_n (pc' := 5) (dt_X10_digit 2 (4, .iload_n 0, 1) rfl) rfl rfl (aw_iload_n (pc' := 6) (dt_X10_digit 3 (5, .iload_n 1, 1) rfl) rfl rfl (aw_idiv (pc' := 7) (dt_X10_digit 4 (6, .idiv, 1) rfl) (by decide) rfl (aw_bipush (pc' := 9) (v := 10) (dt_X10_digit 5 (7, .bipush 10, 2) rfl) (by decide) rfl (aw_irem (pc' := 10) (dt_X10_digit 6 (9, .irem, 1) rfl) (by decide) rfl (aw_goto (tgt := 14) (dt_X10_digit 7 (10, .goto 4, 3) rfl) (by decide) (aw_iret (dt_X10_digit 9 (14, .ireturn, 1) rfl) rfl rfl (aw_stk (st' := [.int ((x3 / 100) - (x3 / 100) / 10 * 10)]) rfl (aw_istore (pc' := 51) (ls' := [some (.ref 11), some (.int x1), some (.int x2), some (.int x3), some (.int x4), some (.ref b9), some (.int ((x3 / 100) - (x3 / 100) / 10 * 10)), none]) (dt_X10_says 26 (49, .istore 6, 2) rfl) (by decide) rfl rfl (aw_iload_n (pc' := 52) (dt_X10_says 27 (51, .iload_n 3, 1) rfl) rfl rfl (aw_iconst (pc' := 53) (v := 1) (dt_X10_says 28 (52, .iconst 1, 1) rfl) (by decide) rfl (aw_inS (pc' := 56) (nc1 := 0) (ns1 := 0) (nc := nc) (ns := ns) (ls' := [some (.int x3), some (.int 1)]) (y2 := mX10_digit) (As := [.int x3, .int 1]) (rest := []) (dt_X10_says 29 (53, .invokestatic 227, 3) rfl) ok_X10_digit ln_ReturnDesk_227 sm_X10_digit pr_X10_digit rfl (Nat.le_of_ble_eq_true rfl) (Nat.le_of_ble_eq_true rfl) rfl rfl (aw_iload_n (pc' := 1) (dt_X10_digit 0 (0, .iload_n 1, 1) rfl) rfl rfl (aw_if_le_F (pc' := 4) (tgt := 13) (dt_X10_digit 1 (1, .ifCond .le 12, 3) rfl) (by decide) rfl (by decide) (aw_iload_n (pc' := 5) (dt_X10_digit 2 (4, .iload_n 0, 1) rfl) rfl rfl (aw_iload_n (pc' := 6) (dt_X10_digit 3 (5, .iload_n 1, 1) rfl) rfl rfl (aw_idiv (pc' := 7) (dt_X10_digit 4 (6, .idiv, 1) rfl) (by decide) rfl (aw_bipush (pc' := 9) (v := 10) (dt_X10_digit 5 (7, .bipush 10, 2) rfl) (by decide) rfl (aw_irem (pc' := 10) (dt_X10_digit 6 (9, .irem, 1) rfl) (by decide) rfl (aw_goto (tgt := 14) (dt_X10_digit 7 (10, .goto 4, 3) rfl) (by decide) (aw_iret (dt_X10_digit 9 (14, .ireturn, 1) rfl) rfl rfl (aw_stk (st' := [.int ((x3 / 1) - (x3 / 1) / 10 * 10)]) rfl (aw_istore (pc' := 58) (ls' := [some (.ref 11), some (.int x1), some (.int x2), some (.int x3), some (.int x4), some (.ref b9), some (.int ((x3 / 100) - (x3 / 100) / 10 * 10)), some (.int ((x3 / 1) - (x3 / 1) / 10 * 10))]) (dt_X10_says 30 (56, .istore 7, 2) rfl) (by decide) rfl rfl (aw_iload (pc' := 60) (dt_X10_says 31 (58, .iload 6, 2) rfl) rfl rfl (aw_iconst (pc' := 61) (v := 1) (dt_X10_says 32 (60, .iconst 1, 1) rfl) (by decide) rfl (aw_icmp_gt (pc' := 64) (tgt := 70) (dt_X10_says 33 (61, .if_icmp .gt 9, 3) rfl) (by decide) rfl ?_ ?_)))))))))))))))))))))))))))))))))))
                    · intro q18
                      have h := h.1 q18
                      refine aw_iconst (pc' := 71) (v := (-1)) (dt_X10_says 37 (70, .iconst (-1), 1) rfl) (by decide) rfl (aw_iret (dt_X10_says 38 (71, .ireturn, 1) rfl) rfl rfl ?_)
                      exact h
                    · intro q18
                      have h := h.2 q18
                      refine aw_iload (pc' := 66) (dt_X10_says 34 (64, .iload 7, 2) rfl) rfl rfl (aw_iconst (pc' := 67) (v := 1) (dt_X10_says 35 (66, .iconst 1, 1) rfl) (by decide) rfl (aw_icmp_le (pc' := 70) (tgt := 72) (dt_X10_says 36 (67, .if_icmp .le 5, 3) rfl) (by decide) rfl ?_ ?_))
                      · intro q19
                        have h := h.1 q19
                        refine aw_aload_n (pc' := 73) (dt_X10_says 39 (72, .aload_n 0, 1) rfl) rfl rfl (aw_aload (pc' := 75) (dt_X10_says 40 (73, .aload 5, 2) rfl) rfl rfl (aw_iload (pc' := 77) (dt_X10_says 41 (75, .iload 4, 2) rfl) rfl rfl (aw_aload_n (pc' := 78) (dt_X10_says 42 (77, .aload_n 0, 1) rfl) rfl rfl (aw_inV (pc' := 81) (nc1 := 0) (ns1 := 0) (nc := nc) (ns := ns) (ls' := [some (.ref 11)]) (y2 := mX10_today) (As := []) (rest := [.int x4, .ref b9, .ref 11]) (a := 11) (dt_X10_says 43 (78, .invokevirtual 138, 3) rfl) ok_X10_today ln_ReturnDesk_138 im_X10_today se_X10_today pr_X10_today (Or.inl ⟨by decide, rfl⟩) rfl (Nat.le_of_ble_eq_true rfl) (Nat.le_of_ble_eq_true rfl) rfl rfl (sk_11 hS) (aw_aload_n (pc' := 1) (dt_X10_today 0 (0, .aload_n 0, 1) rfl) rfl rfl (aw_getI (pc' := 4) (dt_X10_today 1 (1, .getfield 114, 3) rfl) fl_ReturnDesk_114 rfl rfl (sk_11 hS) (aw_bipush (pc' := 6) (v := 24) (dt_X10_today 2 (4, .bipush 24, 2) rfl) (by decide) rfl (aw_idiv (pc' := 7) (dt_X10_today 3 (6, .idiv, 1) rfl) (by decide) rfl (aw_iret (dt_X10_today 4 (7, .ireturn, 1) rfl) rfl rfl (aw_stk (st' := [.int ((zI μ 11 17) / 24), .int x4, .ref b9, .ref 11]) rfl (aw_callV0 (pc' := 84) (nc := nc) (ns := ns) (y2 := mX10_tellSale) (As := [.ref b9, .int x4, .int ((zI μ 11 17) / 24)]) (rest := []) (a := 11) (dt_X10_says 44 (81, .invokevirtual 230, 3) rfl) ok_X10_tellSale ln_ReturnDesk_230 im_X10_tellSale se_X10_tellSale pr_X10_tellSale (Or.inl ⟨by decide, rfl⟩) rfl (Nat.le_of_ble_eq_true rfl) (Nat.le_of_ble_eq_true rfl) rfl (sk_11 hS) h ?_)))))))))))
                        rintro v μ20 ⟨rfl, hS21, h⟩
                        refine aw_stk (st' := []) rfl ?_
                        refine aw_aload_n (pc' := 85) (dt_X10_says 45 (84, .aload_n 0, 1) rfl) rfl rfl (aw_iload_n (pc' := 86) (dt_X10_says 46 (85, .iload_n 3, 1) rfl) rfl rfl (aw_sipush (pc' := 89) (v := 1000) (dt_X10_says 47 (86, .sipush 1000, 3) rfl) (by decide) rfl (aw_idiv (pc' := 90) (dt_X10_says 48 (89, .idiv, 1) rfl) (by decide) rfl (aw_iload (pc' := 92) (dt_X10_says 49 (90, .iload 6, 2) rfl) rfl rfl (aw_iload_n (pc' := 93) (dt_X10_says 50 (92, .iload_n 3, 1) rfl) rfl rfl (aw_bipush (pc' := 95) (v := 10) (dt_X10_says 51 (93, .bipush 10, 2) rfl) (by decide) rfl (aw_inS (pc' := 98) (nc1 := 0) (ns1 := 0) (nc := nc) (ns := ns) (ls' := [some (.int x3), some (.int 10)]) (y2 := mX10_digit) (As := [.int x3, .int 10]) (rest := [.int ((x3 / 100) - (x3 / 100) / 10 * 10), .int (x3 / 1000), .ref 11]) (dt_X10_says 52 (95, .invokestatic 227, 3) rfl) ok_X10_digit ln_ReturnDesk_227 sm_X10_digit pr_X10_digit rfl (Nat.le_of_ble_eq_true rfl) (Nat.le_of_ble_eq_true rfl) rfl rfl (aw_iload_n (pc' := 1) (dt_X10_digit 0 (0, .iload_n 1, 1) rfl) rfl rfl (aw_if_le_F (pc' := 4) (tgt := 13) (dt_X10_digit 1 (1, .ifCond .le 12, 3) rfl) (by decide) rfl (by decide) (aw_iload_n (pc' := 5) (dt_X10_digit 2 (4, .iload_n 0, 1) rfl) rfl rfl (aw_iload_n (pc' := 6) (dt_X10_digit 3 (5, .iload_n 1, 1) rfl) rfl rfl (aw_idiv (pc' := 7) (dt_X10_digit 4 (6, .idiv, 1) rfl) (by decide) rfl (aw_bipush (pc' := 9) (v := 10) (dt_X10_digit 5 (7, .bipush 10, 2) rfl) (by decide) rfl (aw_irem (pc' := 10) (dt_X10_digit 6 (9, .irem, 1) rfl) (by decide) rfl (aw_goto (tgt := 14) (dt_X10_digit 7 (10, .goto 4, 3) rfl) (by decide) (aw_iret (dt_X10_digit 9 (14, .ireturn, 1) rfl) rfl rfl (aw_stk (st' := [.int ((x3 / 10) - (x3 / 10) / 10 * 10), .int ((x3 / 100) - (x3 / 100) / 10 * 10), .int (x3 / 1000), .ref 11]) rfl (aw_iload (pc' := 100) (dt_X10_says 53 (98, .iload 7, 2) rfl) rfl rfl (aw_inV (pc' := 103) (nc1 := 0) (ns1 := 0) (nc := nc) (ns := ns) (ls' := [some (.ref 11), some (.int (x3 / 1000)), some (.int ((x3 / 100) - (x3 / 100) / 10 * 10)), some (.int ((x3 / 10) - (x3 / 10) / 10 * 10)), some (.int ((x3 / 1) - (x3 / 1) / 10 * 10))]) (y2 := mX10_tellFacts) (As := [.int (x3 / 1000), .int ((x3 / 100) - (x3 / 100) / 10 * 10), .int ((x3 / 10) - (x3 / 10) / 10 * 10), .int ((x3 / 1) - (x3 / 1) / 10 * 10)]) (rest := []) (a := 11) (dt_X10_says 54 (100, .invokevirtual 234, 3) rfl) ok_X10_tellFacts ln_ReturnDesk_234 im_X10_tellFacts se_X10_tellFacts pr_X10_tellFacts (Or.inl ⟨by decide, rfl⟩) rfl (Nat.le_of_ble_eq_true rfl) (Nat.le_of_ble_eq_true rfl) rfl rfl (sk_11 hS21) (aw_aload_n (pc' := 1) (dt_X10_tellFacts 0 (0, .aload_n 0, 1) rfl) rfl rfl (aw_getAs (pc' := 4) (dt_X10_tellFacts 1 (1, .getfield 61, 3) rfl) fl_ReturnDesk_61 rfl rfl (sk_11 hS21) (sa_11_8 hS21) (aw_iconst (pc' := 5) (v := 0) (dt_X10_tellFacts 2 (4, .iconst 0, 1) rfl) (by decide) rfl (aw_iload_n (pc' := 6) (dt_X10_tellFacts 3 (5, .iload_n 1, 1) rfl) rfl rfl (aw_inV (pc' := 9) (nc1 := 0) (ns1 := 0) (nc := 0) (ns := 0) (ls' := [some (.ref 26), some (.int 0), some (.int (x3 / 1000))]) (y2 := mX3_tell) (As := [.int 0, .int (x3 / 1000)]) (rest := []) (a := 26) (dt_X10_tellFacts 4 (6, .invokevirtual 448, 3) rfl) ok_X3_tell ln_ReturnDesk_448 im_X3_tell se_X3_tell pr_X3_tell (Or.inl ⟨by decide, rfl⟩) rfl (Nat.le_of_ble_eq_true rfl) (Nat.le_of_ble_eq_true rfl) rfl rfl (sk_26 hS21) (aw_iload_n (pc' := 1) (dt_X3_tell 0 (0, .iload_n 1, 1) rfl) rfl rfl (aw_if_lt_F (pc' := 4) (tgt := 20) (dt_X3_tell 1 (1, .ifCond .lt 19, 3) rfl) (by decide) rfl (by decide) (aw_iload_n (pc' := 5) (dt_X3_tell 2 (4, .iload_n 1, 1) rfl) rfl rfl (aw_aload_n (pc' := 6) (dt_X3_tell 3 (5, .aload_n 0, 1) rfl) rfl rfl (aw_getAs (pc' := 9) (dt_X3_tell 4 (6, .getfield 9, 3) rfl) fl_Machine_9 rfl rfl (sk_26 hS21) (sa_26_0 hS21) (aw_alens (pc' := 10) (n := 12) (v := 12) (dt_X3_tell 5 (9, .arraylength, 1) rfl) (by decide) (by decide) rfl (sk_27 hS21) (sl_27 hS21) (by decide) (aw_icmp_ge_F (pc' := 13) (tgt := 20) (dt_X3_tell 6 (10, .if_icmp .ge 10, 3) rfl) (by decide) rfl (by decide) (aw_aload_n (pc' := 14) (dt_X3_tell 7 (13, .aload_n 0, 1) rfl) rfl rfl (aw_getAs (pc' := 17) (dt_X3_tell 8 (14, .getfield 9, 3) rfl) fl_Machine_9 rfl rfl (sk_26 hS21) (sa_26_0 hS21) (aw_iload_n (pc' := 18) (dt_X3_tell 9 (17, .iload_n 1, 1) rfl) rfl rfl (aw_iload_n (pc' := 19) (dt_X3_tell 10 (18, .iload_n 2, 1) rfl) rfl rfl (aw_iast (pc' := 20) (dt_X3_tell 11 (19, .iastore, 1) rfl) rfl (sk_27 hS21) (by decide) (vin_eq (sl_27 hS21) (vlit (by decide))) (aw_ret (dt_X3_tell 12 (20, .return_, 1) rfl) rfl (aw_stk (st' := []) rfl (aw_aload_n (pc' := 10) (dt_X10_tellFacts 5 (9, .aload_n 0, 1) rfl) rfl rfl (aw_getAs (pc' := 13) (dt_X10_tellFacts 6 (10, .getfield 61, 3) rfl) fl_ReturnDesk_61 rfl rfl (sk_11 hS21.wI) (sa_11_8 hS21.wI) (aw_iconst (pc' := 14) (v := 1) (dt_X10_tellFacts 7 (13, .iconst 1, 1) rfl) (by decide) rfl (aw_iload_n (pc' := 15) (dt_X10_tellFacts 8 (14, .iload_n 2, 1) rfl) rfl rfl (aw_inV (pc' := 18) (nc1 := 0) (ns1 := 0) (nc := 0) (ns := 0) (ls' := [some (.ref 26), some (.int 1), some (.int ((x3 / 100) - (x3 / 100) / 10 * 10))]) (y2 := mX3_tell) (As := [.int 1, .int ((x3 / 100) - (x3 / 100) / 10 * 10)]) (rest := []) (a := 26) (dt_X10_tellFacts 9 (15, .invokevirtual 448, 3) rfl) ok_X3_tell ln_ReturnDesk_448 im_X3_tell se_X3_tell pr_X3_tell (Or.inl ⟨by decide, rfl⟩) rfl (Nat.le_of_ble_eq_true rfl) (Nat.le_of_ble_eq_true rfl) rfl rfl (sk_26 hS21.wI) (aw_iload_n (pc' := 1) (dt_X3_tell 0 (0, .iload_n 1, 1) rfl) rfl rfl (aw_if_lt_F (pc' := 4) (tgt := 20) (dt_X3_tell 1 (1, .ifCond .lt 19, 3) rfl) (by decide) rfl (by decide) (aw_iload_n (pc' := 5) (dt_X3_tell 2 (4, .iload_n 1, 1) rfl) rfl rfl (aw_aload_n (pc' := 6) (dt_X3_tell 3 (5, .aload_n 0, 1) rfl) rfl rfl (aw_getAs (pc' := 9) (dt_X3_tell 4 (6, .getfield 9, 3) rfl) fl_Machine_9 rfl rfl (sk_26 hS21.wI) (sa_26_0 hS21.wI) (aw_alens (pc' := 10) (n := 12) (v := 12) (dt_X3_tell 5 (9, .arraylength, 1) rfl) (by decide) (by decide) rfl (sk_27 hS21.wI) (sl_27 hS21.wI) (by decide) (aw_icmp_ge_F (pc' := 13) (tgt := 20) (dt_X3_tell 6 (10, .if_icmp .ge 10, 3) rfl) (by decide) rfl (by decide) (aw_aload_n (pc' := 14) (dt_X3_tell 7 (13, .aload_n 0, 1) rfl) rfl rfl (aw_getAs (pc' := 17) (dt_X3_tell 8 (14, .getfield 9, 3) rfl) fl_Machine_9 rfl rfl (sk_26 hS21.wI) (sa_26_0 hS21.wI) (aw_iload_n (pc' := 18) (dt_X3_tell 9 (17, .iload_n 1, 1) rfl) rfl rfl (aw_iload_n (pc' := 19) (dt_X3_tell 10 (18, .iload_n 2, 1) rfl) rfl rfl (aw_iast (pc' := 20) (dt_X3_tell 11 (19, .iastore, 1) rfl) rfl (sk_27 hS21.wI) (by decide) (vin_eq (sl_27 hS21.wI) (vlit (by decide))) (aw_ret (dt_X3_tell 12 (20, .return_, 1) rfl) rfl (aw_stk (st' := []) rfl (aw_aload_n (pc' := 19) (dt_X10_tellFacts 10 (18, .aload_n 0, 1) rfl) rfl rfl (aw_getAs (pc' := 22) (dt_X10_tellFacts 11 (19, .getfield 61, 3) rfl) fl_ReturnDesk_61 rfl rfl (sk_11 hS21.wI.wI) (sa_11_8 hS21.wI.wI) (aw_iconst (pc' := 23) (v := 2) (dt_X10_tellFacts 12 (22, .iconst 2, 1) rfl) (by decide) rfl (aw_iload_n (pc' := 24) (dt_X10_tellFacts 13 (23, .iload_n 3, 1) rfl) rfl rfl (aw_inV (pc' := 27) (nc1 := 0) (ns1 := 0) (nc := 0) (ns := 0) (ls' := [some (.ref 26), some (.int 2), some (.int ((x3 / 10) - (x3 / 10) / 10 * 10))]) (y2 := mX3_tell) (As := [.int 2, .int ((x3 / 10) - (x3 / 10) / 10 * 10)]) (rest := []) (a := 26) (dt_X10_tellFacts 14 (24, .invokevirtual 448, 3) rfl) ok_X3_tell ln_ReturnDesk_448 im_X3_tell se_X3_tell pr_X3_tell (Or.inl ⟨by decide, rfl⟩) rfl (Nat.le_of_ble_eq_true rfl) (Nat.le_of_ble_eq_true rfl) rfl rfl (sk_26 hS21.wI.wI) (aw_iload_n (pc' := 1) (dt_X3_tell 0 (0, .iload_n 1, 1) rfl) rfl rfl (aw_if_lt_F (pc' := 4) (tgt := 20) (dt_X3_tell 1 (1, .ifCond .lt 19, 3) rfl) (by decide) rfl (by decide) (aw_iload_n (pc' := 5) (dt_X3_tell 2 (4, .iload_n 1, 1) rfl) rfl rfl (aw_aload_n (pc' := 6) (dt_X3_tell 3 (5, .aload_n 0, 1) rfl) rfl rfl (aw_getAs (pc' := 9) (dt_X3_tell 4 (6, .getfield 9, 3) rfl) fl_Machine_9 rfl rfl (sk_26 hS21.wI.wI) (sa_26_0 hS21.wI.wI) (aw_alens (pc' := 10) (n := 12) (v := 12) (dt_X3_tell 5 (9, .arraylength, 1) rfl) (by decide) (by decide) rfl (sk_27 hS21.wI.wI) (sl_27 hS21.wI.wI) (by decide) (aw_icmp_ge_F (pc' := 13) (tgt := 20) (dt_X3_tell 6 (10, .if_icmp .ge 10, 3) rfl) (by decide) rfl (by decide) (aw_aload_n (pc' := 14) (dt_X3_tell 7 (13, .aload_n 0, 1) rfl) rfl rfl (aw_getAs (pc' := 17) (dt_X3_tell 8 (14, .getfield 9, 3) rfl) fl_Machine_9 rfl rfl (sk_26 hS21.wI.wI) (sa_26_0 hS21.wI.wI) (aw_iload_n (pc' := 18) (dt_X3_tell 9 (17, .iload_n 1, 1) rfl) rfl rfl (aw_iload_n (pc' := 19) (dt_X3_tell 10 (18, .iload_n 2, 1) rfl) rfl rfl (aw_iast (pc' := 20) (dt_X3_tell 11 (19, .iastore, 1) rfl) rfl (sk_27 hS21.wI.wI) (by decide) (vin_eq (sl_27 hS21.wI.wI) (vlit (by decide))) (aw_ret (dt_X3_tell 12 (20, .return_, 1) rfl) rfl (aw_stk (st' := []) rfl (aw_aload_n (pc' := 28) (dt_X10_tellFacts 15 (27, .aload_n 0, 1) rfl) rfl rfl (aw_getAs (pc' := 31) (dt_X10_tellFacts 16 (28, .getfield 61, 3) rfl) fl_ReturnDesk_61 rfl rfl (sk_11 hS21.wI.wI.wI) (sa_11_8 hS21.wI.wI.wI) (aw_iconst (pc' := 32) (v := 3) (dt_X10_tellFacts 17 (31, .iconst 3, 1) rfl) (by decide) rfl (aw_iload (pc' := 34) (dt_X10_tellFacts 18 (32, .iload 4, 2) rfl) rfl rfl (aw_inV (pc' := 37) (nc1 := 0) (ns1 := 0) (nc := 0) (ns := 0) (ls' := [some (.ref 26), some (.int 3), some (.int ((x3 / 1) - (x3 / 1) / 10 * 10))]) (y2 := mX3_tell) (As := [.int 3, .int ((x3 / 1) - (x3 / 1) / 10 * 10)]) (rest := []) (a := 26) (dt_X10_tellFacts 19 (34, .invokevirtual 448, 3) rfl) ok_X3_tell ln_ReturnDesk_448 im_X3_tell se_X3_tell pr_X3_tell (Or.inl ⟨by decide, rfl⟩) rfl (Nat.le_of_ble_eq_true rfl) (Nat.le_of_ble_eq_true rfl) rfl rfl (sk_26 hS21.wI.wI.wI) (aw_iload_n (pc' := 1) (dt_X3_tell 0 (0, .iload_n 1, 1) rfl) rfl rfl (aw_if_lt_F (pc' := 4) (tgt := 20) (dt_X3_tell 1 (1, .ifCond .lt 19, 3) rfl) (by decide) rfl (by decide) (aw_iload_n (pc' := 5) (dt_X3_tell 2 (4, .iload_n 1, 1) rfl) rfl rfl (aw_aload_n (pc' := 6) (dt_X3_tell 3 (5, .aload_n 0, 1) rfl) rfl rfl (aw_getAs (pc' := 9) (dt_X3_tell 4 (6, .getfield 9, 3) rfl) fl_Machine_9 rfl rfl (sk_26 hS21.wI.wI.wI) (sa_26_0 hS21.wI.wI.wI) (aw_alens (pc' := 10) (n := 12) (v := 12) (dt_X3_tell 5 (9, .arraylength, 1) rfl) (by decide) (by decide) rfl (sk_27 hS21.wI.wI.wI) (sl_27 hS21.wI.wI.wI) (by decide) (aw_icmp_ge_F (pc' := 13) (tgt := 20) (dt_X3_tell 6 (10, .if_icmp .ge 10, 3) rfl) (by decide) rfl (by decide) (aw_aload_n (pc' := 14) (dt_X3_tell 7 (13, .aload_n 0, 1) rfl) rfl rfl (aw_getAs (pc' := 17) (dt_X3_tell 8 (14, .getfield 9, 3) rfl) fl_Machine_9 rfl rfl (sk_26 hS21.wI.wI.wI) (sa_26_0 hS21.wI.wI.wI) (aw_iload_n (pc' := 18) (dt_X3_tell 9 (17, .iload_n 1, 1) rfl) rfl rfl (aw_iload_n (pc' := 19) (dt_X3_tell 10 (18, .iload_n 2, 1) rfl) rfl rfl (aw_iast (pc' := 20) (dt_X3_tell 11 (19, .iastore, 1) rfl) rfl (sk_27 hS21.wI.wI.wI) (by decide) (vin_eq (sl_27 hS21.wI.wI.wI) (vlit (by decide))) (aw_ret (dt_X3_tell 12 (20, .return_, 1) rfl) rfl (aw_stk (st' := []) rfl (aw_ret (dt_X10_tellFacts 20 (37, .return_, 1) rfl) rfl (aw_stk (st' := []) rfl (aw_aload_n (pc' := 104) (dt_X10_says 55 (103, .aload_n 0, 1) rfl) rfl rfl (aw_aload_n (pc' := 105) (dt_X10_says 56 (104, .aload_n 0, 1) rfl) rfl rfl (aw_iload_n (pc' := 106) (dt_X10_says 57 (105, .iload_n 1, 1) rfl) rfl rfl (aw_aload (pc' := 108) (dt_X10_says 58 (106, .aload 5, 2) rfl) rfl rfl (aw_aload_n (pc' := 109) (dt_X10_says 59 (108, .aload_n 0, 1) rfl) rfl rfl (aw_inV (pc' := 112) (nc1 := 0) (ns1 := 0) (nc := nc) (ns := ns) (ls' := [some (.ref 11)]) (y2 := mX10_today) (As := []) (rest := [.ref b9, .int x1, .ref 11, .ref 11]) (a := 11) (dt_X10_says 60 (109, .invokevirtual 138, 3) rfl) ok_X10_today ln_ReturnDesk_138 im_X10_today se_X10_today pr_X10_today (Or.inl ⟨by decide, rfl⟩) rfl (Nat.le_of_ble_eq_true rfl) (Nat.le_of_ble_eq_true rfl) rfl rfl (sk_11 hS21.wI.wI.wI.wI) (aw_aload_n (pc' := 1) (dt_X10_today 0 (0, .aload_n 0, 1) rfl) rfl rfl (aw_getI (pc' := 4) (dt_X10_today 1 (1, .getfield 114, 3) rfl) fl_ReturnDesk_114 rfl rfl (sk_11 hS21.wI.wI.wI.wI) (aw_bipush (pc' := 6) (v := 24) (dt_X10_today 2 (4, .bipush 24, 2) rfl) (by decide) rfl (aw_idiv (pc' := 7) (dt_X10_today 3 (6, .idiv, 1) rfl) (by decide) rfl (aw_iret (dt_X10_today 4 (7, .ireturn, 1) rfl) rfl rfl (aw_stk (st' := [.int ((zI (sI (sI (sI (sI μ20 27 0 (x3 / 1000)) 27 1 ((x3 / 100) - (x3 / 100) / 10 * 10)) 27 2 ((x3 / 10) - (x3 / 10) / 10 * 10)) 27 3 ((x3 / 1) - (x3 / 1) / 10 * 10)) 11 17) / 24), .ref b9, .int x1, .ref 11, .ref 11]) rfl (aw_callV0 (pc' := 115) (nc := nc) (ns := ns) (y2 := mX10_textFor) (As := [.int x1, .ref b9, .int ((zI (sI (sI (sI (sI μ20 27 0 (x3 / 1000)) 27 1 ((x3 / 100) - (x3 / 100) / 10 * 10)) 27 2 ((x3 / 10) - (x3 / 10) / 10 * 10)) 27 3 ((x3 / 1) - (x3 / 1) / 10 * 10)) 11 17) / 24)]) (rest := [.ref 11]) (a := 11) (dt_X10_says 61 (112, .invokevirtual 222, 3) rfl) ok_X10_textFor ln_ReturnDesk_222 im_X10_textFor se_X10_textFor pr_X10_textFor (Or.inl ⟨by decide, rfl⟩) rfl (Nat.le_of_ble_eq_true rfl) (Nat.le_of_ble_eq_true rfl) rfl (sk_11 hS21.wI.wI.wI.wI) h ?_))))))))))))))))))))))))))))))))))))))))))))))))))))))))))))))))))))))))))))))))))))))))))))))))))))))))))))))
                        rintro v μ22 (⟨rfl, hS23, h⟩ | ⟨b24, rfl, hS23, h⟩)
                        · refine aw_stk (st' := [.null, .ref 11]) rfl ?_
                          refine aw_inV (pc' := 118) (nc1 := 0) (ns1 := 0) (nc := nc) (ns := ns) (ls' := [some (.ref 11), some (.null)]) (y2 := mX10_outOf) (As := [.null]) (rest := []) (a := 11) (dt_X10_says 62 (115, .invokevirtual 237, 3) rfl) ok_X10_outOf ln_ReturnDesk_237 im_X10_outOf se_X10_outOf pr_X10_outOf (Or.inl ⟨by decide, rfl⟩) rfl (Nat.le_of_ble_eq_true rfl) (Nat.le_of_ble_eq_true rfl) rfl rfl (sk_11 hS23) (aw_aload_nN (pc' := 1) (dt_X10_outOf 0 (0, .aload_n 1, 1) rfl) rfl rfl (aw_ifnonnullN (pc' := 4) (dt_X10_outOf 1 (1, .ifnonnull 7, 3) rfl) rfl (aw_iconst (pc' := 5) (v := 0) (dt_X10_outOf 2 (4, .iconst 0, 1) rfl) (by decide) rfl (aw_goto (tgt := 19) (dt_X10_outOf 3 (5, .goto 14, 3) rfl) (by decide) (aw_iret (dt_X10_outOf 9 (19, .ireturn, 1) rfl) rfl rfl (aw_stk (st' := [.int 0]) rfl (aw_iret (dt_X10_says 63 (118, .ireturn, 1) rfl) rfl rfl ?_)))))))
                          exact h
                        · refine aw_stk (st' := [.ref b24, .ref 11]) rfl ?_
                          obtain ⟨g25, h⟩ := h
                          refine aw_inV (pc' := 118) (nc1 := 0) (ns1 := 0) (nc := nc) (ns := ns) (ls' := [some (.ref 11), some (.ref b24)]) (y2 := mX10_outOf) (As := [.ref b24]) (rest := []) (a := 11) (dt_X10_says 62 (115, .invokevirtual 237, 3) rfl) ok_X10_outOf ln_ReturnDesk_237 im_X10_outOf se_X10_outOf pr_X10_outOf (Or.inl ⟨by decide, rfl⟩) rfl (Nat.le_of_ble_eq_true rfl) (Nat.le_of_ble_eq_true rfl) rfl rfl (sk_11 hS23) (aw_aload_n (pc' := 1) (dt_X10_outOf 0 (0, .aload_n 1, 1) rfl) rfl rfl (aw_ifnonnull (tgt := 8) (dt_X10_outOf 1 (1, .ifnonnull 7, 3) rfl) (by decide) (aw_aload_n (pc' := 9) (dt_X10_outOf 4 (8, .aload_n 0, 1) rfl) rfl rfl (aw_getAs (pc' := 12) (dt_X10_outOf 5 (9, .getfield 61, 3) rfl) fl_ReturnDesk_61 rfl rfl (sk_11 hS23) (sa_11_8 hS23) (aw_aload_n (pc' := 13) (dt_X10_outOf 6 (12, .aload_n 1, 1) rfl) rfl rfl (aw_getA (pc' := 16) (dt_X10_outOf 7 (13, .getfield 461, 3) rfl) fl_ReturnDesk_461 rfl rfl g25 ?_ ?_))))))
                          · intro e26
                            have h := h.1 e26
                            refine aw_callV0 (pc' := 19) (nc := 0) (ns := 0) (y2 := mX3_run) (As := [.null]) (rest := []) (a := 26) (dt_X10_outOf 8 (16, .invokevirtual 464, 3) rfl) ok_X3_run ln_ReturnDesk_464 im_X3_run se_X3_run pr_X3_run (Or.inl ⟨by decide, rfl⟩) rfl (Nat.le_of_ble_eq_true rfl) (Nat.le_of_ble_eq_true rfl) rfl (sk_26 hS23) h ?_
                            rintro v μ28 ⟨r30, rfl, hS29, h⟩
                            refine aw_stk (st' := [.int r30]) rfl ?_
                            refine aw_iret (dt_X10_outOf 9 (19, .ireturn, 1) rfl) rfl rfl (aw_stk (st' := [.int r30]) rfl (aw_iret (dt_X10_says 63 (118, .ireturn, 1) rfl) rfl rfl ?_))
                            exact h
                          · intro b27 e26
                            have h := h.2 b27 e26
                            refine aw_callV0 (pc' := 19) (nc := 0) (ns := 0) (y2 := mX3_run) (As := [.ref b27]) (rest := []) (a := 26) (dt_X10_outOf 8 (16, .invokevirtual 464, 3) rfl) ok_X3_run ln_ReturnDesk_464 im_X3_run se_X3_run pr_X3_run (Or.inl ⟨by decide, rfl⟩) rfl (Nat.le_of_ble_eq_true rfl) (Nat.le_of_ble_eq_true rfl) rfl (sk_26 hS23) h ?_
                            rintro v μ31 ⟨r33, rfl, hS32, h⟩
                            refine aw_stk (st' := [.int r33]) rfl ?_
                            refine aw_iret (dt_X10_outOf 9 (19, .ireturn, 1) rfl) rfl rfl (aw_stk (st' := [.int r33]) rfl (aw_iret (dt_X10_says 63 (118, .ireturn, 1) rfl) rfl rfl ?_))
                            exact h
                      · intro q19
                        have h := h.2 q19
                        refine aw_iconst (pc' := 71) (v := (-1)) (dt_X10_says 37 (70, .iconst (-1), 1) rfl) (by decide) rfl (aw_iret (dt_X10_says 38 (71, .ireturn, 1) rfl) rfl rfl ?_)
                        exact h

theorem t_X10_ask {E : ZE} {l : Launch} {d nc ns : Nat} {x1 : Int32} {x2 : Int32} {x3 : Int32} {x4 : Int32} {x5 : Int32} {x6 : Int32} {μ : ZM} {K : Option Value → ZM → Prop} (hS : Stat μ) (h :
  (x1 < 0 →
    K (some (.int (-1))) μ) ∧
  (¬ x1 < 0 →
    (((zI μ 11 14) - 1) < x1 →
      K (some (.int (-1))) μ) ∧
    (¬ ((zI μ 11 14) - 1) < x1 →
      (vp_in x1 300) ∧
      (zA μ 14 x1.toNatClampNeg = none →
        K (some (.int (-1))) μ) ∧
      (∀ b5, zA μ 14 x1.toNatClampNeg = some b5 →
        (x2 < 0 →
          K (some (.int (-1))) μ) ∧
        (¬ x2 < 0 →
          (2 < x2 →
            K (some (.int (-1))) μ) ∧
          (¬ 2 < x2 →
            (x3 < 0 →
              K (some (.int (-1))) μ) ∧
            (¬ x3 < 0 →
              (999999 < x3 →
                K (some (.int (-1))) μ) ∧
              (¬ 999999 < x3 →
                ((x3 - x3 / 1000 * 1000) < (x3 / 1000) →
                  K (some (.int (-1))) μ) ∧
                (¬ (x3 - x3 / 1000 * 1000) < (x3 / 1000) →
                  (60 < ((x3 - x3 / 1000 * 1000) - (x3 / 1000)) →
                    K (some (.int (-1))) μ) ∧
                  (¬ 60 < ((x3 - x3 / 1000 * 1000) - (x3 / 1000)) →
                    AW E l (d + 1) 0 0 mX10_areFacts 0 (zargs 1 [.int x4]) [] μ (fun v μ12 => ∃ r14 : Int32, v = some (.int r14) ∧ Stat μ12 ∧ 
                      (¬ r14 = 0 →
                        (x5 < 1 →
                          K (some (.int (-1))) μ12) ∧
                        (¬ x5 < 1 →
                          (999999 < x5 →
                            K (some (.int (-1))) μ12) ∧
                          (¬ 999999 < x5 →
                            (x6 < 0 →
                              K (some (.int (-1))) μ12) ∧
                            (¬ x6 < 0 →
                              (199999 < x6 →
                                K (some (.int (-1))) μ12) ∧
                              (¬ 199999 < x6 →
                                (zK μ12 b5 = 7) ∧
                                ((zI μ12 b5 11) = 0 →
                                  ((zI μ12 11 15) < 200 →
                                    AW E l (d + 1) 0 0 mX0_init 0 (zargs 8 [.ref (zN μ12), .ref b5, .int x2, .int ((zI (sNew μ12 0 0) 11 17) / 24), .int x3, .int x4, .int x5, .int x6]) [] (sNew μ12 0 0) (fun v μ23 => v = none ∧ Stat μ23 ∧ 
                                      (zK μ23 (zN μ12) = 0) ∧
                                      (vp_in (zI μ12 11 15) 200) ∧
                                      (zK (sI (sA μ23 15 (zI μ12 11 15).toNatClampNeg (some (zN μ12))) 11 15 ((zI (sA μ23 15 (zI μ12 11 15).toNatClampNeg (some (zN μ12))) 11 15) + 1)) b5 = 7) ∧
                                      K (some (.int ((zI (sI (sI (sA μ23 15 (zI μ12 11 15).toNatClampNeg (some (zN μ12))) 11 15 ((zI (sA μ23 15 (zI μ12 11 15).toNatClampNeg (some (zN μ12))) 11 15) + 1)) b5 11 1) 11 15) - 1))) (sI (sI (sA μ23 15 (zI μ12 11 15).toNatClampNeg (some (zN μ12))) 11 15 ((zI (sA μ23 15 (zI μ12 11 15).toNatClampNeg (some (zN μ12))) 11 15) + 1)) b5 11 1))) ∧
                                  (¬ (zI μ12 11 15) < 200 →
                                    K (some (.int (-3))) μ12)) ∧
                                (¬ (zI μ12 b5 11) = 0 →
                                  K (some (.int (-2))) μ12)))))) ∧
                      (r14 = 0 →
                        K (some (.int (-1))) μ12)))))))))))) : AW E l (d + 2) (nc + 1) (ns + 16) mX10_ask 0 [some (.ref 11), some (.int x1), some (.int x2), some (.int x3), some (.int x4), some (.int x5), some (.int x6), none] [] μ K := by
  refine aw_aload_n (pc' := 1) (dt_X10_ask 0 (0, .aload_n 0, 1) rfl) rfl rfl (aw_iload_n (pc' := 2) (dt_X10_ask 1 (1, .iload_n 1, 1) rfl) rfl rfl (aw_inV (pc' := 5) (nc1 := 0) (ns1 := 0) (nc := (nc + 1)) (ns := (ns + 16)) (ls' := [some (.ref 11), some (.int x1)]) (y2 := mX10_saleAt) (As := [.int x1]) (rest := []) (a := 11) (dt_X10_ask 2 (2, .invokevirtual 152, 3) rfl) ok_X10_saleAt ln_ReturnDesk_152 im_X10_saleAt se_X10_saleAt pr_X10_saleAt (Or.inl ⟨by decide, rfl⟩) rfl (Nat.le_of_ble_eq_true rfl) (Nat.le_of_ble_eq_true rfl) rfl rfl (sk_11 hS) (aw_iload_n (pc' := 1) (dt_X10_saleAt 0 (0, .iload_n 1, 1) rfl) rfl rfl (aw_iconst (pc' := 2) (v := 0) (dt_X10_saleAt 1 (1, .iconst 0, 1) rfl) (by decide) rfl (aw_aload_n (pc' := 3) (dt_X10_saleAt 2 (2, .aload_n 0, 1) rfl) rfl rfl (aw_getI (pc' := 6) (dt_X10_saleAt 3 (3, .getfield 131, 3) rfl) fl_ReturnDesk_131 rfl rfl (sk_11 hS) (aw_iconst (pc' := 7) (v := 1) (dt_X10_saleAt 4 (6, .iconst 1, 1) rfl) (by decide) rfl (aw_isub (pc' := 8) (dt_X10_saleAt 5 (7, .isub, 1) rfl) rfl (aw_inS (pc' := 11) (nc1 := 0) (ns1 := 0) (nc := 0) (ns := 0) (ls' := [some (.int x1), some (.int 0), some (.int ((zI μ 11 14) - 1))]) (y2 := mX10_within) (As := [.int x1, .int 0, .int ((zI μ 11 14) - 1)]) (rest := []) (dt_X10_saleAt 6 (8, .invokestatic 76, 3) rfl) ok_X10_within ln_ReturnDesk_76 sm_X10_within pr_X10_within rfl (Nat.le_of_ble_eq_true rfl) (Nat.le_of_ble_eq_true rfl) rfl rfl (aw_iload_n (pc' := 1) (dt_X10_within 0 (0, .iload_n 0, 1) rfl) rfl rfl (aw_iload_n (pc' := 2) (dt_X10_within 1 (1, .iload_n 1, 1) rfl) rfl rfl (aw_icmp_lt (pc' := 5) (tgt := 14) (dt_X10_within 2 (2, .if_icmp .lt 12, 3) rfl) (by decide) rfl ?_ ?_))))))))))))
  · intro q1
    have h := h.1 q1
    refine aw_iconst (pc' := 15) (v := 0) (dt_X10_within 8 (14, .iconst 0, 1) rfl) (by decide) rfl (aw_iret (dt_X10_within 9 (15, .ireturn, 1) rfl) rfl rfl (aw_stk (st' := [.int 0]) rfl (aw_if_eq_T (pc' := 14) (tgt := 23) (dt_X10_saleAt 7 (11, .ifCond .eq 12, 3) rfl) (by decide) rfl (by decide) (aw_null (pc' := 24) (dt_X10_saleAt 13 (23, .aconst_null, 1) rfl) rfl (aw_aretN (dt_X10_saleAt 14 (24, .areturn, 1) rfl) rfl rfl (aw_stk (st' := [.null]) rfl (aw_astoreN (pc' := 7) (ls' := [some (.ref 11), some (.int x1), some (.int x2), some (.int x3), some (.int x4), some (.int x5), some (.int x6), some (.null)]) (dt_X10_ask 3 (5, .astore 7, 2) rfl) (by decide) rfl rfl (aw_aloadN (pc' := 9) (dt_X10_ask 4 (7, .aload 7, 2) rfl) rfl rfl (aw_ifnullN (tgt := 36) (dt_X10_ask 5 (9, .ifnull 27, 3) rfl) (by decide) (aw_iconst (pc' := 37) (v := (-1)) (dt_X10_ask 17 (36, .iconst (-1), 1) rfl) (by decide) rfl (aw_iret (dt_X10_ask 18 (37, .ireturn, 1) rfl) rfl rfl ?_)))))))))))
    exact h
  · intro q1
    have h := h.2 q1
    refine aw_iload_n (pc' := 6) (dt_X10_within 3 (5, .iload_n 0, 1) rfl) rfl rfl (aw_iload_n (pc' := 7) (dt_X10_within 4 (6, .iload_n 2, 1) rfl) rfl rfl (aw_icmp_gt (pc' := 10) (tgt := 14) (dt_X10_within 5 (7, .if_icmp .gt 7, 3) rfl) (by decide) rfl ?_ ?_))
    · intro q2
      have h := h.1 q2
      refine aw_iconst (pc' := 15) (v := 0) (dt_X10_within 8 (14, .iconst 0, 1) rfl) (by decide) rfl (aw_iret (dt_X10_within 9 (15, .ireturn, 1) rfl) rfl rfl (aw_stk (st' := [.int 0]) rfl (aw_if_eq_T (pc' := 14) (tgt := 23) (dt_X10_saleAt 7 (11, .ifCond .eq 12, 3) rfl) (by decide) rfl (by decide) (aw_null (pc' := 24) (dt_X10_saleAt 13 (23, .aconst_null, 1) rfl) rfl (aw_aretN (dt_X10_saleAt 14 (24, .areturn, 1) rfl) rfl rfl (aw_stk (st' := [.null]) rfl (aw_astoreN (pc' := 7) (ls' := [some (.ref 11), some (.int x1), some (.int x2), some (.int x3), some (.int x4), some (.int x5), some (.int x6), some (.null)]) (dt_X10_ask 3 (5, .astore 7, 2) rfl) (by decide) rfl rfl (aw_aloadN (pc' := 9) (dt_X10_ask 4 (7, .aload 7, 2) rfl) rfl rfl (aw_ifnullN (tgt := 36) (dt_X10_ask 5 (9, .ifnull 27, 3) rfl) (by decide) (aw_iconst (pc' := 37) (v := (-1)) (dt_X10_ask 17 (36, .iconst (-1), 1) rfl) (by decide) rfl (aw_iret (dt_X10_ask 18 (37, .ireturn, 1) rfl) rfl rfl ?_)))))))))))
      exact h
    · intro q2
      have h := h.2 q2
      obtain ⟨g3, h⟩ := h
      refine aw_iconst (pc' := 11) (v := 1) (dt_X10_within 6 (10, .iconst 1, 1) rfl) (by decide) rfl (aw_goto (tgt := 15) (dt_X10_within 7 (11, .goto 4, 3) rfl) (by decide) (aw_iret (dt_X10_within 9 (15, .ireturn, 1) rfl) rfl rfl (aw_stk (st' := [.int 1]) rfl (aw_if_eq_F (pc' := 14) (tgt := 23) (dt_X10_saleAt 7 (11, .ifCond .eq 12, 3) rfl) (by decide) rfl (by decide) (aw_aload_n (pc' := 15) (dt_X10_saleAt 8 (14, .aload_n 0, 1) rfl) rfl rfl (aw_getAs (pc' := 18) (dt_X10_saleAt 9 (15, .getfield 23, 3) rfl) fl_ReturnDesk_23 rfl rfl (sk_11 hS) (sa_11_2 hS) (aw_iload_n (pc' := 19) (dt_X10_saleAt 10 (18, .iload_n 1, 1) rfl) rfl rfl (aw_aald (pc' := 20) (dt_X10_saleAt 11 (19, .aaload, 1) rfl) (by decide) (by decide) rfl (sk_14 hS) (vin_eq (sl_14 hS) g3) ?_ ?_))))))))
      · intro e4
        have h := h.1 e4
        refine aw_goto (tgt := 24) (dt_X10_saleAt 12 (20, .goto 4, 3) rfl) (by decide) (aw_aretN (dt_X10_saleAt 14 (24, .areturn, 1) rfl) rfl rfl (aw_stk (st' := [.null]) rfl (aw_astoreN (pc' := 7) (ls' := [some (.ref 11), some (.int x1), some (.int x2), some (.int x3), some (.int x4), some (.int x5), some (.int x6), some (.null)]) (dt_X10_ask 3 (5, .astore 7, 2) rfl) (by decide) rfl rfl (aw_aloadN (pc' := 9) (dt_X10_ask 4 (7, .aload 7, 2) rfl) rfl rfl (aw_ifnullN (tgt := 36) (dt_X10_ask 5 (9, .ifnull 27, 3) rfl) (by decide) (aw_iconst (pc' := 37) (v := (-1)) (dt_X10_ask 17 (36, .iconst (-1), 1) rfl) (by decide) rfl (aw_iret (dt_X10_ask 18 (37, .ireturn, 1) rfl) rfl rfl ?_)))))))
        exact h
      · intro b5 e4
        have h := h.2 b5 e4
        refine aw_goto (tgt := 24) (dt_X10_saleAt 12 (20, .goto 4, 3) rfl) (by decide) (aw_aret (dt_X10_saleAt 14 (24, .areturn, 1) rfl) rfl rfl (aw_stk (st' := [.ref b5]) rfl (aw_astore (pc' := 7) (ls' := [some (.ref 11), some (.int x1), some (.int x2), some (.int x3), some (.int x4), some (.int x5), some (.int x6), some (.ref b5)]) (dt_X10_ask 3 (5, .astore 7, 2) rfl) (by decide) rfl rfl (aw_aload (pc' := 9) (dt_X10_ask 4 (7, .aload 7, 2) rfl) rfl rfl (aw_ifnull (pc' := 12) (dt_X10_ask 5 (9, .ifnull 27, 3) rfl) rfl (aw_iload_n (pc' := 13) (dt_X10_ask 6 (12, .iload_n 2, 1) rfl) rfl rfl (aw_iconst (pc' := 14) (v := 0) (dt_X10_ask 7 (13, .iconst 0, 1) rfl) (by decide) rfl (aw_iconst (pc' := 15) (v := 2) (dt_X10_ask 8 (14, .iconst 2, 1) rfl) (by decide) rfl (aw_inS (pc' := 18) (nc1 := 0) (ns1 := 0) (nc := (nc + 1)) (ns := (ns + 16)) (ls' := [some (.int x2), some (.int 0), some (.int 2)]) (y2 := mX10_within) (As := [.int x2, .int 0, .int 2]) (rest := []) (dt_X10_ask 9 (15, .invokestatic 76, 3) rfl) ok_X10_within ln_ReturnDesk_76 sm_X10_within pr_X10_within rfl (Nat.le_of_ble_eq_true rfl) (Nat.le_of_ble_eq_true rfl) rfl rfl (aw_iload_n (pc' := 1) (dt_X10_within 0 (0, .iload_n 0, 1) rfl) rfl rfl (aw_iload_n (pc' := 2) (dt_X10_within 1 (1, .iload_n 1, 1) rfl) rfl rfl (aw_icmp_lt (pc' := 5) (tgt := 14) (dt_X10_within 2 (2, .if_icmp .lt 12, 3) rfl) (by decide) rfl ?_ ?_))))))))))))
        · intro q6
          have h := h.1 q6
          refine aw_iconst (pc' := 15) (v := 0) (dt_X10_within 8 (14, .iconst 0, 1) rfl) (by decide) rfl (aw_iret (dt_X10_within 9 (15, .ireturn, 1) rfl) rfl rfl (aw_stk (st' := [.int 0]) rfl (aw_if_eq_T (pc' := 21) (tgt := 36) (dt_X10_ask 10 (18, .ifCond .eq 18, 3) rfl) (by decide) rfl (by decide) (aw_iconst (pc' := 37) (v := (-1)) (dt_X10_ask 17 (36, .iconst (-1), 1) rfl) (by decide) rfl (aw_iret (dt_X10_ask 18 (37, .ireturn, 1) rfl) rfl rfl ?_)))))
          exact h
        · intro q6
          have h := h.2 q6
          refine aw_iload_n (pc' := 6) (dt_X10_within 3 (5, .iload_n 0, 1) rfl) rfl rfl (aw_iload_n (pc' := 7) (dt_X10_within 4 (6, .iload_n 2, 1) rfl) rfl rfl (aw_icmp_gt (pc' := 10) (tgt := 14) (dt_X10_within 5 (7, .if_icmp .gt 7, 3) rfl) (by decide) rfl ?_ ?_))
          · intro q7
            have h := h.1 q7
            refine aw_iconst (pc' := 15) (v := 0) (dt_X10_within 8 (14, .iconst 0, 1) rfl) (by decide) rfl (aw_iret (dt_X10_within 9 (15, .ireturn, 1) rfl) rfl rfl (aw_stk (st' := [.int 0]) rfl (aw_if_eq_T (pc' := 21) (tgt := 36) (dt_X10_ask 10 (18, .ifCond .eq 18, 3) rfl) (by decide) rfl (by decide) (aw_iconst (pc' := 37) (v := (-1)) (dt_X10_ask 17 (36, .iconst (-1), 1) rfl) (by decide) rfl (aw_iret (dt_X10_ask 18 (37, .ireturn, 1) rfl) rfl rfl ?_)))))
            exact h
          · intro q7
            have h := h.2 q7
            refine aw_iconst (pc' := 11) (v := 1) (dt_X10_within 6 (10, .iconst 1, 1) rfl) (by decide) rfl (aw_goto (tgt := 15) (dt_X10_within 7 (11, .goto 4, 3) rfl) (by decide) (aw_iret (dt_X10_within 9 (15, .ireturn, 1) rfl) rfl rfl (aw_stk (st' := [.int 1]) rfl (aw_if_eq_F (pc' := 21) (tgt := 36) (dt_X10_ask 10 (18, .ifCond .eq 18, 3) rfl) (by decide) rfl (by decide) (aw_iload_n (pc' := 22) (dt_X10_ask 11 (21, .iload_n 3, 1) rfl) rfl rfl (aw_inS (pc' := 25) (nc1 := 0) (ns1 := 0) (nc := (nc + 1)) (ns := (ns + 16)) (ls' := [some (.int x3), none, none]) (y2 := mX10_areDays) (As := [.int x3]) (rest := []) (dt_X10_ask 12 (22, .invokestatic 241, 3) rfl) ok_X10_areDays ln_ReturnDesk_241 sm_X10_areDays pr_X10_areDays rfl (Nat.le_of_ble_eq_true rfl) (Nat.le_of_ble_eq_true rfl) rfl rfl (aw_iload_n (pc' := 1) (dt_X10_areDays 0 (0, .iload_n 0, 1) rfl) rfl rfl (aw_iconst (pc' := 2) (v := 0) (dt_X10_areDays 1 (1, .iconst 0, 1) rfl) (by decide) rfl (aw_ldc (pc' := 4) (dt_X10_areDays 2 (2, .ldc 117, 2) rfl) ct_ReturnDesk_117 rfl (aw_inS (pc' := 7) (nc1 := 0) (ns1 := 0) (nc := 0) (ns := 0) (ls' := [some (.int x3), some (.int 0), some (.int 999999)]) (y2 := mX10_within) (As := [.int x3, .int 0, .int 999999]) (rest := []) (dt_X10_areDays 3 (4, .invokestatic 76, 3) rfl) ok_X10_within ln_ReturnDesk_76 sm_X10_within pr_X10_within rfl (Nat.le_of_ble_eq_true rfl) (Nat.le_of_ble_eq_true rfl) rfl rfl (aw_iload_n (pc' := 1) (dt_X10_within 0 (0, .iload_n 0, 1) rfl) rfl rfl (aw_iload_n (pc' := 2) (dt_X10_within 1 (1, .iload_n 1, 1) rfl) rfl rfl (aw_icmp_lt (pc' := 5) (tgt := 14) (dt_X10_within 2 (2, .if_icmp .lt 12, 3) rfl) (by decide) rfl ?_ ?_)))))))))))))
            · intro q8
              have h := h.1 q8
              refine aw_iconst (pc' := 15) (v := 0) (dt_X10_within 8 (14, .iconst 0, 1) rfl) (by decide) rfl (aw_iret (dt_X10_within 9 (15, .ireturn, 1) rfl) rfl rfl (aw_stk (st' := [.int 0]) rfl (aw_if_ne_F (pc' := 10) (tgt := 12) (dt_X10_areDays 4 (7, .ifCond .ne 5, 3) rfl) (by decide) rfl (by decide) (aw_iconst (pc' := 11) (v := 0) (dt_X10_areDays 5 (10, .iconst 0, 1) rfl) (by decide) rfl (aw_iret (dt_X10_areDays 6 (11, .ireturn, 1) rfl) rfl rfl (aw_stk (st' := [.int 0]) rfl (aw_if_eq_T (pc' := 28) (tgt := 36) (dt_X10_ask 13 (25, .ifCond .eq 11, 3) rfl) (by decide) rfl (by decide) (aw_iconst (pc' := 37) (v := (-1)) (dt_X10_ask 17 (36, .iconst (-1), 1) rfl) (by decide) rfl (aw_iret (dt_X10_ask 18 (37, .ireturn, 1) rfl) rfl rfl ?_)))))))))
              exact h
            · intro q8
              have h := h.2 q8
              refine aw_iload_n (pc' := 6) (dt_X10_within 3 (5, .iload_n 0, 1) rfl) rfl rfl (aw_iload_n (pc' := 7) (dt_X10_within 4 (6, .iload_n 2, 1) rfl) rfl rfl (aw_icmp_gt (pc' := 10) (tgt := 14) (dt_X10_within 5 (7, .if_icmp .gt 7, 3) rfl) (by decide) rfl ?_ ?_))
              · intro q9
                have h := h.1 q9
                refine aw_iconst (pc' := 15) (v := 0) (dt_X10_within 8 (14, .iconst 0, 1) rfl) (by decide) rfl (aw_iret (dt_X10_within 9 (15, .ireturn, 1) rfl) rfl rfl (aw_stk (st' := [.int 0]) rfl (aw_if_ne_F (pc' := 10) (tgt := 12) (dt_X10_areDays 4 (7, .ifCond .ne 5, 3) rfl) (by decide) rfl (by decide) (aw_iconst (pc' := 11) (v := 0) (dt_X10_areDays 5 (10, .iconst 0, 1) rfl) (by decide) rfl (aw_iret (dt_X10_areDays 6 (11, .ireturn, 1) rfl) rfl rfl (aw_stk (st' := [.int 0]) rfl (aw_if_eq_T (pc' := 28) (tgt := 36) (dt_X10_ask 13 (25, .ifCond .eq 11, 3) rfl) (by decide) rfl (by decide) (aw_iconst (pc' := 37) (v := (-1)) (dt_X10_ask 17 (36, .iconst (-1), 1) rfl) (by decide) rfl (aw_iret (dt_X10_ask 18 (37, .ireturn, 1) rfl) rfl rfl ?_)))))))))
                exact h
              · intro q9
                have h := h.2 q9
                refine aw_iconst (pc' := 11) (v := 1) (dt_X10_within 6 (10, .iconst 1, 1) rfl) (by decide) rfl (aw_goto (tgt := 15) (dt_X10_within 7 (11, .goto 4, 3) rfl) (by decide) (aw_iret (dt_X10_within 9 (15, .ireturn, 1) rfl) rfl rfl (aw_stk (st' := [.int 1]) rfl (aw_if_ne_T (pc' := 10) (tgt := 12) (dt_X10_areDays 4 (7, .ifCond .ne 5, 3) rfl) (by decide) rfl (by decide) (aw_iload_n (pc' := 13) (dt_X10_areDays 7 (12, .iload_n 0, 1) rfl) rfl rfl (aw_sipush (pc' := 16) (v := 1000) (dt_X10_areDays 8 (13, .sipush 1000, 3) rfl) (by decide) rfl (aw_idiv (pc' := 17) (dt_X10_areDays 9 (16, .idiv, 1) rfl) (by decide) rfl (aw_istore_n (pc' := 18) (ls' := [some (.int x3), some (.int (x3 / 1000)), none]) (dt_X10_areDays 10 (17, .istore_n 1, 1) rfl) (by decide) rfl rfl (aw_iload_n (pc' := 19) (dt_X10_areDays 11 (18, .iload_n 0, 1) rfl) rfl rfl (aw_sipush (pc' := 22) (v := 1000) (dt_X10_areDays 12 (19, .sipush 1000, 3) rfl) (by decide) rfl (aw_irem (pc' := 23) (dt_X10_areDays 13 (22, .irem, 1) rfl) (by decide) rfl (aw_istore_n (pc' := 24) (ls' := [some (.int x3), some (.int (x3 / 1000)), some (.int (x3 - x3 / 1000 * 1000))]) (dt_X10_areDays 14 (23, .istore_n 2, 1) rfl) (by decide) rfl rfl (aw_iload_n (pc' := 25) (dt_X10_areDays 15 (24, .iload_n 1, 1) rfl) rfl rfl (aw_iload_n (pc' := 26) (dt_X10_areDays 16 (25, .iload_n 2, 1) rfl) rfl rfl (aw_icmp_gt (pc' := 29) (tgt := 41) (dt_X10_areDays 17 (26, .if_icmp .gt 15, 3) rfl) (by decide) rfl ?_ ?_)))))))))))))))
                · intro q10
                  have h := h.1 q10
                  refine aw_iconst (pc' := 42) (v := 0) (dt_X10_areDays 25 (41, .iconst 0, 1) rfl) (by decide) rfl (aw_iret (dt_X10_areDays 26 (42, .ireturn, 1) rfl) rfl rfl (aw_stk (st' := [.int 0]) rfl (aw_if_eq_T (pc' := 28) (tgt := 36) (dt_X10_ask 13 (25, .ifCond .eq 11, 3) rfl) (by decide) rfl (by decide) (aw_iconst (pc' := 37) (v := (-1)) (dt_X10_ask 17 (36, .iconst (-1), 1) rfl) (by decide) rfl (aw_iret (dt_X10_ask 18 (37, .ireturn, 1) rfl) rfl rfl ?_)))))
                  exact h
                · intro q10
                  have h := h.2 q10
                  refine aw_iload_n (pc' := 30) (dt_X10_areDays 18 (29, .iload_n 2, 1) rfl) rfl rfl (aw_iload_n (pc' := 31) (dt_X10_areDays 19 (30, .iload_n 1, 1) rfl) rfl rfl (aw_isub (pc' := 32) (dt_X10_areDays 20 (31, .isub, 1) rfl) rfl (aw_bipush (pc' := 34) (v := 60) (dt_X10_areDays 21 (32, .bipush 60, 2) rfl) (by decide) rfl (aw_icmp_gt (pc' := 37) (tgt := 41) (dt_X10_areDays 22 (34, .if_icmp .gt 7, 3) rfl) (by decide) rfl ?_ ?_))))
                  · intro q11
                    have h := h.1 q11
                    refine aw_iconst (pc' := 42) (v := 0) (dt_X10_areDays 25 (41, .iconst 0, 1) rfl) (by decide) rfl (aw_iret (dt_X10_areDays 26 (42, .ireturn, 1) rfl) rfl rfl (aw_stk (st' := [.int 0]) rfl (aw_if_eq_T (pc' := 28) (tgt := 36) (dt_X10_ask 13 (25, .ifCond .eq 11, 3) rfl) (by decide) rfl (by decide) (aw_iconst (pc' := 37) (v := (-1)) (dt_X10_ask 17 (36, .iconst (-1), 1) rfl) (by decide) rfl (aw_iret (dt_X10_ask 18 (37, .ireturn, 1) rfl) rfl rfl ?_)))))
                    exact h
                  · intro q11
                    have h := h.2 q11
                    refine aw_iconst (pc' := 38) (v := 1) (dt_X10_areDays 23 (37, .iconst 1, 1) rfl) (by decide) rfl (aw_goto (tgt := 42) (dt_X10_areDays 24 (38, .goto 4, 3) rfl) (by decide) (aw_iret (dt_X10_areDays 26 (42, .ireturn, 1) rfl) rfl rfl (aw_stk (st' := [.int 1]) rfl (aw_if_eq_F (pc' := 28) (tgt := 36) (dt_X10_ask 13 (25, .ifCond .eq 11, 3) rfl) (by decide) rfl (by decide) (aw_iload (pc' := 30) (dt_X10_ask 14 (28, .iload 4, 2) rfl) rfl rfl (aw_callS0 (pc' := 33) (nc := (nc + 1)) (ns := (ns + 16)) (y2 := mX10_areFacts) (As := [.int x4]) (rest := []) (dt_X10_ask 15 (30, .invokestatic 244, 3) rfl) ok_X10_areFacts ln_ReturnDesk_244 sm_X10_areFacts pr_X10_areFacts rfl (Nat.le_of_ble_eq_true rfl) (Nat.le_of_ble_eq_true rfl) rfl  h ?_))))))
                    rintro v μ12 ⟨r14, rfl, hS13, h⟩
                    refine aw_stk (st' := [.int r14]) rfl ?_
                    refine aw_if_ne (pc' := 36) (tgt := 38) (dt_X10_ask 16 (33, .ifCond .ne 5, 3) rfl) (by decide) rfl ?_ ?_
                    · intro q15
                      have h := h.1 q15
                      refine aw_iload (pc' := 40) (dt_X10_ask 19 (38, .iload 5, 2) rfl) rfl rfl (aw_iconst (pc' := 41) (v := 1) (dt_X10_ask 20 (40, .iconst 1, 1) rfl) (by decide) rfl (aw_ldc (pc' := 43) (dt_X10_ask 21 (41, .ldc 117, 2) rfl) ct_ReturnDesk_117 rfl (aw_inS (pc' := 46) (nc1 := 0) (ns1 := 0) (nc := (nc + 1)) (ns := (ns + 16)) (ls' := [some (.int x5), some (.int 1), some (.int 999999)]) (y2 := mX10_within) (As := [.int x5, .int 1, .int 999999]) (rest := []) (dt_X10_ask 22 (43, .invokestatic 76, 3) rfl) ok_X10_within ln_ReturnDesk_76 sm_X10_within pr_X10_within rfl (Nat.le_of_ble_eq_true rfl) (Nat.le_of_ble_eq_true rfl) rfl rfl (aw_iload_n (pc' := 1) (dt_X10_within 0 (0, .iload_n 0, 1) rfl) rfl rfl (aw_iload_n (pc' := 2) (dt_X10_within 1 (1, .iload_n 1, 1) rfl) rfl rfl (aw_icmp_lt (pc' := 5) (tgt := 14) (dt_X10_within 2 (2, .if_icmp .lt 12, 3) rfl) (by decide) rfl ?_ ?_))))))
                      · intro q16
                        have h := h.1 q16
                        refine aw_iconst (pc' := 15) (v := 0) (dt_X10_within 8 (14, .iconst 0, 1) rfl) (by decide) rfl (aw_iret (dt_X10_within 9 (15, .ireturn, 1) rfl) rfl rfl (aw_stk (st' := [.int 0]) rfl (aw_if_eq_T (pc' := 49) (tgt := 60) (dt_X10_ask 23 (46, .ifCond .eq 14, 3) rfl) (by decide) rfl (by decide) (aw_iconst (pc' := 61) (v := (-1)) (dt_X10_ask 29 (60, .iconst (-1), 1) rfl) (by decide) rfl (aw_iret (dt_X10_ask 30 (61, .ireturn, 1) rfl) rfl rfl ?_)))))
                        exact h
                      · intro q16
                        have h := h.2 q16
                        refine aw_iload_n (pc' := 6) (dt_X10_within 3 (5, .iload_n 0, 1) rfl) rfl rfl (aw_iload_n (pc' := 7) (dt_X10_within 4 (6, .iload_n 2, 1) rfl) rfl rfl (aw_icmp_gt (pc' := 10) (tgt := 14) (dt_X10_within 5 (7, .if_icmp .gt 7, 3) rfl) (by decide) rfl ?_ ?_))
                        · intro q17
                          have h := h.1 q17
                          refine aw_iconst (pc' := 15) (v := 0) (dt_X10_within 8 (14, .iconst 0, 1) rfl) (by decide) rfl (aw_iret (dt_X10_within 9 (15, .ireturn, 1) rfl) rfl rfl (aw_stk (st' := [.int 0]) rfl (aw_if_eq_T (pc' := 49) (tgt := 60) (dt_X10_ask 23 (46, .ifCond .eq 14, 3) rfl) (by decide) rfl (by decide) (aw_iconst (pc' := 61) (v := (-1)) (dt_X10_ask 29 (60, .iconst (-1), 1) rfl) (by decide) rfl (aw_iret (dt_X10_ask 30 (61, .ireturn, 1) rfl) rfl rfl ?_)))))
                          exact h
                        · intro q17
                          have h := h.2 q17
                          refine aw_iconst (pc' := 11) (v := 1) (dt_X10_within 6 (10, .iconst 1, 1) rfl) (by decide) rfl (aw_goto (tgt := 15) (dt_X10_within 7 (11, .goto 4, 3) rfl) (by decide) (aw_iret (dt_X10_within 9 (15, .ireturn, 1) rfl) rfl rfl (aw_stk (st' := [.int 1]) rfl (aw_if_eq_F (pc' := 49) (tgt := 60) (dt_X10_ask 23 (46, .ifCond .eq 14, 3) rfl) (by decide) rfl (by decide) (aw_iload (pc' := 51) (dt_X10_ask 24 (49, .iload 6, 2) rfl) rfl rfl (aw_iconst (pc' := 52) (v := 0) (dt_X10_ask 25 (51, .iconst 0, 1) rfl) (by decide) rfl (aw_ldc (pc' := 54) (dt_X10_ask 26 (52, .ldc 247, 2) rfl) ct_ReturnDesk_247 rfl (aw_inS (pc' := 57) (nc1 := 0) (ns1 := 0) (nc := (nc + 1)) (ns := (ns + 16)) (ls' := [some (.int x6), some (.int 0), some (.int 199999)]) (y2 := mX10_within) (As := [.int x6, .int 0, .int 199999]) (rest := []) (dt_X10_ask 27 (54, .invokestatic 76, 3) rfl) ok_X10_within ln_ReturnDesk_76 sm_X10_within pr_X10_within rfl (Nat.le_of_ble_eq_true rfl) (Nat.le_of_ble_eq_true rfl) rfl rfl (aw_iload_n (pc' := 1) (dt_X10_within 0 (0, .iload_n 0, 1) rfl) rfl rfl (aw_iload_n (pc' := 2) (dt_X10_within 1 (1, .iload_n 1, 1) rfl) rfl rfl (aw_icmp_lt (pc' := 5) (tgt := 14) (dt_X10_within 2 (2, .if_icmp .lt 12, 3) rfl) (by decide) rfl ?_ ?_)))))))))))
                          · intro q18
                            have h := h.1 q18
                            refine aw_iconst (pc' := 15) (v := 0) (dt_X10_within 8 (14, .iconst 0, 1) rfl) (by decide) rfl (aw_iret (dt_X10_within 9 (15, .ireturn, 1) rfl) rfl rfl (aw_stk (st' := [.int 0]) rfl (aw_if_ne_F (pc' := 60) (tgt := 62) (dt_X10_ask 28 (57, .ifCond .ne 5, 3) rfl) (by decide) rfl (by decide) (aw_iconst (pc' := 61) (v := (-1)) (dt_X10_ask 29 (60, .iconst (-1), 1) rfl) (by decide) rfl (aw_iret (dt_X10_ask 30 (61, .ireturn, 1) rfl) rfl rfl ?_)))))
                            exact h
                          · intro q18
                            have h := h.2 q18
                            refine aw_iload_n (pc' := 6) (dt_X10_within 3 (5, .iload_n 0, 1) rfl) rfl rfl (aw_iload_n (pc' := 7) (dt_X10_within 4 (6, .iload_n 2, 1) rfl) rfl rfl (aw_icmp_gt (pc' := 10) (tgt := 14) (dt_X10_within 5 (7, .if_icmp .gt 7, 3) rfl) (by decide) rfl ?_ ?_))
                            · intro q19
                              have h := h.1 q19
                              refine aw_iconst (pc' := 15) (v := 0) (dt_X10_within 8 (14, .iconst 0, 1) rfl) (by decide) rfl (aw_iret (dt_X10_within 9 (15, .ireturn, 1) rfl) rfl rfl (aw_stk (st' := [.int 0]) rfl (aw_if_ne_F (pc' := 60) (tgt := 62) (dt_X10_ask 28 (57, .ifCond .ne 5, 3) rfl) (by decide) rfl (by decide) (aw_iconst (pc' := 61) (v := (-1)) (dt_X10_ask 29 (60, .iconst (-1), 1) rfl) (by decide) rfl (aw_iret (dt_X10_ask 30 (61, .ireturn, 1) rfl) rfl rfl ?_)))))
                              exact h
                            · intro q19
                              have h := h.2 q19
                              obtain ⟨g20, h⟩ := h
                              refine aw_iconst (pc' := 11) (v := 1) (dt_X10_within 6 (10, .iconst 1, 1) rfl) (by decide) rfl (aw_goto (tgt := 15) (dt_X10_within 7 (11, .goto 4, 3) rfl) (by decide) (aw_iret (dt_X10_within 9 (15, .ireturn, 1) rfl) rfl rfl (aw_stk (st' := [.int 1]) rfl (aw_if_ne_T (pc' := 60) (tgt := 62) (dt_X10_ask 28 (57, .ifCond .ne 5, 3) rfl) (by decide) rfl (by decide) (aw_aload (pc' := 64) (dt_X10_ask 31 (62, .aload 7, 2) rfl) rfl rfl (aw_getI (pc' := 67) (dt_X10_ask 32 (64, .getfield 160, 3) rfl) fl_ReturnDesk_160 rfl rfl g20 (aw_if_eq (pc' := 70) (tgt := 73) (dt_X10_ask 33 (67, .ifCond .eq 6, 3) rfl) (by decide) rfl ?_ ?_)))))))
                              · intro q21
                                have h := h.1 q21
                                refine aw_aload_n (pc' := 74) (dt_X10_ask 36 (73, .aload_n 0, 1) rfl) rfl rfl (aw_getI (pc' := 77) (dt_X10_ask 37 (74, .getfield 248, 3) rfl) fl_ReturnDesk_248 rfl rfl (sk_11 hS13) (aw_aload_n (pc' := 78) (dt_X10_ask 38 (77, .aload_n 0, 1) rfl) rfl rfl (aw_getAs (pc' := 81) (dt_X10_ask 39 (78, .getfield 29, 3) rfl) fl_ReturnDesk_29 rfl rfl (sk_11 hS13) (sa_11_3 hS13) (aw_alens (pc' := 82) (n := 200) (v := 200) (dt_X10_ask 40 (81, .arraylength, 1) rfl) (by decide) (by decide) rfl (sk_15 hS13) (sl_15 hS13) (by decide) (aw_icmp_lt (pc' := 85) (tgt := 88) (dt_X10_ask 41 (82, .if_icmp .lt 6, 3) rfl) (by decide) rfl ?_ ?_)))))
                                · intro q22
                                  have h := h.1 q22
                                  refine aw_aload_n (pc' := 89) (dt_X10_ask 44 (88, .aload_n 0, 1) rfl) rfl rfl (aw_getAs (pc' := 92) (dt_X10_ask 45 (89, .getfield 29, 3) rfl) fl_ReturnDesk_29 rfl rfl (sk_11 hS13) (sa_11_3 hS13) (aw_aload_n (pc' := 93) (dt_X10_ask 46 (92, .aload_n 0, 1) rfl) rfl rfl (aw_getI (pc' := 96) (dt_X10_ask 47 (93, .getfield 248, 3) rfl) fl_ReturnDesk_248 rfl rfl (sk_11 hS13) (aw_new (pc' := 99) (ci := 0) (n := 16) (dt_X10_ask 48 (96, .new 27, 3) rfl) (by decide) rfl cn_ReturnDesk_27 ci_0 cj_0 rfl (aw_dup (pc' := 100) (dt_X10_ask 49 (99, .dup, 1) rfl) rfl rfl (aw_aload (pc' := 102) (dt_X10_ask 50 (100, .aload 7, 2) rfl) rfl rfl (aw_iload_n (pc' := 103) (dt_X10_ask 51 (102, .iload_n 2, 1) rfl) rfl rfl (aw_aload_n (pc' := 104) (dt_X10_ask 52 (103, .aload_n 0, 1) rfl) rfl rfl (aw_inV (pc' := 107) (nc1 := 0) (ns1 := 0) (nc := nc) (ns := ns) (ls' := [some (.ref 11)]) (y2 := mX10_today) (As := []) (rest := [.int x2, .ref b5, .ref (zN μ12), .ref (zN μ12), .int (zI μ12 11 15), .ref 15]) (a := 11) (dt_X10_ask 53 (104, .invokevirtual 138, 3) rfl) ok_X10_today ln_ReturnDesk_138 im_X10_today se_X10_today pr_X10_today (Or.inl ⟨by decide, rfl⟩) rfl (Nat.le_of_ble_eq_true rfl) (Nat.le_of_ble_eq_true rfl) rfl rfl (sk_11 hS13.wNew) (aw_aload_n (pc' := 1) (dt_X10_today 0 (0, .aload_n 0, 1) rfl) rfl rfl (aw_getI (pc' := 4) (dt_X10_today 1 (1, .getfield 114, 3) rfl) fl_ReturnDesk_114 rfl rfl (sk_11 hS13.wNew) (aw_bipush (pc' := 6) (v := 24) (dt_X10_today 2 (4, .bipush 24, 2) rfl) (by decide) rfl (aw_idiv (pc' := 7) (dt_X10_today 3 (6, .idiv, 1) rfl) (by decide) rfl (aw_iret (dt_X10_today 4 (7, .ireturn, 1) rfl) rfl rfl (aw_stk (st' := [.int ((zI (sNew μ12 0 0) 11 17) / 24), .int x2, .ref b5, .ref (zN μ12), .ref (zN μ12), .int (zI μ12 11 15), .ref 15]) rfl (aw_iload_n (pc' := 108) (dt_X10_ask 54 (107, .iload_n 3, 1) rfl) rfl rfl (aw_iload (pc' := 110) (dt_X10_ask 55 (108, .iload 4, 2) rfl) rfl rfl (aw_iload (pc' := 112) (dt_X10_ask 56 (110, .iload 5, 2) rfl) rfl rfl (aw_iload (pc' := 114) (dt_X10_ask 57 (112, .iload 6, 2) rfl) rfl rfl (aw_callI0 (pc' := 117) (nc := nc) (ns := ns) (y2 := mX0_init) (As := [.ref b5, .int x2, .int ((zI (sNew μ12 0 0) 11 17) / 24), .int x3, .int x4, .int x5, .int x6]) (rest := [.ref (zN μ12), .int (zI μ12 11 15), .ref 15]) (a := (zN μ12)) (dt_X10_ask 58 (114, .invokespecial 251, 3) rfl) ok_X0_init rfl rfl ln_ReturnDesk_251 im_X0_init pr_X0_init rfl (Nat.le_of_ble_eq_true rfl) (Nat.le_of_ble_eq_true rfl) rfl  h ?_))))))))))))))))))))
                                  rintro v μ23 ⟨rfl, hS24, h⟩
                                  refine aw_stk (st' := [.ref (zN μ12), .int (zI μ12 11 15), .ref 15]) rfl ?_
                                  obtain ⟨g25, h⟩ := h
                                  obtain ⟨g26, h⟩ := h
                                  obtain ⟨g27, h⟩ := h
                                  refine aw_aast (pc' := 118) (ci := 0) (dt_X10_ask 59 (117, .aastore, 1) rfl) (by decide) (by decide) (by decide) rfl rfl (sk_15 hS24) (by decide) g25 (vin_eq (sl_15 hS24) g26) (aw_aload_n (pc' := 119) (dt_X10_ask 60 (118, .aload_n 0, 1) rfl) rfl rfl (aw_dup (pc' := 120) (dt_X10_ask 61 (119, .dup, 1) rfl) rfl rfl (aw_getI (pc' := 123) (dt_X10_ask 62 (120, .getfield 248, 3) rfl) fl_ReturnDesk_248 rfl rfl (sk_11 (hS24.wAr (by decide))) (aw_iconst (pc' := 124) (v := 1) (dt_X10_ask 63 (123, .iconst 1, 1) rfl) (by decide) rfl (aw_iadd (pc' := 125) (dt_X10_ask 64 (124, .iadd, 1) rfl) rfl (aw_putI (pc' := 128) (dt_X10_ask 65 (125, .putfield 248, 3) rfl) fl_ReturnDesk_248 rfl (by decide +kernel) rfl (sk_11 (hS24.wAr (by decide))) (aw_aload (pc' := 130) (dt_X10_ask 66 (128, .aload 7, 2) rfl) rfl rfl (aw_iconst (pc' := 131) (v := 1) (dt_X10_ask 67 (130, .iconst 1, 1) rfl) (by decide) rfl (aw_putI (pc' := 134) (dt_X10_ask 68 (131, .putfield 160, 3) rfl) fl_ReturnDesk_160 rfl (by decide +kernel) rfl g27 (aw_aload_n (pc' := 135) (dt_X10_ask 69 (134, .aload_n 0, 1) rfl) rfl rfl (aw_getI (pc' := 138) (dt_X10_ask 70 (135, .getfield 248, 3) rfl) fl_ReturnDesk_248 rfl rfl (sk_11 (hS24.wAr (by decide)).wI.wI) (aw_iconst (pc' := 139) (v := 1) (dt_X10_ask 71 (138, .iconst 1, 1) rfl) (by decide) rfl (aw_isub (pc' := 140) (dt_X10_ask 72 (139, .isub, 1) rfl) rfl (aw_iret (dt_X10_ask 73 (140, .ireturn, 1) rfl) rfl rfl ?_))))))))))))))
                                  exact h
                                · intro q22
                                  have h := h.2 q22
                                  refine aw_bipush (pc' := 87) (v := (-3)) (dt_X10_ask 42 (85, .bipush (-3), 2) rfl) (by decide) rfl (aw_iret (dt_X10_ask 43 (87, .ireturn, 1) rfl) rfl rfl ?_)
                                  exact h
                              · intro q21
                                have h := h.2 q21
                                refine aw_bipush (pc' := 72) (v := (-2)) (dt_X10_ask 34 (70, .bipush (-2), 2) rfl) (by decide) rfl (aw_iret (dt_X10_ask 35 (72, .ireturn, 1) rfl) rfl rfl ?_)
                                exact h
                    · intro q15
                      have h := h.2 q15
                      refine aw_iconst (pc' := 37) (v := (-1)) (dt_X10_ask 17 (36, .iconst (-1), 1) rfl) (by decide) rfl (aw_iret (dt_X10_ask 18 (37, .ireturn, 1) rfl) rfl rfl ?_)
                      exact h

theorem t_X10_judged {E : ZE} {l : Launch} {d nc ns : Nat} {x1 : Int32} {x2 : Int32} {x3 : Int32} {μ : ZM} {K : Option Value → ZM → Prop} (hS : Stat μ) (h :
  (x1 < 0 →
    K (some (.int (-1))) μ) ∧
  (¬ x1 < 0 →
    (((zI μ 11 15) - 1) < x1 →
      K (some (.int (-1))) μ) ∧
    (¬ ((zI μ 11 15) - 1) < x1 →
      (vp_in x1 200) ∧
      (zA μ 15 x1.toNatClampNeg = none →
        K (some (.int (-1))) μ) ∧
      (∀ b5, zA μ 15 x1.toNatClampNeg = some b5 →
        (x2 < 0 →
          K (some (.int (-1))) μ) ∧
        (¬ x2 < 0 →
          (2999 < x2 →
            K (some (.int (-1))) μ) ∧
          (¬ 2999 < x2 →
            (x3 < 0 →
              K (some (.int (-1))) μ) ∧
            (¬ x3 < 0 →
              (1 < x3 →
                K (some (.int (-1))) μ) ∧
              (¬ 1 < x3 →
                AW E l (d + 5) 0 0 mX10_judge 0 (zargs 13 [.ref 11, .ref b5, .int x2]) [] μ (fun v μ10 => v = none ∧ Stat μ10 ∧ 
                  (¬ x3 = 0 →
                    K (some (.int (zI μ10 29 5))) μ10) ∧
                  (x3 = 0 →
                    K (some (.int (zI μ10 29 2))) μ10)))))))))) : AW E l (d + 6) nc ns mX10_judged 0 [some (.ref 11), some (.int x1), some (.int x2), some (.int x3), none] [] μ K := by
  refine aw_aload_n (pc' := 1) (dt_X10_judged 0 (0, .aload_n 0, 1) rfl) rfl rfl (aw_iload_n (pc' := 2) (dt_X10_judged 1 (1, .iload_n 1, 1) rfl) rfl rfl (aw_inV (pc' := 5) (nc1 := 0) (ns1 := 0) (nc := nc) (ns := ns) (ls' := [some (.ref 11), some (.int x1)]) (y2 := mX10_askingAt) (As := [.int x1]) (rest := []) (a := 11) (dt_X10_judged 2 (2, .invokevirtual 254, 3) rfl) ok_X10_askingAt ln_ReturnDesk_254 im_X10_askingAt se_X10_askingAt pr_X10_askingAt (Or.inl ⟨by decide, rfl⟩) rfl (Nat.le_of_ble_eq_true rfl) (Nat.le_of_ble_eq_true rfl) rfl rfl (sk_11 hS) (aw_iload_n (pc' := 1) (dt_X10_askingAt 0 (0, .iload_n 1, 1) rfl) rfl rfl (aw_iconst (pc' := 2) (v := 0) (dt_X10_askingAt 1 (1, .iconst 0, 1) rfl) (by decide) rfl (aw_aload_n (pc' := 3) (dt_X10_askingAt 2 (2, .aload_n 0, 1) rfl) rfl rfl (aw_getI (pc' := 6) (dt_X10_askingAt 3 (3, .getfield 248, 3) rfl) fl_ReturnDesk_248 rfl rfl (sk_11 hS) (aw_iconst (pc' := 7) (v := 1) (dt_X10_askingAt 4 (6, .iconst 1, 1) rfl) (by decide) rfl (aw_isub (pc' := 8) (dt_X10_askingAt 5 (7, .isub, 1) rfl) rfl (aw_inS (pc' := 11) (nc1 := 0) (ns1 := 0) (nc := 0) (ns := 0) (ls' := [some (.int x1), some (.int 0), some (.int ((zI μ 11 15) - 1))]) (y2 := mX10_within) (As := [.int x1, .int 0, .int ((zI μ 11 15) - 1)]) (rest := []) (dt_X10_askingAt 6 (8, .invokestatic 76, 3) rfl) ok_X10_within ln_ReturnDesk_76 sm_X10_within pr_X10_within rfl (Nat.le_of_ble_eq_true rfl) (Nat.le_of_ble_eq_true rfl) rfl rfl (aw_iload_n (pc' := 1) (dt_X10_within 0 (0, .iload_n 0, 1) rfl) rfl rfl (aw_iload_n (pc' := 2) (dt_X10_within 1 (1, .iload_n 1, 1) rfl) rfl rfl (aw_icmp_lt (pc' := 5) (tgt := 14) (dt_X10_within 2 (2, .if_icmp .lt 12, 3) rfl) (by decide) rfl ?_ ?_))))))))))))
  · intro q1
    have h := h.1 q1
    refine aw_iconst (pc' := 15) (v := 0) (dt_X10_within 8 (14, .iconst 0, 1) rfl) (by decide) rfl (aw_iret (dt_X10_within 9 (15, .ireturn, 1) rfl) rfl rfl (aw_stk (st' := [.int 0]) rfl (aw_if_eq_T (pc' := 14) (tgt := 23) (dt_X10_askingAt 7 (11, .ifCond .eq 12, 3) rfl) (by decide) rfl (by decide) (aw_null (pc' := 24) (dt_X10_askingAt 13 (23, .aconst_null, 1) rfl) rfl (aw_aretN (dt_X10_askingAt 14 (24, .areturn, 1) rfl) rfl rfl (aw_stk (st' := [.null]) rfl (aw_astoreN (pc' := 7) (ls' := [some (.ref 11), some (.int x1), some (.int x2), some (.int x3), some (.null)]) (dt_X10_judged 3 (5, .astore 4, 2) rfl) (by decide) rfl rfl (aw_aloadN (pc' := 9) (dt_X10_judged 4 (7, .aload 4, 2) rfl) rfl rfl (aw_ifnullN (tgt := 28) (dt_X10_judged 5 (9, .ifnull 19, 3) rfl) (by decide) (aw_iconst (pc' := 29) (v := (-1)) (dt_X10_judged 14 (28, .iconst (-1), 1) rfl) (by decide) rfl (aw_iret (dt_X10_judged 15 (29, .ireturn, 1) rfl) rfl rfl ?_)))))))))))
    exact h
  · intro q1
    have h := h.2 q1
    refine aw_iload_n (pc' := 6) (dt_X10_within 3 (5, .iload_n 0, 1) rfl) rfl rfl (aw_iload_n (pc' := 7) (dt_X10_within 4 (6, .iload_n 2, 1) rfl) rfl rfl (aw_icmp_gt (pc' := 10) (tgt := 14) (dt_X10_within 5 (7, .if_icmp .gt 7, 3) rfl) (by decide) rfl ?_ ?_))
    · intro q2
      have h := h.1 q2
      refine aw_iconst (pc' := 15) (v := 0) (dt_X10_within 8 (14, .iconst 0, 1) rfl) (by decide) rfl (aw_iret (dt_X10_within 9 (15, .ireturn, 1) rfl) rfl rfl (aw_stk (st' := [.int 0]) rfl (aw_if_eq_T (pc' := 14) (tgt := 23) (dt_X10_askingAt 7 (11, .ifCond .eq 12, 3) rfl) (by decide) rfl (by decide) (aw_null (pc' := 24) (dt_X10_askingAt 13 (23, .aconst_null, 1) rfl) rfl (aw_aretN (dt_X10_askingAt 14 (24, .areturn, 1) rfl) rfl rfl (aw_stk (st' := [.null]) rfl (aw_astoreN (pc' := 7) (ls' := [some (.ref 11), some (.int x1), some (.int x2), some (.int x3), some (.null)]) (dt_X10_judged 3 (5, .astore 4, 2) rfl) (by decide) rfl rfl (aw_aloadN (pc' := 9) (dt_X10_judged 4 (7, .aload 4, 2) rfl) rfl rfl (aw_ifnullN (tgt := 28) (dt_X10_judged 5 (9, .ifnull 19, 3) rfl) (by decide) (aw_iconst (pc' := 29) (v := (-1)) (dt_X10_judged 14 (28, .iconst (-1), 1) rfl) (by decide) rfl (aw_iret (dt_X10_judged 15 (29, .ireturn, 1) rfl) rfl rfl ?_)))))))))))
      exact h
    · intro q2
      have h := h.2 q2
      obtain ⟨g3, h⟩ := h
      refine aw_iconst (pc' := 11) (v := 1) (dt_X10_within 6 (10, .iconst 1, 1) rfl) (by decide) rfl (aw_goto (tgt := 15) (dt_X10_within 7 (11, .goto 4, 3) rfl) (by decide) (aw_iret (dt_X10_within 9 (15, .ireturn, 1) rfl) rfl rfl (aw_stk (st' := [.int 1]) rfl (aw_if_eq_F (pc' := 14) (tgt := 23) (dt_X10_askingAt 7 (11, .ifCond .eq 12, 3) rfl) (by decide) rfl (by decide) (aw_aload_n (pc' := 15) (dt_X10_askingAt 8 (14, .aload_n 0, 1) rfl) rfl rfl (aw_getAs (pc' := 18) (dt_X10_askingAt 9 (15, .getfield 29, 3) rfl) fl_ReturnDesk_29 rfl rfl (sk_11 hS) (sa_11_3 hS) (aw_iload_n (pc' := 19) (dt_X10_askingAt 10 (18, .iload_n 1, 1) rfl) rfl rfl (aw_aald (pc' := 20) (dt_X10_askingAt 11 (19, .aaload, 1) rfl) (by decide) (by decide) rfl (sk_15 hS) (vin_eq (sl_15 hS) g3) ?_ ?_))))))))
      · intro e4
        have h := h.1 e4
        refine aw_goto (tgt := 24) (dt_X10_askingAt 12 (20, .goto 4, 3) rfl) (by decide) (aw_aretN (dt_X10_askingAt 14 (24, .areturn, 1) rfl) rfl rfl (aw_stk (st' := [.null]) rfl (aw_astoreN (pc' := 7) (ls' := [some (.ref 11), some (.int x1), some (.int x2), some (.int x3), some (.null)]) (dt_X10_judged 3 (5, .astore 4, 2) rfl) (by decide) rfl rfl (aw_aloadN (pc' := 9) (dt_X10_judged 4 (7, .aload 4, 2) rfl) rfl rfl (aw_ifnullN (tgt := 28) (dt_X10_judged 5 (9, .ifnull 19, 3) rfl) (by decide) (aw_iconst (pc' := 29) (v := (-1)) (dt_X10_judged 14 (28, .iconst (-1), 1) rfl) (by decide) rfl (aw_iret (dt_X10_judged 15 (29, .ireturn, 1) rfl) rfl rfl ?_)))))))
        exact h
      · intro b5 e4
        have h := h.2 b5 e4
        refine aw_goto (tgt := 24) (dt_X10_askingAt 12 (20, .goto 4, 3) rfl) (by decide) (aw_aret (dt_X10_askingAt 14 (24, .areturn, 1) rfl) rfl rfl (aw_stk (st' := [.ref b5]) rfl (aw_astore (pc' := 7) (ls' := [some (.ref 11), some (.int x1), some (.int x2), some (.int x3), some (.ref b5)]) (dt_X10_judged 3 (5, .astore 4, 2) rfl) (by decide) rfl rfl (aw_aload (pc' := 9) (dt_X10_judged 4 (7, .aload 4, 2) rfl) rfl rfl (aw_ifnull (pc' := 12) (dt_X10_judged 5 (9, .ifnull 19, 3) rfl) rfl (aw_iload_n (pc' := 13) (dt_X10_judged 6 (12, .iload_n 2, 1) rfl) rfl rfl (aw_inS (pc' := 16) (nc1 := 0) (ns1 := 0) (nc := nc) (ns := ns) (ls' := [some (.int x2)]) (y2 := mX10_isDay) (As := [.int x2]) (rest := []) (dt_X10_judged 7 (13, .invokestatic 92, 3) rfl) ok_X10_isDay ln_ReturnDesk_92 sm_X10_isDay pr_X10_isDay rfl (Nat.le_of_ble_eq_true rfl) (Nat.le_of_ble_eq_true rfl) rfl rfl (aw_iload_n (pc' := 1) (dt_X10_isDay 0 (0, .iload_n 0, 1) rfl) rfl rfl (aw_iconst (pc' := 2) (v := 0) (dt_X10_isDay 1 (1, .iconst 0, 1) rfl) (by decide) rfl (aw_sipush (pc' := 5) (v := 2999) (dt_X10_isDay 2 (2, .sipush 2999, 3) rfl) (by decide) rfl (aw_inS (pc' := 8) (nc1 := 0) (ns1 := 0) (nc := 0) (ns := 0) (ls' := [some (.int x2), some (.int 0), some (.int 2999)]) (y2 := mX10_within) (As := [.int x2, .int 0, .int 2999]) (rest := []) (dt_X10_isDay 3 (5, .invokestatic 76, 3) rfl) ok_X10_within ln_ReturnDesk_76 sm_X10_within pr_X10_within rfl (Nat.le_of_ble_eq_true rfl) (Nat.le_of_ble_eq_true rfl) rfl rfl (aw_iload_n (pc' := 1) (dt_X10_within 0 (0, .iload_n 0, 1) rfl) rfl rfl (aw_iload_n (pc' := 2) (dt_X10_within 1 (1, .iload_n 1, 1) rfl) rfl rfl (aw_icmp_lt (pc' := 5) (tgt := 14) (dt_X10_within 2 (2, .if_icmp .lt 12, 3) rfl) (by decide) rfl ?_ ?_))))))))))))))
        · intro q6
          have h := h.1 q6
          refine aw_iconst (pc' := 15) (v := 0) (dt_X10_within 8 (14, .iconst 0, 1) rfl) (by decide) rfl (aw_iret (dt_X10_within 9 (15, .ireturn, 1) rfl) rfl rfl (aw_stk (st' := [.int 0]) rfl (aw_iret (dt_X10_isDay 4 (8, .ireturn, 1) rfl) rfl rfl (aw_stk (st' := [.int 0]) rfl (aw_if_eq_T (pc' := 19) (tgt := 28) (dt_X10_judged 8 (16, .ifCond .eq 12, 3) rfl) (by decide) rfl (by decide) (aw_iconst (pc' := 29) (v := (-1)) (dt_X10_judged 14 (28, .iconst (-1), 1) rfl) (by decide) rfl (aw_iret (dt_X10_judged 15 (29, .ireturn, 1) rfl) rfl rfl ?_)))))))
          exact h
        · intro q6
          have h := h.2 q6
          refine aw_iload_n (pc' := 6) (dt_X10_within 3 (5, .iload_n 0, 1) rfl) rfl rfl (aw_iload_n (pc' := 7) (dt_X10_within 4 (6, .iload_n 2, 1) rfl) rfl rfl (aw_icmp_gt (pc' := 10) (tgt := 14) (dt_X10_within 5 (7, .if_icmp .gt 7, 3) rfl) (by decide) rfl ?_ ?_))
          · intro q7
            have h := h.1 q7
            refine aw_iconst (pc' := 15) (v := 0) (dt_X10_within 8 (14, .iconst 0, 1) rfl) (by decide) rfl (aw_iret (dt_X10_within 9 (15, .ireturn, 1) rfl) rfl rfl (aw_stk (st' := [.int 0]) rfl (aw_iret (dt_X10_isDay 4 (8, .ireturn, 1) rfl) rfl rfl (aw_stk (st' := [.int 0]) rfl (aw_if_eq_T (pc' := 19) (tgt := 28) (dt_X10_judged 8 (16, .ifCond .eq 12, 3) rfl) (by decide) rfl (by decide) (aw_iconst (pc' := 29) (v := (-1)) (dt_X10_judged 14 (28, .iconst (-1), 1) rfl) (by decide) rfl (aw_iret (dt_X10_judged 15 (29, .ireturn, 1) rfl) rfl rfl ?_)))))))
            exact h
          · intro q7
            have h := h.2 q7
            refine aw_iconst (pc' := 11) (v := 1) (dt_X10_within 6 (10, .iconst 1, 1) rfl) (by decide) rfl (aw_goto (tgt := 15) (dt_X10_within 7 (11, .goto 4, 3) rfl) (by decide) (aw_iret (dt_X10_within 9 (15, .ireturn, 1) rfl) rfl rfl (aw_stk (st' := [.int 1]) rfl (aw_iret (dt_X10_isDay 4 (8, .ireturn, 1) rfl) rfl rfl (aw_stk (st' := [.int 1]) rfl (aw_if_eq_F (pc' := 19) (tgt := 28) (dt_X10_judged 8 (16, .ifCond .eq 12, 3) rfl) (by decide) rfl (by decide) (aw_iload_n (pc' := 20) (dt_X10_judged 9 (19, .iload_n 3, 1) rfl) rfl rfl (aw_iconst (pc' := 21) (v := 0) (dt_X10_judged 10 (20, .iconst 0, 1) rfl) (by decide) rfl (aw_iconst (pc' := 22) (v := 1) (dt_X10_judged 11 (21, .iconst 1, 1) rfl) (by decide) rfl (aw_inS (pc' := 25) (nc1 := 0) (ns1 := 0) (nc := nc) (ns := ns) (ls' := [some (.int x3), some (.int 0), some (.int 1)]) (y2 := mX10_within) (As := [.int x3, .int 0, .int 1]) (rest := []) (dt_X10_judged 12 (22, .invokestatic 76, 3) rfl) ok_X10_within ln_ReturnDesk_76 sm_X10_within pr_X10_within rfl (Nat.le_of_ble_eq_true rfl) (Nat.le_of_ble_eq_true rfl) rfl rfl (aw_iload_n (pc' := 1) (dt_X10_within 0 (0, .iload_n 0, 1) rfl) rfl rfl (aw_iload_n (pc' := 2) (dt_X10_within 1 (1, .iload_n 1, 1) rfl) rfl rfl (aw_icmp_lt (pc' := 5) (tgt := 14) (dt_X10_within 2 (2, .if_icmp .lt 12, 3) rfl) (by decide) rfl ?_ ?_)))))))))))))
            · intro q8
              have h := h.1 q8
              refine aw_iconst (pc' := 15) (v := 0) (dt_X10_within 8 (14, .iconst 0, 1) rfl) (by decide) rfl (aw_iret (dt_X10_within 9 (15, .ireturn, 1) rfl) rfl rfl (aw_stk (st' := [.int 0]) rfl (aw_if_ne_F (pc' := 28) (tgt := 30) (dt_X10_judged 13 (25, .ifCond .ne 5, 3) rfl) (by decide) rfl (by decide) (aw_iconst (pc' := 29) (v := (-1)) (dt_X10_judged 14 (28, .iconst (-1), 1) rfl) (by decide) rfl (aw_iret (dt_X10_judged 15 (29, .ireturn, 1) rfl) rfl rfl ?_)))))
              exact h
            · intro q8
              have h := h.2 q8
              refine aw_iload_n (pc' := 6) (dt_X10_within 3 (5, .iload_n 0, 1) rfl) rfl rfl (aw_iload_n (pc' := 7) (dt_X10_within 4 (6, .iload_n 2, 1) rfl) rfl rfl (aw_icmp_gt (pc' := 10) (tgt := 14) (dt_X10_within 5 (7, .if_icmp .gt 7, 3) rfl) (by decide) rfl ?_ ?_))
              · intro q9
                have h := h.1 q9
                refine aw_iconst (pc' := 15) (v := 0) (dt_X10_within 8 (14, .iconst 0, 1) rfl) (by decide) rfl (aw_iret (dt_X10_within 9 (15, .ireturn, 1) rfl) rfl rfl (aw_stk (st' := [.int 0]) rfl (aw_if_ne_F (pc' := 28) (tgt := 30) (dt_X10_judged 13 (25, .ifCond .ne 5, 3) rfl) (by decide) rfl (by decide) (aw_iconst (pc' := 29) (v := (-1)) (dt_X10_judged 14 (28, .iconst (-1), 1) rfl) (by decide) rfl (aw_iret (dt_X10_judged 15 (29, .ireturn, 1) rfl) rfl rfl ?_)))))
                exact h
              · intro q9
                have h := h.2 q9
                refine aw_iconst (pc' := 11) (v := 1) (dt_X10_within 6 (10, .iconst 1, 1) rfl) (by decide) rfl (aw_goto (tgt := 15) (dt_X10_within 7 (11, .goto 4, 3) rfl) (by decide) (aw_iret (dt_X10_within 9 (15, .ireturn, 1) rfl) rfl rfl (aw_stk (st' := [.int 1]) rfl (aw_if_ne_T (pc' := 28) (tgt := 30) (dt_X10_judged 13 (25, .ifCond .ne 5, 3) rfl) (by decide) rfl (by decide) (aw_aload_n (pc' := 31) (dt_X10_judged 16 (30, .aload_n 0, 1) rfl) rfl rfl (aw_aload (pc' := 33) (dt_X10_judged 17 (31, .aload 4, 2) rfl) rfl rfl (aw_iload_n (pc' := 34) (dt_X10_judged 18 (33, .iload_n 2, 1) rfl) rfl rfl (aw_callV0 (pc' := 37) (nc := nc) (ns := ns) (y2 := mX10_judge) (As := [.ref b5, .int x2]) (rest := []) (a := 11) (dt_X10_judged 19 (34, .invokevirtual 258, 3) rfl) ok_X10_judge ln_ReturnDesk_258 im_X10_judge se_X10_judge pr_X10_judge (Or.inl ⟨by decide, rfl⟩) rfl (Nat.le_of_ble_eq_true rfl) (Nat.le_of_ble_eq_true rfl) rfl (sk_11 hS) h ?_))))))))
                rintro v μ10 ⟨rfl, hS11, h⟩
                refine aw_stk (st' := []) rfl ?_
                refine aw_iload_n (pc' := 38) (dt_X10_judged 20 (37, .iload_n 3, 1) rfl) rfl rfl (aw_if_ne (pc' := 41) (tgt := 51) (dt_X10_judged 21 (38, .ifCond .ne 13, 3) rfl) (by decide) rfl ?_ ?_)
                · intro q12
                  have h := h.1 q12
                  refine aw_aload_n (pc' := 52) (dt_X10_judged 26 (51, .aload_n 0, 1) rfl) rfl rfl (aw_getAs (pc' := 55) (dt_X10_judged 27 (52, .getfield 68, 3) rfl) fl_ReturnDesk_68 rfl rfl (sk_11 hS11) (sa_11_9 hS11) (aw_getI (pc' := 58) (dt_X10_judged 28 (55, .getfield 265, 3) rfl) fl_ReturnDesk_265 rfl rfl (sk_29 hS11) (aw_iret (dt_X10_judged 29 (58, .ireturn, 1) rfl) rfl rfl ?_)))
                  exact h
                · intro q12
                  have h := h.2 q12
                  refine aw_aload_n (pc' := 42) (dt_X10_judged 22 (41, .aload_n 0, 1) rfl) rfl rfl (aw_getAs (pc' := 45) (dt_X10_judged 23 (42, .getfield 68, 3) rfl) fl_ReturnDesk_68 rfl rfl (sk_11 hS11) (sa_11_9 hS11) (aw_getI (pc' := 48) (dt_X10_judged 24 (45, .getfield 262, 3) rfl) fl_ReturnDesk_262 rfl rfl (sk_29 hS11) (aw_goto (tgt := 58) (dt_X10_judged 25 (48, .goto 10, 3) rfl) (by decide) (aw_iret (dt_X10_judged 29 (58, .ireturn, 1) rfl) rfl rfl ?_))))
                  exact h

theorem t_X10_ofAsking {E : ZE} {l : Launch} {d nc ns : Nat} {x1 : Int32} {x2 : Int32} {μ : ZM} {K : Option Value → ZM → Prop} (hS : Stat μ) (h :
  (x1 < 0 →
    K (some (.int (-2000000000))) μ) ∧
  (¬ x1 < 0 →
    (((zI μ 11 15) - 1) < x1 →
      K (some (.int (-2000000000))) μ) ∧
    (¬ ((zI μ 11 15) - 1) < x1 →
      (vp_in x1 200) ∧
      (zA μ 15 x1.toNatClampNeg = none →
        K (some (.int (-2000000000))) μ) ∧
      (∀ b5, zA μ 15 x1.toNatClampNeg = some b5 →
        (x2 < 0 →
          K (some (.int (-2000000000))) μ) ∧
        (¬ x2 < 0 →
          (9 < x2 →
            K (some (.int (-2000000000))) μ) ∧
          (¬ 9 < x2 →
            (x2 = 3 →
              AW E l (d + 6) nc ns mX10_ofAsking 34 [some (.ref 11), none, some (.int x2), some (.ref b5)] [] μ K) ∧
            (¬ x2 = 3 →
              (¬ x2 = 9 →
                AW E l (d + 6) nc ns mX10_ofAsking 43 [some (.ref 11), none, some (.int x2), some (.ref b5)] [] μ K) ∧
              (x2 = 9 →
                AW E l (d + 6) nc ns mX10_ofAsking 34 [some (.ref 11), none, some (.int x2), some (.ref b5)] [] μ K)))))))) : AW E l (d + 6) nc ns mX10_ofAsking 0 [some (.ref 11), some (.int x1), some (.int x2), none] [] μ K := by
  refine aw_aload_n (pc' := 1) (dt_X10_ofAsking 0 (0, .aload_n 0, 1) rfl) rfl rfl (aw_iload_n (pc' := 2) (dt_X10_ofAsking 1 (1, .iload_n 1, 1) rfl) rfl rfl (aw_inV (pc' := 5) (nc1 := 0) (ns1 := 0) (nc := nc) (ns := ns) (ls' := [some (.ref 11), some (.int x1)]) (y2 := mX10_askingAt) (As := [.int x1]) (rest := []) (a := 11) (dt_X10_ofAsking 2 (2, .invokevirtual 254, 3) rfl) ok_X10_askingAt ln_ReturnDesk_254 im_X10_askingAt se_X10_askingAt pr_X10_askingAt (Or.inl ⟨by decide, rfl⟩) rfl (Nat.le_of_ble_eq_true rfl) (Nat.le_of_ble_eq_true rfl) rfl rfl (sk_11 hS) (aw_iload_n (pc' := 1) (dt_X10_askingAt 0 (0, .iload_n 1, 1) rfl) rfl rfl (aw_iconst (pc' := 2) (v := 0) (dt_X10_askingAt 1 (1, .iconst 0, 1) rfl) (by decide) rfl (aw_aload_n (pc' := 3) (dt_X10_askingAt 2 (2, .aload_n 0, 1) rfl) rfl rfl (aw_getI (pc' := 6) (dt_X10_askingAt 3 (3, .getfield 248, 3) rfl) fl_ReturnDesk_248 rfl rfl (sk_11 hS) (aw_iconst (pc' := 7) (v := 1) (dt_X10_askingAt 4 (6, .iconst 1, 1) rfl) (by decide) rfl (aw_isub (pc' := 8) (dt_X10_askingAt 5 (7, .isub, 1) rfl) rfl (aw_inS (pc' := 11) (nc1 := 0) (ns1 := 0) (nc := 0) (ns := 0) (ls' := [some (.int x1), some (.int 0), some (.int ((zI μ 11 15) - 1))]) (y2 := mX10_within) (As := [.int x1, .int 0, .int ((zI μ 11 15) - 1)]) (rest := []) (dt_X10_askingAt 6 (8, .invokestatic 76, 3) rfl) ok_X10_within ln_ReturnDesk_76 sm_X10_within pr_X10_within rfl (Nat.le_of_ble_eq_true rfl) (Nat.le_of_ble_eq_true rfl) rfl rfl (aw_iload_n (pc' := 1) (dt_X10_within 0 (0, .iload_n 0, 1) rfl) rfl rfl (aw_iload_n (pc' := 2) (dt_X10_within 1 (1, .iload_n 1, 1) rfl) rfl rfl (aw_icmp_lt (pc' := 5) (tgt := 14) (dt_X10_within 2 (2, .if_icmp .lt 12, 3) rfl) (by decide) rfl ?_ ?_))))))))))))
  · intro q1
    have h := h.1 q1
    refine aw_iconst (pc' := 15) (v := 0) (dt_X10_within 8 (14, .iconst 0, 1) rfl) (by decide) rfl (aw_iret (dt_X10_within 9 (15, .ireturn, 1) rfl) rfl rfl (aw_stk (st' := [.int 0]) rfl (aw_if_eq_T (pc' := 14) (tgt := 23) (dt_X10_askingAt 7 (11, .ifCond .eq 12, 3) rfl) (by decide) rfl (by decide) (aw_null (pc' := 24) (dt_X10_askingAt 13 (23, .aconst_null, 1) rfl) rfl (aw_aretN (dt_X10_askingAt 14 (24, .areturn, 1) rfl) rfl rfl (aw_stk (st' := [.null]) rfl (aw_astore_nN (pc' := 6) (ls' := [some (.ref 11), some (.int x1), some (.int x2), some (.null)]) (dt_X10_ofAsking 3 (5, .astore_n 3, 1) rfl) (by decide) rfl rfl (aw_aload_nN (pc' := 7) (dt_X10_ofAsking 4 (6, .aload_n 3, 1) rfl) rfl rfl (aw_ifnullN (tgt := 20) (dt_X10_ofAsking 5 (7, .ifnull 13, 3) rfl) (by decide) (aw_ldc (pc' := 22) (dt_X10_ofAsking 11 (20, .ldc 159, 2) rfl) ct_ReturnDesk_159 rfl (aw_iret (dt_X10_ofAsking 12 (22, .ireturn, 1) rfl) rfl rfl ?_)))))))))))
    exact h
  · intro q1
    have h := h.2 q1
    refine aw_iload_n (pc' := 6) (dt_X10_within 3 (5, .iload_n 0, 1) rfl) rfl rfl (aw_iload_n (pc' := 7) (dt_X10_within 4 (6, .iload_n 2, 1) rfl) rfl rfl (aw_icmp_gt (pc' := 10) (tgt := 14) (dt_X10_within 5 (7, .if_icmp .gt 7, 3) rfl) (by decide) rfl ?_ ?_))
    · intro q2
      have h := h.1 q2
      refine aw_iconst (pc' := 15) (v := 0) (dt_X10_within 8 (14, .iconst 0, 1) rfl) (by decide) rfl (aw_iret (dt_X10_within 9 (15, .ireturn, 1) rfl) rfl rfl (aw_stk (st' := [.int 0]) rfl (aw_if_eq_T (pc' := 14) (tgt := 23) (dt_X10_askingAt 7 (11, .ifCond .eq 12, 3) rfl) (by decide) rfl (by decide) (aw_null (pc' := 24) (dt_X10_askingAt 13 (23, .aconst_null, 1) rfl) rfl (aw_aretN (dt_X10_askingAt 14 (24, .areturn, 1) rfl) rfl rfl (aw_stk (st' := [.null]) rfl (aw_astore_nN (pc' := 6) (ls' := [some (.ref 11), some (.int x1), some (.int x2), some (.null)]) (dt_X10_ofAsking 3 (5, .astore_n 3, 1) rfl) (by decide) rfl rfl (aw_aload_nN (pc' := 7) (dt_X10_ofAsking 4 (6, .aload_n 3, 1) rfl) rfl rfl (aw_ifnullN (tgt := 20) (dt_X10_ofAsking 5 (7, .ifnull 13, 3) rfl) (by decide) (aw_ldc (pc' := 22) (dt_X10_ofAsking 11 (20, .ldc 159, 2) rfl) ct_ReturnDesk_159 rfl (aw_iret (dt_X10_ofAsking 12 (22, .ireturn, 1) rfl) rfl rfl ?_)))))))))))
      exact h
    · intro q2
      have h := h.2 q2
      obtain ⟨g3, h⟩ := h
      refine aw_iconst (pc' := 11) (v := 1) (dt_X10_within 6 (10, .iconst 1, 1) rfl) (by decide) rfl (aw_goto (tgt := 15) (dt_X10_within 7 (11, .goto 4, 3) rfl) (by decide) (aw_iret (dt_X10_within 9 (15, .ireturn, 1) rfl) rfl rfl (aw_stk (st' := [.int 1]) rfl (aw_if_eq_F (pc' := 14) (tgt := 23) (dt_X10_askingAt 7 (11, .ifCond .eq 12, 3) rfl) (by decide) rfl (by decide) (aw_aload_n (pc' := 15) (dt_X10_askingAt 8 (14, .aload_n 0, 1) rfl) rfl rfl (aw_getAs (pc' := 18) (dt_X10_askingAt 9 (15, .getfield 29, 3) rfl) fl_ReturnDesk_29 rfl rfl (sk_11 hS) (sa_11_3 hS) (aw_iload_n (pc' := 19) (dt_X10_askingAt 10 (18, .iload_n 1, 1) rfl) rfl rfl (aw_aald (pc' := 20) (dt_X10_askingAt 11 (19, .aaload, 1) rfl) (by decide) (by decide) rfl (sk_15 hS) (vin_eq (sl_15 hS) g3) ?_ ?_))))))))
      · intro e4
        have h := h.1 e4
        refine aw_goto (tgt := 24) (dt_X10_askingAt 12 (20, .goto 4, 3) rfl) (by decide) (aw_aretN (dt_X10_askingAt 14 (24, .areturn, 1) rfl) rfl rfl (aw_stk (st' := [.null]) rfl (aw_astore_nN (pc' := 6) (ls' := [some (.ref 11), some (.int x1), some (.int x2), some (.null)]) (dt_X10_ofAsking 3 (5, .astore_n 3, 1) rfl) (by decide) rfl rfl (aw_aload_nN (pc' := 7) (dt_X10_ofAsking 4 (6, .aload_n 3, 1) rfl) rfl rfl (aw_ifnullN (tgt := 20) (dt_X10_ofAsking 5 (7, .ifnull 13, 3) rfl) (by decide) (aw_ldc (pc' := 22) (dt_X10_ofAsking 11 (20, .ldc 159, 2) rfl) ct_ReturnDesk_159 rfl (aw_iret (dt_X10_ofAsking 12 (22, .ireturn, 1) rfl) rfl rfl ?_)))))))
        exact h
      · intro b5 e4
        have h := h.2 b5 e4
        refine aw_goto (tgt := 24) (dt_X10_askingAt 12 (20, .goto 4, 3) rfl) (by decide) (aw_aret (dt_X10_askingAt 14 (24, .areturn, 1) rfl) rfl rfl (aw_stk (st' := [.ref b5]) rfl (aw_astore_n (pc' := 6) (ls' := [some (.ref 11), some (.int x1), some (.int x2), some (.ref b5)]) (dt_X10_ofAsking 3 (5, .astore_n 3, 1) rfl) (by decide) rfl rfl (aw_aload_n (pc' := 7) (dt_X10_ofAsking 4 (6, .aload_n 3, 1) rfl) rfl rfl (aw_ifnull (pc' := 10) (dt_X10_ofAsking 5 (7, .ifnull 13, 3) rfl) rfl (aw_iload_n (pc' := 11) (dt_X10_ofAsking 6 (10, .iload_n 2, 1) rfl) rfl rfl (aw_iconst (pc' := 12) (v := 0) (dt_X10_ofAsking 7 (11, .iconst 0, 1) rfl) (by decide) rfl (aw_bipush (pc' := 14) (v := 9) (dt_X10_ofAsking 8 (12, .bipush 9, 2) rfl) (by decide) rfl (aw_inS (pc' := 17) (nc1 := 0) (ns1 := 0) (nc := nc) (ns := ns) (ls' := [some (.int x2), some (.int 0), some (.int 9)]) (y2 := mX10_within) (As := [.int x2, .int 0, .int 9]) (rest := []) (dt_X10_ofAsking 9 (14, .invokestatic 76, 3) rfl) ok_X10_within ln_ReturnDesk_76 sm_X10_within pr_X10_within rfl (Nat.le_of_ble_eq_true rfl) (Nat.le_of_ble_eq_true rfl) rfl rfl (aw_iload_n (pc' := 1) (dt_X10_within 0 (0, .iload_n 0, 1) rfl) rfl rfl (aw_iload_n (pc' := 2) (dt_X10_within 1 (1, .iload_n 1, 1) rfl) rfl rfl (aw_icmp_lt (pc' := 5) (tgt := 14) (dt_X10_within 2 (2, .if_icmp .lt 12, 3) rfl) (by decide) rfl ?_ ?_))))))))))))
        · intro q6
          have h := h.1 q6
          refine aw_iconst (pc' := 15) (v := 0) (dt_X10_within 8 (14, .iconst 0, 1) rfl) (by decide) rfl (aw_iret (dt_X10_within 9 (15, .ireturn, 1) rfl) rfl rfl (aw_stk (st' := [.int 0]) rfl (aw_if_ne_F (pc' := 20) (tgt := 23) (dt_X10_ofAsking 10 (17, .ifCond .ne 6, 3) rfl) (by decide) rfl (by decide) (aw_ldc (pc' := 22) (dt_X10_ofAsking 11 (20, .ldc 159, 2) rfl) ct_ReturnDesk_159 rfl (aw_iret (dt_X10_ofAsking 12 (22, .ireturn, 1) rfl) rfl rfl ?_)))))
          exact h
        · intro q6
          have h := h.2 q6
          refine aw_iload_n (pc' := 6) (dt_X10_within 3 (5, .iload_n 0, 1) rfl) rfl rfl (aw_iload_n (pc' := 7) (dt_X10_within 4 (6, .iload_n 2, 1) rfl) rfl rfl (aw_icmp_gt (pc' := 10) (tgt := 14) (dt_X10_within 5 (7, .if_icmp .gt 7, 3) rfl) (by decide) rfl ?_ ?_))
          · intro q7
            have h := h.1 q7
            refine aw_iconst (pc' := 15) (v := 0) (dt_X10_within 8 (14, .iconst 0, 1) rfl) (by decide) rfl (aw_iret (dt_X10_within 9 (15, .ireturn, 1) rfl) rfl rfl (aw_stk (st' := [.int 0]) rfl (aw_if_ne_F (pc' := 20) (tgt := 23) (dt_X10_ofAsking 10 (17, .ifCond .ne 6, 3) rfl) (by decide) rfl (by decide) (aw_ldc (pc' := 22) (dt_X10_ofAsking 11 (20, .ldc 159, 2) rfl) ct_ReturnDesk_159 rfl (aw_iret (dt_X10_ofAsking 12 (22, .ireturn, 1) rfl) rfl rfl ?_)))))
            exact h
          · intro q7
            have h := h.2 q7
            refine aw_iconst (pc' := 11) (v := 1) (dt_X10_within 6 (10, .iconst 1, 1) rfl) (by decide) rfl (aw_goto (tgt := 15) (dt_X10_within 7 (11, .goto 4, 3) rfl) (by decide) (aw_iret (dt_X10_within 9 (15, .ireturn, 1) rfl) rfl rfl (aw_stk (st' := [.int 1]) rfl (aw_if_ne_T (pc' := 20) (tgt := 23) (dt_X10_ofAsking 10 (17, .ifCond .ne 6, 3) rfl) (by decide) rfl (by decide) (aw_iload_n (pc' := 24) (dt_X10_ofAsking 13 (23, .iload_n 2, 1) rfl) rfl rfl (aw_iconst (pc' := 25) (v := 3) (dt_X10_ofAsking 14 (24, .iconst 3, 1) rfl) (by decide) rfl (aw_icmp_eq (pc' := 28) (tgt := 34) (dt_X10_ofAsking 15 (25, .if_icmp .eq 9, 3) rfl) (by decide) rfl ?_ ?_)))))))
            · intro q8
              have h := h.1 q8
              refine aw_drop (ls' := [some (.ref 11), none, some (.int x2), some (.ref b5)]) ⟨rfl, rfl, rfl, trivial⟩ ?_
              exact h
            · intro q8
              have h := h.2 q8
              refine aw_iload_n (pc' := 29) (dt_X10_ofAsking 16 (28, .iload_n 2, 1) rfl) rfl rfl (aw_bipush (pc' := 31) (v := 9) (dt_X10_ofAsking 17 (29, .bipush 9, 2) rfl) (by decide) rfl (aw_icmp_ne (pc' := 34) (tgt := 43) (dt_X10_ofAsking 18 (31, .if_icmp .ne 12, 3) rfl) (by decide) rfl ?_ ?_))
              · intro q9
                have h := h.1 q9
                refine aw_drop (ls' := [some (.ref 11), none, some (.int x2), some (.ref b5)]) ⟨rfl, rfl, rfl, trivial⟩ ?_
                exact h
              · intro q9
                have h := h.2 q9
                refine aw_drop (ls' := [some (.ref 11), none, some (.int x2), some (.ref b5)]) ⟨rfl, rfl, rfl, trivial⟩ ?_
                exact h

theorem t_X10_ofAsking_34 {E : ZE} {l : Launch} {d nc ns : Nat} {x2 : Int32} {a3 : Nat} {μ : ZM} {K : Option Value → ZM → Prop} (hS : Stat μ) (h :
  (zK μ a3 = 0) ∧
  AW E l (d + 5) 0 0 mX10_judge 0 (zargs 13 [.ref 11, .ref a3, .int (zI μ a3 2)]) [] μ (fun v μ2 => v = none ∧ Stat μ2 ∧ 
    AW E l (d + 6) nc ns mX10_ofAsking 43 [some (.ref 11), none, some (.int x2), some (.ref a3)] [] μ2 K)) : AW E l (d + 6) nc ns mX10_ofAsking 34 [some (.ref 11), none, some (.int x2), some (.ref a3)] [] μ K := by
  obtain ⟨g1, h⟩ := h
  refine aw_aload_n (pc' := 35) (dt_X10_ofAsking 19 (34, .aload_n 0, 1) rfl) rfl rfl (aw_aload_n (pc' := 36) (dt_X10_ofAsking 20 (35, .aload_n 3, 1) rfl) rfl rfl (aw_aload_n (pc' := 37) (dt_X10_ofAsking 21 (36, .aload_n 3, 1) rfl) rfl rfl (aw_getI (pc' := 40) (dt_X10_ofAsking 22 (37, .getfield 268, 3) rfl) fl_ReturnDesk_268 rfl rfl g1 (aw_callV0 (pc' := 43) (nc := nc) (ns := ns) (y2 := mX10_judge) (As := [.ref a3, .int (zI μ a3 2)]) (rest := []) (a := 11) (dt_X10_ofAsking 23 (40, .invokevirtual 258, 3) rfl) ok_X10_judge ln_ReturnDesk_258 im_X10_judge se_X10_judge pr_X10_judge (Or.inl ⟨by decide, rfl⟩) rfl (Nat.le_of_ble_eq_true rfl) (Nat.le_of_ble_eq_true rfl) rfl (sk_11 hS) h ?_))))
  rintro v μ2 ⟨rfl, hS3, h⟩
  refine aw_stk (st' := []) rfl ?_
  exact h

theorem t_X10_ofAsking_43 {E : ZE} {l : Launch} {d nc ns : Nat} {x2 : Int32} {a3 : Nat} {μ : ZM} {K : Option Value → ZM → Prop} (hS : Stat μ) (h :
  (x2 = 0 →
    (zK μ a3 = 0) ∧
    (zA μ a3 0 = none →
      False) ∧
    (∀ b4, zA μ a3 0 = some b4 →
      (zK μ b4 = 7) ∧
      K (some (.int (zI μ b4 0))) μ)) ∧
  (x2 = 1 →
    (zK μ a3 = 0) ∧
    K (some (.int (zI μ a3 1))) μ) ∧
  (x2 = 2 →
    (zK μ a3 = 0) ∧
    K (some (.int (zI μ a3 2))) μ) ∧
  (x2 = 3 →
    ((zI μ 29 3) = (zI μ 29 6) →
      K (some (.int 0)) μ) ∧
    (¬ (zI μ 29 3) = (zI μ 29 6) →
      K (some (.int 1)) μ)) ∧
  (x2 = 4 →
    (zK μ a3 = 0) ∧
    ((zI μ a3 11) = 0 →
      K (some (.int 0)) μ) ∧
    (¬ (zI μ a3 11) = 0 →
      K (some (.int 1)) μ)) ∧
  (x2 = 5 →
    (zK μ a3 = 0) ∧
    ((zI μ a3 12) = 0 →
      K (some (.int 0)) μ) ∧
    (¬ (zI μ a3 12) = 0 →
      K (some (.int 1)) μ)) ∧
  (x2 = 6 →
    (zK μ a3 = 0) ∧
    K (some (.int (zI μ a3 13))) μ) ∧
  (x2 = 7 →
    (zK μ a3 = 0) ∧
    K (some (.int (zI μ a3 14))) μ) ∧
  (x2 = 8 →
    (zK μ a3 = 0) ∧
    K (some (.int (zI μ a3 15))) μ) ∧
  ((¬ x2 = 0 ∧ ¬ x2 = 1 ∧ ¬ x2 = 2 ∧ ¬ x2 = 3 ∧ ¬ x2 = 4 ∧ ¬ x2 = 5 ∧ ¬ x2 = 6 ∧ ¬ x2 = 7 ∧ ¬ x2 = 8) →
  K (some (.int (zI μ 29 4))) μ)) : AW E l (d + 6) nc ns mX10_ofAsking 43 [some (.ref 11), none, some (.int x2), some (.ref a3)] [] μ K := by
  refine aw_iload_n (pc' := 44) (dt_X10_ofAsking 24 (43, .iload_n 2, 1) rfl) rfl rfl ?_
  by_cases q1 : x2 = 0
  · have h := h.1 q1
    refine aw_tableE (tgt := 96) (off := 52) (dt_X10_ofAsking 25 (44, .tableswitch 127 0 8 #[52, 60, 65, 70, 96, 104, 112, 117, 122], 52) rfl) q1 (by decide) (by decide) (by decide) (by decide) ?_
    obtain ⟨g2, h⟩ := h
    refine aw_aload_n (pc' := 97) (dt_X10_ofAsking 26 (96, .aload_n 3, 1) rfl) rfl rfl (aw_getA (pc' := 100) (dt_X10_ofAsking 27 (97, .getfield 271, 3) rfl) fl_ReturnDesk_271 rfl rfl g2 ?_ ?_)
    · intro e3
      have h := h.1 e3
      exact h.elim
    · intro b4 e3
      have h := h.2 b4 e3
      obtain ⟨g5, h⟩ := h
      refine aw_getI (pc' := 103) (dt_X10_ofAsking 28 (100, .getfield 275, 3) rfl) fl_ReturnDesk_275 rfl rfl g5 (aw_iret (dt_X10_ofAsking 29 (103, .ireturn, 1) rfl) rfl rfl ?_)
      exact h
  by_cases q6 : x2 = 1
  · have h := h.2.1 q6
    refine aw_tableE (tgt := 104) (off := 60) (dt_X10_ofAsking 25 (44, .tableswitch 127 0 8 #[52, 60, 65, 70, 96, 104, 112, 117, 122], 52) rfl) q6 (by decide) (by decide) (by decide) (by decide) ?_
    obtain ⟨g7, h⟩ := h
    refine aw_aload_n (pc' := 105) (dt_X10_ofAsking 30 (104, .aload_n 3, 1) rfl) rfl rfl (aw_getI (pc' := 108) (dt_X10_ofAsking 31 (105, .getfield 278, 3) rfl) fl_ReturnDesk_278 rfl rfl g7 (aw_iret (dt_X10_ofAsking 32 (108, .ireturn, 1) rfl) rfl rfl ?_))
    exact h
  by_cases q8 : x2 = 2
  · have h := h.2.2.1 q8
    refine aw_tableE (tgt := 109) (off := 65) (dt_X10_ofAsking 25 (44, .tableswitch 127 0 8 #[52, 60, 65, 70, 96, 104, 112, 117, 122], 52) rfl) q8 (by decide) (by decide) (by decide) (by decide) ?_
    obtain ⟨g9, h⟩ := h
    refine aw_aload_n (pc' := 110) (dt_X10_ofAsking 33 (109, .aload_n 3, 1) rfl) rfl rfl (aw_getI (pc' := 113) (dt_X10_ofAsking 34 (110, .getfield 268, 3) rfl) fl_ReturnDesk_268 rfl rfl g9 (aw_iret (dt_X10_ofAsking 35 (113, .ireturn, 1) rfl) rfl rfl ?_))
    exact h
  by_cases q10 : x2 = 3
  · have h := h.2.2.2.1 q10
    refine aw_tableE (tgt := 114) (off := 70) (dt_X10_ofAsking 25 (44, .tableswitch 127 0 8 #[52, 60, 65, 70, 96, 104, 112, 117, 122], 52) rfl) q10 (by decide) (by decide) (by decide) (by decide) ?_
    refine aw_aload_n (pc' := 115) (dt_X10_ofAsking 36 (114, .aload_n 0, 1) rfl) rfl rfl (aw_getAs (pc' := 118) (dt_X10_ofAsking 37 (115, .getfield 68, 3) rfl) fl_ReturnDesk_68 rfl rfl (sk_11 hS) (sa_11_9 hS) (aw_getI (pc' := 121) (dt_X10_ofAsking 38 (118, .getfield 281, 3) rfl) fl_ReturnDesk_281 rfl rfl (sk_29 hS) (aw_aload_n (pc' := 122) (dt_X10_ofAsking 39 (121, .aload_n 0, 1) rfl) rfl rfl (aw_getAs (pc' := 125) (dt_X10_ofAsking 40 (122, .getfield 68, 3) rfl) fl_ReturnDesk_68 rfl rfl (sk_11 hS) (sa_11_9 hS) (aw_getI (pc' := 128) (dt_X10_ofAsking 41 (125, .getfield 284, 3) rfl) fl_ReturnDesk_284 rfl rfl (sk_29 hS) (aw_icmp_eq (pc' := 131) (tgt := 135) (dt_X10_ofAsking 42 (128, .if_icmp .eq 7, 3) rfl) (by decide) rfl ?_ ?_))))))
    · intro q11
      have h := h.1 q11
      refine aw_iconst (pc' := 136) (v := 0) (dt_X10_ofAsking 45 (135, .iconst 0, 1) rfl) (by decide) rfl (aw_inS (pc' := 139) (nc1 := 0) (ns1 := 0) (nc := nc) (ns := ns) (ls' := [some (.int 0)]) (y2 := mX10_asBit) (As := [.int 0]) (rest := []) (dt_X10_ofAsking 46 (136, .invokestatic 287, 3) rfl) ok_X10_asBit ln_ReturnDesk_287 sm_X10_asBit pr_X10_asBit rfl (Nat.le_of_ble_eq_true rfl) (Nat.le_of_ble_eq_true rfl) rfl rfl (aw_iload_n (pc' := 1) (dt_X10_asBit 0 (0, .iload_n 0, 1) rfl) rfl rfl (aw_if_eq_T (pc' := 4) (tgt := 8) (dt_X10_asBit 1 (1, .ifCond .eq 7, 3) rfl) (by decide) rfl (by decide) (aw_iconst (pc' := 9) (v := 0) (dt_X10_asBit 4 (8, .iconst 0, 1) rfl) (by decide) rfl (aw_iret (dt_X10_asBit 5 (9, .ireturn, 1) rfl) rfl rfl (aw_stk (st' := [.int 0]) rfl (aw_iret (dt_X10_ofAsking 47 (139, .ireturn, 1) rfl) rfl rfl ?_)))))))
      exact h
    · intro q11
      have h := h.2 q11
      refine aw_iconst (pc' := 132) (v := 1) (dt_X10_ofAsking 43 (131, .iconst 1, 1) rfl) (by decide) rfl (aw_goto (tgt := 136) (dt_X10_ofAsking 44 (132, .goto 4, 3) rfl) (by decide) (aw_inS (pc' := 139) (nc1 := 0) (ns1 := 0) (nc := nc) (ns := ns) (ls' := [some (.int 1)]) (y2 := mX10_asBit) (As := [.int 1]) (rest := []) (dt_X10_ofAsking 46 (136, .invokestatic 287, 3) rfl) ok_X10_asBit ln_ReturnDesk_287 sm_X10_asBit pr_X10_asBit rfl (Nat.le_of_ble_eq_true rfl) (Nat.le_of_ble_eq_true rfl) rfl rfl (aw_iload_n (pc' := 1) (dt_X10_asBit 0 (0, .iload_n 0, 1) rfl) rfl rfl (aw_if_eq_F (pc' := 4) (tgt := 8) (dt_X10_asBit 1 (1, .ifCond .eq 7, 3) rfl) (by decide) rfl (by decide) (aw_iconst (pc' := 5) (v := 1) (dt_X10_asBit 2 (4, .iconst 1, 1) rfl) (by decide) rfl (aw_goto (tgt := 9) (dt_X10_asBit 3 (5, .goto 4, 3) rfl) (by decide) (aw_iret (dt_X10_asBit 5 (9, .ireturn, 1) rfl) rfl rfl (aw_stk (st' := [.int 1]) rfl (aw_iret (dt_X10_ofAsking 47 (139, .ireturn, 1) rfl) rfl rfl ?_)))))))))
      exact h
  by_cases q12 : x2 = 4
  · have h := h.2.2.2.2.1 q12
    refine aw_tableE (tgt := 140) (off := 96) (dt_X10_ofAsking 25 (44, .tableswitch 127 0 8 #[52, 60, 65, 70, 96, 104, 112, 117, 122], 52) rfl) q12 (by decide) (by decide) (by decide) (by decide) ?_
    obtain ⟨g13, h⟩ := h
    refine aw_aload_n (pc' := 141) (dt_X10_ofAsking 48 (140, .aload_n 3, 1) rfl) rfl rfl (aw_getI (pc' := 144) (dt_X10_ofAsking 49 (141, .getfield 291, 3) rfl) fl_ReturnDesk_291 rfl rfl g13 (aw_inS (pc' := 147) (nc1 := 0) (ns1 := 0) (nc := nc) (ns := ns) (ls' := [some (.int (zI μ a3 11))]) (y2 := mX10_asBit) (As := [.int (zI μ a3 11)]) (rest := []) (dt_X10_ofAsking 50 (144, .invokestatic 287, 3) rfl) ok_X10_asBit ln_ReturnDesk_287 sm_X10_asBit pr_X10_asBit rfl (Nat.le_of_ble_eq_true rfl) (Nat.le_of_ble_eq_true rfl) rfl rfl (aw_iload_n (pc' := 1) (dt_X10_asBit 0 (0, .iload_n 0, 1) rfl) rfl rfl (aw_if_eq (pc' := 4) (tgt := 8) (dt_X10_asBit 1 (1, .ifCond .eq 7, 3) rfl) (by decide) rfl ?_ ?_))))
    · intro q14
      have h := h.1 q14
      refine aw_iconst (pc' := 9) (v := 0) (dt_X10_asBit 4 (8, .iconst 0, 1) rfl) (by decide) rfl (aw_iret (dt_X10_asBit 5 (9, .ireturn, 1) rfl) rfl rfl (aw_stk (st' := [.int 0]) rfl (aw_iret (dt_X10_ofAsking 51 (147, .ireturn, 1) rfl) rfl rfl ?_)))
      exact h
    · intro q14
      have h := h.2 q14
      refine aw_iconst (pc' := 5) (v := 1) (dt_X10_asBit 2 (4, .iconst 1, 1) rfl) (by decide) rfl (aw_goto (tgt := 9) (dt_X10_asBit 3 (5, .goto 4, 3) rfl) (by decide) (aw_iret (dt_X10_asBit 5 (9, .ireturn, 1) rfl) rfl rfl (aw_stk (st' := [.int 1]) rfl (aw_iret (dt_X10_ofAsking 51 (147, .ireturn, 1) rfl) rfl rfl ?_))))
      exact h
  by_cases q15 : x2 = 5
  · have h := h.2.2.2.2.2.1 q15
    refine aw_tableE (tgt := 148) (off := 104) (dt_X10_ofAsking 25 (44, .tableswitch 127 0 8 #[52, 60, 65, 70, 96, 104, 112, 117, 122], 52) rfl) q15 (by decide) (by decide) (by decide) (by decide) ?_
    obtain ⟨g16, h⟩ := h
    refine aw_aload_n (pc' := 149) (dt_X10_ofAsking 52 (148, .aload_n 3, 1) rfl) rfl rfl (aw_getI (pc' := 152) (dt_X10_ofAsking 53 (149, .getfield 295, 3) rfl) fl_ReturnDesk_295 rfl rfl g16 (aw_inS (pc' := 155) (nc1 := 0) (ns1 := 0) (nc := nc) (ns := ns) (ls' := [some (.int (zI μ a3 12))]) (y2 := mX10_asBit) (As := [.int (zI μ a3 12)]) (rest := []) (dt_X10_ofAsking 54 (152, .invokestatic 287, 3) rfl) ok_X10_asBit ln_ReturnDesk_287 sm_X10_asBit pr_X10_asBit rfl (Nat.le_of_ble_eq_true rfl) (Nat.le_of_ble_eq_true rfl) rfl rfl (aw_iload_n (pc' := 1) (dt_X10_asBit 0 (0, .iload_n 0, 1) rfl) rfl rfl (aw_if_eq (pc' := 4) (tgt := 8) (dt_X10_asBit 1 (1, .ifCond .eq 7, 3) rfl) (by decide) rfl ?_ ?_))))
    · intro q17
      have h := h.1 q17
      refine aw_iconst (pc' := 9) (v := 0) (dt_X10_asBit 4 (8, .iconst 0, 1) rfl) (by decide) rfl (aw_iret (dt_X10_asBit 5 (9, .ireturn, 1) rfl) rfl rfl (aw_stk (st' := [.int 0]) rfl (aw_iret (dt_X10_ofAsking 55 (155, .ireturn, 1) rfl) rfl rfl ?_)))
      exact h
    · intro q17
      have h := h.2 q17
      refine aw_iconst (pc' := 5) (v := 1) (dt_X10_asBit 2 (4, .iconst 1, 1) rfl) (by decide) rfl (aw_goto (tgt := 9) (dt_X10_asBit 3 (5, .goto 4, 3) rfl) (by decide) (aw_iret (dt_X10_asBit 5 (9, .ireturn, 1) rfl) rfl rfl (aw_stk (st' := [.int 1]) rfl (aw_iret (dt_X10_ofAsking 55 (155, .ireturn, 1) rfl) rfl rfl ?_))))
      exact h
  by_cases q18 : x2 = 6
  · have h := h.2.2.2.2.2.2.1 q18
    refine aw_tableE (tgt := 156) (off := 112) (dt_X10_ofAsking 25 (44, .tableswitch 127 0 8 #[52, 60, 65, 70, 96, 104, 112, 117, 122], 52) rfl) q18 (by decide) (by decide) (by decide) (by decide) ?_
    obtain ⟨g19, h⟩ := h
    refine aw_aload_n (pc' := 157) (dt_X10_ofAsking 56 (156, .aload_n 3, 1) rfl) rfl rfl (aw_getI (pc' := 160) (dt_X10_ofAsking 57 (157, .getfield 298, 3) rfl) fl_ReturnDesk_298 rfl rfl g19 (aw_iret (dt_X10_ofAsking 58 (160, .ireturn, 1) rfl) rfl rfl ?_))
    exact h
  by_cases q20 : x2 = 7
  · have h := h.2.2.2.2.2.2.2.1 q20
    refine aw_tableE (tgt := 161) (off := 117) (dt_X10_ofAsking 25 (44, .tableswitch 127 0 8 #[52, 60, 65, 70, 96, 104, 112, 117, 122], 52) rfl) q20 (by decide) (by decide) (by decide) (by decide) ?_
    obtain ⟨g21, h⟩ := h
    refine aw_aload_n (pc' := 162) (dt_X10_ofAsking 59 (161, .aload_n 3, 1) rfl) rfl rfl (aw_getI (pc' := 165) (dt_X10_ofAsking 60 (162, .getfield 299, 3) rfl) fl_ReturnDesk_299 rfl rfl g21 (aw_iret (dt_X10_ofAsking 61 (165, .ireturn, 1) rfl) rfl rfl ?_))
    exact h
  by_cases q22 : x2 = 8
  · have h := h.2.2.2.2.2.2.2.2.1 q22
    refine aw_tableE (tgt := 166) (off := 122) (dt_X10_ofAsking 25 (44, .tableswitch 127 0 8 #[52, 60, 65, 70, 96, 104, 112, 117, 122], 52) rfl) q22 (by decide) (by decide) (by decide) (by decide) ?_
    obtain ⟨g23, h⟩ := h
    refine aw_aload_n (pc' := 167) (dt_X10_ofAsking 62 (166, .aload_n 3, 1) rfl) rfl rfl (aw_getI (pc' := 170) (dt_X10_ofAsking 63 (167, .getfield 302, 3) rfl) fl_ReturnDesk_302 rfl rfl g23 (aw_iret (dt_X10_ofAsking 64 (170, .ireturn, 1) rfl) rfl rfl ?_))
    exact h
  have h := h.2.2.2.2.2.2.2.2.2 ⟨q1, q6, q8, q10, q12, q15, q18, q20, q22⟩
  refine aw_tableOut (tgt := 171) (dt_X10_ofAsking 25 (44, .tableswitch 127 0 8 #[52, 60, 65, 70, 96, 104, 112, 117, 122], 52) rfl) (tab_out (lo := 0) (n := 9) (by decide) (by decide) (by decide) (by
      intro k hk
      match k, hk with
      | 0, _ => exact q1
      | 1, _ => exact q6
      | 2, _ => exact q8
      | 3, _ => exact q10
      | 4, _ => exact q12
      | 5, _ => exact q15
      | 6, _ => exact q18
      | 7, _ => exact q20
      | 8, _ => exact q22
      | k + 9, hk => omega)) (by decide) ?_
  refine aw_aload_n (pc' := 172) (dt_X10_ofAsking 65 (171, .aload_n 0, 1) rfl) rfl rfl (aw_getAs (pc' := 175) (dt_X10_ofAsking 66 (172, .getfield 68, 3) rfl) fl_ReturnDesk_68 rfl rfl (sk_11 hS) (sa_11_9 hS) (aw_getI (pc' := 178) (dt_X10_ofAsking 67 (175, .getfield 305, 3) rfl) fl_ReturnDesk_305 rfl rfl (sk_29 hS) (aw_iret (dt_X10_ofAsking 68 (178, .ireturn, 1) rfl) rfl rfl ?_)))
  exact h

theorem t_X10_take {E : ZE} {l : Launch} {d nc ns : Nat} {x1 : Int32} {μ : ZM} {K : Option Value → ZM → Prop} (hS : Stat μ) (h :
  (x1 < 0 →
    K (some (.int (-1))) μ) ∧
  (¬ x1 < 0 →
    (((zI μ 11 15) - 1) < x1 →
      K (some (.int (-1))) μ) ∧
    (¬ ((zI μ 11 15) - 1) < x1 →
      (vp_in x1 200) ∧
      (zA μ 15 x1.toNatClampNeg = none →
        K (some (.int (-1))) μ) ∧
      (∀ b5, zA μ 15 x1.toNatClampNeg = some b5 →
        (zK μ b5 = 0) ∧
        (¬ (zI μ b5 13) = 0 →
          K (some (.int (-2))) μ) ∧
        ((zI μ b5 13) = 0 →
          ((zI μ b5 11) = 0 →
            AW E l (d + 5) 0 0 mX10_judge 0 (zargs 13 [.ref 11, .ref b5, .int (zI μ b5 2)]) [] μ (fun v μ9 => v = none ∧ Stat μ9 ∧ 
              AW E l (d + 5) 0 0 mX10_carryOut 0 (zargs 6 [.ref 11, .ref b5, .int ((zI μ9 29 2) / 1000), .int ((zI μ9 29 2) - (zI μ9 29 2) / 1000 * 1000)]) [] μ9 (fun v μ11 => ∃ r13 : Int32, v = some (.int r13) ∧ Stat μ11 ∧ 
                (0 ≤ r13 →
                  (zK μ11 b5 = 0) ∧
                  (¬ (zI (sI μ11 b5 13 1) b5 5) = 1 →
                    K (some (.int (zI μ9 29 2))) (sI μ11 b5 13 1)) ∧
                  ((zI (sI μ11 b5 13 1) b5 5) = 1 →
                    (zA (sI μ11 b5 13 1) b5 0 = none →
                      False) ∧
                    (∀ b18, zA (sI μ11 b5 13 1) b5 0 = some b18 →
                      (zK (sI μ11 b5 13 1) b18 = 7) ∧
                      K (some (.int (zI μ9 29 2))) (sI (sI μ11 b5 13 1) b18 13 (if ((zI (sI μ11 b5 13 1) 11 17) / 24) < (zI (sI μ11 b5 13 1) b18 13) then ((zI (sI μ11 b5 13 1) 11 17) / 24) else (zI (sI μ11 b5 13 1) b18 13)))))) ∧
                (¬ 0 ≤ r13 →
                  K (some (.int r13)) μ11)))) ∧
          (¬ (zI μ b5 11) = 0 →
            K (some (.int (-2))) μ)))))) : AW E l (d + 6) nc ns mX10_take 0 [some (.ref 11), some (.int x1), none, none, none] [] μ K := by
  refine aw_aload_n (pc' := 1) (dt_X10_take 0 (0, .aload_n 0, 1) rfl) rfl rfl (aw_iload_n (pc' := 2) (dt_X10_take 1 (1, .iload_n 1, 1) rfl) rfl rfl (aw_inV (pc' := 5) (nc1 := 0) (ns1 := 0) (nc := nc) (ns := ns) (ls' := [some (.ref 11), some (.int x1)]) (y2 := mX10_askingAt) (As := [.int x1]) (rest := []) (a := 11) (dt_X10_take 2 (2, .invokevirtual 254, 3) rfl) ok_X10_askingAt ln_ReturnDesk_254 im_X10_askingAt se_X10_askingAt pr_X10_askingAt (Or.inl ⟨by decide, rfl⟩) rfl (Nat.le_of_ble_eq_true rfl) (Nat.le_of_ble_eq_true rfl) rfl rfl (sk_11 hS) (aw_iload_n (pc' := 1) (dt_X10_askingAt 0 (0, .iload_n 1, 1) rfl) rfl rfl (aw_iconst (pc' := 2) (v := 0) (dt_X10_askingAt 1 (1, .iconst 0, 1) rfl) (by decide) rfl (aw_aload_n (pc' := 3) (dt_X10_askingAt 2 (2, .aload_n 0, 1) rfl) rfl rfl (aw_getI (pc' := 6) (dt_X10_askingAt 3 (3, .getfield 248, 3) rfl) fl_ReturnDesk_248 rfl rfl (sk_11 hS) (aw_iconst (pc' := 7) (v := 1) (dt_X10_askingAt 4 (6, .iconst 1, 1) rfl) (by decide) rfl (aw_isub (pc' := 8) (dt_X10_askingAt 5 (7, .isub, 1) rfl) rfl (aw_inS (pc' := 11) (nc1 := 0) (ns1 := 0) (nc := 0) (ns := 0) (ls' := [some (.int x1), some (.int 0), some (.int ((zI μ 11 15) - 1))]) (y2 := mX10_within) (As := [.int x1, .int 0, .int ((zI μ 11 15) - 1)]) (rest := []) (dt_X10_askingAt 6 (8, .invokestatic 76, 3) rfl) ok_X10_within ln_ReturnDesk_76 sm_X10_within pr_X10_within rfl (Nat.le_of_ble_eq_true rfl) (Nat.le_of_ble_eq_true rfl) rfl rfl (aw_iload_n (pc' := 1) (dt_X10_within 0 (0, .iload_n 0, 1) rfl) rfl rfl (aw_iload_n (pc' := 2) (dt_X10_within 1 (1, .iload_n 1, 1) rfl) rfl rfl (aw_icmp_lt (pc' := 5) (tgt := 14) (dt_X10_within 2 (2, .if_icmp .lt 12, 3) rfl) (by decide) rfl ?_ ?_))))))))))))
  · intro q1
    have h := h.1 q1
    refine aw_iconst (pc' := 15) (v := 0) (dt_X10_within 8 (14, .iconst 0, 1) rfl) (by decide) rfl (aw_iret (dt_X10_within 9 (15, .ireturn, 1) rfl) rfl rfl (aw_stk (st' := [.int 0]) rfl (aw_if_eq_T (pc' := 14) (tgt := 23) (dt_X10_askingAt 7 (11, .ifCond .eq 12, 3) rfl) (by decide) rfl (by decide) (aw_null (pc' := 24) (dt_X10_askingAt 13 (23, .aconst_null, 1) rfl) rfl (aw_aretN (dt_X10_askingAt 14 (24, .areturn, 1) rfl) rfl rfl (aw_stk (st' := [.null]) rfl (aw_astore_nN (pc' := 6) (ls' := [some (.ref 11), some (.int x1), some (.null), none, none]) (dt_X10_take 3 (5, .astore_n 2, 1) rfl) (by decide) rfl rfl (aw_aload_nN (pc' := 7) (dt_X10_take 4 (6, .aload_n 2, 1) rfl) rfl rfl (aw_ifnonnullN (pc' := 10) (dt_X10_take 5 (7, .ifnonnull 5, 3) rfl) rfl (aw_iconst (pc' := 11) (v := (-1)) (dt_X10_take 6 (10, .iconst (-1), 1) rfl) (by decide) rfl (aw_iret (dt_X10_take 7 (11, .ireturn, 1) rfl) rfl rfl ?_)))))))))))
    exact h
  · intro q1
    have h := h.2 q1
    refine aw_iload_n (pc' := 6) (dt_X10_within 3 (5, .iload_n 0, 1) rfl) rfl rfl (aw_iload_n (pc' := 7) (dt_X10_within 4 (6, .iload_n 2, 1) rfl) rfl rfl (aw_icmp_gt (pc' := 10) (tgt := 14) (dt_X10_within 5 (7, .if_icmp .gt 7, 3) rfl) (by decide) rfl ?_ ?_))
    · intro q2
      have h := h.1 q2
      refine aw_iconst (pc' := 15) (v := 0) (dt_X10_within 8 (14, .iconst 0, 1) rfl) (by decide) rfl (aw_iret (dt_X10_within 9 (15, .ireturn, 1) rfl) rfl rfl (aw_stk (st' := [.int 0]) rfl (aw_if_eq_T (pc' := 14) (tgt := 23) (dt_X10_askingAt 7 (11, .ifCond .eq 12, 3) rfl) (by decide) rfl (by decide) (aw_null (pc' := 24) (dt_X10_askingAt 13 (23, .aconst_null, 1) rfl) rfl (aw_aretN (dt_X10_askingAt 14 (24, .areturn, 1) rfl) rfl rfl (aw_stk (st' := [.null]) rfl (aw_astore_nN (pc' := 6) (ls' := [some (.ref 11), some (.int x1), some (.null), none, none]) (dt_X10_take 3 (5, .astore_n 2, 1) rfl) (by decide) rfl rfl (aw_aload_nN (pc' := 7) (dt_X10_take 4 (6, .aload_n 2, 1) rfl) rfl rfl (aw_ifnonnullN (pc' := 10) (dt_X10_take 5 (7, .ifnonnull 5, 3) rfl) rfl (aw_iconst (pc' := 11) (v := (-1)) (dt_X10_take 6 (10, .iconst (-1), 1) rfl) (by decide) rfl (aw_iret (dt_X10_take 7 (11, .ireturn, 1) rfl) rfl rfl ?_)))))))))))
      exact h
    · intro q2
      have h := h.2 q2
      obtain ⟨g3, h⟩ := h
      refine aw_iconst (pc' := 11) (v := 1) (dt_X10_within 6 (10, .iconst 1, 1) rfl) (by decide) rfl (aw_goto (tgt := 15) (dt_X10_within 7 (11, .goto 4, 3) rfl) (by decide) (aw_iret (dt_X10_within 9 (15, .ireturn, 1) rfl) rfl rfl (aw_stk (st' := [.int 1]) rfl (aw_if_eq_F (pc' := 14) (tgt := 23) (dt_X10_askingAt 7 (11, .ifCond .eq 12, 3) rfl) (by decide) rfl (by decide) (aw_aload_n (pc' := 15) (dt_X10_askingAt 8 (14, .aload_n 0, 1) rfl) rfl rfl (aw_getAs (pc' := 18) (dt_X10_askingAt 9 (15, .getfield 29, 3) rfl) fl_ReturnDesk_29 rfl rfl (sk_11 hS) (sa_11_3 hS) (aw_iload_n (pc' := 19) (dt_X10_askingAt 10 (18, .iload_n 1, 1) rfl) rfl rfl (aw_aald (pc' := 20) (dt_X10_askingAt 11 (19, .aaload, 1) rfl) (by decide) (by decide) rfl (sk_15 hS) (vin_eq (sl_15 hS) g3) ?_ ?_))))))))
      · intro e4
        have h := h.1 e4
        refine aw_goto (tgt := 24) (dt_X10_askingAt 12 (20, .goto 4, 3) rfl) (by decide) (aw_aretN (dt_X10_askingAt 14 (24, .areturn, 1) rfl) rfl rfl (aw_stk (st' := [.null]) rfl (aw_astore_nN (pc' := 6) (ls' := [some (.ref 11), some (.int x1), some (.null), none, none]) (dt_X10_take 3 (5, .astore_n 2, 1) rfl) (by decide) rfl rfl (aw_aload_nN (pc' := 7) (dt_X10_take 4 (6, .aload_n 2, 1) rfl) rfl rfl (aw_ifnonnullN (pc' := 10) (dt_X10_take 5 (7, .ifnonnull 5, 3) rfl) rfl (aw_iconst (pc' := 11) (v := (-1)) (dt_X10_take 6 (10, .iconst (-1), 1) rfl) (by decide) rfl (aw_iret (dt_X10_take 7 (11, .ireturn, 1) rfl) rfl rfl ?_)))))))
        exact h
      · intro b5 e4
        have h := h.2 b5 e4
        obtain ⟨g6, h⟩ := h
        refine aw_goto (tgt := 24) (dt_X10_askingAt 12 (20, .goto 4, 3) rfl) (by decide) (aw_aret (dt_X10_askingAt 14 (24, .areturn, 1) rfl) rfl rfl (aw_stk (st' := [.ref b5]) rfl (aw_astore_n (pc' := 6) (ls' := [some (.ref 11), some (.int x1), some (.ref b5), none, none]) (dt_X10_take 3 (5, .astore_n 2, 1) rfl) (by decide) rfl rfl (aw_aload_n (pc' := 7) (dt_X10_take 4 (6, .aload_n 2, 1) rfl) rfl rfl (aw_ifnonnull (tgt := 12) (dt_X10_take 5 (7, .ifnonnull 5, 3) rfl) (by decide) (aw_aload_n (pc' := 13) (dt_X10_take 8 (12, .aload_n 2, 1) rfl) rfl rfl (aw_getI (pc' := 16) (dt_X10_take 9 (13, .getfield 298, 3) rfl) fl_ReturnDesk_298 rfl rfl g6 (aw_if_ne (pc' := 19) (tgt := 26) (dt_X10_take 10 (16, .ifCond .ne 10, 3) rfl) (by decide) rfl ?_ ?_))))))))
        · intro q7
          have h := h.1 q7
          refine aw_bipush (pc' := 28) (v := (-2)) (dt_X10_take 14 (26, .bipush (-2), 2) rfl) (by decide) rfl (aw_iret (dt_X10_take 15 (28, .ireturn, 1) rfl) rfl rfl ?_)
          exact h
        · intro q7
          have h := h.2 q7
          refine aw_aload_n (pc' := 20) (dt_X10_take 11 (19, .aload_n 2, 1) rfl) rfl rfl (aw_getI (pc' := 23) (dt_X10_take 12 (20, .getfield 291, 3) rfl) fl_ReturnDesk_291 rfl rfl g6 (aw_if_eq (pc' := 26) (tgt := 29) (dt_X10_take 13 (23, .ifCond .eq 6, 3) rfl) (by decide) rfl ?_ ?_))
          · intro q8
            have h := h.1 q8
            refine aw_aload_n (pc' := 30) (dt_X10_take 16 (29, .aload_n 0, 1) rfl) rfl rfl (aw_aload_n (pc' := 31) (dt_X10_take 17 (30, .aload_n 2, 1) rfl) rfl rfl (aw_aload_n (pc' := 32) (dt_X10_take 18 (31, .aload_n 2, 1) rfl) rfl rfl (aw_getI (pc' := 35) (dt_X10_take 19 (32, .getfield 268, 3) rfl) fl_ReturnDesk_268 rfl rfl g6 (aw_callV0 (pc' := 38) (nc := nc) (ns := ns) (y2 := mX10_judge) (As := [.ref b5, .int (zI μ b5 2)]) (rest := []) (a := 11) (dt_X10_take 20 (35, .invokevirtual 258, 3) rfl) ok_X10_judge ln_ReturnDesk_258 im_X10_judge se_X10_judge pr_X10_judge (Or.inl ⟨by decide, rfl⟩) rfl (Nat.le_of_ble_eq_true rfl) (Nat.le_of_ble_eq_true rfl) rfl (sk_11 hS) h ?_))))
            rintro v μ9 ⟨rfl, hS10, h⟩
            refine aw_stk (st' := []) rfl ?_
            refine aw_aload_n (pc' := 39) (dt_X10_take 21 (38, .aload_n 0, 1) rfl) rfl rfl (aw_getAs (pc' := 42) (dt_X10_take 22 (39, .getfield 68, 3) rfl) fl_ReturnDesk_68 rfl rfl (sk_11 hS10) (sa_11_9 hS10) (aw_getI (pc' := 45) (dt_X10_take 23 (42, .getfield 262, 3) rfl) fl_ReturnDesk_262 rfl rfl (sk_29 hS10) (aw_istore_n (pc' := 46) (ls' := [some (.ref 11), some (.int x1), some (.ref b5), some (.int (zI μ9 29 2)), none]) (dt_X10_take 24 (45, .istore_n 3, 1) rfl) (by decide) rfl rfl (aw_aload_n (pc' := 47) (dt_X10_take 25 (46, .aload_n 0, 1) rfl) rfl rfl (aw_aload_n (pc' := 48) (dt_X10_take 26 (47, .aload_n 2, 1) rfl) rfl rfl (aw_iload_n (pc' := 49) (dt_X10_take 27 (48, .iload_n 3, 1) rfl) rfl rfl (aw_sipush (pc' := 52) (v := 1000) (dt_X10_take 28 (49, .sipush 1000, 3) rfl) (by decide) rfl (aw_idiv (pc' := 53) (dt_X10_take 29 (52, .idiv, 1) rfl) (by decide) rfl (aw_iload_n (pc' := 54) (dt_X10_take 30 (53, .iload_n 3, 1) rfl) rfl rfl (aw_sipush (pc' := 57) (v := 1000) (dt_X10_take 31 (54, .sipush 1000, 3) rfl) (by decide) rfl (aw_irem (pc' := 58) (dt_X10_take 32 (57, .irem, 1) rfl) (by decide) rfl (aw_callV0 (pc' := 61) (nc := nc) (ns := ns) (y2 := mX10_carryOut) (As := [.ref b5, .int ((zI μ9 29 2) / 1000), .int ((zI μ9 29 2) - (zI μ9 29 2) / 1000 * 1000)]) (rest := []) (a := 11) (dt_X10_take 33 (58, .invokevirtual 308, 3) rfl) ok_X10_carryOut ln_ReturnDesk_308 im_X10_carryOut se_X10_carryOut pr_X10_carryOut (Or.inl ⟨by decide, rfl⟩) rfl (Nat.le_of_ble_eq_true rfl) (Nat.le_of_ble_eq_true rfl) rfl (sk_11 hS10) h ?_))))))))))))
            rintro v μ11 ⟨r13, rfl, hS12, h⟩
            refine aw_stk (st' := [.int r13]) rfl ?_
            refine aw_istore (pc' := 63) (ls' := [some (.ref 11), some (.int x1), some (.ref b5), some (.int (zI μ9 29 2)), some (.int r13)]) (dt_X10_take 34 (61, .istore 4, 2) rfl) (by decide) rfl rfl (aw_iload (pc' := 65) (dt_X10_take 35 (63, .iload 4, 2) rfl) rfl rfl (aw_if_ge (pc' := 68) (tgt := 71) (dt_X10_take 36 (65, .ifCond .ge 6, 3) rfl) (by decide) rfl ?_ ?_))
            · intro q14
              have h := h.1 q14
              obtain ⟨g15, h⟩ := h
              refine aw_aload_n (pc' := 72) (dt_X10_take 39 (71, .aload_n 2, 1) rfl) rfl rfl (aw_iconst (pc' := 73) (v := 1) (dt_X10_take 40 (72, .iconst 1, 1) rfl) (by decide) rfl (aw_putI (pc' := 76) (dt_X10_take 41 (73, .putfield 298, 3) rfl) fl_ReturnDesk_298 rfl (by decide +kernel) rfl g15 (aw_aload_n (pc' := 77) (dt_X10_take 42 (76, .aload_n 2, 1) rfl) rfl rfl (aw_getI (pc' := 80) (dt_X10_take 43 (77, .getfield 312, 3) rfl) fl_ReturnDesk_312 rfl rfl g15 (aw_iconst (pc' := 81) (v := 1) (dt_X10_take 44 (80, .iconst 1, 1) rfl) (by decide) rfl (aw_icmp_ne (pc' := 84) (tgt := 105) (dt_X10_take 45 (81, .if_icmp .ne 24, 3) rfl) (by decide) rfl ?_ ?_))))))
              · intro q16
                have h := h.1 q16
                refine aw_iload_n (pc' := 106) (dt_X10_take 55 (105, .iload_n 3, 1) rfl) rfl rfl (aw_iret (dt_X10_take 56 (106, .ireturn, 1) rfl) rfl rfl ?_)
                exact h
              · intro q16
                have h := h.2 q16
                refine aw_aload_n (pc' := 85) (dt_X10_take 46 (84, .aload_n 2, 1) rfl) rfl rfl (aw_getA (pc' := 88) (dt_X10_take 47 (85, .getfield 271, 3) rfl) fl_ReturnDesk_271 rfl rfl g15 ?_ ?_)
                · intro e17
                  have h := h.1 e17
                  refine aw_aload_n (pc' := 89) (dt_X10_take 48 (88, .aload_n 2, 1) rfl) rfl rfl (aw_getAn (pc' := 92) (dt_X10_take 49 (89, .getfield 271, 3) rfl) fl_ReturnDesk_271 rfl rfl g15 e17 ?_)
                  exact h.elim
                · intro b18 e17
                  have h := h.2 b18 e17
                  obtain ⟨g19, h⟩ := h
                  refine aw_aload_n (pc' := 89) (dt_X10_take 48 (88, .aload_n 2, 1) rfl) rfl rfl (aw_getAs (pc' := 92) (dt_X10_take 49 (89, .getfield 271, 3) rfl) fl_ReturnDesk_271 rfl rfl g15 e17 (aw_getI (pc' := 95) (dt_X10_take 50 (92, .getfield 315, 3) rfl) fl_ReturnDesk_315 rfl rfl g19 (aw_aload_n (pc' := 96) (dt_X10_take 51 (95, .aload_n 0, 1) rfl) rfl rfl (aw_inV (pc' := 99) (nc1 := 0) (ns1 := 0) (nc := nc) (ns := ns) (ls' := [some (.ref 11)]) (y2 := mX10_today) (As := []) (rest := [.int (zI (sI μ11 b5 13 1) b18 13), .ref b18]) (a := 11) (dt_X10_take 52 (96, .invokevirtual 138, 3) rfl) ok_X10_today ln_ReturnDesk_138 im_X10_today se_X10_today pr_X10_today (Or.inl ⟨by decide, rfl⟩) rfl (Nat.le_of_ble_eq_true rfl) (Nat.le_of_ble_eq_true rfl) rfl rfl (sk_11 hS12.wI) (aw_aload_n (pc' := 1) (dt_X10_today 0 (0, .aload_n 0, 1) rfl) rfl rfl (aw_getI (pc' := 4) (dt_X10_today 1 (1, .getfield 114, 3) rfl) fl_ReturnDesk_114 rfl rfl (sk_11 hS12.wI) (aw_bipush (pc' := 6) (v := 24) (dt_X10_today 2 (4, .bipush 24, 2) rfl) (by decide) rfl (aw_idiv (pc' := 7) (dt_X10_today 3 (6, .idiv, 1) rfl) (by decide) rfl (aw_iret (dt_X10_today 4 (7, .ireturn, 1) rfl) rfl rfl (aw_stk (st' := [.int ((zI (sI μ11 b5 13 1) 11 17) / 24), .int (zI (sI μ11 b5 13 1) b18 13), .ref b18]) rfl (aw_mmin (pc' := 102) (dt_X10_take 53 (99, .invokestatic 318, 3) rfl) mm_ReturnDesk_318 (Nat.le_of_ble_eq_true rfl) rfl (aw_putI (pc' := 105) (dt_X10_take 54 (102, .putfield 315, 3) rfl) fl_ReturnDesk_315 rfl (by decide +kernel) rfl g19 (aw_iload_n (pc' := 106) (dt_X10_take 55 (105, .iload_n 3, 1) rfl) rfl rfl (aw_iret (dt_X10_take 56 (106, .ireturn, 1) rfl) rfl rfl ?_))))))))))))))
                  exact h
            · intro q14
              have h := h.2 q14
              refine aw_iload (pc' := 70) (dt_X10_take 37 (68, .iload 4, 2) rfl) rfl rfl (aw_iret (dt_X10_take 38 (70, .ireturn, 1) rfl) rfl rfl ?_)
              exact h
          · intro q8
            have h := h.2 q8
            refine aw_bipush (pc' := 28) (v := (-2)) (dt_X10_take 14 (26, .bipush (-2), 2) rfl) (by decide) rfl (aw_iret (dt_X10_take 15 (28, .ireturn, 1) rfl) rfl rfl ?_)
            exact h

theorem t_X10_leave {E : ZE} {l : Launch} {d nc ns : Nat} {x1 : Int32} {μ : ZM} {K : Option Value → ZM → Prop} (hS : Stat μ) (h :
  (x1 < 0 →
    K (some (.int (-1))) μ) ∧
  (¬ x1 < 0 →
    (((zI μ 11 15) - 1) < x1 →
      K (some (.int (-1))) μ) ∧
    (¬ ((zI μ 11 15) - 1) < x1 →
      (vp_in x1 200) ∧
      (zA μ 15 x1.toNatClampNeg = none →
        K (some (.int (-1))) μ) ∧
      (∀ b5, zA μ 15 x1.toNatClampNeg = some b5 →
        (zK μ b5 = 0) ∧
        ((zI μ b5 13) = 0 →
          (zA (sI μ b5 13 2) b5 0 = none →
            False) ∧
          (∀ b9, zA (sI μ b5 13 2) b5 0 = some b9 →
            (zK (sI μ b5 13 2) b9 = 7) ∧
            K (some (.int 1)) (sI (sI μ b5 13 2) b9 11 0))) ∧
        (¬ (zI μ b5 13) = 0 →
          K (some (.int (-2))) μ))))) : AW E l (d + 2) nc ns mX10_leave 0 [some (.ref 11), some (.int x1), none] [] μ K := by
  refine aw_aload_n (pc' := 1) (dt_X10_leave 0 (0, .aload_n 0, 1) rfl) rfl rfl (aw_iload_n (pc' := 2) (dt_X10_leave 1 (1, .iload_n 1, 1) rfl) rfl rfl (aw_inV (pc' := 5) (nc1 := 0) (ns1 := 0) (nc := nc) (ns := ns) (ls' := [some (.ref 11), some (.int x1)]) (y2 := mX10_askingAt) (As := [.int x1]) (rest := []) (a := 11) (dt_X10_leave 2 (2, .invokevirtual 254, 3) rfl) ok_X10_askingAt ln_ReturnDesk_254 im_X10_askingAt se_X10_askingAt pr_X10_askingAt (Or.inl ⟨by decide, rfl⟩) rfl (Nat.le_of_ble_eq_true rfl) (Nat.le_of_ble_eq_true rfl) rfl rfl (sk_11 hS) (aw_iload_n (pc' := 1) (dt_X10_askingAt 0 (0, .iload_n 1, 1) rfl) rfl rfl (aw_iconst (pc' := 2) (v := 0) (dt_X10_askingAt 1 (1, .iconst 0, 1) rfl) (by decide) rfl (aw_aload_n (pc' := 3) (dt_X10_askingAt 2 (2, .aload_n 0, 1) rfl) rfl rfl (aw_getI (pc' := 6) (dt_X10_askingAt 3 (3, .getfield 248, 3) rfl) fl_ReturnDesk_248 rfl rfl (sk_11 hS) (aw_iconst (pc' := 7) (v := 1) (dt_X10_askingAt 4 (6, .iconst 1, 1) rfl) (by decide) rfl (aw_isub (pc' := 8) (dt_X10_askingAt 5 (7, .isub, 1) rfl) rfl (aw_inS (pc' := 11) (nc1 := 0) (ns1 := 0) (nc := 0) (ns := 0) (ls' := [some (.int x1), some (.int 0), some (.int ((zI μ 11 15) - 1))]) (y2 := mX10_within) (As := [.int x1, .int 0, .int ((zI μ 11 15) - 1)]) (rest := []) (dt_X10_askingAt 6 (8, .invokestatic 76, 3) rfl) ok_X10_within ln_ReturnDesk_76 sm_X10_within pr_X10_within rfl (Nat.le_of_ble_eq_true rfl) (Nat.le_of_ble_eq_true rfl) rfl rfl (aw_iload_n (pc' := 1) (dt_X10_within 0 (0, .iload_n 0, 1) rfl) rfl rfl (aw_iload_n (pc' := 2) (dt_X10_within 1 (1, .iload_n 1, 1) rfl) rfl rfl (aw_icmp_lt (pc' := 5) (tgt := 14) (dt_X10_within 2 (2, .if_icmp .lt 12, 3) rfl) (by decide) rfl ?_ ?_))))))))))))
  · intro q1
    have h := h.1 q1
    refine aw_iconst (pc' := 15) (v := 0) (dt_X10_within 8 (14, .iconst 0, 1) rfl) (by decide) rfl (aw_iret (dt_X10_within 9 (15, .ireturn, 1) rfl) rfl rfl (aw_stk (st' := [.int 0]) rfl (aw_if_eq_T (pc' := 14) (tgt := 23) (dt_X10_askingAt 7 (11, .ifCond .eq 12, 3) rfl) (by decide) rfl (by decide) (aw_null (pc' := 24) (dt_X10_askingAt 13 (23, .aconst_null, 1) rfl) rfl (aw_aretN (dt_X10_askingAt 14 (24, .areturn, 1) rfl) rfl rfl (aw_stk (st' := [.null]) rfl (aw_astore_nN (pc' := 6) (ls' := [some (.ref 11), some (.int x1), some (.null)]) (dt_X10_leave 3 (5, .astore_n 2, 1) rfl) (by decide) rfl rfl (aw_aload_nN (pc' := 7) (dt_X10_leave 4 (6, .aload_n 2, 1) rfl) rfl rfl (aw_ifnonnullN (pc' := 10) (dt_X10_leave 5 (7, .ifnonnull 5, 3) rfl) rfl (aw_iconst (pc' := 11) (v := (-1)) (dt_X10_leave 6 (10, .iconst (-1), 1) rfl) (by decide) rfl (aw_iret (dt_X10_leave 7 (11, .ireturn, 1) rfl) rfl rfl ?_)))))))))))
    exact h
  · intro q1
    have h := h.2 q1
    refine aw_iload_n (pc' := 6) (dt_X10_within 3 (5, .iload_n 0, 1) rfl) rfl rfl (aw_iload_n (pc' := 7) (dt_X10_within 4 (6, .iload_n 2, 1) rfl) rfl rfl (aw_icmp_gt (pc' := 10) (tgt := 14) (dt_X10_within 5 (7, .if_icmp .gt 7, 3) rfl) (by decide) rfl ?_ ?_))
    · intro q2
      have h := h.1 q2
      refine aw_iconst (pc' := 15) (v := 0) (dt_X10_within 8 (14, .iconst 0, 1) rfl) (by decide) rfl (aw_iret (dt_X10_within 9 (15, .ireturn, 1) rfl) rfl rfl (aw_stk (st' := [.int 0]) rfl (aw_if_eq_T (pc' := 14) (tgt := 23) (dt_X10_askingAt 7 (11, .ifCond .eq 12, 3) rfl) (by decide) rfl (by decide) (aw_null (pc' := 24) (dt_X10_askingAt 13 (23, .aconst_null, 1) rfl) rfl (aw_aretN (dt_X10_askingAt 14 (24, .areturn, 1) rfl) rfl rfl (aw_stk (st' := [.null]) rfl (aw_astore_nN (pc' := 6) (ls' := [some (.ref 11), some (.int x1), some (.null)]) (dt_X10_leave 3 (5, .astore_n 2, 1) rfl) (by decide) rfl rfl (aw_aload_nN (pc' := 7) (dt_X10_leave 4 (6, .aload_n 2, 1) rfl) rfl rfl (aw_ifnonnullN (pc' := 10) (dt_X10_leave 5 (7, .ifnonnull 5, 3) rfl) rfl (aw_iconst (pc' := 11) (v := (-1)) (dt_X10_leave 6 (10, .iconst (-1), 1) rfl) (by decide) rfl (aw_iret (dt_X10_leave 7 (11, .ireturn, 1) rfl) rfl rfl ?_)))))))))))
      exact h
    · intro q2
      have h := h.2 q2
      obtain ⟨g3, h⟩ := h
      refine aw_iconst (pc' := 11) (v := 1) (dt_X10_within 6 (10, .iconst 1, 1) rfl) (by decide) rfl (aw_goto (tgt := 15) (dt_X10_within 7 (11, .goto 4, 3) rfl) (by decide) (aw_iret (dt_X10_within 9 (15, .ireturn, 1) rfl) rfl rfl (aw_stk (st' := [.int 1]) rfl (aw_if_eq_F (pc' := 14) (tgt := 23) (dt_X10_askingAt 7 (11, .ifCond .eq 12, 3) rfl) (by decide) rfl (by decide) (aw_aload_n (pc' := 15) (dt_X10_askingAt 8 (14, .aload_n 0, 1) rfl) rfl rfl (aw_getAs (pc' := 18) (dt_X10_askingAt 9 (15, .getfield 29, 3) rfl) fl_ReturnDesk_29 rfl rfl (sk_11 hS) (sa_11_3 hS) (aw_iload_n (pc' := 19) (dt_X10_askingAt 10 (18, .iload_n 1, 1) rfl) rfl rfl (aw_aald (pc' := 20) (dt_X10_askingAt 11 (19, .aaload, 1) rfl) (by decide) (by decide) rfl (sk_15 hS) (vin_eq (sl_15 hS) g3) ?_ ?_))))))))
      · intro e4
        have h := h.1 e4
        refine aw_goto (tgt := 24) (dt_X10_askingAt 12 (20, .goto 4, 3) rfl) (by decide) (aw_aretN (dt_X10_askingAt 14 (24, .areturn, 1) rfl) rfl rfl (aw_stk (st' := [.null]) rfl (aw_astore_nN (pc' := 6) (ls' := [some (.ref 11), some (.int x1), some (.null)]) (dt_X10_leave 3 (5, .astore_n 2, 1) rfl) (by decide) rfl rfl (aw_aload_nN (pc' := 7) (dt_X10_leave 4 (6, .aload_n 2, 1) rfl) rfl rfl (aw_ifnonnullN (pc' := 10) (dt_X10_leave 5 (7, .ifnonnull 5, 3) rfl) rfl (aw_iconst (pc' := 11) (v := (-1)) (dt_X10_leave 6 (10, .iconst (-1), 1) rfl) (by decide) rfl (aw_iret (dt_X10_leave 7 (11, .ireturn, 1) rfl) rfl rfl ?_)))))))
        exact h
      · intro b5 e4
        have h := h.2 b5 e4
        obtain ⟨g6, h⟩ := h
        refine aw_goto (tgt := 24) (dt_X10_askingAt 12 (20, .goto 4, 3) rfl) (by decide) (aw_aret (dt_X10_askingAt 14 (24, .areturn, 1) rfl) rfl rfl (aw_stk (st' := [.ref b5]) rfl (aw_astore_n (pc' := 6) (ls' := [some (.ref 11), some (.int x1), some (.ref b5)]) (dt_X10_leave 3 (5, .astore_n 2, 1) rfl) (by decide) rfl rfl (aw_aload_n (pc' := 7) (dt_X10_leave 4 (6, .aload_n 2, 1) rfl) rfl rfl (aw_ifnonnull (tgt := 12) (dt_X10_leave 5 (7, .ifnonnull 5, 3) rfl) (by decide) (aw_aload_n (pc' := 13) (dt_X10_leave 8 (12, .aload_n 2, 1) rfl) rfl rfl (aw_getI (pc' := 16) (dt_X10_leave 9 (13, .getfield 298, 3) rfl) fl_ReturnDesk_298 rfl rfl g6 (aw_if_eq (pc' := 19) (tgt := 22) (dt_X10_leave 10 (16, .ifCond .eq 6, 3) rfl) (by decide) rfl ?_ ?_))))))))
        · intro q7
          have h := h.1 q7
          refine aw_aload_n (pc' := 23) (dt_X10_leave 13 (22, .aload_n 2, 1) rfl) rfl rfl (aw_iconst (pc' := 24) (v := 2) (dt_X10_leave 14 (23, .iconst 2, 1) rfl) (by decide) rfl (aw_putI (pc' := 27) (dt_X10_leave 15 (24, .putfield 298, 3) rfl) fl_ReturnDesk_298 rfl (by decide +kernel) rfl g6 (aw_aload_n (pc' := 28) (dt_X10_leave 16 (27, .aload_n 2, 1) rfl) rfl rfl (aw_getA (pc' := 31) (dt_X10_leave 17 (28, .getfield 271, 3) rfl) fl_ReturnDesk_271 rfl rfl g6 ?_ ?_))))
          · intro e8
            have h := h.1 e8
            refine aw_iconst (pc' := 32) (v := 0) (dt_X10_leave 18 (31, .iconst 0, 1) rfl) (by decide) rfl ?_
            exact h.elim
          · intro b9 e8
            have h := h.2 b9 e8
            obtain ⟨g10, h⟩ := h
            refine aw_iconst (pc' := 32) (v := 0) (dt_X10_leave 18 (31, .iconst 0, 1) rfl) (by decide) rfl (aw_putI (pc' := 35) (dt_X10_leave 19 (32, .putfield 160, 3) rfl) fl_ReturnDesk_160 rfl (by decide +kernel) rfl g10 (aw_iconst (pc' := 36) (v := 1) (dt_X10_leave 20 (35, .iconst 1, 1) rfl) (by decide) rfl (aw_iret (dt_X10_leave 21 (36, .ireturn, 1) rfl) rfl rfl ?_)))
            exact h
        · intro q7
          have h := h.2 q7
          refine aw_bipush (pc' := 21) (v := (-2)) (dt_X10_leave 11 (19, .bipush (-2), 2) rfl) (by decide) rfl (aw_iret (dt_X10_leave 12 (21, .ireturn, 1) rfl) rfl rfl ?_)
          exact h

theorem t_X10_note {E : ZE} {l : Launch} {d nc ns : Nat} {x1 : Int32} {μ : ZM} {K : Option Value → ZM → Prop} (hS : Stat μ) (h :
  (x1 < 0 →
    K (some (.int (-1))) μ) ∧
  (¬ x1 < 0 →
    ((zI μ 17 1) ≤ x1 →
      K (some (.int (-1))) μ) ∧
    (¬ (zI μ 17 1) ≤ x1 →
      (200 ≤ x1 →
        K (some (.int (-1))) μ) ∧
      (¬ 200 ≤ x1 →
        (vp_in x1 200) ∧
        K (some (.int (zI μ 18 x1.toNatClampNeg))) μ)))) : AW E l (d + 1) nc ns mX10_note 0 [some (.ref 11), some (.int x1)] [] μ K := by
  refine aw_aload_n (pc' := 1) (dt_X10_note 0 (0, .aload_n 0, 1) rfl) rfl rfl (aw_getAs (pc' := 4) (dt_X10_note 1 (1, .getfield 42, 3) rfl) fl_ReturnDesk_42 rfl rfl (sk_11 hS) (sa_11_5 hS) (aw_iload_n (pc' := 5) (dt_X10_note 2 (4, .iload_n 1, 1) rfl) rfl rfl (aw_inV (pc' := 8) (nc1 := 0) (ns1 := 0) (nc := nc) (ns := ns) (ls' := [some (.ref 17), some (.int x1)]) (y2 := mX5_hasNote) (As := [.int x1]) (rest := []) (a := 17) (dt_X10_note 3 (5, .invokevirtual 125, 3) rfl) ok_X5_hasNote ln_ReturnDesk_125 im_X5_hasNote se_X5_hasNote pr_X5_hasNote (Or.inl ⟨by decide, rfl⟩) rfl (Nat.le_of_ble_eq_true rfl) (Nat.le_of_ble_eq_true rfl) rfl rfl (sk_17 hS) (aw_iload_n (pc' := 1) (dt_X5_hasNote 0 (0, .iload_n 1, 1) rfl) rfl rfl (aw_if_lt (pc' := 4) (tgt := 25) (dt_X5_hasNote 1 (1, .ifCond .lt 24, 3) rfl) (by decide) rfl ?_ ?_)))))
  · intro q1
    have h := h.1 q1
    refine aw_iconst (pc' := 26) (v := 0) (dt_X5_hasNote 13 (25, .iconst 0, 1) rfl) (by decide) rfl (aw_iret (dt_X5_hasNote 14 (26, .ireturn, 1) rfl) rfl rfl (aw_stk (st' := [.int 0]) rfl (aw_if_eq_T (pc' := 11) (tgt := 23) (dt_X10_note 4 (8, .ifCond .eq 15, 3) rfl) (by decide) rfl (by decide) (aw_iconst (pc' := 24) (v := (-1)) (dt_X10_note 11 (23, .iconst (-1), 1) rfl) (by decide) rfl (aw_iret (dt_X10_note 12 (24, .ireturn, 1) rfl) rfl rfl ?_)))))
    exact h
  · intro q1
    have h := h.2 q1
    refine aw_iload_n (pc' := 5) (dt_X5_hasNote 2 (4, .iload_n 1, 1) rfl) rfl rfl (aw_aload_n (pc' := 6) (dt_X5_hasNote 3 (5, .aload_n 0, 1) rfl) rfl rfl (aw_getI (pc' := 9) (dt_X5_hasNote 4 (6, .getfield 15, 3) rfl) fl_Purse_15 rfl rfl (sk_17 hS) (aw_icmp_ge (pc' := 12) (tgt := 25) (dt_X5_hasNote 5 (9, .if_icmp .ge 16, 3) rfl) (by decide) rfl ?_ ?_)))
    · intro q2
      have h := h.1 q2
      refine aw_iconst (pc' := 26) (v := 0) (dt_X5_hasNote 13 (25, .iconst 0, 1) rfl) (by decide) rfl (aw_iret (dt_X5_hasNote 14 (26, .ireturn, 1) rfl) rfl rfl (aw_stk (st' := [.int 0]) rfl (aw_if_eq_T (pc' := 11) (tgt := 23) (dt_X10_note 4 (8, .ifCond .eq 15, 3) rfl) (by decide) rfl (by decide) (aw_iconst (pc' := 24) (v := (-1)) (dt_X10_note 11 (23, .iconst (-1), 1) rfl) (by decide) rfl (aw_iret (dt_X10_note 12 (24, .ireturn, 1) rfl) rfl rfl ?_)))))
      exact h
    · intro q2
      have h := h.2 q2
      refine aw_iload_n (pc' := 13) (dt_X5_hasNote 6 (12, .iload_n 1, 1) rfl) rfl rfl (aw_aload_n (pc' := 14) (dt_X5_hasNote 7 (13, .aload_n 0, 1) rfl) rfl rfl (aw_getAs (pc' := 17) (dt_X5_hasNote 8 (14, .getfield 9, 3) rfl) fl_Purse_9 rfl rfl (sk_17 hS) (sa_17_0 hS) (aw_alens (pc' := 18) (n := 200) (v := 200) (dt_X5_hasNote 9 (17, .arraylength, 1) rfl) (by decide) (by decide) rfl (sk_18 hS) (sl_18 hS) (by decide) (aw_icmp_ge (pc' := 21) (tgt := 25) (dt_X5_hasNote 10 (18, .if_icmp .ge 7, 3) rfl) (by decide) rfl ?_ ?_))))
      · intro q3
        have h := h.1 q3
        refine aw_iconst (pc' := 26) (v := 0) (dt_X5_hasNote 13 (25, .iconst 0, 1) rfl) (by decide) rfl (aw_iret (dt_X5_hasNote 14 (26, .ireturn, 1) rfl) rfl rfl (aw_stk (st' := [.int 0]) rfl (aw_if_eq_T (pc' := 11) (tgt := 23) (dt_X10_note 4 (8, .ifCond .eq 15, 3) rfl) (by decide) rfl (by decide) (aw_iconst (pc' := 24) (v := (-1)) (dt_X10_note 11 (23, .iconst (-1), 1) rfl) (by decide) rfl (aw_iret (dt_X10_note 12 (24, .ireturn, 1) rfl) rfl rfl ?_)))))
        exact h
      · intro q3
        have h := h.2 q3
        obtain ⟨g4, h⟩ := h
        refine aw_iconst (pc' := 22) (v := 1) (dt_X5_hasNote 11 (21, .iconst 1, 1) rfl) (by decide) rfl (aw_goto (tgt := 26) (dt_X5_hasNote 12 (22, .goto 4, 3) rfl) (by decide) (aw_iret (dt_X5_hasNote 14 (26, .ireturn, 1) rfl) rfl rfl (aw_stk (st' := [.int 1]) rfl (aw_if_eq_F (pc' := 11) (tgt := 23) (dt_X10_note 4 (8, .ifCond .eq 15, 3) rfl) (by decide) rfl (by decide) (aw_aload_n (pc' := 12) (dt_X10_note 5 (11, .aload_n 0, 1) rfl) rfl rfl (aw_getAs (pc' := 15) (dt_X10_note 6 (12, .getfield 42, 3) rfl) fl_ReturnDesk_42 rfl rfl (sk_11 hS) (sa_11_5 hS) (aw_getAs (pc' := 18) (dt_X10_note 7 (15, .getfield 323, 3) rfl) fl_ReturnDesk_323 rfl rfl (sk_17 hS) (sa_17_0 hS) (aw_iload_n (pc' := 19) (dt_X10_note 8 (18, .iload_n 1, 1) rfl) rfl rfl (aw_iald (pc' := 20) (dt_X10_note 9 (19, .iaload, 1) rfl) rfl (sk_18 hS) (vin_eq (sl_18 hS) g4) (aw_goto (tgt := 24) (dt_X10_note 10 (20, .goto 4, 3) rfl) (by decide) (aw_iret (dt_X10_note 12 (24, .ireturn, 1) rfl) rfl rfl ?_)))))))))))
        exact h

theorem t_X10_stock {E : ZE} {l : Launch} {d nc ns : Nat} {x1 : Int32} {x2 : Int32} {μ : ZM} {K : Option Value → ZM → Prop} (hS : Stat μ) (h :
  (x1 < 0 →
    K (some (.int (-1))) μ) ∧
  (¬ x1 < 0 →
    (((zI μ 11 12) - 1) < x1 →
      K (some (.int (-1))) μ) ∧
    (¬ ((zI μ 11 12) - 1) < x1 →
      (vp_in x1 20) ∧
      (zA μ 12 x1.toNatClampNeg = none →
        K (some (.int (-1))) μ) ∧
      (∀ b5, zA μ 12 x1.toNatClampNeg = some b5 →
        (x2 = 0 →
          (zK μ b5 = 4) ∧
          AW E l (d + 1) 0 0 mX10_leftInLots 0 (zargs 4 [.ref 11, .ref b5]) [] μ (fun v μ8 => ∃ r10 : Int32, v = some (.int r10) ∧ Stat μ8 ∧ 
            K (some (.int ((zI μ b5 7) + r10))) μ8)) ∧
        (x2 = 1 →
          (zK μ b5 = 4) ∧
          K (some (.int (zI μ b5 8))) μ) ∧
        (x2 = 2 →
          AW E l (d + 1) 0 0 mX10_salesOf 0 (zargs 7 [.ref 11, .ref b5, .int 1, .int 1]) [] μ (fun v μ14 => ∃ r16 : Int32, v = some (.int r16) ∧ Stat μ14 ∧ 
            K (some (.int r16)) μ14)) ∧
        (x2 = 3 →
          (zK μ b5 = 4) ∧
          K (some (.int (zI μ b5 9))) μ) ∧
        (x2 = 4 →
          AW E l (d + 1) 0 0 mX10_salesOf 0 (zargs 7 [.ref 11, .ref b5, .int 0, .int 0]) [] μ (fun v μ20 => ∃ r22 : Int32, v = some (.int r22) ∧ Stat μ20 ∧ 
            K (some (.int r22)) μ20)) ∧
        (x2 = 5 →
          AW E l (d + 1) 0 0 mX10_salesOf 0 (zargs 7 [.ref 11, .ref b5, .int 1, .int 0]) [] μ (fun v μ24 => ∃ r26 : Int32, v = some (.int r26) ∧ Stat μ24 ∧ 
            K (some (.int r26)) μ24)) ∧
        (x2 = 6 →
          (zK μ b5 = 4) ∧
          K (some (.int (zI μ b5 10))) μ) ∧
        ((¬ x2 = 0 ∧ ¬ x2 = 1 ∧ ¬ x2 = 2 ∧ ¬ x2 = 3 ∧ ¬ x2 = 4 ∧ ¬ x2 = 5 ∧ ¬ x2 = 6) →
        K (some (.int (-1))) μ))))) : AW E l (d + 2) nc ns mX10_stock 0 [some (.ref 11), some (.int x1), some (.int x2), none] [] μ K := by
  refine aw_aload_n (pc' := 1) (dt_X10_stock 0 (0, .aload_n 0, 1) rfl) rfl rfl (aw_iload_n (pc' := 2) (dt_X10_stock 1 (1, .iload_n 1, 1) rfl) rfl rfl (aw_inV (pc' := 5) (nc1 := 0) (ns1 := 0) (nc := nc) (ns := ns) (ls' := [some (.ref 11), some (.int x1)]) (y2 := mX10_modelAt) (As := [.int x1]) (rest := []) (a := 11) (dt_X10_stock 2 (2, .invokevirtual 88, 3) rfl) ok_X10_modelAt ln_ReturnDesk_88 im_X10_modelAt se_X10_modelAt pr_X10_modelAt (Or.inl ⟨by decide, rfl⟩) rfl (Nat.le_of_ble_eq_true rfl) (Nat.le_of_ble_eq_true rfl) rfl rfl (sk_11 hS) (aw_iload_n (pc' := 1) (dt_X10_modelAt 0 (0, .iload_n 1, 1) rfl) rfl rfl (aw_iconst (pc' := 2) (v := 0) (dt_X10_modelAt 1 (1, .iconst 0, 1) rfl) (by decide) rfl (aw_aload_n (pc' := 3) (dt_X10_modelAt 2 (2, .aload_n 0, 1) rfl) rfl rfl (aw_getI (pc' := 6) (dt_X10_modelAt 3 (3, .getfield 81, 3) rfl) fl_ReturnDesk_81 rfl rfl (sk_11 hS) (aw_iconst (pc' := 7) (v := 1) (dt_X10_modelAt 4 (6, .iconst 1, 1) rfl) (by decide) rfl (aw_isub (pc' := 8) (dt_X10_modelAt 5 (7, .isub, 1) rfl) rfl (aw_inS (pc' := 11) (nc1 := 0) (ns1 := 0) (nc := 0) (ns := 0) (ls' := [some (.int x1), some (.int 0), some (.int ((zI μ 11 12) - 1))]) (y2 := mX10_within) (As := [.int x1, .int 0, .int ((zI μ 11 12) - 1)]) (rest := []) (dt_X10_modelAt 6 (8, .invokestatic 76, 3) rfl) ok_X10_within ln_ReturnDesk_76 sm_X10_within pr_X10_within rfl (Nat.le_of_ble_eq_true rfl) (Nat.le_of_ble_eq_true rfl) rfl rfl (aw_iload_n (pc' := 1) (dt_X10_within 0 (0, .iload_n 0, 1) rfl) rfl rfl (aw_iload_n (pc' := 2) (dt_X10_within 1 (1, .iload_n 1, 1) rfl) rfl rfl (aw_icmp_lt (pc' := 5) (tgt := 14) (dt_X10_within 2 (2, .if_icmp .lt 12, 3) rfl) (by decide) rfl ?_ ?_))))))))))))
  · intro q1
    have h := h.1 q1
    refine aw_iconst (pc' := 15) (v := 0) (dt_X10_within 8 (14, .iconst 0, 1) rfl) (by decide) rfl (aw_iret (dt_X10_within 9 (15, .ireturn, 1) rfl) rfl rfl (aw_stk (st' := [.int 0]) rfl (aw_if_eq_T (pc' := 14) (tgt := 23) (dt_X10_modelAt 7 (11, .ifCond .eq 12, 3) rfl) (by decide) rfl (by decide) (aw_null (pc' := 24) (dt_X10_modelAt 13 (23, .aconst_null, 1) rfl) rfl (aw_aretN (dt_X10_modelAt 14 (24, .areturn, 1) rfl) rfl rfl (aw_stk (st' := [.null]) rfl (aw_astore_nN (pc' := 6) (ls' := [some (.ref 11), some (.int x1), some (.int x2), some (.null)]) (dt_X10_stock 3 (5, .astore_n 3, 1) rfl) (by decide) rfl rfl (aw_aload_nN (pc' := 7) (dt_X10_stock 4 (6, .aload_n 3, 1) rfl) rfl rfl (aw_ifnonnullN (pc' := 10) (dt_X10_stock 5 (7, .ifnonnull 5, 3) rfl) rfl (aw_iconst (pc' := 11) (v := (-1)) (dt_X10_stock 6 (10, .iconst (-1), 1) rfl) (by decide) rfl (aw_iret (dt_X10_stock 7 (11, .ireturn, 1) rfl) rfl rfl ?_)))))))))))
    exact h
  · intro q1
    have h := h.2 q1
    refine aw_iload_n (pc' := 6) (dt_X10_within 3 (5, .iload_n 0, 1) rfl) rfl rfl (aw_iload_n (pc' := 7) (dt_X10_within 4 (6, .iload_n 2, 1) rfl) rfl rfl (aw_icmp_gt (pc' := 10) (tgt := 14) (dt_X10_within 5 (7, .if_icmp .gt 7, 3) rfl) (by decide) rfl ?_ ?_))
    · intro q2
      have h := h.1 q2
      refine aw_iconst (pc' := 15) (v := 0) (dt_X10_within 8 (14, .iconst 0, 1) rfl) (by decide) rfl (aw_iret (dt_X10_within 9 (15, .ireturn, 1) rfl) rfl rfl (aw_stk (st' := [.int 0]) rfl (aw_if_eq_T (pc' := 14) (tgt := 23) (dt_X10_modelAt 7 (11, .ifCond .eq 12, 3) rfl) (by decide) rfl (by decide) (aw_null (pc' := 24) (dt_X10_modelAt 13 (23, .aconst_null, 1) rfl) rfl (aw_aretN (dt_X10_modelAt 14 (24, .areturn, 1) rfl) rfl rfl (aw_stk (st' := [.null]) rfl (aw_astore_nN (pc' := 6) (ls' := [some (.ref 11), some (.int x1), some (.int x2), some (.null)]) (dt_X10_stock 3 (5, .astore_n 3, 1) rfl) (by decide) rfl rfl (aw_aload_nN (pc' := 7) (dt_X10_stock 4 (6, .aload_n 3, 1) rfl) rfl rfl (aw_ifnonnullN (pc' := 10) (dt_X10_stock 5 (7, .ifnonnull 5, 3) rfl) rfl (aw_iconst (pc' := 11) (v := (-1)) (dt_X10_stock 6 (10, .iconst (-1), 1) rfl) (by decide) rfl (aw_iret (dt_X10_stock 7 (11, .ireturn, 1) rfl) rfl rfl ?_)))))))))))
      exact h
    · intro q2
      have h := h.2 q2
      obtain ⟨g3, h⟩ := h
      refine aw_iconst (pc' := 11) (v := 1) (dt_X10_within 6 (10, .iconst 1, 1) rfl) (by decide) rfl (aw_goto (tgt := 15) (dt_X10_within 7 (11, .goto 4, 3) rfl) (by decide) (aw_iret (dt_X10_within 9 (15, .ireturn, 1) rfl) rfl rfl (aw_stk (st' := [.int 1]) rfl (aw_if_eq_F (pc' := 14) (tgt := 23) (dt_X10_modelAt 7 (11, .ifCond .eq 12, 3) rfl) (by decide) rfl (by decide) (aw_aload_n (pc' := 15) (dt_X10_modelAt 8 (14, .aload_n 0, 1) rfl) rfl rfl (aw_getAs (pc' := 18) (dt_X10_modelAt 9 (15, .getfield 11, 3) rfl) fl_ReturnDesk_11 rfl rfl (sk_11 hS) (sa_11_0 hS) (aw_iload_n (pc' := 19) (dt_X10_modelAt 10 (18, .iload_n 1, 1) rfl) rfl rfl (aw_aald (pc' := 20) (dt_X10_modelAt 11 (19, .aaload, 1) rfl) (by decide) (by decide) rfl (sk_12 hS) (vin_eq (sl_12 hS) g3) ?_ ?_))))))))
      · intro e4
        have h := h.1 e4
        refine aw_goto (tgt := 24) (dt_X10_modelAt 12 (20, .goto 4, 3) rfl) (by decide) (aw_aretN (dt_X10_modelAt 14 (24, .areturn, 1) rfl) rfl rfl (aw_stk (st' := [.null]) rfl (aw_astore_nN (pc' := 6) (ls' := [some (.ref 11), some (.int x1), some (.int x2), some (.null)]) (dt_X10_stock 3 (5, .astore_n 3, 1) rfl) (by decide) rfl rfl (aw_aload_nN (pc' := 7) (dt_X10_stock 4 (6, .aload_n 3, 1) rfl) rfl rfl (aw_ifnonnullN (pc' := 10) (dt_X10_stock 5 (7, .ifnonnull 5, 3) rfl) rfl (aw_iconst (pc' := 11) (v := (-1)) (dt_X10_stock 6 (10, .iconst (-1), 1) rfl) (by decide) rfl (aw_iret (dt_X10_stock 7 (11, .ireturn, 1) rfl) rfl rfl ?_)))))))
        exact h
      · intro b5 e4
        have h := h.2 b5 e4
        refine aw_goto (tgt := 24) (dt_X10_modelAt 12 (20, .goto 4, 3) rfl) (by decide) (aw_aret (dt_X10_modelAt 14 (24, .areturn, 1) rfl) rfl rfl (aw_stk (st' := [.ref b5]) rfl (aw_astore_n (pc' := 6) (ls' := [some (.ref 11), some (.int x1), some (.int x2), some (.ref b5)]) (dt_X10_stock 3 (5, .astore_n 3, 1) rfl) (by decide) rfl rfl (aw_aload_n (pc' := 7) (dt_X10_stock 4 (6, .aload_n 3, 1) rfl) rfl rfl (aw_ifnonnull (tgt := 12) (dt_X10_stock 5 (7, .ifnonnull 5, 3) rfl) (by decide) (aw_iload_n (pc' := 13) (dt_X10_stock 8 (12, .iload_n 2, 1) rfl) rfl rfl ?_))))))
        by_cases q6 : x2 = 0
        · have h := h.1 q6
          refine aw_tableE (tgt := 56) (off := 43) (dt_X10_stock 9 (13, .tableswitch 93 0 6 #[43, 54, 59, 67, 72, 80, 88], 43) rfl) q6 (by decide) (by decide) (by decide) (by decide) ?_
          obtain ⟨g7, h⟩ := h
          refine aw_aload_n (pc' := 57) (dt_X10_stock 10 (56, .aload_n 3, 1) rfl) rfl rfl (aw_getI (pc' := 60) (dt_X10_stock 11 (57, .getfield 326, 3) rfl) fl_ReturnDesk_326 rfl rfl g7 (aw_aload_n (pc' := 61) (dt_X10_stock 12 (60, .aload_n 0, 1) rfl) rfl rfl (aw_aload_n (pc' := 62) (dt_X10_stock 13 (61, .aload_n 3, 1) rfl) rfl rfl (aw_callV0 (pc' := 65) (nc := nc) (ns := ns) (y2 := mX10_leftInLots) (As := [.ref b5]) (rest := [.int (zI μ b5 7)]) (a := 11) (dt_X10_stock 14 (62, .invokevirtual 329, 3) rfl) ok_X10_leftInLots ln_ReturnDesk_329 im_X10_leftInLots se_X10_leftInLots pr_X10_leftInLots (Or.inl ⟨by decide, rfl⟩) rfl (Nat.le_of_ble_eq_true rfl) (Nat.le_of_ble_eq_true rfl) rfl (sk_11 hS) h ?_))))
          rintro v μ8 ⟨r10, rfl, hS9, h⟩
          refine aw_stk (st' := [.int r10, .int (zI μ b5 7)]) rfl ?_
          refine aw_iadd (pc' := 66) (dt_X10_stock 15 (65, .iadd, 1) rfl) rfl (aw_iret (dt_X10_stock 16 (66, .ireturn, 1) rfl) rfl rfl ?_)
          exact h
        by_cases q11 : x2 = 1
        · have h := h.2.1 q11
          refine aw_tableE (tgt := 67) (off := 54) (dt_X10_stock 9 (13, .tableswitch 93 0 6 #[43, 54, 59, 67, 72, 80, 88], 43) rfl) q11 (by decide) (by decide) (by decide) (by decide) ?_
          obtain ⟨g12, h⟩ := h
          refine aw_aload_n (pc' := 68) (dt_X10_stock 17 (67, .aload_n 3, 1) rfl) rfl rfl (aw_getI (pc' := 71) (dt_X10_stock 18 (68, .getfield 333, 3) rfl) fl_ReturnDesk_333 rfl rfl g12 (aw_iret (dt_X10_stock 19 (71, .ireturn, 1) rfl) rfl rfl ?_))
          exact h
        by_cases q13 : x2 = 2
        · have h := h.2.2.1 q13
          refine aw_tableE (tgt := 72) (off := 59) (dt_X10_stock 9 (13, .tableswitch 93 0 6 #[43, 54, 59, 67, 72, 80, 88], 43) rfl) q13 (by decide) (by decide) (by decide) (by decide) ?_
          refine aw_aload_n (pc' := 73) (dt_X10_stock 20 (72, .aload_n 0, 1) rfl) rfl rfl (aw_aload_n (pc' := 74) (dt_X10_stock 21 (73, .aload_n 3, 1) rfl) rfl rfl (aw_iconst (pc' := 75) (v := 1) (dt_X10_stock 22 (74, .iconst 1, 1) rfl) (by decide) rfl (aw_iconst (pc' := 76) (v := 1) (dt_X10_stock 23 (75, .iconst 1, 1) rfl) (by decide) rfl (aw_callV0 (pc' := 79) (nc := nc) (ns := ns) (y2 := mX10_salesOf) (As := [.ref b5, .int 1, .int 1]) (rest := []) (a := 11) (dt_X10_stock 24 (76, .invokevirtual 336, 3) rfl) ok_X10_salesOf ln_ReturnDesk_336 im_X10_salesOf se_X10_salesOf pr_X10_salesOf (Or.inl ⟨by decide, rfl⟩) rfl (Nat.le_of_ble_eq_true rfl) (Nat.le_of_ble_eq_true rfl) rfl (sk_11 hS) h ?_))))
          rintro v μ14 ⟨r16, rfl, hS15, h⟩
          refine aw_stk (st' := [.int r16]) rfl ?_
          refine aw_iret (dt_X10_stock 25 (79, .ireturn, 1) rfl) rfl rfl ?_
          exact h
        by_cases q17 : x2 = 3
        · have h := h.2.2.2.1 q17
          refine aw_tableE (tgt := 80) (off := 67) (dt_X10_stock 9 (13, .tableswitch 93 0 6 #[43, 54, 59, 67, 72, 80, 88], 43) rfl) q17 (by decide) (by decide) (by decide) (by decide) ?_
          obtain ⟨g18, h⟩ := h
          refine aw_aload_n (pc' := 81) (dt_X10_stock 26 (80, .aload_n 3, 1) rfl) rfl rfl (aw_getI (pc' := 84) (dt_X10_stock 27 (81, .getfield 340, 3) rfl) fl_ReturnDesk_340 rfl rfl g18 (aw_iret (dt_X10_stock 28 (84, .ireturn, 1) rfl) rfl rfl ?_))
          exact h
        by_cases q19 : x2 = 4
        · have h := h.2.2.2.2.1 q19
          refine aw_tableE (tgt := 85) (off := 72) (dt_X10_stock 9 (13, .tableswitch 93 0 6 #[43, 54, 59, 67, 72, 80, 88], 43) rfl) q19 (by decide) (by decide) (by decide) (by decide) ?_
          refine aw_aload_n (pc' := 86) (dt_X10_stock 29 (85, .aload_n 0, 1) rfl) rfl rfl (aw_aload_n (pc' := 87) (dt_X10_stock 30 (86, .aload_n 3, 1) rfl) rfl rfl (aw_iconst (pc' := 88) (v := 0) (dt_X10_stock 31 (87, .iconst 0, 1) rfl) (by decide) rfl (aw_iconst (pc' := 89) (v := 0) (dt_X10_stock 32 (88, .iconst 0, 1) rfl) (by decide) rfl (aw_callV0 (pc' := 92) (nc := nc) (ns := ns) (y2 := mX10_salesOf) (As := [.ref b5, .int 0, .int 0]) (rest := []) (a := 11) (dt_X10_stock 33 (89, .invokevirtual 336, 3) rfl) ok_X10_salesOf ln_ReturnDesk_336 im_X10_salesOf se_X10_salesOf pr_X10_salesOf (Or.inl ⟨by decide, rfl⟩) rfl (Nat.le_of_ble_eq_true rfl) (Nat.le_of_ble_eq_true rfl) rfl (sk_11 hS) h ?_))))
          rintro v μ20 ⟨r22, rfl, hS21, h⟩
          refine aw_stk (st' := [.int r22]) rfl ?_
          refine aw_iret (dt_X10_stock 34 (92, .ireturn, 1) rfl) rfl rfl ?_
          exact h
        by_cases q23 : x2 = 5
        · have h := h.2.2.2.2.2.1 q23
          refine aw_tableE (tgt := 93) (off := 80) (dt_X10_stock 9 (13, .tableswitch 93 0 6 #[43, 54, 59, 67, 72, 80, 88], 43) rfl) q23 (by decide) (by decide) (by decide) (by decide) ?_
          refine aw_aload_n (pc' := 94) (dt_X10_stock 35 (93, .aload_n 0, 1) rfl) rfl rfl (aw_aload_n (pc' := 95) (dt_X10_stock 36 (94, .aload_n 3, 1) rfl) rfl rfl (aw_iconst (pc' := 96) (v := 1) (dt_X10_stock 37 (95, .iconst 1, 1) rfl) (by decide) rfl (aw_iconst (pc' := 97) (v := 0) (dt_X10_stock 38 (96, .iconst 0, 1) rfl) (by decide) rfl (aw_callV0 (pc' := 100) (nc := nc) (ns := ns) (y2 := mX10_salesOf) (As := [.ref b5, .int 1, .int 0]) (rest := []) (a := 11) (dt_X10_stock 39 (97, .invokevirtual 336, 3) rfl) ok_X10_salesOf ln_ReturnDesk_336 im_X10_salesOf se_X10_salesOf pr_X10_salesOf (Or.inl ⟨by decide, rfl⟩) rfl (Nat.le_of_ble_eq_true rfl) (Nat.le_of_ble_eq_true rfl) rfl (sk_11 hS) h ?_))))
          rintro v μ24 ⟨r26, rfl, hS25, h⟩
          refine aw_stk (st' := [.int r26]) rfl ?_
          refine aw_iret (dt_X10_stock 40 (100, .ireturn, 1) rfl) rfl rfl ?_
          exact h
        by_cases q27 : x2 = 6
        · have h := h.2.2.2.2.2.2.1 q27
          refine aw_tableE (tgt := 101) (off := 88) (dt_X10_stock 9 (13, .tableswitch 93 0 6 #[43, 54, 59, 67, 72, 80, 88], 43) rfl) q27 (by decide) (by decide) (by decide) (by decide) ?_
          obtain ⟨g28, h⟩ := h
          refine aw_aload_n (pc' := 102) (dt_X10_stock 41 (101, .aload_n 3, 1) rfl) rfl rfl (aw_getI (pc' := 105) (dt_X10_stock 42 (102, .getfield 343, 3) rfl) fl_ReturnDesk_343 rfl rfl g28 (aw_iret (dt_X10_stock 43 (105, .ireturn, 1) rfl) rfl rfl ?_))
          exact h
        have h := h.2.2.2.2.2.2.2 ⟨q6, q11, q13, q17, q19, q23, q27⟩
        refine aw_tableOut (tgt := 106) (dt_X10_stock 9 (13, .tableswitch 93 0 6 #[43, 54, 59, 67, 72, 80, 88], 43) rfl) (tab_out (lo := 0) (n := 7) (by decide) (by decide) (by decide) (by
            intro k hk
            match k, hk with
            | 0, _ => exact q6
            | 1, _ => exact q11
            | 2, _ => exact q13
            | 3, _ => exact q17
            | 4, _ => exact q19
            | 5, _ => exact q23
            | 6, _ => exact q27
            | k + 7, hk => omega)) (by decide) ?_
        refine aw_iconst (pc' := 107) (v := (-1)) (dt_X10_stock 44 (106, .iconst (-1), 1) rfl) (by decide) rfl (aw_iret (dt_X10_stock 45 (107, .ireturn, 1) rfl) rfl rfl ?_)
        exact h

theorem t_X10_worth {E : ZE} {l : Launch} {d nc ns : Nat} {x1 : Int32} {x2 : Int32} {μ : ZM} {K : Option Value → ZM → Prop} (hS : Stat μ) (h :
  (x1 < 0 →
    K (some (.int (-2000000000))) μ) ∧
  (¬ x1 < 0 →
    (((zI μ 11 14) - 1) < x1 →
      K (some (.int (-2000000000))) μ) ∧
    (¬ ((zI μ 11 14) - 1) < x1 →
      (vp_in x1 300) ∧
      (zA μ 14 x1.toNatClampNeg = none →
        K (some (.int (-2000000000))) μ) ∧
      (∀ b5, zA μ 14 x1.toNatClampNeg = some b5 →
        (zK μ b5 = 7) ∧
        (¬ (zI μ b5 17) = 0 →
          AW E l (d + 2) 0 0 mX10_worthNow 0 (zargs 3 [.ref 11, .ref b5, .int x2]) [] μ (fun v μ8 => ∃ r10 : Int32, v = some (.int r10) ∧ Stat μ8 ∧ 
            K (some (.int r10)) μ8)) ∧
        ((zI μ b5 17) = 0 →
          K (some (.int (-2000000000))) μ))))) : AW E l (d + 3) nc ns mX10_worth 0 [some (.ref 11), some (.int x1), some (.int x2), none] [] μ K := by
  refine aw_aload_n (pc' := 1) (dt_X10_worth 0 (0, .aload_n 0, 1) rfl) rfl rfl (aw_iload_n (pc' := 2) (dt_X10_worth 1 (1, .iload_n 1, 1) rfl) rfl rfl (aw_inV (pc' := 5) (nc1 := 0) (ns1 := 0) (nc := nc) (ns := ns) (ls' := [some (.ref 11), some (.int x1)]) (y2 := mX10_saleAt) (As := [.int x1]) (rest := []) (a := 11) (dt_X10_worth 2 (2, .invokevirtual 152, 3) rfl) ok_X10_saleAt ln_ReturnDesk_152 im_X10_saleAt se_X10_saleAt pr_X10_saleAt (Or.inl ⟨by decide, rfl⟩) rfl (Nat.le_of_ble_eq_true rfl) (Nat.le_of_ble_eq_true rfl) rfl rfl (sk_11 hS) (aw_iload_n (pc' := 1) (dt_X10_saleAt 0 (0, .iload_n 1, 1) rfl) rfl rfl (aw_iconst (pc' := 2) (v := 0) (dt_X10_saleAt 1 (1, .iconst 0, 1) rfl) (by decide) rfl (aw_aload_n (pc' := 3) (dt_X10_saleAt 2 (2, .aload_n 0, 1) rfl) rfl rfl (aw_getI (pc' := 6) (dt_X10_saleAt 3 (3, .getfield 131, 3) rfl) fl_ReturnDesk_131 rfl rfl (sk_11 hS) (aw_iconst (pc' := 7) (v := 1) (dt_X10_saleAt 4 (6, .iconst 1, 1) rfl) (by decide) rfl (aw_isub (pc' := 8) (dt_X10_saleAt 5 (7, .isub, 1) rfl) rfl (aw_inS (pc' := 11) (nc1 := 0) (ns1 := 0) (nc := 0) (ns := 0) (ls' := [some (.int x1), some (.int 0), some (.int ((zI μ 11 14) - 1))]) (y2 := mX10_within) (As := [.int x1, .int 0, .int ((zI μ 11 14) - 1)]) (rest := []) (dt_X10_saleAt 6 (8, .invokestatic 76, 3) rfl) ok_X10_within ln_ReturnDesk_76 sm_X10_within pr_X10_within rfl (Nat.le_of_ble_eq_true rfl) (Nat.le_of_ble_eq_true rfl) rfl rfl (aw_iload_n (pc' := 1) (dt_X10_within 0 (0, .iload_n 0, 1) rfl) rfl rfl (aw_iload_n (pc' := 2) (dt_X10_within 1 (1, .iload_n 1, 1) rfl) rfl rfl (aw_icmp_lt (pc' := 5) (tgt := 14) (dt_X10_within 2 (2, .if_icmp .lt 12, 3) rfl) (by decide) rfl ?_ ?_))))))))))))
  · intro q1
    have h := h.1 q1
    refine aw_iconst (pc' := 15) (v := 0) (dt_X10_within 8 (14, .iconst 0, 1) rfl) (by decide) rfl (aw_iret (dt_X10_within 9 (15, .ireturn, 1) rfl) rfl rfl (aw_stk (st' := [.int 0]) rfl (aw_if_eq_T (pc' := 14) (tgt := 23) (dt_X10_saleAt 7 (11, .ifCond .eq 12, 3) rfl) (by decide) rfl (by decide) (aw_null (pc' := 24) (dt_X10_saleAt 13 (23, .aconst_null, 1) rfl) rfl (aw_aretN (dt_X10_saleAt 14 (24, .areturn, 1) rfl) rfl rfl (aw_stk (st' := [.null]) rfl (aw_astore_nN (pc' := 6) (ls' := [some (.ref 11), some (.int x1), some (.int x2), some (.null)]) (dt_X10_worth 3 (5, .astore_n 3, 1) rfl) (by decide) rfl rfl (aw_aload_nN (pc' := 7) (dt_X10_worth 4 (6, .aload_n 3, 1) rfl) rfl rfl (aw_ifnullN (tgt := 17) (dt_X10_worth 5 (7, .ifnull 10, 3) rfl) (by decide) (aw_ldc (pc' := 19) (dt_X10_worth 9 (17, .ldc 159, 2) rfl) ct_ReturnDesk_159 rfl (aw_goto (tgt := 28) (dt_X10_worth 10 (19, .goto 9, 3) rfl) (by decide) (aw_iret (dt_X10_worth 15 (28, .ireturn, 1) rfl) rfl rfl ?_))))))))))))
    exact h
  · intro q1
    have h := h.2 q1
    refine aw_iload_n (pc' := 6) (dt_X10_within 3 (5, .iload_n 0, 1) rfl) rfl rfl (aw_iload_n (pc' := 7) (dt_X10_within 4 (6, .iload_n 2, 1) rfl) rfl rfl (aw_icmp_gt (pc' := 10) (tgt := 14) (dt_X10_within 5 (7, .if_icmp .gt 7, 3) rfl) (by decide) rfl ?_ ?_))
    · intro q2
      have h := h.1 q2
      refine aw_iconst (pc' := 15) (v := 0) (dt_X10_within 8 (14, .iconst 0, 1) rfl) (by decide) rfl (aw_iret (dt_X10_within 9 (15, .ireturn, 1) rfl) rfl rfl (aw_stk (st' := [.int 0]) rfl (aw_if_eq_T (pc' := 14) (tgt := 23) (dt_X10_saleAt 7 (11, .ifCond .eq 12, 3) rfl) (by decide) rfl (by decide) (aw_null (pc' := 24) (dt_X10_saleAt 13 (23, .aconst_null, 1) rfl) rfl (aw_aretN (dt_X10_saleAt 14 (24, .areturn, 1) rfl) rfl rfl (aw_stk (st' := [.null]) rfl (aw_astore_nN (pc' := 6) (ls' := [some (.ref 11), some (.int x1), some (.int x2), some (.null)]) (dt_X10_worth 3 (5, .astore_n 3, 1) rfl) (by decide) rfl rfl (aw_aload_nN (pc' := 7) (dt_X10_worth 4 (6, .aload_n 3, 1) rfl) rfl rfl (aw_ifnullN (tgt := 17) (dt_X10_worth 5 (7, .ifnull 10, 3) rfl) (by decide) (aw_ldc (pc' := 19) (dt_X10_worth 9 (17, .ldc 159, 2) rfl) ct_ReturnDesk_159 rfl (aw_goto (tgt := 28) (dt_X10_worth 10 (19, .goto 9, 3) rfl) (by decide) (aw_iret (dt_X10_worth 15 (28, .ireturn, 1) rfl) rfl rfl ?_))))))))))))
      exact h
    · intro q2
      have h := h.2 q2
      obtain ⟨g3, h⟩ := h
      refine aw_iconst (pc' := 11) (v := 1) (dt_X10_within 6 (10, .iconst 1, 1) rfl) (by decide) rfl (aw_goto (tgt := 15) (dt_X10_within 7 (11, .goto 4, 3) rfl) (by decide) (aw_iret (dt_X10_within 9 (15, .ireturn, 1) rfl) rfl rfl (aw_stk (st' := [.int 1]) rfl (aw_if_eq_F (pc' := 14) (tgt := 23) (dt_X10_saleAt 7 (11, .ifCond .eq 12, 3) rfl) (by decide) rfl (by decide) (aw_aload_n (pc' := 15) (dt_X10_saleAt 8 (14, .aload_n 0, 1) rfl) rfl rfl (aw_getAs (pc' := 18) (dt_X10_saleAt 9 (15, .getfield 23, 3) rfl) fl_ReturnDesk_23 rfl rfl (sk_11 hS) (sa_11_2 hS) (aw_iload_n (pc' := 19) (dt_X10_saleAt 10 (18, .iload_n 1, 1) rfl) rfl rfl (aw_aald (pc' := 20) (dt_X10_saleAt 11 (19, .aaload, 1) rfl) (by decide) (by decide) rfl (sk_14 hS) (vin_eq (sl_14 hS) g3) ?_ ?_))))))))
      · intro e4
        have h := h.1 e4
        refine aw_goto (tgt := 24) (dt_X10_saleAt 12 (20, .goto 4, 3) rfl) (by decide) (aw_aretN (dt_X10_saleAt 14 (24, .areturn, 1) rfl) rfl rfl (aw_stk (st' := [.null]) rfl (aw_astore_nN (pc' := 6) (ls' := [some (.ref 11), some (.int x1), some (.int x2), some (.null)]) (dt_X10_worth 3 (5, .astore_n 3, 1) rfl) (by decide) rfl rfl (aw_aload_nN (pc' := 7) (dt_X10_worth 4 (6, .aload_n 3, 1) rfl) rfl rfl (aw_ifnullN (tgt := 17) (dt_X10_worth 5 (7, .ifnull 10, 3) rfl) (by decide) (aw_ldc (pc' := 19) (dt_X10_worth 9 (17, .ldc 159, 2) rfl) ct_ReturnDesk_159 rfl (aw_goto (tgt := 28) (dt_X10_worth 10 (19, .goto 9, 3) rfl) (by decide) (aw_iret (dt_X10_worth 15 (28, .ireturn, 1) rfl) rfl rfl ?_))))))))
        exact h
      · intro b5 e4
        have h := h.2 b5 e4
        obtain ⟨g6, h⟩ := h
        refine aw_goto (tgt := 24) (dt_X10_saleAt 12 (20, .goto 4, 3) rfl) (by decide) (aw_aret (dt_X10_saleAt 14 (24, .areturn, 1) rfl) rfl rfl (aw_stk (st' := [.ref b5]) rfl (aw_astore_n (pc' := 6) (ls' := [some (.ref 11), some (.int x1), some (.int x2), some (.ref b5)]) (dt_X10_worth 3 (5, .astore_n 3, 1) rfl) (by decide) rfl rfl (aw_aload_n (pc' := 7) (dt_X10_worth 4 (6, .aload_n 3, 1) rfl) rfl rfl (aw_ifnull (pc' := 10) (dt_X10_worth 5 (7, .ifnull 10, 3) rfl) rfl (aw_aload_n (pc' := 11) (dt_X10_worth 6 (10, .aload_n 3, 1) rfl) rfl rfl (aw_getI (pc' := 14) (dt_X10_worth 7 (11, .getfield 346, 3) rfl) fl_ReturnDesk_346 rfl rfl g6 (aw_if_ne (pc' := 17) (tgt := 22) (dt_X10_worth 8 (14, .ifCond .ne 8, 3) rfl) (by decide) rfl ?_ ?_))))))))
        · intro q7
          have h := h.1 q7
          refine aw_aload_n (pc' := 23) (dt_X10_worth 11 (22, .aload_n 0, 1) rfl) rfl rfl (aw_aload_n (pc' := 24) (dt_X10_worth 12 (23, .aload_n 3, 1) rfl) rfl rfl (aw_iload_n (pc' := 25) (dt_X10_worth 13 (24, .iload_n 2, 1) rfl) rfl rfl (aw_callV0 (pc' := 28) (nc := nc) (ns := ns) (y2 := mX10_worthNow) (As := [.ref b5, .int x2]) (rest := []) (a := 11) (dt_X10_worth 14 (25, .invokevirtual 349, 3) rfl) ok_X10_worthNow ln_ReturnDesk_349 im_X10_worthNow se_X10_worthNow pr_X10_worthNow (Or.inl ⟨by decide, rfl⟩) rfl (Nat.le_of_ble_eq_true rfl) (Nat.le_of_ble_eq_true rfl) rfl (sk_11 hS) h ?_)))
          rintro v μ8 ⟨r10, rfl, hS9, h⟩
          refine aw_stk (st' := [.int r10]) rfl ?_
          refine aw_iret (dt_X10_worth 15 (28, .ireturn, 1) rfl) rfl rfl ?_
          exact h
        · intro q7
          have h := h.2 q7
          refine aw_ldc (pc' := 19) (dt_X10_worth 9 (17, .ldc 159, 2) rfl) ct_ReturnDesk_159 rfl (aw_goto (tgt := 28) (dt_X10_worth 10 (19, .goto 9, 3) rfl) (by decide) (aw_iret (dt_X10_worth 15 (28, .ireturn, 1) rfl) rfl rfl ?_))
          exact h

theorem t_X10_sort {E : ZE} {l : Launch} {d nc ns : Nat} {x1 : Int32} {μ : ZM} {K : Option Value → ZM → Prop} (hS : Stat μ) (h :
  (x1 < 0 →
    K (some (.int (-1))) μ) ∧
  (¬ x1 < 0 →
    (((zI μ 11 14) - 1) < x1 →
      K (some (.int (-1))) μ) ∧
    (¬ ((zI μ 11 14) - 1) < x1 →
      (vp_in x1 300) ∧
      (zA μ 14 x1.toNatClampNeg = none →
        K (some (.int (-1))) μ) ∧
      (∀ b5, zA μ 14 x1.toNatClampNeg = some b5 →
        (zK μ b5 = 7) ∧
        (¬ (zI μ b5 17) = 0 →
          AW E l (d + 3) 0 0 mX10_bestWay 0 (zargs 4 [.ref 11, .ref b5]) [] μ (fun v μ8 => ∃ r10 : Int32, v = some (.int r10) ∧ Stat μ8 ∧ 
            (¬ r10 = 2 →
              AW E l (d + 4) nc ns mX10_sort 53 [some (.ref 11), none, some (.ref b5), some (.int r10)] [] μ8 K) ∧
            (r10 = 2 →
              (zK μ8 b5 = 7) ∧
              (zA μ8 b5 1 = none →
                False) ∧
              (∀ b14, zA μ8 b5 1 = some b14 →
                (zK μ8 b14 = 4) ∧
                ((zI μ8 b14 3) ≤ (zI μ8 17 2) →
                  AW E l (d + 4) nc ns mX10_sort 53 [some (.ref 11), none, some (.ref b5), some (.int r10)] [] (sI (sI μ8 17 2 ((zI μ8 17 2) - (zI μ8 b14 3))) 17 4 ((zI (sI μ8 17 2 ((zI μ8 17 2) - (zI μ8 b14 3))) 17 4) + (zI μ8 b14 3))) K) ∧
                (¬ (zI μ8 b14 3) ≤ (zI μ8 17 2) →
                  K (some (.int (-2))) μ8))))) ∧
        ((zI μ b5 17) = 0 →
          K (some (.int (-2))) μ))))) : AW E l (d + 4) nc ns mX10_sort 0 [some (.ref 11), some (.int x1), none, none] [] μ K := by
  refine aw_aload_n (pc' := 1) (dt_X10_sort 0 (0, .aload_n 0, 1) rfl) rfl rfl (aw_iload_n (pc' := 2) (dt_X10_sort 1 (1, .iload_n 1, 1) rfl) rfl rfl (aw_inV (pc' := 5) (nc1 := 0) (ns1 := 0) (nc := nc) (ns := ns) (ls' := [some (.ref 11), some (.int x1)]) (y2 := mX10_saleAt) (As := [.int x1]) (rest := []) (a := 11) (dt_X10_sort 2 (2, .invokevirtual 152, 3) rfl) ok_X10_saleAt ln_ReturnDesk_152 im_X10_saleAt se_X10_saleAt pr_X10_saleAt (Or.inl ⟨by decide, rfl⟩) rfl (Nat.le_of_ble_eq_true rfl) (Nat.le_of_ble_eq_true rfl) rfl rfl (sk_11 hS) (aw_iload_n (pc' := 1) (dt_X10_saleAt 0 (0, .iload_n 1, 1) rfl) rfl rfl (aw_iconst (pc' := 2) (v := 0) (dt_X10_saleAt 1 (1, .iconst 0, 1) rfl) (by decide) rfl (aw_aload_n (pc' := 3) (dt_X10_saleAt 2 (2, .aload_n 0, 1) rfl) rfl rfl (aw_getI (pc' := 6) (dt_X10_saleAt 3 (3, .getfield 131, 3) rfl) fl_ReturnDesk_131 rfl rfl (sk_11 hS) (aw_iconst (pc' := 7) (v := 1) (dt_X10_saleAt 4 (6, .iconst 1, 1) rfl) (by decide) rfl (aw_isub (pc' := 8) (dt_X10_saleAt 5 (7, .isub, 1) rfl) rfl (aw_inS (pc' := 11) (nc1 := 0) (ns1 := 0) (nc := 0) (ns := 0) (ls' := [some (.int x1), some (.int 0), some (.int ((zI μ 11 14) - 1))]) (y2 := mX10_within) (As := [.int x1, .int 0, .int ((zI μ 11 14) - 1)]) (rest := []) (dt_X10_saleAt 6 (8, .invokestatic 76, 3) rfl) ok_X10_within ln_ReturnDesk_76 sm_X10_within pr_X10_within rfl (Nat.le_of_ble_eq_true rfl) (Nat.le_of_ble_eq_true rfl) rfl rfl (aw_iload_n (pc' := 1) (dt_X10_within 0 (0, .iload_n 0, 1) rfl) rfl rfl (aw_iload_n (pc' := 2) (dt_X10_within 1 (1, .iload_n 1, 1) rfl) rfl rfl (aw_icmp_lt (pc' := 5) (tgt := 14) (dt_X10_within 2 (2, .if_icmp .lt 12, 3) rfl) (by decide) rfl ?_ ?_))))))))))))
  · intro q1
    have h := h.1 q1
    refine aw_iconst (pc' := 15) (v := 0) (dt_X10_within 8 (14, .iconst 0, 1) rfl) (by decide) rfl (aw_iret (dt_X10_within 9 (15, .ireturn, 1) rfl) rfl rfl (aw_stk (st' := [.int 0]) rfl (aw_if_eq_T (pc' := 14) (tgt := 23) (dt_X10_saleAt 7 (11, .ifCond .eq 12, 3) rfl) (by decide) rfl (by decide) (aw_null (pc' := 24) (dt_X10_saleAt 13 (23, .aconst_null, 1) rfl) rfl (aw_aretN (dt_X10_saleAt 14 (24, .areturn, 1) rfl) rfl rfl (aw_stk (st' := [.null]) rfl (aw_astore_nN (pc' := 6) (ls' := [some (.ref 11), some (.int x1), some (.null), none]) (dt_X10_sort 3 (5, .astore_n 2, 1) rfl) (by decide) rfl rfl (aw_aload_nN (pc' := 7) (dt_X10_sort 4 (6, .aload_n 2, 1) rfl) rfl rfl (aw_ifnonnullN (pc' := 10) (dt_X10_sort 5 (7, .ifnonnull 5, 3) rfl) rfl (aw_iconst (pc' := 11) (v := (-1)) (dt_X10_sort 6 (10, .iconst (-1), 1) rfl) (by decide) rfl (aw_iret (dt_X10_sort 7 (11, .ireturn, 1) rfl) rfl rfl ?_)))))))))))
    exact h
  · intro q1
    have h := h.2 q1
    refine aw_iload_n (pc' := 6) (dt_X10_within 3 (5, .iload_n 0, 1) rfl) rfl rfl (aw_iload_n (pc' := 7) (dt_X10_within 4 (6, .iload_n 2, 1) rfl) rfl rfl (aw_icmp_gt (pc' := 10) (tgt := 14) (dt_X10_within 5 (7, .if_icmp .gt 7, 3) rfl) (by decide) rfl ?_ ?_))
    · intro q2
      have h := h.1 q2
      refine aw_iconst (pc' := 15) (v := 0) (dt_X10_within 8 (14, .iconst 0, 1) rfl) (by decide) rfl (aw_iret (dt_X10_within 9 (15, .ireturn, 1) rfl) rfl rfl (aw_stk (st' := [.int 0]) rfl (aw_if_eq_T (pc' := 14) (tgt := 23) (dt_X10_saleAt 7 (11, .ifCond .eq 12, 3) rfl) (by decide) rfl (by decide) (aw_null (pc' := 24) (dt_X10_saleAt 13 (23, .aconst_null, 1) rfl) rfl (aw_aretN (dt_X10_saleAt 14 (24, .areturn, 1) rfl) rfl rfl (aw_stk (st' := [.null]) rfl (aw_astore_nN (pc' := 6) (ls' := [some (.ref 11), some (.int x1), some (.null), none]) (dt_X10_sort 3 (5, .astore_n 2, 1) rfl) (by decide) rfl rfl (aw_aload_nN (pc' := 7) (dt_X10_sort 4 (6, .aload_n 2, 1) rfl) rfl rfl (aw_ifnonnullN (pc' := 10) (dt_X10_sort 5 (7, .ifnonnull 5, 3) rfl) rfl (aw_iconst (pc' := 11) (v := (-1)) (dt_X10_sort 6 (10, .iconst (-1), 1) rfl) (by decide) rfl (aw_iret (dt_X10_sort 7 (11, .ireturn, 1) rfl) rfl rfl ?_)))))))))))
      exact h
    · intro q2
      have h := h.2 q2
      obtain ⟨g3, h⟩ := h
      refine aw_iconst (pc' := 11) (v := 1) (dt_X10_within 6 (10, .iconst 1, 1) rfl) (by decide) rfl (aw_goto (tgt := 15) (dt_X10_within 7 (11, .goto 4, 3) rfl) (by decide) (aw_iret (dt_X10_within 9 (15, .ireturn, 1) rfl) rfl rfl (aw_stk (st' := [.int 1]) rfl (aw_if_eq_F (pc' := 14) (tgt := 23) (dt_X10_saleAt 7 (11, .ifCond .eq 12, 3) rfl) (by decide) rfl (by decide) (aw_aload_n (pc' := 15) (dt_X10_saleAt 8 (14, .aload_n 0, 1) rfl) rfl rfl (aw_getAs (pc' := 18) (dt_X10_saleAt 9 (15, .getfield 23, 3) rfl) fl_ReturnDesk_23 rfl rfl (sk_11 hS) (sa_11_2 hS) (aw_iload_n (pc' := 19) (dt_X10_saleAt 10 (18, .iload_n 1, 1) rfl) rfl rfl (aw_aald (pc' := 20) (dt_X10_saleAt 11 (19, .aaload, 1) rfl) (by decide) (by decide) rfl (sk_14 hS) (vin_eq (sl_14 hS) g3) ?_ ?_))))))))
      · intro e4
        have h := h.1 e4
        refine aw_goto (tgt := 24) (dt_X10_saleAt 12 (20, .goto 4, 3) rfl) (by decide) (aw_aretN (dt_X10_saleAt 14 (24, .areturn, 1) rfl) rfl rfl (aw_stk (st' := [.null]) rfl (aw_astore_nN (pc' := 6) (ls' := [some (.ref 11), some (.int x1), some (.null), none]) (dt_X10_sort 3 (5, .astore_n 2, 1) rfl) (by decide) rfl rfl (aw_aload_nN (pc' := 7) (dt_X10_sort 4 (6, .aload_n 2, 1) rfl) rfl rfl (aw_ifnonnullN (pc' := 10) (dt_X10_sort 5 (7, .ifnonnull 5, 3) rfl) rfl (aw_iconst (pc' := 11) (v := (-1)) (dt_X10_sort 6 (10, .iconst (-1), 1) rfl) (by decide) rfl (aw_iret (dt_X10_sort 7 (11, .ireturn, 1) rfl) rfl rfl ?_)))))))
        exact h
      · intro b5 e4
        have h := h.2 b5 e4
        obtain ⟨g6, h⟩ := h
        refine aw_goto (tgt := 24) (dt_X10_saleAt 12 (20, .goto 4, 3) rfl) (by decide) (aw_aret (dt_X10_saleAt 14 (24, .areturn, 1) rfl) rfl rfl (aw_stk (st' := [.ref b5]) rfl (aw_astore_n (pc' := 6) (ls' := [some (.ref 11), some (.int x1), some (.ref b5), none]) (dt_X10_sort 3 (5, .astore_n 2, 1) rfl) (by decide) rfl rfl (aw_aload_n (pc' := 7) (dt_X10_sort 4 (6, .aload_n 2, 1) rfl) rfl rfl (aw_ifnonnull (tgt := 12) (dt_X10_sort 5 (7, .ifnonnull 5, 3) rfl) (by decide) (aw_aload_n (pc' := 13) (dt_X10_sort 8 (12, .aload_n 2, 1) rfl) rfl rfl (aw_getI (pc' := 16) (dt_X10_sort 9 (13, .getfield 346, 3) rfl) fl_ReturnDesk_346 rfl rfl g6 (aw_if_ne (pc' := 19) (tgt := 22) (dt_X10_sort 10 (16, .ifCond .ne 6, 3) rfl) (by decide) rfl ?_ ?_))))))))
        · intro q7
          have h := h.1 q7
          refine aw_aload_n (pc' := 23) (dt_X10_sort 13 (22, .aload_n 0, 1) rfl) rfl rfl (aw_aload_n (pc' := 24) (dt_X10_sort 14 (23, .aload_n 2, 1) rfl) rfl rfl (aw_callV0 (pc' := 27) (nc := nc) (ns := ns) (y2 := mX10_bestWay) (As := [.ref b5]) (rest := []) (a := 11) (dt_X10_sort 15 (24, .invokevirtual 353, 3) rfl) ok_X10_bestWay ln_ReturnDesk_353 im_X10_bestWay se_X10_bestWay pr_X10_bestWay (Or.inl ⟨by decide, rfl⟩) rfl (Nat.le_of_ble_eq_true rfl) (Nat.le_of_ble_eq_true rfl) rfl (sk_11 hS) h ?_))
          rintro v μ8 ⟨r10, rfl, hS9, h⟩
          refine aw_stk (st' := [.int r10]) rfl ?_
          refine aw_istore_n (pc' := 28) (ls' := [some (.ref 11), some (.int x1), some (.ref b5), some (.int r10)]) (dt_X10_sort 16 (27, .istore_n 3, 1) rfl) (by decide) rfl rfl (aw_iload_n (pc' := 29) (dt_X10_sort 17 (28, .iload_n 3, 1) rfl) rfl rfl (aw_iconst (pc' := 30) (v := 2) (dt_X10_sort 18 (29, .iconst 2, 1) rfl) (by decide) rfl (aw_icmp_ne (pc' := 33) (tgt := 53) (dt_X10_sort 19 (30, .if_icmp .ne 23, 3) rfl) (by decide) rfl ?_ ?_)))
          · intro q11
            have h := h.1 q11
            refine aw_drop (ls' := [some (.ref 11), none, some (.ref b5), some (.int r10)]) ⟨rfl, rfl, rfl, trivial⟩ ?_
            exact h
          · intro q11
            have h := h.2 q11
            obtain ⟨g12, h⟩ := h
            refine aw_aload_n (pc' := 34) (dt_X10_sort 20 (33, .aload_n 0, 1) rfl) rfl rfl (aw_getAs (pc' := 37) (dt_X10_sort 21 (34, .getfield 42, 3) rfl) fl_ReturnDesk_42 rfl rfl (sk_11 hS9) (sa_11_5 hS9) (aw_aload_n (pc' := 38) (dt_X10_sort 22 (37, .aload_n 2, 1) rfl) rfl rfl (aw_getA (pc' := 41) (dt_X10_sort 23 (38, .getfield 163, 3) rfl) fl_ReturnDesk_163 rfl rfl g12 ?_ ?_)))
            · intro e13
              have h := h.1 e13
              exact h.elim
            · intro b14 e13
              have h := h.2 b14 e13
              obtain ⟨g15, h⟩ := h
              refine aw_getI (pc' := 44) (dt_X10_sort 24 (41, .getfield 356, 3) rfl) fl_ReturnDesk_356 rfl rfl g15 (aw_inV (pc' := 47) (nc1 := 0) (ns1 := 0) (nc := nc) (ns := ns) (ls' := [some (.ref 17), some (.int (zI μ8 b14 3))]) (y2 := mX5_spendOnMending) (As := [.int (zI μ8 b14 3)]) (rest := []) (a := 17) (dt_X10_sort 25 (44, .invokevirtual 359, 3) rfl) ok_X5_spendOnMending ln_ReturnDesk_359 im_X5_spendOnMending se_X5_spendOnMending pr_X5_spendOnMending (Or.inl ⟨by decide, rfl⟩) rfl (Nat.le_of_ble_eq_true rfl) (Nat.le_of_ble_eq_true rfl) rfl rfl (sk_17 hS9) (aw_aload_n (pc' := 1) (dt_X5_spendOnMending 0 (0, .aload_n 0, 1) rfl) rfl rfl (aw_getI (pc' := 4) (dt_X5_spendOnMending 1 (1, .getfield 29, 3) rfl) fl_Purse_29 rfl rfl (sk_17 hS9) (aw_iload_n (pc' := 5) (dt_X5_spendOnMending 2 (4, .iload_n 1, 1) rfl) rfl rfl (aw_icmp_ge (pc' := 8) (tgt := 10) (dt_X5_spendOnMending 3 (5, .if_icmp .ge 5, 3) rfl) (by decide) rfl ?_ ?_)))))
              · intro q16
                have h := h.1 q16
                refine aw_aload_n (pc' := 11) (dt_X5_spendOnMending 6 (10, .aload_n 0, 1) rfl) rfl rfl (aw_dup (pc' := 12) (dt_X5_spendOnMending 7 (11, .dup, 1) rfl) rfl rfl (aw_getI (pc' := 15) (dt_X5_spendOnMending 8 (12, .getfield 29, 3) rfl) fl_Purse_29 rfl rfl (sk_17 hS9) (aw_iload_n (pc' := 16) (dt_X5_spendOnMending 9 (15, .iload_n 1, 1) rfl) rfl rfl (aw_isub (pc' := 17) (dt_X5_spendOnMending 10 (16, .isub, 1) rfl) rfl (aw_putI (pc' := 20) (dt_X5_spendOnMending 11 (17, .putfield 29, 3) rfl) fl_Purse_29 rfl (by decide +kernel) rfl (sk_17 hS9) (aw_aload_n (pc' := 21) (dt_X5_spendOnMending 12 (20, .aload_n 0, 1) rfl) rfl rfl (aw_dup (pc' := 22) (dt_X5_spendOnMending 13 (21, .dup, 1) rfl) rfl rfl (aw_getI (pc' := 25) (dt_X5_spendOnMending 14 (22, .getfield 35, 3) rfl) fl_Purse_35 rfl rfl (sk_17 hS9.wI) (aw_iload_n (pc' := 26) (dt_X5_spendOnMending 15 (25, .iload_n 1, 1) rfl) rfl rfl (aw_iadd (pc' := 27) (dt_X5_spendOnMending 16 (26, .iadd, 1) rfl) rfl (aw_putI (pc' := 30) (dt_X5_spendOnMending 17 (27, .putfield 35, 3) rfl) fl_Purse_35 rfl (by decide +kernel) rfl (sk_17 hS9.wI) (aw_iconst (pc' := 31) (v := 1) (dt_X5_spendOnMending 18 (30, .iconst 1, 1) rfl) (by decide) rfl (aw_iret (dt_X5_spendOnMending 19 (31, .ireturn, 1) rfl) rfl rfl (aw_stk (st' := [.int 1]) rfl (aw_if_ne_T (pc' := 50) (tgt := 53) (dt_X10_sort 26 (47, .ifCond .ne 6, 3) rfl) (by decide) rfl (by decide) (aw_drop (ls' := [some (.ref 11), none, some (.ref b5), some (.int r10)]) ⟨rfl, rfl, rfl, trivial⟩ ?_))))))))))))))))
                exact h
              · intro q16
                have h := h.2 q16
                refine aw_iconst (pc' := 9) (v := 0) (dt_X5_spendOnMending 4 (8, .iconst 0, 1) rfl) (by decide) rfl (aw_iret (dt_X5_spendOnMending 5 (9, .ireturn, 1) rfl) rfl rfl (aw_stk (st' := [.int 0]) rfl (aw_if_ne_F (pc' := 50) (tgt := 53) (dt_X10_sort 26 (47, .ifCond .ne 6, 3) rfl) (by decide) rfl (by decide) (aw_bipush (pc' := 52) (v := (-2)) (dt_X10_sort 27 (50, .bipush (-2), 2) rfl) (by decide) rfl (aw_iret (dt_X10_sort 28 (52, .ireturn, 1) rfl) rfl rfl ?_)))))
                exact h
        · intro q7
          have h := h.2 q7
          refine aw_bipush (pc' := 21) (v := (-2)) (dt_X10_sort 11 (19, .bipush (-2), 2) rfl) (by decide) rfl (aw_iret (dt_X10_sort 12 (21, .ireturn, 1) rfl) rfl rfl ?_)
          exact h

theorem t_X10_sort_53 {E : ZE} {l : Launch} {d nc ns : Nat} {a2 : Nat} {x3 : Int32} {μ : ZM} {K : Option Value → ZM → Prop} (hS : Stat μ) (h :
  (zK μ a2 = 7) ∧
  (zA (sI μ a2 17 0) a2 1 = none →
    False) ∧
  (∀ b3, zA (sI μ a2 17 0) a2 1 = some b3 →
    (zK (sI μ a2 17 0) b3 = 4) ∧
    (x3 = 0 →
      (¬ x3 = 3 →
        K (some (.int x3)) (sI (sI μ a2 17 0) b3 7 ((zI (sI μ a2 17 0) b3 7) + 1))) ∧
      (x3 = 3 →
        K (some (.int x3)) (sI (sI (sI μ a2 17 0) b3 7 ((zI (sI μ a2 17 0) b3 7) + 1)) 17 2 ((zI (sI (sI μ a2 17 0) b3 7 ((zI (sI μ a2 17 0) b3 7) + 1)) 17 2) + ((zI (sI (sI μ a2 17 0) b3 7 ((zI (sI μ a2 17 0) b3 7) + 1)) b3 2) / 100))))) ∧
    (x3 = 1 →
      (zA (sI μ a2 17 0) b3 12 = none →
        (¬ x3 = 3 →
          K (some (.int x3)) (sI (sA (sA (sI μ a2 17 0) b3 11 (some a2)) b3 12 (some a2)) b3 8 ((zI (sA (sA (sI μ a2 17 0) b3 11 (some a2)) b3 12 (some a2)) b3 8) + 1))) ∧
        (x3 = 3 →
          (zA (sI (sA (sA (sI μ a2 17 0) b3 11 (some a2)) b3 12 (some a2)) b3 8 ((zI (sA (sA (sI μ a2 17 0) b3 11 (some a2)) b3 12 (some a2)) b3 8) + 1)) a2 1 = none →
            False) ∧
          (∀ b12, zA (sI (sA (sA (sI μ a2 17 0) b3 11 (some a2)) b3 12 (some a2)) b3 8 ((zI (sA (sA (sI μ a2 17 0) b3 11 (some a2)) b3 12 (some a2)) b3 8) + 1)) a2 1 = some b12 →
            (zK (sI (sA (sA (sI μ a2 17 0) b3 11 (some a2)) b3 12 (some a2)) b3 8 ((zI (sA (sA (sI μ a2 17 0) b3 11 (some a2)) b3 12 (some a2)) b3 8) + 1)) b12 = 4) ∧
            ∀ μ14, μ14 = (sI (sI (sA (sA (sI μ a2 17 0) b3 11 (some a2)) b3 12 (some a2)) b3 8 ((zI (sA (sA (sI μ a2 17 0) b3 11 (some a2)) b3 12 (some a2)) b3 8) + 1)) 17 2 ((zI (sI (sA (sA (sI μ a2 17 0) b3 11 (some a2)) b3 12 (some a2)) b3 8 ((zI (sA (sA (sI μ a2 17 0) b3 11 (some a2)) b3 12 (some a2)) b3 8) + 1)) 17 2) + ((zI (sI (sA (sA (sI μ a2 17 0) b3 11 (some a2)) b3 12 (some a2)) b3 8 ((zI (sA (sA (sI μ a2 17 0) b3 11 (some a2)) b3 12 (some a2)) b3 8) + 1)) b12 2) / 100))) →
            K (some (.int x3)) μ14))) ∧
      (∀ b9, zA (sI μ a2 17 0) b3 12 = some b9 →
        (zK (sI μ a2 17 0) b9 = 7) ∧
        (¬ x3 = 3 →
          K (some (.int x3)) (sI (sA (sA (sI μ a2 17 0) b9 19 (some a2)) b3 12 (some a2)) b3 8 ((zI (sA (sA (sI μ a2 17 0) b9 19 (some a2)) b3 12 (some a2)) b3 8) + 1))) ∧
        (x3 = 3 →
          (zA (sI (sA (sA (sI μ a2 17 0) b9 19 (some a2)) b3 12 (some a2)) b3 8 ((zI (sA (sA (sI μ a2 17 0) b9 19 (some a2)) b3 12 (some a2)) b3 8) + 1)) a2 1 = none →
            False) ∧
          (∀ b24, zA (sI (sA (sA (sI μ a2 17 0) b9 19 (some a2)) b3 12 (some a2)) b3 8 ((zI (sA (sA (sI μ a2 17 0) b9 19 (some a2)) b3 12 (some a2)) b3 8) + 1)) a2 1 = some b24 →
            (zK (sI (sA (sA (sI μ a2 17 0) b9 19 (some a2)) b3 12 (some a2)) b3 8 ((zI (sA (sA (sI μ a2 17 0) b9 19 (some a2)) b3 12 (some a2)) b3 8) + 1)) b24 = 4) ∧
            ∀ μ26, μ26 = (sI (sI (sA (sA (sI μ a2 17 0) b9 19 (some a2)) b3 12 (some a2)) b3 8 ((zI (sA (sA (sI μ a2 17 0) b9 19 (some a2)) b3 12 (some a2)) b3 8) + 1)) 17 2 ((zI (sI (sA (sA (sI μ a2 17 0) b9 19 (some a2)) b3 12 (some a2)) b3 8 ((zI (sA (sA (sI μ a2 17 0) b9 19 (some a2)) b3 12 (some a2)) b3 8) + 1)) 17 2) + ((zI (sI (sA (sA (sI μ a2 17 0) b9 19 (some a2)) b3 12 (some a2)) b3 8 ((zI (sA (sA (sI μ a2 17 0) b9 19 (some a2)) b3 12 (some a2)) b3 8) + 1)) b24 2) / 100))) →
            K (some (.int x3)) μ26)))) ∧
    (x3 = 2 →
      (zA (sI (sI μ a2 17 0) b3 10 ((zI (sI μ a2 17 0) b3 10) + 1)) b3 12 = none →
        (¬ x3 = 3 →
          K (some (.int x3)) (sI (sA (sA (sI (sI μ a2 17 0) b3 10 ((zI (sI μ a2 17 0) b3 10) + 1)) b3 11 (some a2)) b3 12 (some a2)) b3 8 ((zI (sA (sA (sI (sI μ a2 17 0) b3 10 ((zI (sI μ a2 17 0) b3 10) + 1)) b3 11 (some a2)) b3 12 (some a2)) b3 8) + 1))) ∧
        (x3 = 3 →
          (zA (sI (sA (sA (sI (sI μ a2 17 0) b3 10 ((zI (sI μ a2 17 0) b3 10) + 1)) b3 11 (some a2)) b3 12 (some a2)) b3 8 ((zI (sA (sA (sI (sI μ a2 17 0) b3 10 ((zI (sI μ a2 17 0) b3 10) + 1)) b3 11 (some a2)) b3 12 (some a2)) b3 8) + 1)) a2 1 = none →
            False) ∧
          (∀ b39, zA (sI (sA (sA (sI (sI μ a2 17 0) b3 10 ((zI (sI μ a2 17 0) b3 10) + 1)) b3 11 (some a2)) b3 12 (some a2)) b3 8 ((zI (sA (sA (sI (sI μ a2 17 0) b3 10 ((zI (sI μ a2 17 0) b3 10) + 1)) b3 11 (some a2)) b3 12 (some a2)) b3 8) + 1)) a2 1 = some b39 →
            (zK (sI (sA (sA (sI (sI μ a2 17 0) b3 10 ((zI (sI μ a2 17 0) b3 10) + 1)) b3 11 (some a2)) b3 12 (some a2)) b3 8 ((zI (sA (sA (sI (sI μ a2 17 0) b3 10 ((zI (sI μ a2 17 0) b3 10) + 1)) b3 11 (some a2)) b3 12 (some a2)) b3 8) + 1)) b39 = 4) ∧
            ∀ μ41, μ41 = (sI (sI (sA (sA (sI (sI μ a2 17 0) b3 10 ((zI (sI μ a2 17 0) b3 10) + 1)) b3 11 (some a2)) b3 12 (some a2)) b3 8 ((zI (sA (sA (sI (sI μ a2 17 0) b3 10 ((zI (sI μ a2 17 0) b3 10) + 1)) b3 11 (some a2)) b3 12 (some a2)) b3 8) + 1)) 17 2 ((zI (sI (sA (sA (sI (sI μ a2 17 0) b3 10 ((zI (sI μ a2 17 0) b3 10) + 1)) b3 11 (some a2)) b3 12 (some a2)) b3 8 ((zI (sA (sA (sI (sI μ a2 17 0) b3 10 ((zI (sI μ a2 17 0) b3 10) + 1)) b3 11 (some a2)) b3 12 (some a2)) b3 8) + 1)) 17 2) + ((zI (sI (sA (sA (sI (sI μ a2 17 0) b3 10 ((zI (sI μ a2 17 0) b3 10) + 1)) b3 11 (some a2)) b3 12 (some a2)) b3 8 ((zI (sA (sA (sI (sI μ a2 17 0) b3 10 ((zI (sI μ a2 17 0) b3 10) + 1)) b3 11 (some a2)) b3 12 (some a2)) b3 8) + 1)) b39 2) / 100))) →
            K (some (.int x3)) μ41))) ∧
      (∀ b36, zA (sI (sI μ a2 17 0) b3 10 ((zI (sI μ a2 17 0) b3 10) + 1)) b3 12 = some b36 →
        (zK (sI (sI μ a2 17 0) b3 10 ((zI (sI μ a2 17 0) b3 10) + 1)) b36 = 7) ∧
        (¬ x3 = 3 →
          K (some (.int x3)) (sI (sA (sA (sI (sI μ a2 17 0) b3 10 ((zI (sI μ a2 17 0) b3 10) + 1)) b36 19 (some a2)) b3 12 (some a2)) b3 8 ((zI (sA (sA (sI (sI μ a2 17 0) b3 10 ((zI (sI μ a2 17 0) b3 10) + 1)) b36 19 (some a2)) b3 12 (some a2)) b3 8) + 1))) ∧
        (x3 = 3 →
          (zA (sI (sA (sA (sI (sI μ a2 17 0) b3 10 ((zI (sI μ a2 17 0) b3 10) + 1)) b36 19 (some a2)) b3 12 (some a2)) b3 8 ((zI (sA (sA (sI (sI μ a2 17 0) b3 10 ((zI (sI μ a2 17 0) b3 10) + 1)) b36 19 (some a2)) b3 12 (some a2)) b3 8) + 1)) a2 1 = none →
            False) ∧
          (∀ b51, zA (sI (sA (sA (sI (sI μ a2 17 0) b3 10 ((zI (sI μ a2 17 0) b3 10) + 1)) b36 19 (some a2)) b3 12 (some a2)) b3 8 ((zI (sA (sA (sI (sI μ a2 17 0) b3 10 ((zI (sI μ a2 17 0) b3 10) + 1)) b36 19 (some a2)) b3 12 (some a2)) b3 8) + 1)) a2 1 = some b51 →
            (zK (sI (sA (sA (sI (sI μ a2 17 0) b3 10 ((zI (sI μ a2 17 0) b3 10) + 1)) b36 19 (some a2)) b3 12 (some a2)) b3 8 ((zI (sA (sA (sI (sI μ a2 17 0) b3 10 ((zI (sI μ a2 17 0) b3 10) + 1)) b36 19 (some a2)) b3 12 (some a2)) b3 8) + 1)) b51 = 4) ∧
            ∀ μ53, μ53 = (sI (sI (sA (sA (sI (sI μ a2 17 0) b3 10 ((zI (sI μ a2 17 0) b3 10) + 1)) b36 19 (some a2)) b3 12 (some a2)) b3 8 ((zI (sA (sA (sI (sI μ a2 17 0) b3 10 ((zI (sI μ a2 17 0) b3 10) + 1)) b36 19 (some a2)) b3 12 (some a2)) b3 8) + 1)) 17 2 ((zI (sI (sA (sA (sI (sI μ a2 17 0) b3 10 ((zI (sI μ a2 17 0) b3 10) + 1)) b36 19 (some a2)) b3 12 (some a2)) b3 8 ((zI (sA (sA (sI (sI μ a2 17 0) b3 10 ((zI (sI μ a2 17 0) b3 10) + 1)) b36 19 (some a2)) b3 12 (some a2)) b3 8) + 1)) 17 2) + ((zI (sI (sA (sA (sI (sI μ a2 17 0) b3 10 ((zI (sI μ a2 17 0) b3 10) + 1)) b36 19 (some a2)) b3 12 (some a2)) b3 8 ((zI (sA (sA (sI (sI μ a2 17 0) b3 10 ((zI (sI μ a2 17 0) b3 10) + 1)) b36 19 (some a2)) b3 12 (some a2)) b3 8) + 1)) b51 2) / 100))) →
            K (some (.int x3)) μ53)))) ∧
    ((¬ x3 = 0 ∧ ¬ x3 = 1 ∧ ¬ x3 = 2) →
    (¬ x3 = 3 →
      K (some (.int x3)) (sI (sI μ a2 17 0) b3 9 ((zI (sI μ a2 17 0) b3 9) + 1))) ∧
    (x3 = 3 →
      K (some (.int x3)) (sI (sI (sI μ a2 17 0) b3 9 ((zI (sI μ a2 17 0) b3 9) + 1)) 17 2 ((zI (sI (sI μ a2 17 0) b3 9 ((zI (sI μ a2 17 0) b3 9) + 1)) 17 2) + ((zI (sI (sI μ a2 17 0) b3 9 ((zI (sI μ a2 17 0) b3 9) + 1)) b3 2) / 100))))))) : AW E l (d + 4) nc ns mX10_sort 53 [some (.ref 11), none, some (.ref a2), some (.int x3)] [] μ K := by
  obtain ⟨g1, h⟩ := h
  refine aw_aload_n (pc' := 54) (dt_X10_sort 29 (53, .aload_n 2, 1) rfl) rfl rfl (aw_iconst (pc' := 55) (v := 0) (dt_X10_sort 30 (54, .iconst 0, 1) rfl) (by decide) rfl (aw_putZ (pc' := 58) (dt_X10_sort 31 (55, .putfield 346, 3) rfl) fl_ReturnDesk_346 rfl (by decide +kernel) rfl g1 (by decide) (aw_aload_n (pc' := 59) (dt_X10_sort 32 (58, .aload_n 2, 1) rfl) rfl rfl (aw_getA (pc' := 62) (dt_X10_sort 33 (59, .getfield 163, 3) rfl) fl_ReturnDesk_163 rfl rfl g1 ?_ ?_))))
  · intro e2
    have h := h.1 e2
    refine aw_aload_n (pc' := 63) (dt_X10_sort 34 (62, .aload_n 2, 1) rfl) rfl rfl (aw_iload_n (pc' := 64) (dt_X10_sort 35 (63, .iload_n 3, 1) rfl) rfl rfl ?_)
    exact h.elim
  · intro b3 e2
    have h := h.2 b3 e2
    obtain ⟨g4, h⟩ := h
    refine aw_aload_n (pc' := 63) (dt_X10_sort 34 (62, .aload_n 2, 1) rfl) rfl rfl (aw_iload_n (pc' := 64) (dt_X10_sort 35 (63, .iload_n 3, 1) rfl) rfl rfl (aw_inV (pc' := 67) (nc1 := 0) (ns1 := 0) (nc := nc) (ns := ns) (ls' := [some (.ref b3), some (.ref a2), some (.int x3)]) (y2 := mX4_receive) (As := [.ref a2, .int x3]) (rest := []) (a := b3) (dt_X10_sort 36 (64, .invokevirtual 362, 3) rfl) ok_X4_receive ln_ReturnDesk_362 im_X4_receive se_X4_receive pr_X4_receive (Or.inl ⟨by decide, rfl⟩) rfl (Nat.le_of_ble_eq_true rfl) (Nat.le_of_ble_eq_true rfl) rfl rfl g4 (aw_iload_n (pc' := 1) (dt_X4_receive 0 (0, .iload_n 2, 1) rfl) rfl rfl ?_)))
    by_cases q5 : x3 = 0
    · have h := h.1 q5
      refine aw_tableE (tgt := 28) (off := 27) (dt_X4_receive 1 (1, .tableswitch 66 0 2 #[27, 40, 48], 27) rfl) q5 (by decide) (by decide) (by decide) (by decide) ?_
      refine aw_aload_n (pc' := 29) (dt_X4_receive 2 (28, .aload_n 0, 1) rfl) rfl rfl (aw_dup (pc' := 30) (dt_X4_receive 3 (29, .dup, 1) rfl) rfl rfl (aw_getI (pc' := 33) (dt_X4_receive 4 (30, .getfield 34, 3) rfl) fl_Model_34 rfl rfl g4 (aw_iconst (pc' := 34) (v := 1) (dt_X4_receive 5 (33, .iconst 1, 1) rfl) (by decide) rfl (aw_iadd (pc' := 35) (dt_X4_receive 6 (34, .iadd, 1) rfl) rfl (aw_putI (pc' := 38) (dt_X4_receive 7 (35, .putfield 34, 3) rfl) fl_Model_34 rfl (by decide +kernel) rfl g4 (aw_goto (tgt := 77) (dt_X4_receive 8 (38, .goto 39, 3) rfl) (by decide) (aw_ret (dt_X4_receive 29 (77, .return_, 1) rfl) rfl (aw_stk (st' := []) rfl (aw_iload_n (pc' := 68) (dt_X10_sort 37 (67, .iload_n 3, 1) rfl) rfl rfl (aw_iconst (pc' := 69) (v := 3) (dt_X10_sort 38 (68, .iconst 3, 1) rfl) (by decide) rfl (aw_icmp_ne (pc' := 72) (tgt := 91) (dt_X10_sort 39 (69, .if_icmp .ne 22, 3) rfl) (by decide) rfl ?_ ?_)))))))))))
      · intro q6
        have h := h.1 q6
        refine aw_iload_n (pc' := 92) (dt_X10_sort 49 (91, .iload_n 3, 1) rfl) rfl rfl (aw_iret (dt_X10_sort 50 (92, .ireturn, 1) rfl) rfl rfl ?_)
        exact h
      · intro q6
        have h := h.2 q6
        refine aw_aload_n (pc' := 73) (dt_X10_sort 40 (72, .aload_n 0, 1) rfl) rfl rfl (aw_getAs (pc' := 76) (dt_X10_sort 41 (73, .getfield 42, 3) rfl) fl_ReturnDesk_42 rfl rfl (sk_11 hS.wI.wI) (sa_11_5 hS.wI.wI) (aw_dup (pc' := 77) (dt_X10_sort 42 (76, .dup, 1) rfl) rfl rfl (aw_getI (pc' := 80) (dt_X10_sort 43 (77, .getfield 118, 3) rfl) fl_ReturnDesk_118 rfl rfl (sk_17 hS.wI.wI) (aw_aload_n (pc' := 81) (dt_X10_sort 44 (80, .aload_n 2, 1) rfl) rfl rfl (aw_getAs (pc' := 84) (dt_X10_sort 45 (81, .getfield 163, 3) rfl) fl_ReturnDesk_163 rfl rfl g1 e2 (aw_inV (pc' := 87) (nc1 := 0) (ns1 := 0) (nc := nc) (ns := ns) (ls' := [some (.ref b3)]) (y2 := mX4_scrapWorth) (As := []) (rest := [.int (zI (sI (sI μ a2 17 0) b3 7 ((zI (sI μ a2 17 0) b3 7) + 1)) 17 2), .ref 17]) (a := b3) (dt_X10_sort 46 (84, .invokevirtual 366, 3) rfl) ok_X4_scrapWorth ln_ReturnDesk_366 im_X4_scrapWorth se_X4_scrapWorth pr_X4_scrapWorth (Or.inl ⟨by decide, rfl⟩) rfl (Nat.le_of_ble_eq_true rfl) (Nat.le_of_ble_eq_true rfl) rfl rfl g4 (aw_aload_n (pc' := 1) (dt_X4_scrapWorth 0 (0, .aload_n 0, 1) rfl) rfl rfl (aw_getI (pc' := 4) (dt_X4_scrapWorth 1 (1, .getfield 25, 3) rfl) fl_Model_25 rfl rfl g4 (aw_bipush (pc' := 6) (v := 100) (dt_X4_scrapWorth 2 (4, .bipush 100, 2) rfl) (by decide) rfl (aw_idiv (pc' := 7) (dt_X4_scrapWorth 3 (6, .idiv, 1) rfl) (by decide) rfl (aw_iret (dt_X4_scrapWorth 4 (7, .ireturn, 1) rfl) rfl rfl (aw_stk (st' := [.int ((zI (sI (sI μ a2 17 0) b3 7 ((zI (sI μ a2 17 0) b3 7) + 1)) b3 2) / 100), .int (zI (sI (sI μ a2 17 0) b3 7 ((zI (sI μ a2 17 0) b3 7) + 1)) 17 2), .ref 17]) rfl (aw_iadd (pc' := 88) (dt_X10_sort 47 (87, .iadd, 1) rfl) rfl (aw_putI (pc' := 91) (dt_X10_sort 48 (88, .putfield 118, 3) rfl) fl_ReturnDesk_118 rfl (by decide +kernel) rfl (sk_17 hS.wI.wI) (aw_iload_n (pc' := 92) (dt_X10_sort 49 (91, .iload_n 3, 1) rfl) rfl rfl (aw_iret (dt_X10_sort 50 (92, .ireturn, 1) rfl) rfl rfl ?_))))))))))))))))
        exact h
    by_cases q7 : x3 = 1
    · have h := h.2.1 q7
      refine aw_tableE (tgt := 41) (off := 40) (dt_X4_receive 1 (1, .tableswitch 66 0 2 #[27, 40, 48], 27) rfl) q7 (by decide) (by decide) (by decide) (by decide) ?_
      refine aw_aload_n (pc' := 42) (dt_X4_receive 9 (41, .aload_n 0, 1) rfl) rfl rfl (aw_aload_n (pc' := 43) (dt_X4_receive 10 (42, .aload_n 1, 1) rfl) rfl rfl (aw_inV (pc' := 46) (nc1 := 0) (ns1 := 0) (nc := 0) (ns := 0) (ls' := [some (.ref b3), some (.ref a2)]) (y2 := mX4_putUsed) (As := [.ref a2]) (rest := []) (a := b3) (dt_X4_receive 11 (43, .invokevirtual 37, 3) rfl) ok_X4_putUsed ln_Model_37 im_X4_putUsed se_X4_putUsed pr_X4_putUsed (Or.inl ⟨by decide, rfl⟩) rfl (Nat.le_of_ble_eq_true rfl) (Nat.le_of_ble_eq_true rfl) rfl rfl g4 (aw_aload_n (pc' := 1) (dt_X4_putUsed 0 (0, .aload_n 0, 1) rfl) rfl rfl (aw_getA (pc' := 4) (dt_X4_putUsed 1 (1, .getfield 47, 3) rfl) fl_Model_47 rfl rfl g4 ?_ ?_))))
      · intro e8
        have h := h.1 e8
        refine aw_ifnonnullN (pc' := 7) (dt_X4_putUsed 2 (4, .ifnonnull 11, 3) rfl) rfl (aw_aload_n (pc' := 8) (dt_X4_putUsed 3 (7, .aload_n 0, 1) rfl) rfl rfl (aw_aload_n (pc' := 9) (dt_X4_putUsed 4 (8, .aload_n 1, 1) rfl) rfl rfl (aw_putA (pc' := 12) (dt_X4_putUsed 5 (9, .putfield 51, 3) rfl) fl_Model_51 rfl (by decide +kernel) rfl g4 (aw_goto (tgt := 23) (dt_X4_putUsed 6 (12, .goto 11, 3) rfl) (by decide) (aw_aload_n (pc' := 24) (dt_X4_putUsed 11 (23, .aload_n 0, 1) rfl) rfl rfl (aw_aload_n (pc' := 25) (dt_X4_putUsed 12 (24, .aload_n 1, 1) rfl) rfl rfl (aw_putA (pc' := 28) (dt_X4_putUsed 13 (25, .putfield 47, 3) rfl) fl_Model_47 rfl (by decide +kernel) rfl g4 (aw_aload_n (pc' := 29) (dt_X4_putUsed 14 (28, .aload_n 0, 1) rfl) rfl rfl (aw_dup (pc' := 30) (dt_X4_putUsed 15 (29, .dup, 1) rfl) rfl rfl (aw_getI (pc' := 33) (dt_X4_putUsed 16 (30, .getfield 59, 3) rfl) fl_Model_59 rfl rfl g4 (aw_iconst (pc' := 34) (v := 1) (dt_X4_putUsed 17 (33, .iconst 1, 1) rfl) (by decide) rfl (aw_iadd (pc' := 35) (dt_X4_putUsed 18 (34, .iadd, 1) rfl) rfl (aw_putI (pc' := 38) (dt_X4_putUsed 19 (35, .putfield 59, 3) rfl) fl_Model_59 rfl (by decide +kernel) rfl g4 (aw_ret (dt_X4_putUsed 20 (38, .return_, 1) rfl) rfl (aw_stk (st' := []) rfl (aw_goto (tgt := 77) (dt_X4_receive 12 (46, .goto 31, 3) rfl) (by decide) (aw_ret (dt_X4_receive 29 (77, .return_, 1) rfl) rfl (aw_stk (st' := []) rfl (aw_iload_n (pc' := 68) (dt_X10_sort 37 (67, .iload_n 3, 1) rfl) rfl rfl (aw_iconst (pc' := 69) (v := 3) (dt_X10_sort 38 (68, .iconst 3, 1) rfl) (by decide) rfl (aw_icmp_ne (pc' := 72) (tgt := 91) (dt_X10_sort 39 (69, .if_icmp .ne 22, 3) rfl) (by decide) rfl ?_ ?_)))))))))))))))))))))
        · intro q10
          have h := h.1 q10
          refine aw_iload_n (pc' := 92) (dt_X10_sort 49 (91, .iload_n 3, 1) rfl) rfl rfl (aw_iret (dt_X10_sort 50 (92, .ireturn, 1) rfl) rfl rfl ?_)
          exact h
        · intro q10
          have h := h.2 q10
          refine aw_aload_n (pc' := 73) (dt_X10_sort 40 (72, .aload_n 0, 1) rfl) rfl rfl (aw_getAs (pc' := 76) (dt_X10_sort 41 (73, .getfield 42, 3) rfl) fl_ReturnDesk_42 rfl rfl (sk_11 ((hS.wI.wAd g4 (by decide)).wAd g4 (by decide)).wI) (sa_11_5 ((hS.wI.wAd g4 (by decide)).wAd g4 (by decide)).wI) (aw_dup (pc' := 77) (dt_X10_sort 42 (76, .dup, 1) rfl) rfl rfl (aw_getI (pc' := 80) (dt_X10_sort 43 (77, .getfield 118, 3) rfl) fl_ReturnDesk_118 rfl rfl (sk_17 ((hS.wI.wAd g4 (by decide)).wAd g4 (by decide)).wI) (aw_aload_n (pc' := 81) (dt_X10_sort 44 (80, .aload_n 2, 1) rfl) rfl rfl (aw_getA (pc' := 84) (dt_X10_sort 45 (81, .getfield 163, 3) rfl) fl_ReturnDesk_163 rfl rfl g1 ?_ ?_)))))
          · intro e11
            have h := h.1 e11
            exact h.elim
          · intro b12 e11
            have h := h.2 b12 e11
            obtain ⟨g13, h⟩ := h
            refine aw_inV (pc' := 87) (nc1 := 0) (ns1 := 0) (nc := nc) (ns := ns) (ls' := [some (.ref b12)]) (y2 := mX4_scrapWorth) (As := []) (rest := [.int (zI (sI (sA (sA (sI μ a2 17 0) b3 11 (some a2)) b3 12 (some a2)) b3 8 ((zI (sA (sA (sI μ a2 17 0) b3 11 (some a2)) b3 12 (some a2)) b3 8) + 1)) 17 2), .ref 17]) (a := b12) (dt_X10_sort 46 (84, .invokevirtual 366, 3) rfl) ok_X4_scrapWorth ln_ReturnDesk_366 im_X4_scrapWorth se_X4_scrapWorth pr_X4_scrapWorth (Or.inl ⟨by decide, rfl⟩) rfl (Nat.le_of_ble_eq_true rfl) (Nat.le_of_ble_eq_true rfl) rfl rfl g13 (aw_aload_n (pc' := 1) (dt_X4_scrapWorth 0 (0, .aload_n 0, 1) rfl) rfl rfl (aw_getI (pc' := 4) (dt_X4_scrapWorth 1 (1, .getfield 25, 3) rfl) fl_Model_25 rfl rfl g13 (aw_bipush (pc' := 6) (v := 100) (dt_X4_scrapWorth 2 (4, .bipush 100, 2) rfl) (by decide) rfl (aw_idiv (pc' := 7) (dt_X4_scrapWorth 3 (6, .idiv, 1) rfl) (by decide) rfl (aw_iret (dt_X4_scrapWorth 4 (7, .ireturn, 1) rfl) rfl rfl (aw_stk (st' := [.int ((zI (sI (sA (sA (sI μ a2 17 0) b3 11 (some a2)) b3 12 (some a2)) b3 8 ((zI (sA (sA (sI μ a2 17 0) b3 11 (some a2)) b3 12 (some a2)) b3 8) + 1)) b12 2) / 100), .int (zI (sI (sA (sA (sI μ a2 17 0) b3 11 (some a2)) b3 12 (some a2)) b3 8 ((zI (sA (sA (sI μ a2 17 0) b3 11 (some a2)) b3 12 (some a2)) b3 8) + 1)) 17 2), .ref 17]) rfl (aw_iadd (pc' := 88) (dt_X10_sort 47 (87, .iadd, 1) rfl) rfl (aw_putI (pc' := 91) (dt_X10_sort 48 (88, .putfield 118, 3) rfl) fl_ReturnDesk_118 rfl (by decide +kernel) rfl (sk_17 ((hS.wI.wAd g4 (by decide)).wAd g4 (by decide)).wI) ?_))))))))
            refine aw_mem (fun μ14 eμ15 => ?_)
            have h := h μ14 eμ15
            have hS16 : Stat μ14 := by rw [eμ15]; exact ((hS.wI.wAd g4 (by decide)).wAd g4 (by decide)).wI.wI
            have k17 : zK μ14 a2 = 7 := by rw [eμ15]; exact g1
            have k18 : zK μ14 b3 = 4 := by rw [eμ15]; exact g4
            have k19 : zK μ14 b12 = 4 := by rw [eμ15]; exact g13
            have e20 : zA μ14 a2 1 = some b12 := by rw [eμ15]; exact e11
            refine aw_iload_n (pc' := 92) (dt_X10_sort 49 (91, .iload_n 3, 1) rfl) rfl rfl (aw_iret (dt_X10_sort 50 (92, .ireturn, 1) rfl) rfl rfl ?_)
            exact h
      · intro b9 e8
        have h := h.2 b9 e8
        obtain ⟨g21, h⟩ := h
        refine aw_ifnonnull (tgt := 15) (dt_X4_putUsed 2 (4, .ifnonnull 11, 3) rfl) (by decide) (aw_aload_n (pc' := 16) (dt_X4_putUsed 7 (15, .aload_n 0, 1) rfl) rfl rfl (aw_getAs (pc' := 19) (dt_X4_putUsed 8 (16, .getfield 47, 3) rfl) fl_Model_47 rfl rfl g4 e8 (aw_aload_n (pc' := 20) (dt_X4_putUsed 9 (19, .aload_n 1, 1) rfl) rfl rfl (aw_putA (pc' := 23) (dt_X4_putUsed 10 (20, .putfield 54, 3) rfl) fl_Model_54 rfl (by decide +kernel) rfl g21 (aw_aload_n (pc' := 24) (dt_X4_putUsed 11 (23, .aload_n 0, 1) rfl) rfl rfl (aw_aload_n (pc' := 25) (dt_X4_putUsed 12 (24, .aload_n 1, 1) rfl) rfl rfl (aw_putA (pc' := 28) (dt_X4_putUsed 13 (25, .putfield 47, 3) rfl) fl_Model_47 rfl (by decide +kernel) rfl g4 (aw_aload_n (pc' := 29) (dt_X4_putUsed 14 (28, .aload_n 0, 1) rfl) rfl rfl (aw_dup (pc' := 30) (dt_X4_putUsed 15 (29, .dup, 1) rfl) rfl rfl (aw_getI (pc' := 33) (dt_X4_putUsed 16 (30, .getfield 59, 3) rfl) fl_Model_59 rfl rfl g4 (aw_iconst (pc' := 34) (v := 1) (dt_X4_putUsed 17 (33, .iconst 1, 1) rfl) (by decide) rfl (aw_iadd (pc' := 35) (dt_X4_putUsed 18 (34, .iadd, 1) rfl) rfl (aw_putI (pc' := 38) (dt_X4_putUsed 19 (35, .putfield 59, 3) rfl) fl_Model_59 rfl (by decide +kernel) rfl g4 (aw_ret (dt_X4_putUsed 20 (38, .return_, 1) rfl) rfl (aw_stk (st' := []) rfl (aw_goto (tgt := 77) (dt_X4_receive 12 (46, .goto 31, 3) rfl) (by decide) (aw_ret (dt_X4_receive 29 (77, .return_, 1) rfl) rfl (aw_stk (st' := []) rfl (aw_iload_n (pc' := 68) (dt_X10_sort 37 (67, .iload_n 3, 1) rfl) rfl rfl (aw_iconst (pc' := 69) (v := 3) (dt_X10_sort 38 (68, .iconst 3, 1) rfl) (by decide) rfl (aw_icmp_ne (pc' := 72) (tgt := 91) (dt_X10_sort 39 (69, .if_icmp .ne 22, 3) rfl) (by decide) rfl ?_ ?_)))))))))))))))))))))
        · intro q22
          have h := h.1 q22
          refine aw_iload_n (pc' := 92) (dt_X10_sort 49 (91, .iload_n 3, 1) rfl) rfl rfl (aw_iret (dt_X10_sort 50 (92, .ireturn, 1) rfl) rfl rfl ?_)
          exact h
        · intro q22
          have h := h.2 q22
          refine aw_aload_n (pc' := 73) (dt_X10_sort 40 (72, .aload_n 0, 1) rfl) rfl rfl (aw_getAs (pc' := 76) (dt_X10_sort 41 (73, .getfield 42, 3) rfl) fl_ReturnDesk_42 rfl rfl (sk_11 ((hS.wI.wAd g21 (by decide)).wAd g4 (by decide)).wI) (sa_11_5 ((hS.wI.wAd g21 (by decide)).wAd g4 (by decide)).wI) (aw_dup (pc' := 77) (dt_X10_sort 42 (76, .dup, 1) rfl) rfl rfl (aw_getI (pc' := 80) (dt_X10_sort 43 (77, .getfield 118, 3) rfl) fl_ReturnDesk_118 rfl rfl (sk_17 ((hS.wI.wAd g21 (by decide)).wAd g4 (by decide)).wI) (aw_aload_n (pc' := 81) (dt_X10_sort 44 (80, .aload_n 2, 1) rfl) rfl rfl (aw_getA (pc' := 84) (dt_X10_sort 45 (81, .getfield 163, 3) rfl) fl_ReturnDesk_163 rfl rfl g1 ?_ ?_)))))
          · intro e23
            have h := h.1 e23
            exact h.elim
          · intro b24 e23
            have h := h.2 b24 e23
            obtain ⟨g25, h⟩ := h
            refine aw_inV (pc' := 87) (nc1 := 0) (ns1 := 0) (nc := nc) (ns := ns) (ls' := [some (.ref b24)]) (y2 := mX4_scrapWorth) (As := []) (rest := [.int (zI (sI (sA (sA (sI μ a2 17 0) b9 19 (some a2)) b3 12 (some a2)) b3 8 ((zI (sA (sA (sI μ a2 17 0) b9 19 (some a2)) b3 12 (some a2)) b3 8) + 1)) 17 2), .ref 17]) (a := b24) (dt_X10_sort 46 (84, .invokevirtual 366, 3) rfl) ok_X4_scrapWorth ln_ReturnDesk_366 im_X4_scrapWorth se_X4_scrapWorth pr_X4_scrapWorth (Or.inl ⟨by decide, rfl⟩) rfl (Nat.le_of_ble_eq_true rfl) (Nat.le_of_ble_eq_true rfl) rfl rfl g25 (aw_aload_n (pc' := 1) (dt_X4_scrapWorth 0 (0, .aload_n 0, 1) rfl) rfl rfl (aw_getI (pc' := 4) (dt_X4_scrapWorth 1 (1, .getfield 25, 3) rfl) fl_Model_25 rfl rfl g25 (aw_bipush (pc' := 6) (v := 100) (dt_X4_scrapWorth 2 (4, .bipush 100, 2) rfl) (by decide) rfl (aw_idiv (pc' := 7) (dt_X4_scrapWorth 3 (6, .idiv, 1) rfl) (by decide) rfl (aw_iret (dt_X4_scrapWorth 4 (7, .ireturn, 1) rfl) rfl rfl (aw_stk (st' := [.int ((zI (sI (sA (sA (sI μ a2 17 0) b9 19 (some a2)) b3 12 (some a2)) b3 8 ((zI (sA (sA (sI μ a2 17 0) b9 19 (some a2)) b3 12 (some a2)) b3 8) + 1)) b24 2) / 100), .int (zI (sI (sA (sA (sI μ a2 17 0) b9 19 (some a2)) b3 12 (some a2)) b3 8 ((zI (sA (sA (sI μ a2 17 0) b9 19 (some a2)) b3 12 (some a2)) b3 8) + 1)) 17 2), .ref 17]) rfl (aw_iadd (pc' := 88) (dt_X10_sort 47 (87, .iadd, 1) rfl) rfl (aw_putI (pc' := 91) (dt_X10_sort 48 (88, .putfield 118, 3) rfl) fl_ReturnDesk_118 rfl (by decide +kernel) rfl (sk_17 ((hS.wI.wAd g21 (by decide)).wAd g4 (by decide)).wI) ?_))))))))
            refine aw_mem (fun μ26 eμ27 => ?_)
            have h := h μ26 eμ27
            have hS28 : Stat μ26 := by rw [eμ27]; exact ((hS.wI.wAd g21 (by decide)).wAd g4 (by decide)).wI.wI
            have k29 : zK μ26 a2 = 7 := by rw [eμ27]; exact g1
            have k30 : zK μ26 b3 = 4 := by rw [eμ27]; exact g4
            have k31 : zK μ26 b9 = 7 := by rw [eμ27]; exact g21
            have k32 : zK μ26 b24 = 4 := by rw [eμ27]; exact g25
            have e33 : zA μ26 a2 1 = some b24 := by rw [eμ27]; exact e23
            refine aw_iload_n (pc' := 92) (dt_X10_sort 49 (91, .iload_n 3, 1) rfl) rfl rfl (aw_iret (dt_X10_sort 50 (92, .ireturn, 1) rfl) rfl rfl ?_)
            exact h
    by_cases q34 : x3 = 2
    · have h := h.2.2.1 q34
      refine aw_tableE (tgt := 49) (off := 48) (dt_X4_receive 1 (1, .tableswitch 66 0 2 #[27, 40, 48], 27) rfl) q34 (by decide) (by decide) (by decide) (by decide) ?_
      refine aw_aload_n (pc' := 50) (dt_X4_receive 13 (49, .aload_n 0, 1) rfl) rfl rfl (aw_dup (pc' := 51) (dt_X4_receive 14 (50, .dup, 1) rfl) rfl rfl (aw_getI (pc' := 54) (dt_X4_receive 15 (51, .getfield 41, 3) rfl) fl_Model_41 rfl rfl g4 (aw_iconst (pc' := 55) (v := 1) (dt_X4_receive 16 (54, .iconst 1, 1) rfl) (by decide) rfl (aw_iadd (pc' := 56) (dt_X4_receive 17 (55, .iadd, 1) rfl) rfl (aw_putI (pc' := 59) (dt_X4_receive 18 (56, .putfield 41, 3) rfl) fl_Model_41 rfl (by decide +kernel) rfl g4 (aw_aload_n (pc' := 60) (dt_X4_receive 19 (59, .aload_n 0, 1) rfl) rfl rfl (aw_aload_n (pc' := 61) (dt_X4_receive 20 (60, .aload_n 1, 1) rfl) rfl rfl (aw_inV (pc' := 64) (nc1 := 0) (ns1 := 0) (nc := 0) (ns := 0) (ls' := [some (.ref b3), some (.ref a2)]) (y2 := mX4_putUsed) (As := [.ref a2]) (rest := []) (a := b3) (dt_X4_receive 21 (61, .invokevirtual 37, 3) rfl) ok_X4_putUsed ln_Model_37 im_X4_putUsed se_X4_putUsed pr_X4_putUsed (Or.inl ⟨by decide, rfl⟩) rfl (Nat.le_of_ble_eq_true rfl) (Nat.le_of_ble_eq_true rfl) rfl rfl g4 (aw_aload_n (pc' := 1) (dt_X4_putUsed 0 (0, .aload_n 0, 1) rfl) rfl rfl (aw_getA (pc' := 4) (dt_X4_putUsed 1 (1, .getfield 47, 3) rfl) fl_Model_47 rfl rfl g4 ?_ ?_))))))))))
      · intro e35
        have h := h.1 e35
        refine aw_ifnonnullN (pc' := 7) (dt_X4_putUsed 2 (4, .ifnonnull 11, 3) rfl) rfl (aw_aload_n (pc' := 8) (dt_X4_putUsed 3 (7, .aload_n 0, 1) rfl) rfl rfl (aw_aload_n (pc' := 9) (dt_X4_putUsed 4 (8, .aload_n 1, 1) rfl) rfl rfl (aw_putA (pc' := 12) (dt_X4_putUsed 5 (9, .putfield 51, 3) rfl) fl_Model_51 rfl (by decide +kernel) rfl g4 (aw_goto (tgt := 23) (dt_X4_putUsed 6 (12, .goto 11, 3) rfl) (by decide) (aw_aload_n (pc' := 24) (dt_X4_putUsed 11 (23, .aload_n 0, 1) rfl) rfl rfl (aw_aload_n (pc' := 25) (dt_X4_putUsed 12 (24, .aload_n 1, 1) rfl) rfl rfl (aw_putA (pc' := 28) (dt_X4_putUsed 13 (25, .putfield 47, 3) rfl) fl_Model_47 rfl (by decide +kernel) rfl g4 (aw_aload_n (pc' := 29) (dt_X4_putUsed 14 (28, .aload_n 0, 1) rfl) rfl rfl (aw_dup (pc' := 30) (dt_X4_putUsed 15 (29, .dup, 1) rfl) rfl rfl (aw_getI (pc' := 33) (dt_X4_putUsed 16 (30, .getfield 59, 3) rfl) fl_Model_59 rfl rfl g4 (aw_iconst (pc' := 34) (v := 1) (dt_X4_putUsed 17 (33, .iconst 1, 1) rfl) (by decide) rfl (aw_iadd (pc' := 35) (dt_X4_putUsed 18 (34, .iadd, 1) rfl) rfl (aw_putI (pc' := 38) (dt_X4_putUsed 19 (35, .putfield 59, 3) rfl) fl_Model_59 rfl (by decide +kernel) rfl g4 (aw_ret (dt_X4_putUsed 20 (38, .return_, 1) rfl) rfl (aw_stk (st' := []) rfl (aw_goto (tgt := 77) (dt_X4_receive 22 (64, .goto 13, 3) rfl) (by decide) (aw_ret (dt_X4_receive 29 (77, .return_, 1) rfl) rfl (aw_stk (st' := []) rfl (aw_iload_n (pc' := 68) (dt_X10_sort 37 (67, .iload_n 3, 1) rfl) rfl rfl (aw_iconst (pc' := 69) (v := 3) (dt_X10_sort 38 (68, .iconst 3, 1) rfl) (by decide) rfl (aw_icmp_ne (pc' := 72) (tgt := 91) (dt_X10_sort 39 (69, .if_icmp .ne 22, 3) rfl) (by decide) rfl ?_ ?_)))))))))))))))))))))
        · intro q37
          have h := h.1 q37
          refine aw_iload_n (pc' := 92) (dt_X10_sort 49 (91, .iload_n 3, 1) rfl) rfl rfl (aw_iret (dt_X10_sort 50 (92, .ireturn, 1) rfl) rfl rfl ?_)
          exact h
        · intro q37
          have h := h.2 q37
          refine aw_aload_n (pc' := 73) (dt_X10_sort 40 (72, .aload_n 0, 1) rfl) rfl rfl (aw_getAs (pc' := 76) (dt_X10_sort 41 (73, .getfield 42, 3) rfl) fl_ReturnDesk_42 rfl rfl (sk_11 ((hS.wI.wI.wAd g4 (by decide)).wAd g4 (by decide)).wI) (sa_11_5 ((hS.wI.wI.wAd g4 (by decide)).wAd g4 (by decide)).wI) (aw_dup (pc' := 77) (dt_X10_sort 42 (76, .dup, 1) rfl) rfl rfl (aw_getI (pc' := 80) (dt_X10_sort 43 (77, .getfield 118, 3) rfl) fl_ReturnDesk_118 rfl rfl (sk_17 ((hS.wI.wI.wAd g4 (by decide)).wAd g4 (by decide)).wI) (aw_aload_n (pc' := 81) (dt_X10_sort 44 (80, .aload_n 2, 1) rfl) rfl rfl (aw_getA (pc' := 84) (dt_X10_sort 45 (81, .getfield 163, 3) rfl) fl_ReturnDesk_163 rfl rfl g1 ?_ ?_)))))
          · intro e38
            have h := h.1 e38
            exact h.elim
          · intro b39 e38
            have h := h.2 b39 e38
            obtain ⟨g40, h⟩ := h
            refine aw_inV (pc' := 87) (nc1 := 0) (ns1 := 0) (nc := nc) (ns := ns) (ls' := [some (.ref b39)]) (y2 := mX4_scrapWorth) (As := []) (rest := [.int (zI (sI (sA (sA (sI (sI μ a2 17 0) b3 10 ((zI (sI μ a2 17 0) b3 10) + 1)) b3 11 (some a2)) b3 12 (some a2)) b3 8 ((zI (sA (sA (sI (sI μ a2 17 0) b3 10 ((zI (sI μ a2 17 0) b3 10) + 1)) b3 11 (some a2)) b3 12 (some a2)) b3 8) + 1)) 17 2), .ref 17]) (a := b39) (dt_X10_sort 46 (84, .invokevirtual 366, 3) rfl) ok_X4_scrapWorth ln_ReturnDesk_366 im_X4_scrapWorth se_X4_scrapWorth pr_X4_scrapWorth (Or.inl ⟨by decide, rfl⟩) rfl (Nat.le_of_ble_eq_true rfl) (Nat.le_of_ble_eq_true rfl) rfl rfl g40 (aw_aload_n (pc' := 1) (dt_X4_scrapWorth 0 (0, .aload_n 0, 1) rfl) rfl rfl (aw_getI (pc' := 4) (dt_X4_scrapWorth 1 (1, .getfield 25, 3) rfl) fl_Model_25 rfl rfl g40 (aw_bipush (pc' := 6) (v := 100) (dt_X4_scrapWorth 2 (4, .bipush 100, 2) rfl) (by decide) rfl (aw_idiv (pc' := 7) (dt_X4_scrapWorth 3 (6, .idiv, 1) rfl) (by decide) rfl (aw_iret (dt_X4_scrapWorth 4 (7, .ireturn, 1) rfl) rfl rfl (aw_stk (st' := [.int ((zI (sI (sA (sA (sI (sI μ a2 17 0) b3 10 ((zI (sI μ a2 17 0) b3 10) + 1)) b3 11 (some a2)) b3 12 (some a2)) b3 8 ((zI (sA (sA (sI (sI μ a2 17 0) b3 10 ((zI (sI μ a2 17 0) b3 10) + 1)) b3 11 (some a2)) b3 12 (some a2)) b3 8) + 1)) b39 2) / 100), .int (zI (sI (sA (sA (sI (sI μ a2 17 0) b3 10 ((zI (sI μ a2 17 0) b3 10) + 1)) b3 11 (some a2)) b3 12 (some a2)) b3 8 ((zI (sA (sA (sI (sI μ a2 17 0) b3 10 ((zI (sI μ a2 17 0) b3 10) + 1)) b3 11 (some a2)) b3 12 (some a2)) b3 8) + 1)) 17 2), .ref 17]) rfl (aw_iadd (pc' := 88) (dt_X10_sort 47 (87, .iadd, 1) rfl) rfl (aw_putI (pc' := 91) (dt_X10_sort 48 (88, .putfield 118, 3) rfl) fl_ReturnDesk_118 rfl (by decide +kernel) rfl (sk_17 ((hS.wI.wI.wAd g4 (by decide)).wAd g4 (by decide)).wI) ?_))))))))
            refine aw_mem (fun μ41 eμ42 => ?_)
            have h := h μ41 eμ42
            have hS43 : Stat μ41 := by rw [eμ42]; exact ((hS.wI.wI.wAd g4 (by decide)).wAd g4 (by decide)).wI.wI
            have k44 : zK μ41 a2 = 7 := by rw [eμ42]; exact g1
            have k45 : zK μ41 b3 = 4 := by rw [eμ42]; exact g4
            have k46 : zK μ41 b39 = 4 := by rw [eμ42]; exact g40
            have e47 : zA μ41 a2 1 = some b39 := by rw [eμ42]; exact e38
            refine aw_iload_n (pc' := 92) (dt_X10_sort 49 (91, .iload_n 3, 1) rfl) rfl rfl (aw_iret (dt_X10_sort 50 (92, .ireturn, 1) rfl) rfl rfl ?_)
            exact h
      · intro b36 e35
        have h := h.2 b36 e35
        obtain ⟨g48, h⟩ := h
        refine aw_ifnonnull (tgt := 15) (dt_X4_putUsed 2 (4, .ifnonnull 11, 3) rfl) (by decide) (aw_aload_n (pc' := 16) (dt_X4_putUsed 7 (15, .aload_n 0, 1) rfl) rfl rfl (aw_getAs (pc' := 19) (dt_X4_putUsed 8 (16, .getfield 47, 3) rfl) fl_Model_47 rfl rfl g4 e35 (aw_aload_n (pc' := 20) (dt_X4_putUsed 9 (19, .aload_n 1, 1) rfl) rfl rfl (aw_putA (pc' := 23) (dt_X4_putUsed 10 (20, .putfield 54, 3) rfl) fl_Model_54 rfl (by decide +kernel) rfl g48 (aw_aload_n (pc' := 24) (dt_X4_putUsed 11 (23, .aload_n 0, 1) rfl) rfl rfl (aw_aload_n (pc' := 25) (dt_X4_putUsed 12 (24, .aload_n 1, 1) rfl) rfl rfl (aw_putA (pc' := 28) (dt_X4_putUsed 13 (25, .putfield 47, 3) rfl) fl_Model_47 rfl (by decide +kernel) rfl g4 (aw_aload_n (pc' := 29) (dt_X4_putUsed 14 (28, .aload_n 0, 1) rfl) rfl rfl (aw_dup (pc' := 30) (dt_X4_putUsed 15 (29, .dup, 1) rfl) rfl rfl (aw_getI (pc' := 33) (dt_X4_putUsed 16 (30, .getfield 59, 3) rfl) fl_Model_59 rfl rfl g4 (aw_iconst (pc' := 34) (v := 1) (dt_X4_putUsed 17 (33, .iconst 1, 1) rfl) (by decide) rfl (aw_iadd (pc' := 35) (dt_X4_putUsed 18 (34, .iadd, 1) rfl) rfl (aw_putI (pc' := 38) (dt_X4_putUsed 19 (35, .putfield 59, 3) rfl) fl_Model_59 rfl (by decide +kernel) rfl g4 (aw_ret (dt_X4_putUsed 20 (38, .return_, 1) rfl) rfl (aw_stk (st' := []) rfl (aw_goto (tgt := 77) (dt_X4_receive 22 (64, .goto 13, 3) rfl) (by decide) (aw_ret (dt_X4_receive 29 (77, .return_, 1) rfl) rfl (aw_stk (st' := []) rfl (aw_iload_n (pc' := 68) (dt_X10_sort 37 (67, .iload_n 3, 1) rfl) rfl rfl (aw_iconst (pc' := 69) (v := 3) (dt_X10_sort 38 (68, .iconst 3, 1) rfl) (by decide) rfl (aw_icmp_ne (pc' := 72) (tgt := 91) (dt_X10_sort 39 (69, .if_icmp .ne 22, 3) rfl) (by decide) rfl ?_ ?_)))))))))))))))))))))
        · intro q49
          have h := h.1 q49
          refine aw_iload_n (pc' := 92) (dt_X10_sort 49 (91, .iload_n 3, 1) rfl) rfl rfl (aw_iret (dt_X10_sort 50 (92, .ireturn, 1) rfl) rfl rfl ?_)
          exact h
        · intro q49
          have h := h.2 q49
          refine aw_aload_n (pc' := 73) (dt_X10_sort 40 (72, .aload_n 0, 1) rfl) rfl rfl (aw_getAs (pc' := 76) (dt_X10_sort 41 (73, .getfield 42, 3) rfl) fl_ReturnDesk_42 rfl rfl (sk_11 ((hS.wI.wI.wAd g48 (by decide)).wAd g4 (by decide)).wI) (sa_11_5 ((hS.wI.wI.wAd g48 (by decide)).wAd g4 (by decide)).wI) (aw_dup (pc' := 77) (dt_X10_sort 42 (76, .dup, 1) rfl) rfl rfl (aw_getI (pc' := 80) (dt_X10_sort 43 (77, .getfield 118, 3) rfl) fl_ReturnDesk_118 rfl rfl (sk_17 ((hS.wI.wI.wAd g48 (by decide)).wAd g4 (by decide)).wI) (aw_aload_n (pc' := 81) (dt_X10_sort 44 (80, .aload_n 2, 1) rfl) rfl rfl (aw_getA (pc' := 84) (dt_X10_sort 45 (81, .getfield 163, 3) rfl) fl_ReturnDesk_163 rfl rfl g1 ?_ ?_)))))
          · intro e50
            have h := h.1 e50
            exact h.elim
          · intro b51 e50
            have h := h.2 b51 e50
            obtain ⟨g52, h⟩ := h
            refine aw_inV (pc' := 87) (nc1 := 0) (ns1 := 0) (nc := nc) (ns := ns) (ls' := [some (.ref b51)]) (y2 := mX4_scrapWorth) (As := []) (rest := [.int (zI (sI (sA (sA (sI (sI μ a2 17 0) b3 10 ((zI (sI μ a2 17 0) b3 10) + 1)) b36 19 (some a2)) b3 12 (some a2)) b3 8 ((zI (sA (sA (sI (sI μ a2 17 0) b3 10 ((zI (sI μ a2 17 0) b3 10) + 1)) b36 19 (some a2)) b3 12 (some a2)) b3 8) + 1)) 17 2), .ref 17]) (a := b51) (dt_X10_sort 46 (84, .invokevirtual 366, 3) rfl) ok_X4_scrapWorth ln_ReturnDesk_366 im_X4_scrapWorth se_X4_scrapWorth pr_X4_scrapWorth (Or.inl ⟨by decide, rfl⟩) rfl (Nat.le_of_ble_eq_true rfl) (Nat.le_of_ble_eq_true rfl) rfl rfl g52 (aw_aload_n (pc' := 1) (dt_X4_scrapWorth 0 (0, .aload_n 0, 1) rfl) rfl rfl (aw_getI (pc' := 4) (dt_X4_scrapWorth 1 (1, .getfield 25, 3) rfl) fl_Model_25 rfl rfl g52 (aw_bipush (pc' := 6) (v := 100) (dt_X4_scrapWorth 2 (4, .bipush 100, 2) rfl) (by decide) rfl (aw_idiv (pc' := 7) (dt_X4_scrapWorth 3 (6, .idiv, 1) rfl) (by decide) rfl (aw_iret (dt_X4_scrapWorth 4 (7, .ireturn, 1) rfl) rfl rfl (aw_stk (st' := [.int ((zI (sI (sA (sA (sI (sI μ a2 17 0) b3 10 ((zI (sI μ a2 17 0) b3 10) + 1)) b36 19 (some a2)) b3 12 (some a2)) b3 8 ((zI (sA (sA (sI (sI μ a2 17 0) b3 10 ((zI (sI μ a2 17 0) b3 10) + 1)) b36 19 (some a2)) b3 12 (some a2)) b3 8) + 1)) b51 2) / 100), .int (zI (sI (sA (sA (sI (sI μ a2 17 0) b3 10 ((zI (sI μ a2 17 0) b3 10) + 1)) b36 19 (some a2)) b3 12 (some a2)) b3 8 ((zI (sA (sA (sI (sI μ a2 17 0) b3 10 ((zI (sI μ a2 17 0) b3 10) + 1)) b36 19 (some a2)) b3 12 (some a2)) b3 8) + 1)) 17 2), .ref 17]) rfl (aw_iadd (pc' := 88) (dt_X10_sort 47 (87, .iadd, 1) rfl) rfl (aw_putI (pc' := 91) (dt_X10_sort 48 (88, .putfield 118, 3) rfl) fl_ReturnDesk_118 rfl (by decide +kernel) rfl (sk_17 ((hS.wI.wI.wAd g48 (by decide)).wAd g4 (by decide)).wI) ?_))))))))
            refine aw_mem (fun μ53 eμ54 => ?_)
            have h := h μ53 eμ54
            have hS55 : Stat μ53 := by rw [eμ54]; exact ((hS.wI.wI.wAd g48 (by decide)).wAd g4 (by decide)).wI.wI
            have k56 : zK μ53 a2 = 7 := by rw [eμ54]; exact g1
            have k57 : zK μ53 b3 = 4 := by rw [eμ54]; exact g4
            have k58 : zK μ53 b36 = 7 := by rw [eμ54]; exact g48
            have k59 : zK μ53 b51 = 4 := by rw [eμ54]; exact g52
            have e60 : zA μ53 a2 1 = some b51 := by rw [eμ54]; exact e50
            refine aw_iload_n (pc' := 92) (dt_X10_sort 49 (91, .iload_n 3, 1) rfl) rfl rfl (aw_iret (dt_X10_sort 50 (92, .ireturn, 1) rfl) rfl rfl ?_)
            exact h
    have h := h.2.2.2 ⟨q5, q7, q34⟩
    refine aw_tableOut (tgt := 67) (dt_X4_receive 1 (1, .tableswitch 66 0 2 #[27, 40, 48], 27) rfl) (tab_out (lo := 0) (n := 3) (by decide) (by decide) (by decide) (by
        intro k hk
        match k, hk with
        | 0, _ => exact q5
        | 1, _ => exact q7
        | 2, _ => exact q34
        | k + 3, hk => omega)) (by decide) ?_
    refine aw_aload_n (pc' := 68) (dt_X4_receive 23 (67, .aload_n 0, 1) rfl) rfl rfl (aw_dup (pc' := 69) (dt_X4_receive 24 (68, .dup, 1) rfl) rfl rfl (aw_getI (pc' := 72) (dt_X4_receive 25 (69, .getfield 44, 3) rfl) fl_Model_44 rfl rfl g4 (aw_iconst (pc' := 73) (v := 1) (dt_X4_receive 26 (72, .iconst 1, 1) rfl) (by decide) rfl (aw_iadd (pc' := 74) (dt_X4_receive 27 (73, .iadd, 1) rfl) rfl (aw_putI (pc' := 77) (dt_X4_receive 28 (74, .putfield 44, 3) rfl) fl_Model_44 rfl (by decide +kernel) rfl g4 (aw_ret (dt_X4_receive 29 (77, .return_, 1) rfl) rfl (aw_stk (st' := []) rfl (aw_iload_n (pc' := 68) (dt_X10_sort 37 (67, .iload_n 3, 1) rfl) rfl rfl (aw_iconst (pc' := 69) (v := 3) (dt_X10_sort 38 (68, .iconst 3, 1) rfl) (by decide) rfl (aw_icmp_ne (pc' := 72) (tgt := 91) (dt_X10_sort 39 (69, .if_icmp .ne 22, 3) rfl) (by decide) rfl ?_ ?_))))))))))
    · intro q61
      have h := h.1 q61
      refine aw_iload_n (pc' := 92) (dt_X10_sort 49 (91, .iload_n 3, 1) rfl) rfl rfl (aw_iret (dt_X10_sort 50 (92, .ireturn, 1) rfl) rfl rfl ?_)
      exact h
    · intro q61
      have h := h.2 q61
      refine aw_aload_n (pc' := 73) (dt_X10_sort 40 (72, .aload_n 0, 1) rfl) rfl rfl (aw_getAs (pc' := 76) (dt_X10_sort 41 (73, .getfield 42, 3) rfl) fl_ReturnDesk_42 rfl rfl (sk_11 hS.wI.wI) (sa_11_5 hS.wI.wI) (aw_dup (pc' := 77) (dt_X10_sort 42 (76, .dup, 1) rfl) rfl rfl (aw_getI (pc' := 80) (dt_X10_sort 43 (77, .getfield 118, 3) rfl) fl_ReturnDesk_118 rfl rfl (sk_17 hS.wI.wI) (aw_aload_n (pc' := 81) (dt_X10_sort 44 (80, .aload_n 2, 1) rfl) rfl rfl (aw_getAs (pc' := 84) (dt_X10_sort 45 (81, .getfield 163, 3) rfl) fl_ReturnDesk_163 rfl rfl g1 e2 (aw_inV (pc' := 87) (nc1 := 0) (ns1 := 0) (nc := nc) (ns := ns) (ls' := [some (.ref b3)]) (y2 := mX4_scrapWorth) (As := []) (rest := [.int (zI (sI (sI μ a2 17 0) b3 9 ((zI (sI μ a2 17 0) b3 9) + 1)) 17 2), .ref 17]) (a := b3) (dt_X10_sort 46 (84, .invokevirtual 366, 3) rfl) ok_X4_scrapWorth ln_ReturnDesk_366 im_X4_scrapWorth se_X4_scrapWorth pr_X4_scrapWorth (Or.inl ⟨by decide, rfl⟩) rfl (Nat.le_of_ble_eq_true rfl) (Nat.le_of_ble_eq_true rfl) rfl rfl g4 (aw_aload_n (pc' := 1) (dt_X4_scrapWorth 0 (0, .aload_n 0, 1) rfl) rfl rfl (aw_getI (pc' := 4) (dt_X4_scrapWorth 1 (1, .getfield 25, 3) rfl) fl_Model_25 rfl rfl g4 (aw_bipush (pc' := 6) (v := 100) (dt_X4_scrapWorth 2 (4, .bipush 100, 2) rfl) (by decide) rfl (aw_idiv (pc' := 7) (dt_X4_scrapWorth 3 (6, .idiv, 1) rfl) (by decide) rfl (aw_iret (dt_X4_scrapWorth 4 (7, .ireturn, 1) rfl) rfl rfl (aw_stk (st' := [.int ((zI (sI (sI μ a2 17 0) b3 9 ((zI (sI μ a2 17 0) b3 9) + 1)) b3 2) / 100), .int (zI (sI (sI μ a2 17 0) b3 9 ((zI (sI μ a2 17 0) b3 9) + 1)) 17 2), .ref 17]) rfl (aw_iadd (pc' := 88) (dt_X10_sort 47 (87, .iadd, 1) rfl) rfl (aw_putI (pc' := 91) (dt_X10_sort 48 (88, .putfield 118, 3) rfl) fl_ReturnDesk_118 rfl (by decide +kernel) rfl (sk_17 hS.wI.wI) (aw_iload_n (pc' := 92) (dt_X10_sort 49 (91, .iload_n 3, 1) rfl) rfl rfl (aw_iret (dt_X10_sort 50 (92, .ireturn, 1) rfl) rfl rfl ?_))))))))))))))))
      exact h

theorem t_X10_sellUsed {E : ZE} {l : Launch} {d nc ns : Nat} {x1 : Int32} {μ : ZM} {K : Option Value → ZM → Prop} (hS : Stat μ) (h :
  (x1 < 0 →
    K (some (.int (-1))) μ) ∧
  (¬ x1 < 0 →
    (((zI μ 11 12) - 1) < x1 →
      K (some (.int (-1))) μ) ∧
    (¬ ((zI μ 11 12) - 1) < x1 →
      (vp_in x1 20) ∧
      (zA μ 12 x1.toNatClampNeg = none →
        K (some (.int (-1))) μ) ∧
      (∀ b5, zA μ 12 x1.toNatClampNeg = some b5 →
        (zK μ b5 = 4) ∧
        AW E l (d + 1) 0 0 mX4_takeUsed 0 (zargs 2 [.ref b5]) [] μ (fun v μ7 =>
          (v = some .null ∧ Stat μ7 ∧ 
          K (some (.int (-2))) μ7) ∨
          (∃ b9, v = some (.ref b9) ∧ Stat μ7 ∧ 
          AW E l (d + 1) 0 0 mX10_usedWorth 0 (zargs 2 [.ref 11, .ref b9]) [] μ7 (fun v μ10 => ∃ r12 : Int32, v = some (.int r12) ∧ Stat μ10 ∧ 
            K (some (.int r12)) (sI μ10 17 2 ((zI μ10 17 2) + r12))))))))) : AW E l (d + 2) nc ns mX10_sellUsed 0 [some (.ref 11), some (.int x1), none, none, none] [] μ K := by
  refine aw_aload_n (pc' := 1) (dt_X10_sellUsed 0 (0, .aload_n 0, 1) rfl) rfl rfl (aw_iload_n (pc' := 2) (dt_X10_sellUsed 1 (1, .iload_n 1, 1) rfl) rfl rfl (aw_inV (pc' := 5) (nc1 := 0) (ns1 := 0) (nc := nc) (ns := ns) (ls' := [some (.ref 11), some (.int x1)]) (y2 := mX10_modelAt) (As := [.int x1]) (rest := []) (a := 11) (dt_X10_sellUsed 2 (2, .invokevirtual 88, 3) rfl) ok_X10_modelAt ln_ReturnDesk_88 im_X10_modelAt se_X10_modelAt pr_X10_modelAt (Or.inl ⟨by decide, rfl⟩) rfl (Nat.le_of_ble_eq_true rfl) (Nat.le_of_ble_eq_true rfl) rfl rfl (sk_11 hS) (aw_iload_n (pc' := 1) (dt_X10_modelAt 0 (0, .iload_n 1, 1) rfl) rfl rfl (aw_iconst (pc' := 2) (v := 0) (dt_X10_modelAt 1 (1, .iconst 0, 1) rfl) (by decide) rfl (aw_aload_n (pc' := 3) (dt_X10_modelAt 2 (2, .aload_n 0, 1) rfl) rfl rfl (aw_getI (pc' := 6) (dt_X10_modelAt 3 (3, .getfield 81, 3) rfl) fl_ReturnDesk_81 rfl rfl (sk_11 hS) (aw_iconst (pc' := 7) (v := 1) (dt_X10_modelAt 4 (6, .iconst 1, 1) rfl) (by decide) rfl (aw_isub (pc' := 8) (dt_X10_modelAt 5 (7, .isub, 1) rfl) rfl (aw_inS (pc' := 11) (nc1 := 0) (ns1 := 0) (nc := 0) (ns := 0) (ls' := [some (.int x1), some (.int 0), some (.int ((zI μ 11 12) - 1))]) (y2 := mX10_within) (As := [.int x1, .int 0, .int ((zI μ 11 12) - 1)]) (rest := []) (dt_X10_modelAt 6 (8, .invokestatic 76, 3) rfl) ok_X10_within ln_ReturnDesk_76 sm_X10_within pr_X10_within rfl (Nat.le_of_ble_eq_true rfl) (Nat.le_of_ble_eq_true rfl) rfl rfl (aw_iload_n (pc' := 1) (dt_X10_within 0 (0, .iload_n 0, 1) rfl) rfl rfl (aw_iload_n (pc' := 2) (dt_X10_within 1 (1, .iload_n 1, 1) rfl) rfl rfl (aw_icmp_lt (pc' := 5) (tgt := 14) (dt_X10_within 2 (2, .if_icmp .lt 12, 3) rfl) (by decide) rfl ?_ ?_))))))))))))
  · intro q1
    have h := h.1 q1
    refine aw_iconst (pc' := 15) (v := 0) (dt_X10_within 8 (14, .iconst 0, 1) rfl) (by decide) rfl (aw_iret (dt_X10_within 9 (15, .ireturn, 1) rfl) rfl rfl (aw_stk (st' := [.int 0]) rfl (aw_if_eq_T (pc' := 14) (tgt := 23) (dt_X10_modelAt 7 (11, .ifCond .eq 12, 3) rfl) (by decide) rfl (by decide) (aw_null (pc' := 24) (dt_X10_modelAt 13 (23, .aconst_null, 1) rfl) rfl (aw_aretN (dt_X10_modelAt 14 (24, .areturn, 1) rfl) rfl rfl (aw_stk (st' := [.null]) rfl (aw_astore_nN (pc' := 6) (ls' := [some (.ref 11), some (.int x1), some (.null), none, none]) (dt_X10_sellUsed 3 (5, .astore_n 2, 1) rfl) (by decide) rfl rfl (aw_aload_nN (pc' := 7) (dt_X10_sellUsed 4 (6, .aload_n 2, 1) rfl) rfl rfl (aw_ifnonnullN (pc' := 10) (dt_X10_sellUsed 5 (7, .ifnonnull 5, 3) rfl) rfl (aw_iconst (pc' := 11) (v := (-1)) (dt_X10_sellUsed 6 (10, .iconst (-1), 1) rfl) (by decide) rfl (aw_iret (dt_X10_sellUsed 7 (11, .ireturn, 1) rfl) rfl rfl ?_)))))))))))
    exact h
  · intro q1
    have h := h.2 q1
    refine aw_iload_n (pc' := 6) (dt_X10_within 3 (5, .iload_n 0, 1) rfl) rfl rfl (aw_iload_n (pc' := 7) (dt_X10_within 4 (6, .iload_n 2, 1) rfl) rfl rfl (aw_icmp_gt (pc' := 10) (tgt := 14) (dt_X10_within 5 (7, .if_icmp .gt 7, 3) rfl) (by decide) rfl ?_ ?_))
    · intro q2
      have h := h.1 q2
      refine aw_iconst (pc' := 15) (v := 0) (dt_X10_within 8 (14, .iconst 0, 1) rfl) (by decide) rfl (aw_iret (dt_X10_within 9 (15, .ireturn, 1) rfl) rfl rfl (aw_stk (st' := [.int 0]) rfl (aw_if_eq_T (pc' := 14) (tgt := 23) (dt_X10_modelAt 7 (11, .ifCond .eq 12, 3) rfl) (by decide) rfl (by decide) (aw_null (pc' := 24) (dt_X10_modelAt 13 (23, .aconst_null, 1) rfl) rfl (aw_aretN (dt_X10_modelAt 14 (24, .areturn, 1) rfl) rfl rfl (aw_stk (st' := [.null]) rfl (aw_astore_nN (pc' := 6) (ls' := [some (.ref 11), some (.int x1), some (.null), none, none]) (dt_X10_sellUsed 3 (5, .astore_n 2, 1) rfl) (by decide) rfl rfl (aw_aload_nN (pc' := 7) (dt_X10_sellUsed 4 (6, .aload_n 2, 1) rfl) rfl rfl (aw_ifnonnullN (pc' := 10) (dt_X10_sellUsed 5 (7, .ifnonnull 5, 3) rfl) rfl (aw_iconst (pc' := 11) (v := (-1)) (dt_X10_sellUsed 6 (10, .iconst (-1), 1) rfl) (by decide) rfl (aw_iret (dt_X10_sellUsed 7 (11, .ireturn, 1) rfl) rfl rfl ?_)))))))))))
      exact h
    · intro q2
      have h := h.2 q2
      obtain ⟨g3, h⟩ := h
      refine aw_iconst (pc' := 11) (v := 1) (dt_X10_within 6 (10, .iconst 1, 1) rfl) (by decide) rfl (aw_goto (tgt := 15) (dt_X10_within 7 (11, .goto 4, 3) rfl) (by decide) (aw_iret (dt_X10_within 9 (15, .ireturn, 1) rfl) rfl rfl (aw_stk (st' := [.int 1]) rfl (aw_if_eq_F (pc' := 14) (tgt := 23) (dt_X10_modelAt 7 (11, .ifCond .eq 12, 3) rfl) (by decide) rfl (by decide) (aw_aload_n (pc' := 15) (dt_X10_modelAt 8 (14, .aload_n 0, 1) rfl) rfl rfl (aw_getAs (pc' := 18) (dt_X10_modelAt 9 (15, .getfield 11, 3) rfl) fl_ReturnDesk_11 rfl rfl (sk_11 hS) (sa_11_0 hS) (aw_iload_n (pc' := 19) (dt_X10_modelAt 10 (18, .iload_n 1, 1) rfl) rfl rfl (aw_aald (pc' := 20) (dt_X10_modelAt 11 (19, .aaload, 1) rfl) (by decide) (by decide) rfl (sk_12 hS) (vin_eq (sl_12 hS) g3) ?_ ?_))))))))
      · intro e4
        have h := h.1 e4
        refine aw_goto (tgt := 24) (dt_X10_modelAt 12 (20, .goto 4, 3) rfl) (by decide) (aw_aretN (dt_X10_modelAt 14 (24, .areturn, 1) rfl) rfl rfl (aw_stk (st' := [.null]) rfl (aw_astore_nN (pc' := 6) (ls' := [some (.ref 11), some (.int x1), some (.null), none, none]) (dt_X10_sellUsed 3 (5, .astore_n 2, 1) rfl) (by decide) rfl rfl (aw_aload_nN (pc' := 7) (dt_X10_sellUsed 4 (6, .aload_n 2, 1) rfl) rfl rfl (aw_ifnonnullN (pc' := 10) (dt_X10_sellUsed 5 (7, .ifnonnull 5, 3) rfl) rfl (aw_iconst (pc' := 11) (v := (-1)) (dt_X10_sellUsed 6 (10, .iconst (-1), 1) rfl) (by decide) rfl (aw_iret (dt_X10_sellUsed 7 (11, .ireturn, 1) rfl) rfl rfl ?_)))))))
        exact h
      · intro b5 e4
        have h := h.2 b5 e4
        obtain ⟨g6, h⟩ := h
        refine aw_goto (tgt := 24) (dt_X10_modelAt 12 (20, .goto 4, 3) rfl) (by decide) (aw_aret (dt_X10_modelAt 14 (24, .areturn, 1) rfl) rfl rfl (aw_stk (st' := [.ref b5]) rfl (aw_astore_n (pc' := 6) (ls' := [some (.ref 11), some (.int x1), some (.ref b5), none, none]) (dt_X10_sellUsed 3 (5, .astore_n 2, 1) rfl) (by decide) rfl rfl (aw_aload_n (pc' := 7) (dt_X10_sellUsed 4 (6, .aload_n 2, 1) rfl) rfl rfl (aw_ifnonnull (tgt := 12) (dt_X10_sellUsed 5 (7, .ifnonnull 5, 3) rfl) (by decide) (aw_aload_n (pc' := 13) (dt_X10_sellUsed 8 (12, .aload_n 2, 1) rfl) rfl rfl (aw_callV0 (pc' := 16) (nc := nc) (ns := ns) (y2 := mX4_takeUsed) (As := []) (rest := []) (a := b5) (dt_X10_sellUsed 9 (13, .invokevirtual 369, 3) rfl) ok_X4_takeUsed ln_ReturnDesk_369 im_X4_takeUsed se_X4_takeUsed pr_X4_takeUsed (Or.inl ⟨by decide, rfl⟩) rfl (Nat.le_of_ble_eq_true rfl) (Nat.le_of_ble_eq_true rfl) rfl g6 h ?_)))))))
        rintro v μ7 (⟨rfl, hS8, h⟩ | ⟨b9, rfl, hS8, h⟩)
        · refine aw_stk (st' := [.null]) rfl ?_
          refine aw_astore_nN (pc' := 17) (ls' := [some (.ref 11), some (.int x1), some (.ref b5), some (.null), none]) (dt_X10_sellUsed 10 (16, .astore_n 3, 1) rfl) (by decide) rfl rfl (aw_aload_nN (pc' := 18) (dt_X10_sellUsed 11 (17, .aload_n 3, 1) rfl) rfl rfl (aw_ifnonnullN (pc' := 21) (dt_X10_sellUsed 12 (18, .ifnonnull 6, 3) rfl) rfl (aw_bipush (pc' := 23) (v := (-2)) (dt_X10_sellUsed 13 (21, .bipush (-2), 2) rfl) (by decide) rfl (aw_iret (dt_X10_sellUsed 14 (23, .ireturn, 1) rfl) rfl rfl ?_))))
          exact h
        · refine aw_stk (st' := [.ref b9]) rfl ?_
          refine aw_astore_n (pc' := 17) (ls' := [some (.ref 11), some (.int x1), some (.ref b5), some (.ref b9), none]) (dt_X10_sellUsed 10 (16, .astore_n 3, 1) rfl) (by decide) rfl rfl (aw_aload_n (pc' := 18) (dt_X10_sellUsed 11 (17, .aload_n 3, 1) rfl) rfl rfl (aw_ifnonnull (tgt := 24) (dt_X10_sellUsed 12 (18, .ifnonnull 6, 3) rfl) (by decide) (aw_aload_n (pc' := 25) (dt_X10_sellUsed 15 (24, .aload_n 0, 1) rfl) rfl rfl (aw_aload_n (pc' := 26) (dt_X10_sellUsed 16 (25, .aload_n 3, 1) rfl) rfl rfl (aw_callV0 (pc' := 29) (nc := nc) (ns := ns) (y2 := mX10_usedWorth) (As := [.ref b9]) (rest := []) (a := 11) (dt_X10_sellUsed 17 (26, .invokevirtual 373, 3) rfl) ok_X10_usedWorth ln_ReturnDesk_373 im_X10_usedWorth se_X10_usedWorth pr_X10_usedWorth (Or.inl ⟨by decide, rfl⟩) rfl (Nat.le_of_ble_eq_true rfl) (Nat.le_of_ble_eq_true rfl) rfl (sk_11 hS8) h ?_)))))
          rintro v μ10 ⟨r12, rfl, hS11, h⟩
          refine aw_stk (st' := [.int r12]) rfl ?_
          refine aw_istore (pc' := 31) (ls' := [some (.ref 11), some (.int x1), some (.ref b5), some (.ref b9), some (.int r12)]) (dt_X10_sellUsed 18 (29, .istore 4, 2) rfl) (by decide) rfl rfl (aw_aload_n (pc' := 32) (dt_X10_sellUsed 19 (31, .aload_n 0, 1) rfl) rfl rfl (aw_getAs (pc' := 35) (dt_X10_sellUsed 20 (32, .getfield 42, 3) rfl) fl_ReturnDesk_42 rfl rfl (sk_11 hS11) (sa_11_5 hS11) (aw_dup (pc' := 36) (dt_X10_sellUsed 21 (35, .dup, 1) rfl) rfl rfl (aw_getI (pc' := 39) (dt_X10_sellUsed 22 (36, .getfield 118, 3) rfl) fl_ReturnDesk_118 rfl rfl (sk_17 hS11) (aw_iload (pc' := 41) (dt_X10_sellUsed 23 (39, .iload 4, 2) rfl) rfl rfl (aw_iadd (pc' := 42) (dt_X10_sellUsed 24 (41, .iadd, 1) rfl) rfl (aw_putI (pc' := 45) (dt_X10_sellUsed 25 (42, .putfield 118, 3) rfl) fl_ReturnDesk_118 rfl (by decide +kernel) rfl (sk_17 hS11) (aw_iload (pc' := 47) (dt_X10_sellUsed 26 (45, .iload 4, 2) rfl) rfl rfl (aw_iret (dt_X10_sellUsed 27 (47, .ireturn, 1) rfl) rfl rfl ?_)))))))))
          exact h

theorem t_X10_ofLot {E : ZE} {l : Launch} {d nc ns : Nat} {x1 : Int32} {x2 : Int32} {x3 : Int32} {μ : ZM} {K : Option Value → ZM → Prop} (hS : Stat μ) (h :
  (x1 < 0 →
    K (some (.int (-1))) μ) ∧
  (¬ x1 < 0 →
    (((zI μ 11 13) - 1) < x1 →
      K (some (.int (-1))) μ) ∧
    (¬ ((zI μ 11 13) - 1) < x1 →
      (vp_in x1 60) ∧
      (zA μ 13 x1.toNatClampNeg = none →
        K (some (.int (-1))) μ) ∧
      (∀ b5, zA μ 13 x1.toNatClampNeg = some b5 →
        (x2 < 0 →
          K (some (.int (-1))) μ) ∧
        (¬ x2 < 0 →
          (1 < x2 →
            K (some (.int (-1))) μ) ∧
          (¬ 1 < x2 →
            (x3 < 0 →
              K (some (.int (-1))) μ) ∧
            (¬ x3 < 0 →
              (2999 < x3 →
                K (some (.int (-1))) μ) ∧
              (¬ 2999 < x3 →
                AW E l (d + 2) nc ns mX10_ofLot 36 [some (.ref 11), none, some (.int x2), some (.int x3), some (.ref b5), some (.int 0), some (.int 0), none] [] μ K)))))))) : AW E l (d + 2) nc ns mX10_ofLot 0 [some (.ref 11), some (.int x1), some (.int x2), some (.int x3), none, none, none, none] [] μ K := by
  refine aw_aload_n (pc' := 1) (dt_X10_ofLot 0 (0, .aload_n 0, 1) rfl) rfl rfl (aw_iload_n (pc' := 2) (dt_X10_ofLot 1 (1, .iload_n 1, 1) rfl) rfl rfl (aw_inV (pc' := 5) (nc1 := 0) (ns1 := 0) (nc := nc) (ns := ns) (ls' := [some (.ref 11), some (.int x1)]) (y2 := mX10_lotAt) (As := [.int x1]) (rest := []) (a := 11) (dt_X10_ofLot 2 (2, .invokevirtual 121, 3) rfl) ok_X10_lotAt ln_ReturnDesk_121 im_X10_lotAt se_X10_lotAt pr_X10_lotAt (Or.inl ⟨by decide, rfl⟩) rfl (Nat.le_of_ble_eq_true rfl) (Nat.le_of_ble_eq_true rfl) rfl rfl (sk_11 hS) (aw_iload_n (pc' := 1) (dt_X10_lotAt 0 (0, .iload_n 1, 1) rfl) rfl rfl (aw_iconst (pc' := 2) (v := 0) (dt_X10_lotAt 1 (1, .iconst 0, 1) rfl) (by decide) rfl (aw_aload_n (pc' := 3) (dt_X10_lotAt 2 (2, .aload_n 0, 1) rfl) rfl rfl (aw_getI (pc' := 6) (dt_X10_lotAt 3 (3, .getfield 107, 3) rfl) fl_ReturnDesk_107 rfl rfl (sk_11 hS) (aw_iconst (pc' := 7) (v := 1) (dt_X10_lotAt 4 (6, .iconst 1, 1) rfl) (by decide) rfl (aw_isub (pc' := 8) (dt_X10_lotAt 5 (7, .isub, 1) rfl) rfl (aw_inS (pc' := 11) (nc1 := 0) (ns1 := 0) (nc := 0) (ns := 0) (ls' := [some (.int x1), some (.int 0), some (.int ((zI μ 11 13) - 1))]) (y2 := mX10_within) (As := [.int x1, .int 0, .int ((zI μ 11 13) - 1)]) (rest := []) (dt_X10_lotAt 6 (8, .invokestatic 76, 3) rfl) ok_X10_within ln_ReturnDesk_76 sm_X10_within pr_X10_within rfl (Nat.le_of_ble_eq_true rfl) (Nat.le_of_ble_eq_true rfl) rfl rfl (aw_iload_n (pc' := 1) (dt_X10_within 0 (0, .iload_n 0, 1) rfl) rfl rfl (aw_iload_n (pc' := 2) (dt_X10_within 1 (1, .iload_n 1, 1) rfl) rfl rfl (aw_icmp_lt (pc' := 5) (tgt := 14) (dt_X10_within 2 (2, .if_icmp .lt 12, 3) rfl) (by decide) rfl ?_ ?_))))))))))))
  · intro q1
    have h := h.1 q1
    refine aw_iconst (pc' := 15) (v := 0) (dt_X10_within 8 (14, .iconst 0, 1) rfl) (by decide) rfl (aw_iret (dt_X10_within 9 (15, .ireturn, 1) rfl) rfl rfl (aw_stk (st' := [.int 0]) rfl (aw_if_eq_T (pc' := 14) (tgt := 23) (dt_X10_lotAt 7 (11, .ifCond .eq 12, 3) rfl) (by decide) rfl (by decide) (aw_null (pc' := 24) (dt_X10_lotAt 13 (23, .aconst_null, 1) rfl) rfl (aw_aretN (dt_X10_lotAt 14 (24, .areturn, 1) rfl) rfl rfl (aw_stk (st' := [.null]) rfl (aw_astoreN (pc' := 7) (ls' := [some (.ref 11), some (.int x1), some (.int x2), some (.int x3), some (.null), none, none, none]) (dt_X10_ofLot 3 (5, .astore 4, 2) rfl) (by decide) rfl rfl (aw_aloadN (pc' := 9) (dt_X10_ofLot 4 (7, .aload 4, 2) rfl) rfl rfl (aw_ifnullN (tgt := 28) (dt_X10_ofLot 5 (9, .ifnull 19, 3) rfl) (by decide) (aw_iconst (pc' := 29) (v := (-1)) (dt_X10_ofLot 14 (28, .iconst (-1), 1) rfl) (by decide) rfl (aw_iret (dt_X10_ofLot 15 (29, .ireturn, 1) rfl) rfl rfl ?_)))))))))))
    exact h
  · intro q1
    have h := h.2 q1
    refine aw_iload_n (pc' := 6) (dt_X10_within 3 (5, .iload_n 0, 1) rfl) rfl rfl (aw_iload_n (pc' := 7) (dt_X10_within 4 (6, .iload_n 2, 1) rfl) rfl rfl (aw_icmp_gt (pc' := 10) (tgt := 14) (dt_X10_within 5 (7, .if_icmp .gt 7, 3) rfl) (by decide) rfl ?_ ?_))
    · intro q2
      have h := h.1 q2
      refine aw_iconst (pc' := 15) (v := 0) (dt_X10_within 8 (14, .iconst 0, 1) rfl) (by decide) rfl (aw_iret (dt_X10_within 9 (15, .ireturn, 1) rfl) rfl rfl (aw_stk (st' := [.int 0]) rfl (aw_if_eq_T (pc' := 14) (tgt := 23) (dt_X10_lotAt 7 (11, .ifCond .eq 12, 3) rfl) (by decide) rfl (by decide) (aw_null (pc' := 24) (dt_X10_lotAt 13 (23, .aconst_null, 1) rfl) rfl (aw_aretN (dt_X10_lotAt 14 (24, .areturn, 1) rfl) rfl rfl (aw_stk (st' := [.null]) rfl (aw_astoreN (pc' := 7) (ls' := [some (.ref 11), some (.int x1), some (.int x2), some (.int x3), some (.null), none, none, none]) (dt_X10_ofLot 3 (5, .astore 4, 2) rfl) (by decide) rfl rfl (aw_aloadN (pc' := 9) (dt_X10_ofLot 4 (7, .aload 4, 2) rfl) rfl rfl (aw_ifnullN (tgt := 28) (dt_X10_ofLot 5 (9, .ifnull 19, 3) rfl) (by decide) (aw_iconst (pc' := 29) (v := (-1)) (dt_X10_ofLot 14 (28, .iconst (-1), 1) rfl) (by decide) rfl (aw_iret (dt_X10_ofLot 15 (29, .ireturn, 1) rfl) rfl rfl ?_)))))))))))
      exact h
    · intro q2
      have h := h.2 q2
      obtain ⟨g3, h⟩ := h
      refine aw_iconst (pc' := 11) (v := 1) (dt_X10_within 6 (10, .iconst 1, 1) rfl) (by decide) rfl (aw_goto (tgt := 15) (dt_X10_within 7 (11, .goto 4, 3) rfl) (by decide) (aw_iret (dt_X10_within 9 (15, .ireturn, 1) rfl) rfl rfl (aw_stk (st' := [.int 1]) rfl (aw_if_eq_F (pc' := 14) (tgt := 23) (dt_X10_lotAt 7 (11, .ifCond .eq 12, 3) rfl) (by decide) rfl (by decide) (aw_aload_n (pc' := 15) (dt_X10_lotAt 8 (14, .aload_n 0, 1) rfl) rfl rfl (aw_getAs (pc' := 18) (dt_X10_lotAt 9 (15, .getfield 17, 3) rfl) fl_ReturnDesk_17 rfl rfl (sk_11 hS) (sa_11_1 hS) (aw_iload_n (pc' := 19) (dt_X10_lotAt 10 (18, .iload_n 1, 1) rfl) rfl rfl (aw_aald (pc' := 20) (dt_X10_lotAt 11 (19, .aaload, 1) rfl) (by decide) (by decide) rfl (sk_13 hS) (vin_eq (sl_13 hS) g3) ?_ ?_))))))))
      · intro e4
        have h := h.1 e4
        refine aw_goto (tgt := 24) (dt_X10_lotAt 12 (20, .goto 4, 3) rfl) (by decide) (aw_aretN (dt_X10_lotAt 14 (24, .areturn, 1) rfl) rfl rfl (aw_stk (st' := [.null]) rfl (aw_astoreN (pc' := 7) (ls' := [some (.ref 11), some (.int x1), some (.int x2), some (.int x3), some (.null), none, none, none]) (dt_X10_ofLot 3 (5, .astore 4, 2) rfl) (by decide) rfl rfl (aw_aloadN (pc' := 9) (dt_X10_ofLot 4 (7, .aload 4, 2) rfl) rfl rfl (aw_ifnullN (tgt := 28) (dt_X10_ofLot 5 (9, .ifnull 19, 3) rfl) (by decide) (aw_iconst (pc' := 29) (v := (-1)) (dt_X10_ofLot 14 (28, .iconst (-1), 1) rfl) (by decide) rfl (aw_iret (dt_X10_ofLot 15 (29, .ireturn, 1) rfl) rfl rfl ?_)))))))
        exact h
      · intro b5 e4
        have h := h.2 b5 e4
        refine aw_goto (tgt := 24) (dt_X10_lotAt 12 (20, .goto 4, 3) rfl) (by decide) (aw_aret (dt_X10_lotAt 14 (24, .areturn, 1) rfl) rfl rfl (aw_stk (st' := [.ref b5]) rfl (aw_astore (pc' := 7) (ls' := [some (.ref 11), some (.int x1), some (.int x2), some (.int x3), some (.ref b5), none, none, none]) (dt_X10_ofLot 3 (5, .astore 4, 2) rfl) (by decide) rfl rfl (aw_aload (pc' := 9) (dt_X10_ofLot 4 (7, .aload 4, 2) rfl) rfl rfl (aw_ifnull (pc' := 12) (dt_X10_ofLot 5 (9, .ifnull 19, 3) rfl) rfl (aw_iload_n (pc' := 13) (dt_X10_ofLot 6 (12, .iload_n 2, 1) rfl) rfl rfl (aw_iconst (pc' := 14) (v := 0) (dt_X10_ofLot 7 (13, .iconst 0, 1) rfl) (by decide) rfl (aw_iconst (pc' := 15) (v := 1) (dt_X10_ofLot 8 (14, .iconst 1, 1) rfl) (by decide) rfl (aw_inS (pc' := 18) (nc1 := 0) (ns1 := 0) (nc := nc) (ns := ns) (ls' := [some (.int x2), some (.int 0), some (.int 1)]) (y2 := mX10_within) (As := [.int x2, .int 0, .int 1]) (rest := []) (dt_X10_ofLot 9 (15, .invokestatic 76, 3) rfl) ok_X10_within ln_ReturnDesk_76 sm_X10_within pr_X10_within rfl (Nat.le_of_ble_eq_true rfl) (Nat.le_of_ble_eq_true rfl) rfl rfl (aw_iload_n (pc' := 1) (dt_X10_within 0 (0, .iload_n 0, 1) rfl) rfl rfl (aw_iload_n (pc' := 2) (dt_X10_within 1 (1, .iload_n 1, 1) rfl) rfl rfl (aw_icmp_lt (pc' := 5) (tgt := 14) (dt_X10_within 2 (2, .if_icmp .lt 12, 3) rfl) (by decide) rfl ?_ ?_))))))))))))
        · intro q6
          have h := h.1 q6
          refine aw_iconst (pc' := 15) (v := 0) (dt_X10_within 8 (14, .iconst 0, 1) rfl) (by decide) rfl (aw_iret (dt_X10_within 9 (15, .ireturn, 1) rfl) rfl rfl (aw_stk (st' := [.int 0]) rfl (aw_if_eq_T (pc' := 21) (tgt := 28) (dt_X10_ofLot 10 (18, .ifCond .eq 10, 3) rfl) (by decide) rfl (by decide) (aw_iconst (pc' := 29) (v := (-1)) (dt_X10_ofLot 14 (28, .iconst (-1), 1) rfl) (by decide) rfl (aw_iret (dt_X10_ofLot 15 (29, .ireturn, 1) rfl) rfl rfl ?_)))))
          exact h
        · intro q6
          have h := h.2 q6
          refine aw_iload_n (pc' := 6) (dt_X10_within 3 (5, .iload_n 0, 1) rfl) rfl rfl (aw_iload_n (pc' := 7) (dt_X10_within 4 (6, .iload_n 2, 1) rfl) rfl rfl (aw_icmp_gt (pc' := 10) (tgt := 14) (dt_X10_within 5 (7, .if_icmp .gt 7, 3) rfl) (by decide) rfl ?_ ?_))
          · intro q7
            have h := h.1 q7
            refine aw_iconst (pc' := 15) (v := 0) (dt_X10_within 8 (14, .iconst 0, 1) rfl) (by decide) rfl (aw_iret (dt_X10_within 9 (15, .ireturn, 1) rfl) rfl rfl (aw_stk (st' := [.int 0]) rfl (aw_if_eq_T (pc' := 21) (tgt := 28) (dt_X10_ofLot 10 (18, .ifCond .eq 10, 3) rfl) (by decide) rfl (by decide) (aw_iconst (pc' := 29) (v := (-1)) (dt_X10_ofLot 14 (28, .iconst (-1), 1) rfl) (by decide) rfl (aw_iret (dt_X10_ofLot 15 (29, .ireturn, 1) rfl) rfl rfl ?_)))))
            exact h
          · intro q7
            have h := h.2 q7
            refine aw_iconst (pc' := 11) (v := 1) (dt_X10_within 6 (10, .iconst 1, 1) rfl) (by decide) rfl (aw_goto (tgt := 15) (dt_X10_within 7 (11, .goto 4, 3) rfl) (by decide) (aw_iret (dt_X10_within 9 (15, .ireturn, 1) rfl) rfl rfl (aw_stk (st' := [.int 1]) rfl (aw_if_eq_F (pc' := 21) (tgt := 28) (dt_X10_ofLot 10 (18, .ifCond .eq 10, 3) rfl) (by decide) rfl (by decide) (aw_iload_n (pc' := 22) (dt_X10_ofLot 11 (21, .iload_n 3, 1) rfl) rfl rfl (aw_inS (pc' := 25) (nc1 := 0) (ns1 := 0) (nc := nc) (ns := ns) (ls' := [some (.int x3)]) (y2 := mX10_isDay) (As := [.int x3]) (rest := []) (dt_X10_ofLot 12 (22, .invokestatic 92, 3) rfl) ok_X10_isDay ln_ReturnDesk_92 sm_X10_isDay pr_X10_isDay rfl (Nat.le_of_ble_eq_true rfl) (Nat.le_of_ble_eq_true rfl) rfl rfl (aw_iload_n (pc' := 1) (dt_X10_isDay 0 (0, .iload_n 0, 1) rfl) rfl rfl (aw_iconst (pc' := 2) (v := 0) (dt_X10_isDay 1 (1, .iconst 0, 1) rfl) (by decide) rfl (aw_sipush (pc' := 5) (v := 2999) (dt_X10_isDay 2 (2, .sipush 2999, 3) rfl) (by decide) rfl (aw_inS (pc' := 8) (nc1 := 0) (ns1 := 0) (nc := 0) (ns := 0) (ls' := [some (.int x3), some (.int 0), some (.int 2999)]) (y2 := mX10_within) (As := [.int x3, .int 0, .int 2999]) (rest := []) (dt_X10_isDay 3 (5, .invokestatic 76, 3) rfl) ok_X10_within ln_ReturnDesk_76 sm_X10_within pr_X10_within rfl (Nat.le_of_ble_eq_true rfl) (Nat.le_of_ble_eq_true rfl) rfl rfl (aw_iload_n (pc' := 1) (dt_X10_within 0 (0, .iload_n 0, 1) rfl) rfl rfl (aw_iload_n (pc' := 2) (dt_X10_within 1 (1, .iload_n 1, 1) rfl) rfl rfl (aw_icmp_lt (pc' := 5) (tgt := 14) (dt_X10_within 2 (2, .if_icmp .lt 12, 3) rfl) (by decide) rfl ?_ ?_)))))))))))))
            · intro q8
              have h := h.1 q8
              refine aw_iconst (pc' := 15) (v := 0) (dt_X10_within 8 (14, .iconst 0, 1) rfl) (by decide) rfl (aw_iret (dt_X10_within 9 (15, .ireturn, 1) rfl) rfl rfl (aw_stk (st' := [.int 0]) rfl (aw_iret (dt_X10_isDay 4 (8, .ireturn, 1) rfl) rfl rfl (aw_stk (st' := [.int 0]) rfl (aw_if_ne_F (pc' := 28) (tgt := 30) (dt_X10_ofLot 13 (25, .ifCond .ne 5, 3) rfl) (by decide) rfl (by decide) (aw_iconst (pc' := 29) (v := (-1)) (dt_X10_ofLot 14 (28, .iconst (-1), 1) rfl) (by decide) rfl (aw_iret (dt_X10_ofLot 15 (29, .ireturn, 1) rfl) rfl rfl ?_)))))))
              exact h
            · intro q8
              have h := h.2 q8
              refine aw_iload_n (pc' := 6) (dt_X10_within 3 (5, .iload_n 0, 1) rfl) rfl rfl (aw_iload_n (pc' := 7) (dt_X10_within 4 (6, .iload_n 2, 1) rfl) rfl rfl (aw_icmp_gt (pc' := 10) (tgt := 14) (dt_X10_within 5 (7, .if_icmp .gt 7, 3) rfl) (by decide) rfl ?_ ?_))
              · intro q9
                have h := h.1 q9
                refine aw_iconst (pc' := 15) (v := 0) (dt_X10_within 8 (14, .iconst 0, 1) rfl) (by decide) rfl (aw_iret (dt_X10_within 9 (15, .ireturn, 1) rfl) rfl rfl (aw_stk (st' := [.int 0]) rfl (aw_iret (dt_X10_isDay 4 (8, .ireturn, 1) rfl) rfl rfl (aw_stk (st' := [.int 0]) rfl (aw_if_ne_F (pc' := 28) (tgt := 30) (dt_X10_ofLot 13 (25, .ifCond .ne 5, 3) rfl) (by decide) rfl (by decide) (aw_iconst (pc' := 29) (v := (-1)) (dt_X10_ofLot 14 (28, .iconst (-1), 1) rfl) (by decide) rfl (aw_iret (dt_X10_ofLot 15 (29, .ireturn, 1) rfl) rfl rfl ?_)))))))
                exact h
              · intro q9
                have h := h.2 q9
                refine aw_iconst (pc' := 11) (v := 1) (dt_X10_within 6 (10, .iconst 1, 1) rfl) (by decide) rfl (aw_goto (tgt := 15) (dt_X10_within 7 (11, .goto 4, 3) rfl) (by decide) (aw_iret (dt_X10_within 9 (15, .ireturn, 1) rfl) rfl rfl (aw_stk (st' := [.int 1]) rfl (aw_iret (dt_X10_isDay 4 (8, .ireturn, 1) rfl) rfl rfl (aw_stk (st' := [.int 1]) rfl (aw_if_ne_T (pc' := 28) (tgt := 30) (dt_X10_ofLot 13 (25, .ifCond .ne 5, 3) rfl) (by decide) rfl (by decide) (aw_iconst (pc' := 31) (v := 0) (dt_X10_ofLot 16 (30, .iconst 0, 1) rfl) (by decide) rfl (aw_istore (pc' := 33) (ls' := [some (.ref 11), some (.int x1), some (.int x2), some (.int x3), some (.ref b5), some (.int 0), none, none]) (dt_X10_ofLot 17 (31, .istore 5, 2) rfl) (by decide) rfl rfl (aw_iconst (pc' := 34) (v := 0) (dt_X10_ofLot 18 (33, .iconst 0, 1) rfl) (by decide) rfl (aw_istore (pc' := 36) (ls' := [some (.ref 11), some (.int x1), some (.int x2), some (.int x3), some (.ref b5), some (.int 0), some (.int 0), none]) (dt_X10_ofLot 19 (34, .istore 6, 2) rfl) (by decide) rfl rfl (aw_drop (ls' := [some (.ref 11), none, some (.int x2), some (.int x3), some (.ref b5), some (.int 0), some (.int 0), none]) ⟨rfl, rfl, rfl, rfl, rfl, rfl, trivial⟩ ?_)))))))))))
                exact h

theorem t_X10_ofLot_36 {E : ZE} {l : Launch} {d nc ns : Nat} {x2 : Int32} {x3 : Int32} {a4 : Nat} {x5 : Int32} {x6 : Int32} {μ : ZM} {K : Option Value → ZM → Prop} (hS : Stat μ) (h :
  ((zI μ 11 14) ≤ x6 →
    K (some (.int x5)) μ) ∧
  (¬ (zI μ 11 14) ≤ x6 →
    (vp_in x6 300) ∧
    (zA μ 14 x6.toNatClampNeg = none →
      False) ∧
    (∀ b4, zA μ 14 x6.toNatClampNeg = some b4 →
      (zK μ b4 = 7) ∧
      (zA μ b4 2 = none →
        False) ∧
      (∀ b7, zA μ b4 2 = some b7 →
        (11 ≤ b7) ∧
        (11 ≤ a4) ∧
        (¬ b7 = a4 →
          AW E l (d + 2) nc ns mX10_ofLot 36 [some (.ref 11), none, some (.int x2), some (.int x3), some (.ref a4), some (.int x5), some (.int (x6 + 1)), none] [] μ K) ∧
        (b7 = a4 →
          (¬ x2 = 0 →
            (x3 < (zI μ b4 13) →
              AW E l (d + 2) nc ns mX10_ofLot 36 [some (.ref 11), none, some (.int x2), some (.int x3), some (.ref a4), some (.int x5), some (.int (x6 + 1)), none] [] μ K) ∧
            (¬ x3 < (zI μ b4 13) →
              AW E l (d + 2) nc ns mX10_ofLot 36 [some (.ref 11), none, some (.int x2), some (.int x3), some (.ref a4), some (.int (x5 + 1)), some (.int (x6 + 1)), none] [] μ K)) ∧
          (x2 = 0 →
            (x3 < ((zI μ b4 8) / 24) →
              AW E l (d + 2) nc ns mX10_ofLot 36 [some (.ref 11), none, some (.int x2), some (.int x3), some (.ref a4), some (.int x5), some (.int (x6 + 1)), none] [] μ K) ∧
            (¬ x3 < ((zI μ b4 8) / 24) →
              AW E l (d + 2) nc ns mX10_ofLot 36 [some (.ref 11), none, some (.int x2), some (.int x3), some (.ref a4), some (.int (x5 + 1)), some (.int (x6 + 1)), none] [] μ K))))))) : AW E l (d + 2) nc ns mX10_ofLot 36 [some (.ref 11), none, some (.int x2), some (.int x3), some (.ref a4), some (.int x5), some (.int x6), none] [] μ K := by
  refine aw_iload (pc' := 38) (dt_X10_ofLot 20 (36, .iload 6, 2) rfl) rfl rfl (aw_aload_n (pc' := 39) (dt_X10_ofLot 21 (38, .aload_n 0, 1) rfl) rfl rfl (aw_getI (pc' := 42) (dt_X10_ofLot 22 (39, .getfield 131, 3) rfl) fl_ReturnDesk_131 rfl rfl (sk_11 hS) (aw_icmp_ge (pc' := 45) (tgt := 94) (dt_X10_ofLot 23 (42, .if_icmp .ge 52, 3) rfl) (by decide) rfl ?_ ?_)))
  · intro q1
    have h := h.1 q1
    refine aw_iload (pc' := 96) (dt_X10_ofLot 45 (94, .iload 5, 2) rfl) rfl rfl (aw_iret (dt_X10_ofLot 46 (96, .ireturn, 1) rfl) rfl rfl ?_)
    exact h
  · intro q1
    have h := h.2 q1
    obtain ⟨g2, h⟩ := h
    refine aw_aload_n (pc' := 46) (dt_X10_ofLot 24 (45, .aload_n 0, 1) rfl) rfl rfl (aw_getAs (pc' := 49) (dt_X10_ofLot 25 (46, .getfield 23, 3) rfl) fl_ReturnDesk_23 rfl rfl (sk_11 hS) (sa_11_2 hS) (aw_iload (pc' := 51) (dt_X10_ofLot 26 (49, .iload 6, 2) rfl) rfl rfl (aw_aald (pc' := 52) (dt_X10_ofLot 27 (51, .aaload, 1) rfl) (by decide) (by decide) rfl (sk_14 hS) (vin_eq (sl_14 hS) g2) ?_ ?_)))
    · intro e3
      have h := h.1 e3
      refine aw_astoreN (pc' := 54) (ls' := [some (.ref 11), none, some (.int x2), some (.int x3), some (.ref a4), some (.int x5), some (.int x6), some (.null)]) (dt_X10_ofLot 28 (52, .astore 7, 2) rfl) (by decide) rfl rfl (aw_aloadN (pc' := 56) (dt_X10_ofLot 29 (54, .aload 7, 2) rfl) rfl rfl ?_)
      exact h.elim
    · intro b4 e3
      have h := h.2 b4 e3
      obtain ⟨g5, h⟩ := h
      refine aw_astore (pc' := 54) (ls' := [some (.ref 11), none, some (.int x2), some (.int x3), some (.ref a4), some (.int x5), some (.int x6), some (.ref b4)]) (dt_X10_ofLot 28 (52, .astore 7, 2) rfl) (by decide) rfl rfl (aw_aload (pc' := 56) (dt_X10_ofLot 29 (54, .aload 7, 2) rfl) rfl rfl (aw_getA (pc' := 59) (dt_X10_ofLot 30 (56, .getfield 167, 3) rfl) fl_ReturnDesk_167 rfl rfl g5 ?_ ?_))
      · intro e6
        have h := h.1 e6
        refine aw_aload (pc' := 61) (dt_X10_ofLot 31 (59, .aload 4, 2) rfl) rfl rfl ?_
        exact h.elim
      · intro b7 e6
        have h := h.2 b7 e6
        obtain ⟨g8, h⟩ := h
        obtain ⟨g9, h⟩ := h
        refine aw_aload (pc' := 61) (dt_X10_ofLot 31 (59, .aload 4, 2) rfl) rfl rfl (aw_acmp_ne (pc' := 64) (tgt := 88) (dt_X10_ofLot 32 (61, .if_acmp .ne 27, 3) rfl) (by decide) rfl g8 g9 ?_ ?_)
        · intro q10
          have h := h.1 q10
          refine aw_iinc (pc' := 91) (v := 1) (ls' := [some (.ref 11), none, some (.int x2), some (.int x3), some (.ref a4), some (.int x5), some (.int (x6 + 1)), some (.ref b4)]) (dt_X10_ofLot 43 (88, .iinc 6 1, 3) rfl) rfl (by decide) (by decide) rfl rfl (aw_goto (tgt := 36) (dt_X10_ofLot 44 (91, .goto (-55), 3) rfl) (by decide) (aw_drop (ls' := [some (.ref 11), none, some (.int x2), some (.int x3), some (.ref a4), some (.int x5), some (.int (x6 + 1)), none]) ⟨rfl, rfl, rfl, rfl, rfl, rfl, trivial⟩ ?_))
          exact h
        · intro q10
          have h := h.2 q10
          refine aw_iload_n (pc' := 65) (dt_X10_ofLot 33 (64, .iload_n 2, 1) rfl) rfl rfl (aw_if_ne (pc' := 68) (tgt := 76) (dt_X10_ofLot 34 (65, .ifCond .ne 11, 3) rfl) (by decide) rfl ?_ ?_)
          · intro q11
            have h := h.1 q11
            refine aw_aload (pc' := 78) (dt_X10_ofLot 38 (76, .aload 7, 2) rfl) rfl rfl (aw_getI (pc' := 81) (dt_X10_ofLot 39 (78, .getfield 315, 3) rfl) fl_ReturnDesk_315 rfl rfl g5 (aw_iload_n (pc' := 82) (dt_X10_ofLot 40 (81, .iload_n 3, 1) rfl) rfl rfl (aw_icmp_gt (pc' := 85) (tgt := 88) (dt_X10_ofLot 41 (82, .if_icmp .gt 6, 3) rfl) (by decide) rfl ?_ ?_)))
            · intro q12
              have h := h.1 q12
              refine aw_iinc (pc' := 91) (v := 1) (ls' := [some (.ref 11), none, some (.int x2), some (.int x3), some (.ref a4), some (.int x5), some (.int (x6 + 1)), some (.ref b4)]) (dt_X10_ofLot 43 (88, .iinc 6 1, 3) rfl) rfl (by decide) (by decide) rfl rfl (aw_goto (tgt := 36) (dt_X10_ofLot 44 (91, .goto (-55), 3) rfl) (by decide) (aw_drop (ls' := [some (.ref 11), none, some (.int x2), some (.int x3), some (.ref a4), some (.int x5), some (.int (x6 + 1)), none]) ⟨rfl, rfl, rfl, rfl, rfl, rfl, trivial⟩ ?_))
              exact h
            · intro q12
              have h := h.2 q12
              refine aw_iinc (pc' := 88) (v := 1) (ls' := [some (.ref 11), none, some (.int x2), some (.int x3), some (.ref a4), some (.int (x5 + 1)), some (.int x6), some (.ref b4)]) (dt_X10_ofLot 42 (85, .iinc 5 1, 3) rfl) rfl (by decide) (by decide) rfl rfl (aw_iinc (pc' := 91) (v := 1) (ls' := [some (.ref 11), none, some (.int x2), some (.int x3), some (.ref a4), some (.int (x5 + 1)), some (.int (x6 + 1)), some (.ref b4)]) (dt_X10_ofLot 43 (88, .iinc 6 1, 3) rfl) rfl (by decide) (by decide) rfl rfl (aw_goto (tgt := 36) (dt_X10_ofLot 44 (91, .goto (-55), 3) rfl) (by decide) (aw_drop (ls' := [some (.ref 11), none, some (.int x2), some (.int x3), some (.ref a4), some (.int (x5 + 1)), some (.int (x6 + 1)), none]) ⟨rfl, rfl, rfl, rfl, rfl, rfl, trivial⟩ ?_)))
              exact h
          · intro q11
            have h := h.2 q11
            refine aw_aload (pc' := 70) (dt_X10_ofLot 35 (68, .aload 7, 2) rfl) rfl rfl (aw_inV (pc' := 73) (nc1 := 0) (ns1 := 0) (nc := nc) (ns := ns) (ls' := [some (.ref b4)]) (y2 := mX7_madeOn) (As := []) (rest := []) (a := b4) (dt_X10_ofLot 36 (70, .invokevirtual 376, 3) rfl) ok_X7_madeOn ln_ReturnDesk_376 im_X7_madeOn se_X7_madeOn pr_X7_madeOn (Or.inl ⟨by decide, rfl⟩) rfl (Nat.le_of_ble_eq_true rfl) (Nat.le_of_ble_eq_true rfl) rfl rfl g5 (aw_aload_n (pc' := 1) (dt_X7_madeOn 0 (0, .aload_n 0, 1) rfl) rfl rfl (aw_getI (pc' := 4) (dt_X7_madeOn 1 (1, .getfield 56, 3) rfl) fl_Sale_56 rfl rfl g5 (aw_bipush (pc' := 6) (v := 24) (dt_X7_madeOn 2 (4, .bipush 24, 2) rfl) (by decide) rfl (aw_idiv (pc' := 7) (dt_X7_madeOn 3 (6, .idiv, 1) rfl) (by decide) rfl (aw_iret (dt_X7_madeOn 4 (7, .ireturn, 1) rfl) rfl rfl (aw_stk (st' := [.int ((zI μ b4 8) / 24)]) rfl (aw_goto (tgt := 81) (dt_X10_ofLot 37 (73, .goto 8, 3) rfl) (by decide) (aw_iload_n (pc' := 82) (dt_X10_ofLot 40 (81, .iload_n 3, 1) rfl) rfl rfl (aw_icmp_gt (pc' := 85) (tgt := 88) (dt_X10_ofLot 41 (82, .if_icmp .gt 6, 3) rfl) (by decide) rfl ?_ ?_))))))))))
            · intro q13
              have h := h.1 q13
              refine aw_iinc (pc' := 91) (v := 1) (ls' := [some (.ref 11), none, some (.int x2), some (.int x3), some (.ref a4), some (.int x5), some (.int (x6 + 1)), some (.ref b4)]) (dt_X10_ofLot 43 (88, .iinc 6 1, 3) rfl) rfl (by decide) (by decide) rfl rfl (aw_goto (tgt := 36) (dt_X10_ofLot 44 (91, .goto (-55), 3) rfl) (by decide) (aw_drop (ls' := [some (.ref 11), none, some (.int x2), some (.int x3), some (.ref a4), some (.int x5), some (.int (x6 + 1)), none]) ⟨rfl, rfl, rfl, rfl, rfl, rfl, trivial⟩ ?_))
              exact h
            · intro q13
              have h := h.2 q13
              refine aw_iinc (pc' := 88) (v := 1) (ls' := [some (.ref 11), none, some (.int x2), some (.int x3), some (.ref a4), some (.int (x5 + 1)), some (.int x6), some (.ref b4)]) (dt_X10_ofLot 42 (85, .iinc 5 1, 3) rfl) rfl (by decide) (by decide) rfl rfl (aw_iinc (pc' := 91) (v := 1) (ls' := [some (.ref 11), none, some (.int x2), some (.int x3), some (.ref a4), some (.int (x5 + 1)), some (.int (x6 + 1)), some (.ref b4)]) (dt_X10_ofLot 43 (88, .iinc 6 1, 3) rfl) rfl (by decide) (by decide) rfl rfl (aw_goto (tgt := 36) (dt_X10_ofLot 44 (91, .goto (-55), 3) rfl) (by decide) (aw_drop (ls' := [some (.ref 11), none, some (.int x2), some (.int x3), some (.ref a4), some (.int (x5 + 1)), some (.int (x6 + 1)), none]) ⟨rfl, rfl, rfl, rfl, rfl, rfl, trivial⟩ ?_)))
              exact h

theorem t_X10_beyond {E : ZE} {l : Launch} {d nc ns : Nat} {x1 : Int32} {x2 : Int32} {x3 : Int32} {μ : ZM} {K : Option Value → ZM → Prop} (hS : Stat μ) (h :
  (x1 < 0 →
    K (some (.int (-1))) μ) ∧
  (¬ x1 < 0 →
    (((zI μ 11 13) - 1) < x1 →
      K (some (.int (-1))) μ) ∧
    (¬ ((zI μ 11 13) - 1) < x1 →
      (vp_in x1 60) ∧
      (zA μ 13 x1.toNatClampNeg = none →
        K (some (.int (-1))) μ) ∧
      (∀ b5, zA μ 13 x1.toNatClampNeg = some b5 →
        (x2 < 1 →
          K (some (.int (-1))) μ) ∧
        (¬ x2 < 1 →
          (9999 < x2 →
            K (some (.int (-1))) μ) ∧
          (¬ 9999 < x2 →
            (x3 < 0 →
              K (some (.int (-1))) μ) ∧
            (¬ x3 < 0 →
              (2999 < x3 →
                K (some (.int (-1))) μ) ∧
              (¬ 2999 < x3 →
                AW E l (d + 2) 0 0 mX10_beyondChance 0 (zargs 12 [.ref 11, .ref b5, .int x2, .int x3]) [] μ (fun v μ10 => ∃ r12 : Int32, v = some (.int r12) ∧ Stat μ10 ∧ 
                  K (some (.int r12)) μ10))))))))) : AW E l (d + 3) nc ns mX10_beyond 0 [some (.ref 11), some (.int x1), some (.int x2), some (.int x3), none] [] μ K := by
  refine aw_aload_n (pc' := 1) (dt_X10_beyond 0 (0, .aload_n 0, 1) rfl) rfl rfl (aw_iload_n (pc' := 2) (dt_X10_beyond 1 (1, .iload_n 1, 1) rfl) rfl rfl (aw_inV (pc' := 5) (nc1 := 0) (ns1 := 0) (nc := nc) (ns := ns) (ls' := [some (.ref 11), some (.int x1)]) (y2 := mX10_lotAt) (As := [.int x1]) (rest := []) (a := 11) (dt_X10_beyond 2 (2, .invokevirtual 121, 3) rfl) ok_X10_lotAt ln_ReturnDesk_121 im_X10_lotAt se_X10_lotAt pr_X10_lotAt (Or.inl ⟨by decide, rfl⟩) rfl (Nat.le_of_ble_eq_true rfl) (Nat.le_of_ble_eq_true rfl) rfl rfl (sk_11 hS) (aw_iload_n (pc' := 1) (dt_X10_lotAt 0 (0, .iload_n 1, 1) rfl) rfl rfl (aw_iconst (pc' := 2) (v := 0) (dt_X10_lotAt 1 (1, .iconst 0, 1) rfl) (by decide) rfl (aw_aload_n (pc' := 3) (dt_X10_lotAt 2 (2, .aload_n 0, 1) rfl) rfl rfl (aw_getI (pc' := 6) (dt_X10_lotAt 3 (3, .getfield 107, 3) rfl) fl_ReturnDesk_107 rfl rfl (sk_11 hS) (aw_iconst (pc' := 7) (v := 1) (dt_X10_lotAt 4 (6, .iconst 1, 1) rfl) (by decide) rfl (aw_isub (pc' := 8) (dt_X10_lotAt 5 (7, .isub, 1) rfl) rfl (aw_inS (pc' := 11) (nc1 := 0) (ns1 := 0) (nc := 0) (ns := 0) (ls' := [some (.int x1), some (.int 0), some (.int ((zI μ 11 13) - 1))]) (y2 := mX10_within) (As := [.int x1, .int 0, .int ((zI μ 11 13) - 1)]) (rest := []) (dt_X10_lotAt 6 (8, .invokestatic 76, 3) rfl) ok_X10_within ln_ReturnDesk_76 sm_X10_within pr_X10_within rfl (Nat.le_of_ble_eq_true rfl) (Nat.le_of_ble_eq_true rfl) rfl rfl (aw_iload_n (pc' := 1) (dt_X10_within 0 (0, .iload_n 0, 1) rfl) rfl rfl (aw_iload_n (pc' := 2) (dt_X10_within 1 (1, .iload_n 1, 1) rfl) rfl rfl (aw_icmp_lt (pc' := 5) (tgt := 14) (dt_X10_within 2 (2, .if_icmp .lt 12, 3) rfl) (by decide) rfl ?_ ?_))))))))))))
  · intro q1
    have h := h.1 q1
    refine aw_iconst (pc' := 15) (v := 0) (dt_X10_within 8 (14, .iconst 0, 1) rfl) (by decide) rfl (aw_iret (dt_X10_within 9 (15, .ireturn, 1) rfl) rfl rfl (aw_stk (st' := [.int 0]) rfl (aw_if_eq_T (pc' := 14) (tgt := 23) (dt_X10_lotAt 7 (11, .ifCond .eq 12, 3) rfl) (by decide) rfl (by decide) (aw_null (pc' := 24) (dt_X10_lotAt 13 (23, .aconst_null, 1) rfl) rfl (aw_aretN (dt_X10_lotAt 14 (24, .areturn, 1) rfl) rfl rfl (aw_stk (st' := [.null]) rfl (aw_astoreN (pc' := 7) (ls' := [some (.ref 11), some (.int x1), some (.int x2), some (.int x3), some (.null)]) (dt_X10_beyond 3 (5, .astore 4, 2) rfl) (by decide) rfl rfl (aw_aloadN (pc' := 9) (dt_X10_beyond 4 (7, .aload 4, 2) rfl) rfl rfl (aw_ifnullN (tgt := 30) (dt_X10_beyond 5 (9, .ifnull 21, 3) rfl) (by decide) (aw_iconst (pc' := 31) (v := (-1)) (dt_X10_beyond 14 (30, .iconst (-1), 1) rfl) (by decide) rfl (aw_goto (tgt := 42) (dt_X10_beyond 15 (31, .goto 11, 3) rfl) (by decide) (aw_iret (dt_X10_beyond 21 (42, .ireturn, 1) rfl) rfl rfl ?_))))))))))))
    exact h
  · intro q1
    have h := h.2 q1
    refine aw_iload_n (pc' := 6) (dt_X10_within 3 (5, .iload_n 0, 1) rfl) rfl rfl (aw_iload_n (pc' := 7) (dt_X10_within 4 (6, .iload_n 2, 1) rfl) rfl rfl (aw_icmp_gt (pc' := 10) (tgt := 14) (dt_X10_within 5 (7, .if_icmp .gt 7, 3) rfl) (by decide) rfl ?_ ?_))
    · intro q2
      have h := h.1 q2
      refine aw_iconst (pc' := 15) (v := 0) (dt_X10_within 8 (14, .iconst 0, 1) rfl) (by decide) rfl (aw_iret (dt_X10_within 9 (15, .ireturn, 1) rfl) rfl rfl (aw_stk (st' := [.int 0]) rfl (aw_if_eq_T (pc' := 14) (tgt := 23) (dt_X10_lotAt 7 (11, .ifCond .eq 12, 3) rfl) (by decide) rfl (by decide) (aw_null (pc' := 24) (dt_X10_lotAt 13 (23, .aconst_null, 1) rfl) rfl (aw_aretN (dt_X10_lotAt 14 (24, .areturn, 1) rfl) rfl rfl (aw_stk (st' := [.null]) rfl (aw_astoreN (pc' := 7) (ls' := [some (.ref 11), some (.int x1), some (.int x2), some (.int x3), some (.null)]) (dt_X10_beyond 3 (5, .astore 4, 2) rfl) (by decide) rfl rfl (aw_aloadN (pc' := 9) (dt_X10_beyond 4 (7, .aload 4, 2) rfl) rfl rfl (aw_ifnullN (tgt := 30) (dt_X10_beyond 5 (9, .ifnull 21, 3) rfl) (by decide) (aw_iconst (pc' := 31) (v := (-1)) (dt_X10_beyond 14 (30, .iconst (-1), 1) rfl) (by decide) rfl (aw_goto (tgt := 42) (dt_X10_beyond 15 (31, .goto 11, 3) rfl) (by decide) (aw_iret (dt_X10_beyond 21 (42, .ireturn, 1) rfl) rfl rfl ?_))))))))))))
      exact h
    · intro q2
      have h := h.2 q2
      obtain ⟨g3, h⟩ := h
      refine aw_iconst (pc' := 11) (v := 1) (dt_X10_within 6 (10, .iconst 1, 1) rfl) (by decide) rfl (aw_goto (tgt := 15) (dt_X10_within 7 (11, .goto 4, 3) rfl) (by decide) (aw_iret (dt_X10_within 9 (15, .ireturn, 1) rfl) rfl rfl (aw_stk (st' := [.int 1]) rfl (aw_if_eq_F (pc' := 14) (tgt := 23) (dt_X10_lotAt 7 (11, .ifCond .eq 12, 3) rfl) (by decide) rfl (by decide) (aw_aload_n (pc' := 15) (dt_X10_lotAt 8 (14, .aload_n 0, 1) rfl) rfl rfl (aw_getAs (pc' := 18) (dt_X10_lotAt 9 (15, .getfield 17, 3) rfl) fl_ReturnDesk_17 rfl rfl (sk_11 hS) (sa_11_1 hS) (aw_iload_n (pc' := 19) (dt_X10_lotAt 10 (18, .iload_n 1, 1) rfl) rfl rfl (aw_aald (pc' := 20) (dt_X10_lotAt 11 (19, .aaload, 1) rfl) (by decide) (by decide) rfl (sk_13 hS) (vin_eq (sl_13 hS) g3) ?_ ?_))))))))
      · intro e4
        have h := h.1 e4
        refine aw_goto (tgt := 24) (dt_X10_lotAt 12 (20, .goto 4, 3) rfl) (by decide) (aw_aretN (dt_X10_lotAt 14 (24, .areturn, 1) rfl) rfl rfl (aw_stk (st' := [.null]) rfl (aw_astoreN (pc' := 7) (ls' := [some (.ref 11), some (.int x1), some (.int x2), some (.int x3), some (.null)]) (dt_X10_beyond 3 (5, .astore 4, 2) rfl) (by decide) rfl rfl (aw_aloadN (pc' := 9) (dt_X10_beyond 4 (7, .aload 4, 2) rfl) rfl rfl (aw_ifnullN (tgt := 30) (dt_X10_beyond 5 (9, .ifnull 21, 3) rfl) (by decide) (aw_iconst (pc' := 31) (v := (-1)) (dt_X10_beyond 14 (30, .iconst (-1), 1) rfl) (by decide) rfl (aw_goto (tgt := 42) (dt_X10_beyond 15 (31, .goto 11, 3) rfl) (by decide) (aw_iret (dt_X10_beyond 21 (42, .ireturn, 1) rfl) rfl rfl ?_))))))))
        exact h
      · intro b5 e4
        have h := h.2 b5 e4
        refine aw_goto (tgt := 24) (dt_X10_lotAt 12 (20, .goto 4, 3) rfl) (by decide) (aw_aret (dt_X10_lotAt 14 (24, .areturn, 1) rfl) rfl rfl (aw_stk (st' := [.ref b5]) rfl (aw_astore (pc' := 7) (ls' := [some (.ref 11), some (.int x1), some (.int x2), some (.int x3), some (.ref b5)]) (dt_X10_beyond 3 (5, .astore 4, 2) rfl) (by decide) rfl rfl (aw_aload (pc' := 9) (dt_X10_beyond 4 (7, .aload 4, 2) rfl) rfl rfl (aw_ifnull (pc' := 12) (dt_X10_beyond 5 (9, .ifnull 21, 3) rfl) rfl (aw_iload_n (pc' := 13) (dt_X10_beyond 6 (12, .iload_n 2, 1) rfl) rfl rfl (aw_iconst (pc' := 14) (v := 1) (dt_X10_beyond 7 (13, .iconst 1, 1) rfl) (by decide) rfl (aw_sipush (pc' := 17) (v := 9999) (dt_X10_beyond 8 (14, .sipush 9999, 3) rfl) (by decide) rfl (aw_inS (pc' := 20) (nc1 := 0) (ns1 := 0) (nc := nc) (ns := ns) (ls' := [some (.int x2), some (.int 1), some (.int 9999)]) (y2 := mX10_within) (As := [.int x2, .int 1, .int 9999]) (rest := []) (dt_X10_beyond 9 (17, .invokestatic 76, 3) rfl) ok_X10_within ln_ReturnDesk_76 sm_X10_within pr_X10_within rfl (Nat.le_of_ble_eq_true rfl) (Nat.le_of_ble_eq_true rfl) rfl rfl (aw_iload_n (pc' := 1) (dt_X10_within 0 (0, .iload_n 0, 1) rfl) rfl rfl (aw_iload_n (pc' := 2) (dt_X10_within 1 (1, .iload_n 1, 1) rfl) rfl rfl (aw_icmp_lt (pc' := 5) (tgt := 14) (dt_X10_within 2 (2, .if_icmp .lt 12, 3) rfl) (by decide) rfl ?_ ?_))))))))))))
        · intro q6
          have h := h.1 q6
          refine aw_iconst (pc' := 15) (v := 0) (dt_X10_within 8 (14, .iconst 0, 1) rfl) (by decide) rfl (aw_iret (dt_X10_within 9 (15, .ireturn, 1) rfl) rfl rfl (aw_stk (st' := [.int 0]) rfl (aw_if_eq_T (pc' := 23) (tgt := 30) (dt_X10_beyond 10 (20, .ifCond .eq 10, 3) rfl) (by decide) rfl (by decide) (aw_iconst (pc' := 31) (v := (-1)) (dt_X10_beyond 14 (30, .iconst (-1), 1) rfl) (by decide) rfl (aw_goto (tgt := 42) (dt_X10_beyond 15 (31, .goto 11, 3) rfl) (by decide) (aw_iret (dt_X10_beyond 21 (42, .ireturn, 1) rfl) rfl rfl ?_))))))
          exact h
        · intro q6
          have h := h.2 q6
          refine aw_iload_n (pc' := 6) (dt_X10_within 3 (5, .iload_n 0, 1) rfl) rfl rfl (aw_iload_n (pc' := 7) (dt_X10_within 4 (6, .iload_n 2, 1) rfl) rfl rfl (aw_icmp_gt (pc' := 10) (tgt := 14) (dt_X10_within 5 (7, .if_icmp .gt 7, 3) rfl) (by decide) rfl ?_ ?_))
          · intro q7
            have h := h.1 q7
            refine aw_iconst (pc' := 15) (v := 0) (dt_X10_within 8 (14, .iconst 0, 1) rfl) (by decide) rfl (aw_iret (dt_X10_within 9 (15, .ireturn, 1) rfl) rfl rfl (aw_stk (st' := [.int 0]) rfl (aw_if_eq_T (pc' := 23) (tgt := 30) (dt_X10_beyond 10 (20, .ifCond .eq 10, 3) rfl) (by decide) rfl (by decide) (aw_iconst (pc' := 31) (v := (-1)) (dt_X10_beyond 14 (30, .iconst (-1), 1) rfl) (by decide) rfl (aw_goto (tgt := 42) (dt_X10_beyond 15 (31, .goto 11, 3) rfl) (by decide) (aw_iret (dt_X10_beyond 21 (42, .ireturn, 1) rfl) rfl rfl ?_))))))
            exact h
          · intro q7
            have h := h.2 q7
            refine aw_iconst (pc' := 11) (v := 1) (dt_X10_within 6 (10, .iconst 1, 1) rfl) (by decide) rfl (aw_goto (tgt := 15) (dt_X10_within 7 (11, .goto 4, 3) rfl) (by decide) (aw_iret (dt_X10_within 9 (15, .ireturn, 1) rfl) rfl rfl (aw_stk (st' := [.int 1]) rfl (aw_if_eq_F (pc' := 23) (tgt := 30) (dt_X10_beyond 10 (20, .ifCond .eq 10, 3) rfl) (by decide) rfl (by decide) (aw_iload_n (pc' := 24) (dt_X10_beyond 11 (23, .iload_n 3, 1) rfl) rfl rfl (aw_inS (pc' := 27) (nc1 := 0) (ns1 := 0) (nc := nc) (ns := ns) (ls' := [some (.int x3)]) (y2 := mX10_isDay) (As := [.int x3]) (rest := []) (dt_X10_beyond 12 (24, .invokestatic 92, 3) rfl) ok_X10_isDay ln_ReturnDesk_92 sm_X10_isDay pr_X10_isDay rfl (Nat.le_of_ble_eq_true rfl) (Nat.le_of_ble_eq_true rfl) rfl rfl (aw_iload_n (pc' := 1) (dt_X10_isDay 0 (0, .iload_n 0, 1) rfl) rfl rfl (aw_iconst (pc' := 2) (v := 0) (dt_X10_isDay 1 (1, .iconst 0, 1) rfl) (by decide) rfl (aw_sipush (pc' := 5) (v := 2999) (dt_X10_isDay 2 (2, .sipush 2999, 3) rfl) (by decide) rfl (aw_inS (pc' := 8) (nc1 := 0) (ns1 := 0) (nc := 0) (ns := 0) (ls' := [some (.int x3), some (.int 0), some (.int 2999)]) (y2 := mX10_within) (As := [.int x3, .int 0, .int 2999]) (rest := []) (dt_X10_isDay 3 (5, .invokestatic 76, 3) rfl) ok_X10_within ln_ReturnDesk_76 sm_X10_within pr_X10_within rfl (Nat.le_of_ble_eq_true rfl) (Nat.le_of_ble_eq_true rfl) rfl rfl (aw_iload_n (pc' := 1) (dt_X10_within 0 (0, .iload_n 0, 1) rfl) rfl rfl (aw_iload_n (pc' := 2) (dt_X10_within 1 (1, .iload_n 1, 1) rfl) rfl rfl (aw_icmp_lt (pc' := 5) (tgt := 14) (dt_X10_within 2 (2, .if_icmp .lt 12, 3) rfl) (by decide) rfl ?_ ?_)))))))))))))
            · intro q8
              have h := h.1 q8
              refine aw_iconst (pc' := 15) (v := 0) (dt_X10_within 8 (14, .iconst 0, 1) rfl) (by decide) rfl (aw_iret (dt_X10_within 9 (15, .ireturn, 1) rfl) rfl rfl (aw_stk (st' := [.int 0]) rfl (aw_iret (dt_X10_isDay 4 (8, .ireturn, 1) rfl) rfl rfl (aw_stk (st' := [.int 0]) rfl (aw_if_ne_F (pc' := 30) (tgt := 34) (dt_X10_beyond 13 (27, .ifCond .ne 7, 3) rfl) (by decide) rfl (by decide) (aw_iconst (pc' := 31) (v := (-1)) (dt_X10_beyond 14 (30, .iconst (-1), 1) rfl) (by decide) rfl (aw_goto (tgt := 42) (dt_X10_beyond 15 (31, .goto 11, 3) rfl) (by decide) (aw_iret (dt_X10_beyond 21 (42, .ireturn, 1) rfl) rfl rfl ?_))))))))
              exact h
            · intro q8
              have h := h.2 q8
              refine aw_iload_n (pc' := 6) (dt_X10_within 3 (5, .iload_n 0, 1) rfl) rfl rfl (aw_iload_n (pc' := 7) (dt_X10_within 4 (6, .iload_n 2, 1) rfl) rfl rfl (aw_icmp_gt (pc' := 10) (tgt := 14) (dt_X10_within 5 (7, .if_icmp .gt 7, 3) rfl) (by decide) rfl ?_ ?_))
              · intro q9
                have h := h.1 q9
                refine aw_iconst (pc' := 15) (v := 0) (dt_X10_within 8 (14, .iconst 0, 1) rfl) (by decide) rfl (aw_iret (dt_X10_within 9 (15, .ireturn, 1) rfl) rfl rfl (aw_stk (st' := [.int 0]) rfl (aw_iret (dt_X10_isDay 4 (8, .ireturn, 1) rfl) rfl rfl (aw_stk (st' := [.int 0]) rfl (aw_if_ne_F (pc' := 30) (tgt := 34) (dt_X10_beyond 13 (27, .ifCond .ne 7, 3) rfl) (by decide) rfl (by decide) (aw_iconst (pc' := 31) (v := (-1)) (dt_X10_beyond 14 (30, .iconst (-1), 1) rfl) (by decide) rfl (aw_goto (tgt := 42) (dt_X10_beyond 15 (31, .goto 11, 3) rfl) (by decide) (aw_iret (dt_X10_beyond 21 (42, .ireturn, 1) rfl) rfl rfl ?_))))))))
                exact h
              · intro q9
                have h := h.2 q9
                refine aw_iconst (pc' := 11) (v := 1) (dt_X10_within 6 (10, .iconst 1, 1) rfl) (by decide) rfl (aw_goto (tgt := 15) (dt_X10_within 7 (11, .goto 4, 3) rfl) (by decide) (aw_iret (dt_X10_within 9 (15, .ireturn, 1) rfl) rfl rfl (aw_stk (st' := [.int 1]) rfl (aw_iret (dt_X10_isDay 4 (8, .ireturn, 1) rfl) rfl rfl (aw_stk (st' := [.int 1]) rfl (aw_if_ne_T (pc' := 30) (tgt := 34) (dt_X10_beyond 13 (27, .ifCond .ne 7, 3) rfl) (by decide) rfl (by decide) (aw_aload_n (pc' := 35) (dt_X10_beyond 16 (34, .aload_n 0, 1) rfl) rfl rfl (aw_aload (pc' := 37) (dt_X10_beyond 17 (35, .aload 4, 2) rfl) rfl rfl (aw_iload_n (pc' := 38) (dt_X10_beyond 18 (37, .iload_n 2, 1) rfl) rfl rfl (aw_iload_n (pc' := 39) (dt_X10_beyond 19 (38, .iload_n 3, 1) rfl) rfl rfl (aw_callV0 (pc' := 42) (nc := nc) (ns := ns) (y2 := mX10_beyondChance) (As := [.ref b5, .int x2, .int x3]) (rest := []) (a := 11) (dt_X10_beyond 20 (39, .invokevirtual 379, 3) rfl) ok_X10_beyondChance ln_ReturnDesk_379 im_X10_beyondChance se_X10_beyondChance pr_X10_beyondChance (Or.inl ⟨by decide, rfl⟩) rfl (Nat.le_of_ble_eq_true rfl) (Nat.le_of_ble_eq_true rfl) rfl (sk_11 hS) h ?_)))))))))))
                rintro v μ10 ⟨r12, rfl, hS11, h⟩
                refine aw_stk (st' := [.int r12]) rfl ?_
                refine aw_iret (dt_X10_beyond 21 (42, .ireturn, 1) rfl) rfl rfl ?_
                exact h

theorem t_X10_since {E : ZE} {l : Launch} {d nc ns : Nat} {x1 : Int32} {x2 : Int32} {μ : ZM} {K : Option Value → ZM → Prop} (hS : Stat μ) (h :
  (x1 < 0 →
    K (some (.int (-1))) μ) ∧
  (¬ x1 < 0 →
    (((zI μ 11 13) - 1) < x1 →
      K (some (.int (-1))) μ) ∧
    (¬ ((zI μ 11 13) - 1) < x1 →
      (vp_in x1 60) ∧
      (zA μ 13 x1.toNatClampNeg = none →
        K (some (.int (-1))) μ) ∧
      (∀ b5, zA μ 13 x1.toNatClampNeg = some b5 →
        (x2 < 1 →
          K (some (.int (-1))) μ) ∧
        (¬ x2 < 1 →
          (9999 < x2 →
            K (some (.int (-1))) μ) ∧
          (¬ 9999 < x2 →
            (zK μ b5 = 2) ∧
            (zA μ b5 1 = none →
              AW E l (d + 2) 0 0 mX10_nextChange 0 (zargs 6 [.ref 11, .null, .int (-1)]) [] μ (fun v μ11 => ∃ r13 : Int32, v = some (.int r13) ∧ Stat μ11 ∧ 
                AW E l (d + 3) nc ns mX10_since 37 [some (.ref 11), none, some (.int x2), some (.ref b5), some (.int r13), some (.int 0), none] [] μ11 K)) ∧
            (∀ b10, zA μ b5 1 = some b10 →
              AW E l (d + 2) 0 0 mX10_nextChange 0 (zargs 6 [.ref 11, .ref b10, .int (-1)]) [] μ (fun v μ14 => ∃ r16 : Int32, v = some (.int r16) ∧ Stat μ14 ∧ 
                AW E l (d + 3) nc ns mX10_since 37 [some (.ref 11), none, some (.int x2), some (.ref b5), some (.int r16), some (.int 0), none] [] μ14 K)))))))) : AW E l (d + 3) nc ns mX10_since 0 [some (.ref 11), some (.int x1), some (.int x2), none, none, none, none] [] μ K := by
  refine aw_aload_n (pc' := 1) (dt_X10_since 0 (0, .aload_n 0, 1) rfl) rfl rfl (aw_iload_n (pc' := 2) (dt_X10_since 1 (1, .iload_n 1, 1) rfl) rfl rfl (aw_inV (pc' := 5) (nc1 := 0) (ns1 := 0) (nc := nc) (ns := ns) (ls' := [some (.ref 11), some (.int x1)]) (y2 := mX10_lotAt) (As := [.int x1]) (rest := []) (a := 11) (dt_X10_since 2 (2, .invokevirtual 121, 3) rfl) ok_X10_lotAt ln_ReturnDesk_121 im_X10_lotAt se_X10_lotAt pr_X10_lotAt (Or.inl ⟨by decide, rfl⟩) rfl (Nat.le_of_ble_eq_true rfl) (Nat.le_of_ble_eq_true rfl) rfl rfl (sk_11 hS) (aw_iload_n (pc' := 1) (dt_X10_lotAt 0 (0, .iload_n 1, 1) rfl) rfl rfl (aw_iconst (pc' := 2) (v := 0) (dt_X10_lotAt 1 (1, .iconst 0, 1) rfl) (by decide) rfl (aw_aload_n (pc' := 3) (dt_X10_lotAt 2 (2, .aload_n 0, 1) rfl) rfl rfl (aw_getI (pc' := 6) (dt_X10_lotAt 3 (3, .getfield 107, 3) rfl) fl_ReturnDesk_107 rfl rfl (sk_11 hS) (aw_iconst (pc' := 7) (v := 1) (dt_X10_lotAt 4 (6, .iconst 1, 1) rfl) (by decide) rfl (aw_isub (pc' := 8) (dt_X10_lotAt 5 (7, .isub, 1) rfl) rfl (aw_inS (pc' := 11) (nc1 := 0) (ns1 := 0) (nc := 0) (ns := 0) (ls' := [some (.int x1), some (.int 0), some (.int ((zI μ 11 13) - 1))]) (y2 := mX10_within) (As := [.int x1, .int 0, .int ((zI μ 11 13) - 1)]) (rest := []) (dt_X10_lotAt 6 (8, .invokestatic 76, 3) rfl) ok_X10_within ln_ReturnDesk_76 sm_X10_within pr_X10_within rfl (Nat.le_of_ble_eq_true rfl) (Nat.le_of_ble_eq_true rfl) rfl rfl (aw_iload_n (pc' := 1) (dt_X10_within 0 (0, .iload_n 0, 1) rfl) rfl rfl (aw_iload_n (pc' := 2) (dt_X10_within 1 (1, .iload_n 1, 1) rfl) rfl rfl (aw_icmp_lt (pc' := 5) (tgt := 14) (dt_X10_within 2 (2, .if_icmp .lt 12, 3) rfl) (by decide) rfl ?_ ?_))))))))))))
  · intro q1
    have h := h.1 q1
    refine aw_iconst (pc' := 15) (v := 0) (dt_X10_within 8 (14, .iconst 0, 1) rfl) (by decide) rfl (aw_iret (dt_X10_within 9 (15, .ireturn, 1) rfl) rfl rfl (aw_stk (st' := [.int 0]) rfl (aw_if_eq_T (pc' := 14) (tgt := 23) (dt_X10_lotAt 7 (11, .ifCond .eq 12, 3) rfl) (by decide) rfl (by decide) (aw_null (pc' := 24) (dt_X10_lotAt 13 (23, .aconst_null, 1) rfl) rfl (aw_aretN (dt_X10_lotAt 14 (24, .areturn, 1) rfl) rfl rfl (aw_stk (st' := [.null]) rfl (aw_astore_nN (pc' := 6) (ls' := [some (.ref 11), some (.int x1), some (.int x2), some (.null), none, none, none]) (dt_X10_since 3 (5, .astore_n 3, 1) rfl) (by decide) rfl rfl (aw_aload_nN (pc' := 7) (dt_X10_since 4 (6, .aload_n 3, 1) rfl) rfl rfl (aw_ifnullN (tgt := 21) (dt_X10_since 5 (7, .ifnull 14, 3) rfl) (by decide) (aw_iconst (pc' := 22) (v := (-1)) (dt_X10_since 11 (21, .iconst (-1), 1) rfl) (by decide) rfl (aw_iret (dt_X10_since 12 (22, .ireturn, 1) rfl) rfl rfl ?_)))))))))))
    exact h
  · intro q1
    have h := h.2 q1
    refine aw_iload_n (pc' := 6) (dt_X10_within 3 (5, .iload_n 0, 1) rfl) rfl rfl (aw_iload_n (pc' := 7) (dt_X10_within 4 (6, .iload_n 2, 1) rfl) rfl rfl (aw_icmp_gt (pc' := 10) (tgt := 14) (dt_X10_within 5 (7, .if_icmp .gt 7, 3) rfl) (by decide) rfl ?_ ?_))
    · intro q2
      have h := h.1 q2
      refine aw_iconst (pc' := 15) (v := 0) (dt_X10_within 8 (14, .iconst 0, 1) rfl) (by decide) rfl (aw_iret (dt_X10_within 9 (15, .ireturn, 1) rfl) rfl rfl (aw_stk (st' := [.int 0]) rfl (aw_if_eq_T (pc' := 14) (tgt := 23) (dt_X10_lotAt 7 (11, .ifCond .eq 12, 3) rfl) (by decide) rfl (by decide) (aw_null (pc' := 24) (dt_X10_lotAt 13 (23, .aconst_null, 1) rfl) rfl (aw_aretN (dt_X10_lotAt 14 (24, .areturn, 1) rfl) rfl rfl (aw_stk (st' := [.null]) rfl (aw_astore_nN (pc' := 6) (ls' := [some (.ref 11), some (.int x1), some (.int x2), some (.null), none, none, none]) (dt_X10_since 3 (5, .astore_n 3, 1) rfl) (by decide) rfl rfl (aw_aload_nN (pc' := 7) (dt_X10_since 4 (6, .aload_n 3, 1) rfl) rfl rfl (aw_ifnullN (tgt := 21) (dt_X10_since 5 (7, .ifnull 14, 3) rfl) (by decide) (aw_iconst (pc' := 22) (v := (-1)) (dt_X10_since 11 (21, .iconst (-1), 1) rfl) (by decide) rfl (aw_iret (dt_X10_since 12 (22, .ireturn, 1) rfl) rfl rfl ?_)))))))))))
      exact h
    · intro q2
      have h := h.2 q2
      obtain ⟨g3, h⟩ := h
      refine aw_iconst (pc' := 11) (v := 1) (dt_X10_within 6 (10, .iconst 1, 1) rfl) (by decide) rfl (aw_goto (tgt := 15) (dt_X10_within 7 (11, .goto 4, 3) rfl) (by decide) (aw_iret (dt_X10_within 9 (15, .ireturn, 1) rfl) rfl rfl (aw_stk (st' := [.int 1]) rfl (aw_if_eq_F (pc' := 14) (tgt := 23) (dt_X10_lotAt 7 (11, .ifCond .eq 12, 3) rfl) (by decide) rfl (by decide) (aw_aload_n (pc' := 15) (dt_X10_lotAt 8 (14, .aload_n 0, 1) rfl) rfl rfl (aw_getAs (pc' := 18) (dt_X10_lotAt 9 (15, .getfield 17, 3) rfl) fl_ReturnDesk_17 rfl rfl (sk_11 hS) (sa_11_1 hS) (aw_iload_n (pc' := 19) (dt_X10_lotAt 10 (18, .iload_n 1, 1) rfl) rfl rfl (aw_aald (pc' := 20) (dt_X10_lotAt 11 (19, .aaload, 1) rfl) (by decide) (by decide) rfl (sk_13 hS) (vin_eq (sl_13 hS) g3) ?_ ?_))))))))
      · intro e4
        have h := h.1 e4
        refine aw_goto (tgt := 24) (dt_X10_lotAt 12 (20, .goto 4, 3) rfl) (by decide) (aw_aretN (dt_X10_lotAt 14 (24, .areturn, 1) rfl) rfl rfl (aw_stk (st' := [.null]) rfl (aw_astore_nN (pc' := 6) (ls' := [some (.ref 11), some (.int x1), some (.int x2), some (.null), none, none, none]) (dt_X10_since 3 (5, .astore_n 3, 1) rfl) (by decide) rfl rfl (aw_aload_nN (pc' := 7) (dt_X10_since 4 (6, .aload_n 3, 1) rfl) rfl rfl (aw_ifnullN (tgt := 21) (dt_X10_since 5 (7, .ifnull 14, 3) rfl) (by decide) (aw_iconst (pc' := 22) (v := (-1)) (dt_X10_since 11 (21, .iconst (-1), 1) rfl) (by decide) rfl (aw_iret (dt_X10_since 12 (22, .ireturn, 1) rfl) rfl rfl ?_)))))))
        exact h
      · intro b5 e4
        have h := h.2 b5 e4
        refine aw_goto (tgt := 24) (dt_X10_lotAt 12 (20, .goto 4, 3) rfl) (by decide) (aw_aret (dt_X10_lotAt 14 (24, .areturn, 1) rfl) rfl rfl (aw_stk (st' := [.ref b5]) rfl (aw_astore_n (pc' := 6) (ls' := [some (.ref 11), some (.int x1), some (.int x2), some (.ref b5), none, none, none]) (dt_X10_since 3 (5, .astore_n 3, 1) rfl) (by decide) rfl rfl (aw_aload_n (pc' := 7) (dt_X10_since 4 (6, .aload_n 3, 1) rfl) rfl rfl (aw_ifnull (pc' := 10) (dt_X10_since 5 (7, .ifnull 14, 3) rfl) rfl (aw_iload_n (pc' := 11) (dt_X10_since 6 (10, .iload_n 2, 1) rfl) rfl rfl (aw_iconst (pc' := 12) (v := 1) (dt_X10_since 7 (11, .iconst 1, 1) rfl) (by decide) rfl (aw_sipush (pc' := 15) (v := 9999) (dt_X10_since 8 (12, .sipush 9999, 3) rfl) (by decide) rfl (aw_inS (pc' := 18) (nc1 := 0) (ns1 := 0) (nc := nc) (ns := ns) (ls' := [some (.int x2), some (.int 1), some (.int 9999)]) (y2 := mX10_within) (As := [.int x2, .int 1, .int 9999]) (rest := []) (dt_X10_since 9 (15, .invokestatic 76, 3) rfl) ok_X10_within ln_ReturnDesk_76 sm_X10_within pr_X10_within rfl (Nat.le_of_ble_eq_true rfl) (Nat.le_of_ble_eq_true rfl) rfl rfl (aw_iload_n (pc' := 1) (dt_X10_within 0 (0, .iload_n 0, 1) rfl) rfl rfl (aw_iload_n (pc' := 2) (dt_X10_within 1 (1, .iload_n 1, 1) rfl) rfl rfl (aw_icmp_lt (pc' := 5) (tgt := 14) (dt_X10_within 2 (2, .if_icmp .lt 12, 3) rfl) (by decide) rfl ?_ ?_))))))))))))
        · intro q6
          have h := h.1 q6
          refine aw_iconst (pc' := 15) (v := 0) (dt_X10_within 8 (14, .iconst 0, 1) rfl) (by decide) rfl (aw_iret (dt_X10_within 9 (15, .ireturn, 1) rfl) rfl rfl (aw_stk (st' := [.int 0]) rfl (aw_if_ne_F (pc' := 21) (tgt := 23) (dt_X10_since 10 (18, .ifCond .ne 5, 3) rfl) (by decide) rfl (by decide) (aw_iconst (pc' := 22) (v := (-1)) (dt_X10_since 11 (21, .iconst (-1), 1) rfl) (by decide) rfl (aw_iret (dt_X10_since 12 (22, .ireturn, 1) rfl) rfl rfl ?_)))))
          exact h
        · intro q6
          have h := h.2 q6
          refine aw_iload_n (pc' := 6) (dt_X10_within 3 (5, .iload_n 0, 1) rfl) rfl rfl (aw_iload_n (pc' := 7) (dt_X10_within 4 (6, .iload_n 2, 1) rfl) rfl rfl (aw_icmp_gt (pc' := 10) (tgt := 14) (dt_X10_within 5 (7, .if_icmp .gt 7, 3) rfl) (by decide) rfl ?_ ?_))
          · intro q7
            have h := h.1 q7
            refine aw_iconst (pc' := 15) (v := 0) (dt_X10_within 8 (14, .iconst 0, 1) rfl) (by decide) rfl (aw_iret (dt_X10_within 9 (15, .ireturn, 1) rfl) rfl rfl (aw_stk (st' := [.int 0]) rfl (aw_if_ne_F (pc' := 21) (tgt := 23) (dt_X10_since 10 (18, .ifCond .ne 5, 3) rfl) (by decide) rfl (by decide) (aw_iconst (pc' := 22) (v := (-1)) (dt_X10_since 11 (21, .iconst (-1), 1) rfl) (by decide) rfl (aw_iret (dt_X10_since 12 (22, .ireturn, 1) rfl) rfl rfl ?_)))))
            exact h
          · intro q7
            have h := h.2 q7
            obtain ⟨g8, h⟩ := h
            refine aw_iconst (pc' := 11) (v := 1) (dt_X10_within 6 (10, .iconst 1, 1) rfl) (by decide) rfl (aw_goto (tgt := 15) (dt_X10_within 7 (11, .goto 4, 3) rfl) (by decide) (aw_iret (dt_X10_within 9 (15, .ireturn, 1) rfl) rfl rfl (aw_stk (st' := [.int 1]) rfl (aw_if_ne_T (pc' := 21) (tgt := 23) (dt_X10_since 10 (18, .ifCond .ne 5, 3) rfl) (by decide) rfl (by decide) (aw_aload_n (pc' := 24) (dt_X10_since 13 (23, .aload_n 0, 1) rfl) rfl rfl (aw_aload_n (pc' := 25) (dt_X10_since 14 (24, .aload_n 3, 1) rfl) rfl rfl (aw_getA (pc' := 28) (dt_X10_since 15 (25, .getfield 134, 3) rfl) fl_ReturnDesk_134 rfl rfl g8 ?_ ?_)))))))
            · intro e9
              have h := h.1 e9
              refine aw_iconst (pc' := 29) (v := (-1)) (dt_X10_since 16 (28, .iconst (-1), 1) rfl) (by decide) rfl (aw_callV0 (pc' := 32) (nc := nc) (ns := ns) (y2 := mX10_nextChange) (As := [.null, .int (-1)]) (rest := []) (a := 11) (dt_X10_since 17 (29, .invokevirtual 383, 3) rfl) ok_X10_nextChange ln_ReturnDesk_383 im_X10_nextChange se_X10_nextChange pr_X10_nextChange (Or.inl ⟨by decide, rfl⟩) rfl (Nat.le_of_ble_eq_true rfl) (Nat.le_of_ble_eq_true rfl) rfl (sk_11 hS) h ?_)
              rintro v μ11 ⟨r13, rfl, hS12, h⟩
              refine aw_stk (st' := [.int r13]) rfl ?_
              refine aw_istore (pc' := 34) (ls' := [some (.ref 11), some (.int x1), some (.int x2), some (.ref b5), some (.int r13), none, none]) (dt_X10_since 18 (32, .istore 4, 2) rfl) (by decide) rfl rfl (aw_iconst (pc' := 35) (v := 0) (dt_X10_since 19 (34, .iconst 0, 1) rfl) (by decide) rfl (aw_istore (pc' := 37) (ls' := [some (.ref 11), some (.int x1), some (.int x2), some (.ref b5), some (.int r13), some (.int 0), none]) (dt_X10_since 20 (35, .istore 5, 2) rfl) (by decide) rfl rfl (aw_drop (ls' := [some (.ref 11), none, some (.int x2), some (.ref b5), some (.int r13), some (.int 0), none]) ⟨rfl, rfl, rfl, rfl, rfl, trivial⟩ ?_)))
              exact h
            · intro b10 e9
              have h := h.2 b10 e9
              refine aw_iconst (pc' := 29) (v := (-1)) (dt_X10_since 16 (28, .iconst (-1), 1) rfl) (by decide) rfl (aw_callV0 (pc' := 32) (nc := nc) (ns := ns) (y2 := mX10_nextChange) (As := [.ref b10, .int (-1)]) (rest := []) (a := 11) (dt_X10_since 17 (29, .invokevirtual 383, 3) rfl) ok_X10_nextChange ln_ReturnDesk_383 im_X10_nextChange se_X10_nextChange pr_X10_nextChange (Or.inl ⟨by decide, rfl⟩) rfl (Nat.le_of_ble_eq_true rfl) (Nat.le_of_ble_eq_true rfl) rfl (sk_11 hS) h ?_)
              rintro v μ14 ⟨r16, rfl, hS15, h⟩
              refine aw_stk (st' := [.int r16]) rfl ?_
              refine aw_istore (pc' := 34) (ls' := [some (.ref 11), some (.int x1), some (.int x2), some (.ref b5), some (.int r16), none, none]) (dt_X10_since 18 (32, .istore 4, 2) rfl) (by decide) rfl rfl (aw_iconst (pc' := 35) (v := 0) (dt_X10_since 19 (34, .iconst 0, 1) rfl) (by decide) rfl (aw_istore (pc' := 37) (ls' := [some (.ref 11), some (.int x1), some (.int x2), some (.ref b5), some (.int r16), some (.int 0), none]) (dt_X10_since 20 (35, .istore 5, 2) rfl) (by decide) rfl rfl (aw_drop (ls' := [some (.ref 11), none, some (.int x2), some (.ref b5), some (.int r16), some (.int 0), none]) ⟨rfl, rfl, rfl, rfl, rfl, trivial⟩ ?_)))
              exact h

theorem t_X10_since_37 {E : ZE} {l : Launch} {d nc ns : Nat} {x2 : Int32} {a3 : Nat} {x4 : Int32} {x5 : Int32} {μ : ZM} {K : Option Value → ZM → Prop} (hS : Stat μ) (h :
  (3000 ≤ x5 →
    K (some (.int (-2))) μ) ∧
  (¬ 3000 ≤ x5 →
    (((zI μ 11 17) / 24) < x4 →
      K (some (.int (-2))) μ) ∧
    (¬ ((zI μ 11 17) / 24) < x4 →
      AW E l (d + 2) 0 0 mX10_beyondChance 0 (zargs 12 [.ref 11, .ref a3, .int x2, .int x4]) [] μ (fun v μ3 => ∃ r5 : Int32, v = some (.int r5) ∧ Stat μ3 ∧ 
        (r5 = 0 →
          (zK μ3 a3 = 2) ∧
          (zA μ3 a3 1 = none →
            AW E l (d + 2) 0 0 mX10_nextChange 0 (zargs 6 [.ref 11, .null, .int x4]) [] μ3 (fun v μ10 => ∃ r12 : Int32, v = some (.int r12) ∧ Stat μ10 ∧ 
              AW E l (d + 3) nc ns mX10_since 37 [some (.ref 11), none, some (.int x2), some (.ref a3), some (.int r12), some (.int (x5 + 1)), none] [] μ10 K)) ∧
          (∀ b9, zA μ3 a3 1 = some b9 →
            AW E l (d + 2) 0 0 mX10_nextChange 0 (zargs 6 [.ref 11, .ref b9, .int x4]) [] μ3 (fun v μ13 => ∃ r15 : Int32, v = some (.int r15) ∧ Stat μ13 ∧ 
              AW E l (d + 3) nc ns mX10_since 37 [some (.ref 11), none, some (.int x2), some (.ref a3), some (.int r15), some (.int (x5 + 1)), none] [] μ13 K))) ∧
        (¬ r5 = 0 →
          (¬ r5 = (-4) →
            K (some (.int x4)) μ3) ∧
          (r5 = (-4) →
            K (some (.int (-4))) μ3)))))) : AW E l (d + 3) nc ns mX10_since 37 [some (.ref 11), none, some (.int x2), some (.ref a3), some (.int x4), some (.int x5), none] [] μ K := by
  refine aw_iload (pc' := 39) (dt_X10_since 21 (37, .iload 5, 2) rfl) rfl rfl (aw_sipush (pc' := 42) (v := 3000) (dt_X10_since 22 (39, .sipush 3000, 3) rfl) (by decide) rfl (aw_icmp_ge (pc' := 45) (tgt := 102) (dt_X10_since 23 (42, .if_icmp .ge 60, 3) rfl) (by decide) rfl ?_ ?_))
  · intro q1
    have h := h.1 q1
    refine aw_bipush (pc' := 104) (v := (-2)) (dt_X10_since 51 (102, .bipush (-2), 2) rfl) (by decide) rfl (aw_iret (dt_X10_since 52 (104, .ireturn, 1) rfl) rfl rfl ?_)
    exact h
  · intro q1
    have h := h.2 q1
    refine aw_iload (pc' := 47) (dt_X10_since 24 (45, .iload 4, 2) rfl) rfl rfl (aw_aload_n (pc' := 48) (dt_X10_since 25 (47, .aload_n 0, 1) rfl) rfl rfl (aw_inV (pc' := 51) (nc1 := 0) (ns1 := 0) (nc := nc) (ns := ns) (ls' := [some (.ref 11)]) (y2 := mX10_today) (As := []) (rest := [.int x4]) (a := 11) (dt_X10_since 26 (48, .invokevirtual 138, 3) rfl) ok_X10_today ln_ReturnDesk_138 im_X10_today se_X10_today pr_X10_today (Or.inl ⟨by decide, rfl⟩) rfl (Nat.le_of_ble_eq_true rfl) (Nat.le_of_ble_eq_true rfl) rfl rfl (sk_11 hS) (aw_aload_n (pc' := 1) (dt_X10_today 0 (0, .aload_n 0, 1) rfl) rfl rfl (aw_getI (pc' := 4) (dt_X10_today 1 (1, .getfield 114, 3) rfl) fl_ReturnDesk_114 rfl rfl (sk_11 hS) (aw_bipush (pc' := 6) (v := 24) (dt_X10_today 2 (4, .bipush 24, 2) rfl) (by decide) rfl (aw_idiv (pc' := 7) (dt_X10_today 3 (6, .idiv, 1) rfl) (by decide) rfl (aw_iret (dt_X10_today 4 (7, .ireturn, 1) rfl) rfl rfl (aw_stk (st' := [.int ((zI μ 11 17) / 24), .int x4]) rfl (aw_icmp_gt (pc' := 54) (tgt := 102) (dt_X10_since 27 (51, .if_icmp .gt 51, 3) rfl) (by decide) rfl ?_ ?_)))))))))
    · intro q2
      have h := h.1 q2
      refine aw_bipush (pc' := 104) (v := (-2)) (dt_X10_since 51 (102, .bipush (-2), 2) rfl) (by decide) rfl (aw_iret (dt_X10_since 52 (104, .ireturn, 1) rfl) rfl rfl ?_)
      exact h
    · intro q2
      have h := h.2 q2
      refine aw_aload_n (pc' := 55) (dt_X10_since 28 (54, .aload_n 0, 1) rfl) rfl rfl (aw_aload_n (pc' := 56) (dt_X10_since 29 (55, .aload_n 3, 1) rfl) rfl rfl (aw_iload_n (pc' := 57) (dt_X10_since 30 (56, .iload_n 2, 1) rfl) rfl rfl (aw_iload (pc' := 59) (dt_X10_since 31 (57, .iload 4, 2) rfl) rfl rfl (aw_callV0 (pc' := 62) (nc := nc) (ns := ns) (y2 := mX10_beyondChance) (As := [.ref a3, .int x2, .int x4]) (rest := []) (a := 11) (dt_X10_since 32 (59, .invokevirtual 379, 3) rfl) ok_X10_beyondChance ln_ReturnDesk_379 im_X10_beyondChance se_X10_beyondChance pr_X10_beyondChance (Or.inl ⟨by decide, rfl⟩) rfl (Nat.le_of_ble_eq_true rfl) (Nat.le_of_ble_eq_true rfl) rfl (sk_11 hS) h ?_))))
      rintro v μ3 ⟨r5, rfl, hS4, h⟩
      refine aw_stk (st' := [.int r5]) rfl ?_
      refine aw_istore (pc' := 64) (ls' := [some (.ref 11), none, some (.int x2), some (.ref a3), some (.int x4), some (.int x5), some (.int r5)]) (dt_X10_since 33 (62, .istore 6, 2) rfl) (by decide) rfl rfl (aw_iload (pc' := 66) (dt_X10_since 34 (64, .iload 6, 2) rfl) rfl rfl (aw_if_eq (pc' := 69) (tgt := 84) (dt_X10_since 35 (66, .ifCond .eq 18, 3) rfl) (by decide) rfl ?_ ?_))
      · intro q6
        have h := h.1 q6
        obtain ⟨g7, h⟩ := h
        refine aw_aload_n (pc' := 85) (dt_X10_since 43 (84, .aload_n 0, 1) rfl) rfl rfl (aw_aload_n (pc' := 86) (dt_X10_since 44 (85, .aload_n 3, 1) rfl) rfl rfl (aw_getA (pc' := 89) (dt_X10_since 45 (86, .getfield 134, 3) rfl) fl_ReturnDesk_134 rfl rfl g7 ?_ ?_))
        · intro e8
          have h := h.1 e8
          refine aw_iload (pc' := 91) (dt_X10_since 46 (89, .iload 4, 2) rfl) rfl rfl (aw_callV0 (pc' := 94) (nc := nc) (ns := ns) (y2 := mX10_nextChange) (As := [.null, .int x4]) (rest := []) (a := 11) (dt_X10_since 47 (91, .invokevirtual 383, 3) rfl) ok_X10_nextChange ln_ReturnDesk_383 im_X10_nextChange se_X10_nextChange pr_X10_nextChange (Or.inl ⟨by decide, rfl⟩) rfl (Nat.le_of_ble_eq_true rfl) (Nat.le_of_ble_eq_true rfl) rfl (sk_11 hS4) h ?_)
          rintro v μ10 ⟨r12, rfl, hS11, h⟩
          refine aw_stk (st' := [.int r12]) rfl ?_
          refine aw_istore (pc' := 96) (ls' := [some (.ref 11), none, some (.int x2), some (.ref a3), some (.int r12), some (.int x5), some (.int r5)]) (dt_X10_since 48 (94, .istore 4, 2) rfl) (by decide) rfl rfl (aw_iinc (pc' := 99) (v := 1) (ls' := [some (.ref 11), none, some (.int x2), some (.ref a3), some (.int r12), some (.int (x5 + 1)), some (.int r5)]) (dt_X10_since 49 (96, .iinc 5 1, 3) rfl) rfl (by decide) (by decide) rfl rfl (aw_goto (tgt := 37) (dt_X10_since 50 (99, .goto (-62), 3) rfl) (by decide) (aw_drop (ls' := [some (.ref 11), none, some (.int x2), some (.ref a3), some (.int r12), some (.int (x5 + 1)), none]) ⟨rfl, rfl, rfl, rfl, rfl, trivial⟩ ?_)))
          exact h
        · intro b9 e8
          have h := h.2 b9 e8
          refine aw_iload (pc' := 91) (dt_X10_since 46 (89, .iload 4, 2) rfl) rfl rfl (aw_callV0 (pc' := 94) (nc := nc) (ns := ns) (y2 := mX10_nextChange) (As := [.ref b9, .int x4]) (rest := []) (a := 11) (dt_X10_since 47 (91, .invokevirtual 383, 3) rfl) ok_X10_nextChange ln_ReturnDesk_383 im_X10_nextChange se_X10_nextChange pr_X10_nextChange (Or.inl ⟨by decide, rfl⟩) rfl (Nat.le_of_ble_eq_true rfl) (Nat.le_of_ble_eq_true rfl) rfl (sk_11 hS4) h ?_)
          rintro v μ13 ⟨r15, rfl, hS14, h⟩
          refine aw_stk (st' := [.int r15]) rfl ?_
          refine aw_istore (pc' := 96) (ls' := [some (.ref 11), none, some (.int x2), some (.ref a3), some (.int r15), some (.int x5), some (.int r5)]) (dt_X10_since 48 (94, .istore 4, 2) rfl) (by decide) rfl rfl (aw_iinc (pc' := 99) (v := 1) (ls' := [some (.ref 11), none, some (.int x2), some (.ref a3), some (.int r15), some (.int (x5 + 1)), some (.int r5)]) (dt_X10_since 49 (96, .iinc 5 1, 3) rfl) rfl (by decide) (by decide) rfl rfl (aw_goto (tgt := 37) (dt_X10_since 50 (99, .goto (-62), 3) rfl) (by decide) (aw_drop (ls' := [some (.ref 11), none, some (.int x2), some (.ref a3), some (.int r15), some (.int (x5 + 1)), none]) ⟨rfl, rfl, rfl, rfl, rfl, trivial⟩ ?_)))
          exact h
      · intro q6
        have h := h.2 q6
        refine aw_iload (pc' := 71) (dt_X10_since 36 (69, .iload 6, 2) rfl) rfl rfl (aw_bipush (pc' := 73) (v := (-4)) (dt_X10_since 37 (71, .bipush (-4), 2) rfl) (by decide) rfl (aw_icmp_ne (pc' := 76) (tgt := 81) (dt_X10_since 38 (73, .if_icmp .ne 8, 3) rfl) (by decide) rfl ?_ ?_))
        · intro q16
          have h := h.1 q16
          refine aw_iload (pc' := 83) (dt_X10_since 41 (81, .iload 4, 2) rfl) rfl rfl (aw_iret (dt_X10_since 42 (83, .ireturn, 1) rfl) rfl rfl ?_)
          exact h
        · intro q16
          have h := h.2 q16
          refine aw_bipush (pc' := 78) (v := (-4)) (dt_X10_since 39 (76, .bipush (-4), 2) rfl) (by decide) rfl (aw_goto (tgt := 83) (dt_X10_since 40 (78, .goto 5, 3) rfl) (by decide) (aw_iret (dt_X10_since 42 (83, .ireturn, 1) rfl) rfl rfl ?_))
          exact h

theorem t_X10_honest {E : ZE} {l : Launch} {d nc ns : Nat} {x1 : Int32} {x2 : Int32} {μ : ZM} {K : Option Value → ZM → Prop} (hS : Stat μ) (h :
  (x1 < 0 →
    K (some (.int (-1))) μ) ∧
  (¬ x1 < 0 →
    (59 < x1 →
      K (some (.int (-1))) μ) ∧
    (¬ 59 < x1 →
      (x2 < 0 →
        K (some (.int (-1))) μ) ∧
      (¬ x2 < 0 →
        (2 < x2 →
          K (some (.int (-1))) μ) ∧
        (¬ 2 < x2 →
          (vp_in x1 60) ∧
          (vp_in x1 60) ∧
          K (some (.int (zI μ 30 x1.toNatClampNeg))) (sI μ 30 x1.toNatClampNeg x2)))))) : AW E l (d + 2) nc ns mX10_honest 0 [some (.ref 11), some (.int x1), some (.int x2), none] [] μ K := by
  refine aw_iload_n (pc' := 1) (dt_X10_honest 0 (0, .iload_n 1, 1) rfl) rfl rfl (aw_inS (pc' := 4) (nc1 := 0) (ns1 := 0) (nc := nc) (ns := ns) (ls' := [some (.int x1)]) (y2 := mX10_isBuyer) (As := [.int x1]) (rest := []) (dt_X10_honest 1 (1, .invokestatic 387, 3) rfl) ok_X10_isBuyer ln_ReturnDesk_387 sm_X10_isBuyer pr_X10_isBuyer rfl (Nat.le_of_ble_eq_true rfl) (Nat.le_of_ble_eq_true rfl) rfl rfl (aw_iload_n (pc' := 1) (dt_X10_isBuyer 0 (0, .iload_n 0, 1) rfl) rfl rfl (aw_iconst (pc' := 2) (v := 0) (dt_X10_isBuyer 1 (1, .iconst 0, 1) rfl) (by decide) rfl (aw_bipush (pc' := 4) (v := 59) (dt_X10_isBuyer 2 (2, .bipush 59, 2) rfl) (by decide) rfl (aw_inS (pc' := 7) (nc1 := 0) (ns1 := 0) (nc := 0) (ns := 0) (ls' := [some (.int x1), some (.int 0), some (.int 59)]) (y2 := mX10_within) (As := [.int x1, .int 0, .int 59]) (rest := []) (dt_X10_isBuyer 3 (4, .invokestatic 76, 3) rfl) ok_X10_within ln_ReturnDesk_76 sm_X10_within pr_X10_within rfl (Nat.le_of_ble_eq_true rfl) (Nat.le_of_ble_eq_true rfl) rfl rfl (aw_iload_n (pc' := 1) (dt_X10_within 0 (0, .iload_n 0, 1) rfl) rfl rfl (aw_iload_n (pc' := 2) (dt_X10_within 1 (1, .iload_n 1, 1) rfl) rfl rfl (aw_icmp_lt (pc' := 5) (tgt := 14) (dt_X10_within 2 (2, .if_icmp .lt 12, 3) rfl) (by decide) rfl ?_ ?_))))))))
  · intro q1
    have h := h.1 q1
    refine aw_iconst (pc' := 15) (v := 0) (dt_X10_within 8 (14, .iconst 0, 1) rfl) (by decide) rfl (aw_iret (dt_X10_within 9 (15, .ireturn, 1) rfl) rfl rfl (aw_stk (st' := [.int 0]) rfl (aw_iret (dt_X10_isBuyer 4 (7, .ireturn, 1) rfl) rfl rfl (aw_stk (st' := [.int 0]) rfl (aw_if_eq_T (pc' := 7) (tgt := 16) (dt_X10_honest 2 (4, .ifCond .eq 12, 3) rfl) (by decide) rfl (by decide) (aw_iconst (pc' := 17) (v := (-1)) (dt_X10_honest 8 (16, .iconst (-1), 1) rfl) (by decide) rfl (aw_iret (dt_X10_honest 9 (17, .ireturn, 1) rfl) rfl rfl ?_)))))))
    exact h
  · intro q1
    have h := h.2 q1
    refine aw_iload_n (pc' := 6) (dt_X10_within 3 (5, .iload_n 0, 1) rfl) rfl rfl (aw_iload_n (pc' := 7) (dt_X10_within 4 (6, .iload_n 2, 1) rfl) rfl rfl (aw_icmp_gt (pc' := 10) (tgt := 14) (dt_X10_within 5 (7, .if_icmp .gt 7, 3) rfl) (by decide) rfl ?_ ?_))
    · intro q2
      have h := h.1 q2
      refine aw_iconst (pc' := 15) (v := 0) (dt_X10_within 8 (14, .iconst 0, 1) rfl) (by decide) rfl (aw_iret (dt_X10_within 9 (15, .ireturn, 1) rfl) rfl rfl (aw_stk (st' := [.int 0]) rfl (aw_iret (dt_X10_isBuyer 4 (7, .ireturn, 1) rfl) rfl rfl (aw_stk (st' := [.int 0]) rfl (aw_if_eq_T (pc' := 7) (tgt := 16) (dt_X10_honest 2 (4, .ifCond .eq 12, 3) rfl) (by decide) rfl (by decide) (aw_iconst (pc' := 17) (v := (-1)) (dt_X10_honest 8 (16, .iconst (-1), 1) rfl) (by decide) rfl (aw_iret (dt_X10_honest 9 (17, .ireturn, 1) rfl) rfl rfl ?_)))))))
      exact h
    · intro q2
      have h := h.2 q2
      refine aw_iconst (pc' := 11) (v := 1) (dt_X10_within 6 (10, .iconst 1, 1) rfl) (by decide) rfl (aw_goto (tgt := 15) (dt_X10_within 7 (11, .goto 4, 3) rfl) (by decide) (aw_iret (dt_X10_within 9 (15, .ireturn, 1) rfl) rfl rfl (aw_stk (st' := [.int 1]) rfl (aw_iret (dt_X10_isBuyer 4 (7, .ireturn, 1) rfl) rfl rfl (aw_stk (st' := [.int 1]) rfl (aw_if_eq_F (pc' := 7) (tgt := 16) (dt_X10_honest 2 (4, .ifCond .eq 12, 3) rfl) (by decide) rfl (by decide) (aw_iload_n (pc' := 8) (dt_X10_honest 3 (7, .iload_n 2, 1) rfl) rfl rfl (aw_iconst (pc' := 9) (v := 0) (dt_X10_honest 4 (8, .iconst 0, 1) rfl) (by decide) rfl (aw_iconst (pc' := 10) (v := 2) (dt_X10_honest 5 (9, .iconst 2, 1) rfl) (by decide) rfl (aw_inS (pc' := 13) (nc1 := 0) (ns1 := 0) (nc := nc) (ns := ns) (ls' := [some (.int x2), some (.int 0), some (.int 2)]) (y2 := mX10_within) (As := [.int x2, .int 0, .int 2]) (rest := []) (dt_X10_honest 6 (10, .invokestatic 76, 3) rfl) ok_X10_within ln_ReturnDesk_76 sm_X10_within pr_X10_within rfl (Nat.le_of_ble_eq_true rfl) (Nat.le_of_ble_eq_true rfl) rfl rfl (aw_iload_n (pc' := 1) (dt_X10_within 0 (0, .iload_n 0, 1) rfl) rfl rfl (aw_iload_n (pc' := 2) (dt_X10_within 1 (1, .iload_n 1, 1) rfl) rfl rfl (aw_icmp_lt (pc' := 5) (tgt := 14) (dt_X10_within 2 (2, .if_icmp .lt 12, 3) rfl) (by decide) rfl ?_ ?_)))))))))))))
      · intro q3
        have h := h.1 q3
        refine aw_iconst (pc' := 15) (v := 0) (dt_X10_within 8 (14, .iconst 0, 1) rfl) (by decide) rfl (aw_iret (dt_X10_within 9 (15, .ireturn, 1) rfl) rfl rfl (aw_stk (st' := [.int 0]) rfl (aw_if_ne_F (pc' := 16) (tgt := 18) (dt_X10_honest 7 (13, .ifCond .ne 5, 3) rfl) (by decide) rfl (by decide) (aw_iconst (pc' := 17) (v := (-1)) (dt_X10_honest 8 (16, .iconst (-1), 1) rfl) (by decide) rfl (aw_iret (dt_X10_honest 9 (17, .ireturn, 1) rfl) rfl rfl ?_)))))
        exact h
      · intro q3
        have h := h.2 q3
        refine aw_iload_n (pc' := 6) (dt_X10_within 3 (5, .iload_n 0, 1) rfl) rfl rfl (aw_iload_n (pc' := 7) (dt_X10_within 4 (6, .iload_n 2, 1) rfl) rfl rfl (aw_icmp_gt (pc' := 10) (tgt := 14) (dt_X10_within 5 (7, .if_icmp .gt 7, 3) rfl) (by decide) rfl ?_ ?_))
        · intro q4
          have h := h.1 q4
          refine aw_iconst (pc' := 15) (v := 0) (dt_X10_within 8 (14, .iconst 0, 1) rfl) (by decide) rfl (aw_iret (dt_X10_within 9 (15, .ireturn, 1) rfl) rfl rfl (aw_stk (st' := [.int 0]) rfl (aw_if_ne_F (pc' := 16) (tgt := 18) (dt_X10_honest 7 (13, .ifCond .ne 5, 3) rfl) (by decide) rfl (by decide) (aw_iconst (pc' := 17) (v := (-1)) (dt_X10_honest 8 (16, .iconst (-1), 1) rfl) (by decide) rfl (aw_iret (dt_X10_honest 9 (17, .ireturn, 1) rfl) rfl rfl ?_)))))
          exact h
        · intro q4
          have h := h.2 q4
          obtain ⟨g5, h⟩ := h
          obtain ⟨g6, h⟩ := h
          refine aw_iconst (pc' := 11) (v := 1) (dt_X10_within 6 (10, .iconst 1, 1) rfl) (by decide) rfl (aw_goto (tgt := 15) (dt_X10_within 7 (11, .goto 4, 3) rfl) (by decide) (aw_iret (dt_X10_within 9 (15, .ireturn, 1) rfl) rfl rfl (aw_stk (st' := [.int 1]) rfl (aw_if_ne_T (pc' := 16) (tgt := 18) (dt_X10_honest 7 (13, .ifCond .ne 5, 3) rfl) (by decide) rfl (by decide) (aw_aload_n (pc' := 19) (dt_X10_honest 10 (18, .aload_n 0, 1) rfl) rfl rfl (aw_getAs (pc' := 22) (dt_X10_honest 11 (19, .getfield 72, 3) rfl) fl_ReturnDesk_72 rfl rfl (sk_11 hS) (sa_11_10 hS) (aw_iload_n (pc' := 23) (dt_X10_honest 12 (22, .iload_n 1, 1) rfl) rfl rfl (aw_iald (pc' := 24) (dt_X10_honest 13 (23, .iaload, 1) rfl) rfl (sk_30 hS) (vin_eq (sl_30 hS) g5) (aw_istore_n (pc' := 25) (ls' := [some (.ref 11), some (.int x1), some (.int x2), some (.int (zI μ 30 x1.toNatClampNeg))]) (dt_X10_honest 14 (24, .istore_n 3, 1) rfl) (by decide) rfl rfl (aw_aload_n (pc' := 26) (dt_X10_honest 15 (25, .aload_n 0, 1) rfl) rfl rfl (aw_getAs (pc' := 29) (dt_X10_honest 16 (26, .getfield 72, 3) rfl) fl_ReturnDesk_72 rfl rfl (sk_11 hS) (sa_11_10 hS) (aw_iload_n (pc' := 30) (dt_X10_honest 17 (29, .iload_n 1, 1) rfl) rfl rfl (aw_iload_n (pc' := 31) (dt_X10_honest 18 (30, .iload_n 2, 1) rfl) rfl rfl (aw_iast (pc' := 32) (dt_X10_honest 19 (31, .iastore, 1) rfl) rfl (sk_30 hS) (by decide) (vin_eq (sl_30 hS) g6) (aw_iload_n (pc' := 33) (dt_X10_honest 20 (32, .iload_n 3, 1) rfl) rfl rfl (aw_iret (dt_X10_honest 21 (33, .ireturn, 1) rfl) rfl rfl ?_))))))))))))))))
          exact h

theorem t_X10_limit {E : ZE} {l : Launch} {d nc ns : Nat}  {μ : ZM} {K : Option Value → ZM → Prop} (hS : Stat μ) (h :
  AW E l (d + 9) 0 0 mX6_readLimit 0 (zargs 1 [.ref 19]) [] μ (fun v μ1 => ∃ r3 : Int32, v = some (.int r3) ∧ Stat μ1 ∧ 
    (¬ r3 = 0 →
      (¬ (zI (sI μ1 20 1 0) 19 2) < 0) ∧
      ((zI (sI μ1 20 1 0) 19 2).toNatClampNeg ≤ 400) ∧
      (11 ≤ (zN (sI μ1 20 1 0))) ∧
      (¬ (zI (sNew (sI μ1 20 1 0) 13 ((zI (sI μ1 20 1 0) 19 2).toNatClampNeg)) 19 2) < 0) ∧
      (0 + (zI (sNew (sI μ1 20 1 0) 13 ((zI (sI μ1 20 1 0) 19 2).toNatClampNeg)) 19 2).toNatClampNeg ≤ zL (sNew (sI μ1 20 1 0) 13 ((zI (sI μ1 20 1 0) 19 2).toNatClampNeg)) 25) ∧
      (0 + (zI (sNew (sI μ1 20 1 0) 13 ((zI (sI μ1 20 1 0) 19 2).toNatClampNeg)) 19 2).toNatClampNeg ≤ zL (sNew (sI μ1 20 1 0) 13 ((zI (sI μ1 20 1 0) 19 2).toNatClampNeg)) (zN (sI μ1 20 1 0))) ∧
      K (some (.int 1)) (sA (sCpy (sNew (sI μ1 20 1 0) 13 ((zI (sI μ1 20 1 0) 19 2).toNatClampNeg)) 25 0 (zN (sI μ1 20 1 0)) 0 (zI (sNew (sI μ1 20 1 0) 13 ((zI (sI μ1 20 1 0) 19 2).toNatClampNeg)) 19 2).toNatClampNeg) 11 11 (some (zN (sI μ1 20 1 0))))) ∧
    (r3 = 0 →
      (201 ≤ (zI (sI μ1 20 1 0) 19 3) →
        K (some (.int ((-100) - (zI (sI μ1 20 1 0) 20 1)))) (sI μ1 20 1 0)) ∧
      (¬ 201 ≤ (zI (sI μ1 20 1 0) 19 3) →
        (vp_in (zI (sI μ1 20 1 0) 19 3) 201) ∧
        K (some (.int ((-100) - (zI (sI μ1 20 1 0) 23 (zI (sI μ1 20 1 0) 19 3).toNatClampNeg)))) (sI μ1 20 1 0))))) : AW E l (d + 10) (nc + 1) (ns + 400) mX10_limit 0 [some (.ref 11), none] [] μ K := by
  refine aw_aload_n (pc' := 1) (dt_X10_limit 0 (0, .aload_n 0, 1) rfl) rfl rfl (aw_getAs (pc' := 4) (dt_X10_limit 1 (1, .getfield 49, 3) rfl) fl_ReturnDesk_49 rfl rfl (sk_11 hS) (sa_11_6 hS) (aw_callV0 (pc' := 7) (nc := (nc + 1)) (ns := (ns + 400)) (y2 := mX6_readLimit) (As := []) (rest := []) (a := 19) (dt_X10_limit 2 (4, .invokevirtual 390, 3) rfl) ok_X6_readLimit ln_ReturnDesk_390 im_X6_readLimit se_X6_readLimit pr_X6_readLimit (Or.inl ⟨by decide, rfl⟩) rfl (Nat.le_of_ble_eq_true rfl) (Nat.le_of_ble_eq_true rfl) rfl (sk_19 hS) h ?_))
  rintro v μ1 ⟨r3, rfl, hS2, h⟩
  refine aw_stk (st' := [.int r3]) rfl ?_
  refine aw_istore_n (pc' := 8) (ls' := [some (.ref 11), some (.int r3)]) (dt_X10_limit 3 (7, .istore_n 1, 1) rfl) (by decide) rfl rfl (aw_aload_n (pc' := 9) (dt_X10_limit 4 (8, .aload_n 0, 1) rfl) rfl rfl (aw_getAs (pc' := 12) (dt_X10_limit 5 (9, .getfield 57, 3) rfl) fl_ReturnDesk_57 rfl rfl (sk_11 hS2) (sa_11_7 hS2) (aw_iconst (pc' := 13) (v := 0) (dt_X10_limit 6 (12, .iconst 0, 1) rfl) (by decide) rfl (aw_putI (pc' := 16) (dt_X10_limit 7 (13, .putfield 196, 3) rfl) fl_ReturnDesk_196 rfl (by decide +kernel) rfl (sk_20 hS2) (aw_iload_n (pc' := 17) (dt_X10_limit 8 (16, .iload_n 1, 1) rfl) rfl rfl (aw_if_ne (pc' := 20) (tgt := 31) (dt_X10_limit 9 (17, .ifCond .ne 14, 3) rfl) (by decide) rfl ?_ ?_))))))
  · intro q4
    have h := h.1 q4
    obtain ⟨g5, h⟩ := h
    obtain ⟨g6, h⟩ := h
    obtain ⟨g7, h⟩ := h
    obtain ⟨g8, h⟩ := h
    obtain ⟨g9, h⟩ := h
    obtain ⟨g10, h⟩ := h
    refine aw_aload_n (pc' := 32) (dt_X10_limit 16 (31, .aload_n 0, 1) rfl) rfl rfl (aw_aload_n (pc' := 33) (dt_X10_limit 17 (32, .aload_n 0, 1) rfl) rfl rfl (aw_getAs (pc' := 36) (dt_X10_limit 18 (33, .getfield 49, 3) rfl) fl_ReturnDesk_49 rfl rfl (sk_11 hS2.wI) (sa_11_6 hS2.wI) (aw_inV (pc' := 39) (nc1 := 1) (ns1 := 400) (nc := nc) (ns := ns) (ls' := [some (.ref 19), none]) (y2 := mX6_written) (As := []) (rest := [.ref 11]) (a := 19) (dt_X10_limit 19 (36, .invokevirtual 215, 3) rfl) ok_X6_written ln_ReturnDesk_215 im_X6_written se_X6_written pr_X6_written (Or.inl ⟨by decide, rfl⟩) rfl (Nat.le_of_ble_eq_true rfl) (Nat.le_of_ble_eq_true rfl) rfl rfl (sk_19 hS2.wI) (aw_aload_n (pc' := 1) (dt_X6_written 0 (0, .aload_n 0, 1) rfl) rfl rfl (aw_getI (pc' := 4) (dt_X6_written 1 (1, .getfield 54, 3) rfl) fl_Reader_54 rfl rfl (sk_19 hS2.wI) (aw_newaB (pc' := 6) (k := 13) (N := (zI (sI μ1 20 1 0) 19 2).toNatClampNeg) (B := 400) (dt_X6_written 2 (4, .newarray .int, 2) rfl) (by decide) (by decide) rfl na_int rfl g5 rfl g6 (by decide) (aw_astore_n (pc' := 7) (ls' := [some (.ref 19), some (.ref (zN (sI μ1 20 1 0)))]) (dt_X6_written 3 (6, .astore_n 1, 1) rfl) (by decide) rfl rfl (aw_aload_n (pc' := 8) (dt_X6_written 4 (7, .aload_n 0, 1) rfl) rfl rfl (aw_getAs (pc' := 11) (dt_X6_written 5 (8, .getfield 18, 3) rfl) fl_Reader_18 rfl rfl (sk_19 hS2.wI.wNew) (sa_19_1 hS2.wI.wNew) (aw_iconst (pc' := 12) (v := 0) (dt_X6_written 6 (11, .iconst 0, 1) rfl) (by decide) rfl (aw_aload_n (pc' := 13) (dt_X6_written 7 (12, .aload_n 1, 1) rfl) rfl rfl (aw_iconst (pc' := 14) (v := 0) (dt_X6_written 8 (13, .iconst 0, 1) rfl) (by decide) rfl (aw_aload_n (pc' := 15) (dt_X6_written 9 (14, .aload_n 0, 1) rfl) rfl rfl (aw_getI (pc' := 18) (dt_X6_written 10 (15, .getfield 54, 3) rfl) fl_Reader_54 rfl rfl (sk_19 hS2.wI.wNew) (aw_copy (pc' := 21) (dt_X6_written 11 (18, .invokestatic 57, 3) rfl) ac_Reader_57 (Nat.le_of_ble_eq_true rfl) rfl (sk_25 hS2.wI.wNew) (zK_new (sI μ1 20 1 0) 13 ((zI (sI μ1 20 1 0) 19 2).toNatClampNeg)) (by decide) g7 (by decide) (by decide) g8 g9 g10 (aw_aload_n (pc' := 22) (dt_X6_written 12 (21, .aload_n 1, 1) rfl) rfl rfl (aw_aret (dt_X6_written 13 (22, .areturn, 1) rfl) rfl rfl (aw_stk (st' := [.ref (zN (sI μ1 20 1 0)), .ref 11]) rfl (aw_putA (pc' := 42) (dt_X10_limit 20 (39, .putfield 393, 3) rfl) fl_ReturnDesk_393 rfl (by decide +kernel) rfl (sk_11 hS2.wI.wNew.wCpy) (aw_iconst (pc' := 43) (v := 1) (dt_X10_limit 21 (42, .iconst 1, 1) rfl) (by decide) rfl (aw_iret (dt_X10_limit 22 (43, .ireturn, 1) rfl) rfl rfl ?_)))))))))))))))))))))
    exact h
  · intro q4
    have h := h.2 q4
    refine aw_bipush (pc' := 22) (v := (-100)) (dt_X10_limit 10 (20, .bipush (-100), 2) rfl) (by decide) rfl (aw_aload_n (pc' := 23) (dt_X10_limit 11 (22, .aload_n 0, 1) rfl) rfl rfl (aw_getAs (pc' := 26) (dt_X10_limit 12 (23, .getfield 49, 3) rfl) fl_ReturnDesk_49 rfl rfl (sk_11 hS2.wI) (sa_11_6 hS2.wI) (aw_inV (pc' := 29) (nc1 := 0) (ns1 := 0) (nc := (nc + 1)) (ns := (ns + 400)) (ls' := [some (.ref 19)]) (y2 := mX6_fault) (As := []) (rest := [.int (-100)]) (a := 19) (dt_X10_limit 13 (26, .invokevirtual 212, 3) rfl) ok_X6_fault ln_ReturnDesk_212 im_X6_fault se_X6_fault pr_X6_fault (Or.inl ⟨by decide, rfl⟩) rfl (Nat.le_of_ble_eq_true rfl) (Nat.le_of_ble_eq_true rfl) rfl rfl (sk_19 hS2.wI) (aw_aload_n (pc' := 1) (dt_X6_fault 0 (0, .aload_n 0, 1) rfl) rfl rfl (aw_getI (pc' := 4) (dt_X6_fault 1 (1, .getfield 45, 3) rfl) fl_Reader_45 rfl rfl (sk_19 hS2.wI) (aw_aload_n (pc' := 5) (dt_X6_fault 2 (4, .aload_n 0, 1) rfl) rfl rfl (aw_getAs (pc' := 8) (dt_X6_fault 3 (5, .getfield 12, 3) rfl) fl_Reader_12 rfl rfl (sk_19 hS2.wI) (sa_19_0 hS2.wI) (aw_getAs (pc' := 11) (dt_X6_fault 4 (8, .getfield 48, 3) rfl) fl_Reader_48 rfl rfl (sk_20 hS2.wI) (sa_20_3 hS2.wI) (aw_alens (pc' := 12) (n := 201) (v := 201) (dt_X6_fault 5 (11, .arraylength, 1) rfl) (by decide) (by decide) rfl (sk_23 hS2.wI) (sl_23 hS2.wI) (by decide) (aw_icmp_ge (pc' := 15) (tgt := 30) (dt_X6_fault 6 (12, .if_icmp .ge 18, 3) rfl) (by decide) rfl ?_ ?_))))))))))
    · intro q11
      have h := h.1 q11
      refine aw_aload_n (pc' := 31) (dt_X6_fault 14 (30, .aload_n 0, 1) rfl) rfl rfl (aw_getAs (pc' := 34) (dt_X6_fault 15 (31, .getfield 12, 3) rfl) fl_Reader_12 rfl rfl (sk_19 hS2.wI) (sa_19_0 hS2.wI) (aw_getI (pc' := 37) (dt_X6_fault 16 (34, .getfield 51, 3) rfl) fl_Reader_51 rfl rfl (sk_20 hS2.wI) (aw_iret (dt_X6_fault 17 (37, .ireturn, 1) rfl) rfl rfl (aw_stk (st' := [.int (zI (sI μ1 20 1 0) 20 1), .int (-100)]) rfl (aw_isub (pc' := 30) (dt_X10_limit 14 (29, .isub, 1) rfl) rfl (aw_iret (dt_X10_limit 15 (30, .ireturn, 1) rfl) rfl rfl ?_))))))
      exact h
    · intro q11
      have h := h.2 q11
      obtain ⟨g12, h⟩ := h
      refine aw_aload_n (pc' := 16) (dt_X6_fault 7 (15, .aload_n 0, 1) rfl) rfl rfl (aw_getAs (pc' := 19) (dt_X6_fault 8 (16, .getfield 12, 3) rfl) fl_Reader_12 rfl rfl (sk_19 hS2.wI) (sa_19_0 hS2.wI) (aw_getAs (pc' := 22) (dt_X6_fault 9 (19, .getfield 48, 3) rfl) fl_Reader_48 rfl rfl (sk_20 hS2.wI) (sa_20_3 hS2.wI) (aw_aload_n (pc' := 23) (dt_X6_fault 10 (22, .aload_n 0, 1) rfl) rfl rfl (aw_getI (pc' := 26) (dt_X6_fault 11 (23, .getfield 45, 3) rfl) fl_Reader_45 rfl rfl (sk_19 hS2.wI) (aw_iald (pc' := 27) (dt_X6_fault 12 (26, .iaload, 1) rfl) rfl (sk_23 hS2.wI) (vin_eq (sl_23 hS2.wI) g12) (aw_goto (tgt := 37) (dt_X6_fault 13 (27, .goto 10, 3) rfl) (by decide) (aw_iret (dt_X6_fault 17 (37, .ireturn, 1) rfl) rfl rfl (aw_stk (st' := [.int (zI (sI μ1 20 1 0) 23 (zI (sI μ1 20 1 0) 19 3).toNatClampNeg), .int (-100)]) rfl (aw_isub (pc' := 30) (dt_X10_limit 14 (29, .isub, 1) rfl) rfl (aw_iret (dt_X10_limit 15 (30, .ireturn, 1) rfl) rfl rfl ?_))))))))))
      exact h

theorem t_X10_tried {E : ZE} {l : Launch} {d nc ns : Nat} {x1 : Int32} {μ : ZM} {K : Option Value → ZM → Prop} (hS : Stat μ) (h :
  (x1 < 0 →
    K (some (.int (-1))) μ) ∧
  (¬ x1 < 0 →
    (3 < x1 →
      K (some (.int (-1))) μ) ∧
    (¬ 3 < x1 →
      (zA μ 11 11 = none →
        K (some (.int (-2))) μ) ∧
      (∀ b4, zA μ 11 11 = some b4 →
        AW E l (d + 6) nc ns mX10_tried 25 [some (.ref 11), some (.int x1), some (.int 0), some (.int 0)] [] μ K)))) : AW E l (d + 6) nc ns mX10_tried 0 [some (.ref 11), some (.int x1), none, none] [] μ K := by
  refine aw_iload_n (pc' := 1) (dt_X10_tried 0 (0, .iload_n 1, 1) rfl) rfl rfl (aw_iconst (pc' := 2) (v := 0) (dt_X10_tried 1 (1, .iconst 0, 1) rfl) (by decide) rfl (aw_iconst (pc' := 3) (v := 3) (dt_X10_tried 2 (2, .iconst 3, 1) rfl) (by decide) rfl (aw_inS (pc' := 6) (nc1 := 0) (ns1 := 0) (nc := nc) (ns := ns) (ls' := [some (.int x1), some (.int 0), some (.int 3)]) (y2 := mX10_within) (As := [.int x1, .int 0, .int 3]) (rest := []) (dt_X10_tried 3 (3, .invokestatic 76, 3) rfl) ok_X10_within ln_ReturnDesk_76 sm_X10_within pr_X10_within rfl (Nat.le_of_ble_eq_true rfl) (Nat.le_of_ble_eq_true rfl) rfl rfl (aw_iload_n (pc' := 1) (dt_X10_within 0 (0, .iload_n 0, 1) rfl) rfl rfl (aw_iload_n (pc' := 2) (dt_X10_within 1 (1, .iload_n 1, 1) rfl) rfl rfl (aw_icmp_lt (pc' := 5) (tgt := 14) (dt_X10_within 2 (2, .if_icmp .lt 12, 3) rfl) (by decide) rfl ?_ ?_))))))
  · intro q1
    have h := h.1 q1
    refine aw_iconst (pc' := 15) (v := 0) (dt_X10_within 8 (14, .iconst 0, 1) rfl) (by decide) rfl (aw_iret (dt_X10_within 9 (15, .ireturn, 1) rfl) rfl rfl (aw_stk (st' := [.int 0]) rfl (aw_if_ne_F (pc' := 9) (tgt := 11) (dt_X10_tried 4 (6, .ifCond .ne 5, 3) rfl) (by decide) rfl (by decide) (aw_iconst (pc' := 10) (v := (-1)) (dt_X10_tried 5 (9, .iconst (-1), 1) rfl) (by decide) rfl (aw_iret (dt_X10_tried 6 (10, .ireturn, 1) rfl) rfl rfl ?_)))))
    exact h
  · intro q1
    have h := h.2 q1
    refine aw_iload_n (pc' := 6) (dt_X10_within 3 (5, .iload_n 0, 1) rfl) rfl rfl (aw_iload_n (pc' := 7) (dt_X10_within 4 (6, .iload_n 2, 1) rfl) rfl rfl (aw_icmp_gt (pc' := 10) (tgt := 14) (dt_X10_within 5 (7, .if_icmp .gt 7, 3) rfl) (by decide) rfl ?_ ?_))
    · intro q2
      have h := h.1 q2
      refine aw_iconst (pc' := 15) (v := 0) (dt_X10_within 8 (14, .iconst 0, 1) rfl) (by decide) rfl (aw_iret (dt_X10_within 9 (15, .ireturn, 1) rfl) rfl rfl (aw_stk (st' := [.int 0]) rfl (aw_if_ne_F (pc' := 9) (tgt := 11) (dt_X10_tried 4 (6, .ifCond .ne 5, 3) rfl) (by decide) rfl (by decide) (aw_iconst (pc' := 10) (v := (-1)) (dt_X10_tried 5 (9, .iconst (-1), 1) rfl) (by decide) rfl (aw_iret (dt_X10_tried 6 (10, .ireturn, 1) rfl) rfl rfl ?_)))))
      exact h
    · intro q2
      have h := h.2 q2
      refine aw_iconst (pc' := 11) (v := 1) (dt_X10_within 6 (10, .iconst 1, 1) rfl) (by decide) rfl (aw_goto (tgt := 15) (dt_X10_within 7 (11, .goto 4, 3) rfl) (by decide) (aw_iret (dt_X10_within 9 (15, .ireturn, 1) rfl) rfl rfl (aw_stk (st' := [.int 1]) rfl (aw_if_ne_T (pc' := 9) (tgt := 11) (dt_X10_tried 4 (6, .ifCond .ne 5, 3) rfl) (by decide) rfl (by decide) (aw_aload_n (pc' := 12) (dt_X10_tried 7 (11, .aload_n 0, 1) rfl) rfl rfl (aw_getA (pc' := 15) (dt_X10_tried 8 (12, .getfield 393, 3) rfl) fl_ReturnDesk_393 rfl rfl (sk_11 hS) ?_ ?_))))))
      · intro e3
        have h := h.1 e3
        refine aw_ifnonnullN (pc' := 18) (dt_X10_tried 9 (15, .ifnonnull 6, 3) rfl) rfl (aw_bipush (pc' := 20) (v := (-2)) (dt_X10_tried 10 (18, .bipush (-2), 2) rfl) (by decide) rfl (aw_iret (dt_X10_tried 11 (20, .ireturn, 1) rfl) rfl rfl ?_))
        exact h
      · intro b4 e3
        have h := h.2 b4 e3
        refine aw_ifnonnull (tgt := 21) (dt_X10_tried 9 (15, .ifnonnull 6, 3) rfl) (by decide) (aw_iconst (pc' := 22) (v := 0) (dt_X10_tried 12 (21, .iconst 0, 1) rfl) (by decide) rfl (aw_istore_n (pc' := 23) (ls' := [some (.ref 11), some (.int x1), some (.int 0), none]) (dt_X10_tried 13 (22, .istore_n 2, 1) rfl) (by decide) rfl rfl (aw_iconst (pc' := 24) (v := 0) (dt_X10_tried 14 (23, .iconst 0, 1) rfl) (by decide) rfl (aw_istore_n (pc' := 25) (ls' := [some (.ref 11), some (.int x1), some (.int 0), some (.int 0)]) (dt_X10_tried 15 (24, .istore_n 3, 1) rfl) (by decide) rfl rfl ?_))))
        exact h

theorem t_X10_tried_25 {E : ZE} {l : Launch} {d nc ns : Nat} {x1 : Int32} {x2 : Int32} {x3 : Int32} {μ : ZM} {K : Option Value → ZM → Prop} (hS : Stat μ) (h :
  (60 ≤ x3 →
    K (some (.int x2)) μ) ∧
  (¬ 60 ≤ x3 →
    AW E l (d + 5) 0 0 mX10_isAmong 0 (zargs 4 [.ref 11, .int x3, .int x1]) [] μ (fun v μ2 => ∃ r4 : Int32, v = some (.int r4) ∧ Stat μ2 ∧ 
      (r4 = 0 →
        AW E l (d + 6) nc ns mX10_tried 25 [some (.ref 11), some (.int x1), some (.int x2), some (.int (x3 + 1))] [] μ2 K) ∧
      (¬ r4 = 0 →
        AW E l (d + 5) 0 0 mX10_boughtBy 0 (zargs 4 [.ref 11, .int x3]) [] μ2 (fun v μ6 => ∃ r8 : Int32, v = some (.int r8) ∧ Stat μ6 ∧ 
          (r8 ≤ 0 →
            AW E l (d + 6) nc ns mX10_tried 25 [some (.ref 11), some (.int x1), some (.int x2), some (.int (x3 + 1))] [] μ6 K) ∧
          (¬ r8 ≤ 0 →
            AW E l (d + 5) 0 0 mX10_isHit 0 (zargs 4 [.ref 11, .int x3]) [] μ6 (fun v μ10 => ∃ r12 : Int32, v = some (.int r12) ∧ Stat μ10 ∧ 
              (r12 = 0 →
                AW E l (d + 6) nc ns mX10_tried 25 [some (.ref 11), some (.int x1), some (.int x2), some (.int (x3 + 1))] [] μ10 K) ∧
              (¬ r12 = 0 →
                AW E l (d + 6) nc ns mX10_tried 25 [some (.ref 11), some (.int x1), some (.int (x2 + 1)), some (.int (x3 + 1))] [] μ10 K)))))))) : AW E l (d + 6) nc ns mX10_tried 25 [some (.ref 11), some (.int x1), some (.int x2), some (.int x3)] [] μ K := by
  refine aw_iload_n (pc' := 26) (dt_X10_tried 16 (25, .iload_n 3, 1) rfl) rfl rfl (aw_aload_n (pc' := 27) (dt_X10_tried 17 (26, .aload_n 0, 1) rfl) rfl rfl (aw_getAs (pc' := 30) (dt_X10_tried 18 (27, .getfield 72, 3) rfl) fl_ReturnDesk_72 rfl rfl (sk_11 hS) (sa_11_10 hS) (aw_alens (pc' := 31) (n := 60) (v := 60) (dt_X10_tried 19 (30, .arraylength, 1) rfl) (by decide) (by decide) rfl (sk_30 hS) (sl_30 hS) (by decide) (aw_icmp_ge (pc' := 34) (tgt := 68) (dt_X10_tried 20 (31, .if_icmp .ge 37, 3) rfl) (by decide) rfl ?_ ?_))))
  · intro q1
    have h := h.1 q1
    refine aw_iload_n (pc' := 69) (dt_X10_tried 37 (68, .iload_n 2, 1) rfl) rfl rfl (aw_iret (dt_X10_tried 38 (69, .ireturn, 1) rfl) rfl rfl ?_)
    exact h
  · intro q1
    have h := h.2 q1
    refine aw_aload_n (pc' := 35) (dt_X10_tried 21 (34, .aload_n 0, 1) rfl) rfl rfl (aw_iload_n (pc' := 36) (dt_X10_tried 22 (35, .iload_n 3, 1) rfl) rfl rfl (aw_iload_n (pc' := 37) (dt_X10_tried 23 (36, .iload_n 1, 1) rfl) rfl rfl (aw_callV0 (pc' := 40) (nc := nc) (ns := ns) (y2 := mX10_isAmong) (As := [.int x3, .int x1]) (rest := []) (a := 11) (dt_X10_tried 24 (37, .invokevirtual 396, 3) rfl) ok_X10_isAmong ln_ReturnDesk_396 im_X10_isAmong se_X10_isAmong pr_X10_isAmong (Or.inl ⟨by decide, rfl⟩) rfl (Nat.le_of_ble_eq_true rfl) (Nat.le_of_ble_eq_true rfl) rfl (sk_11 hS) h ?_)))
    rintro v μ2 ⟨r4, rfl, hS3, h⟩
    refine aw_stk (st' := [.int r4]) rfl ?_
    refine aw_if_eq (pc' := 43) (tgt := 62) (dt_X10_tried 25 (40, .ifCond .eq 22, 3) rfl) (by decide) rfl ?_ ?_
    · intro q5
      have h := h.1 q5
      refine aw_iinc (pc' := 65) (v := 1) (ls' := [some (.ref 11), some (.int x1), some (.int x2), some (.int (x3 + 1))]) (dt_X10_tried 35 (62, .iinc 3 1, 3) rfl) rfl (by decide) (by decide) rfl rfl (aw_goto (tgt := 25) (dt_X10_tried 36 (65, .goto (-40), 3) rfl) (by decide) ?_)
      exact h
    · intro q5
      have h := h.2 q5
      refine aw_aload_n (pc' := 44) (dt_X10_tried 26 (43, .aload_n 0, 1) rfl) rfl rfl (aw_iload_n (pc' := 45) (dt_X10_tried 27 (44, .iload_n 3, 1) rfl) rfl rfl (aw_callV0 (pc' := 48) (nc := nc) (ns := ns) (y2 := mX10_boughtBy) (As := [.int x3]) (rest := []) (a := 11) (dt_X10_tried 28 (45, .invokevirtual 399, 3) rfl) ok_X10_boughtBy ln_ReturnDesk_399 im_X10_boughtBy se_X10_boughtBy pr_X10_boughtBy (Or.inl ⟨by decide, rfl⟩) rfl (Nat.le_of_ble_eq_true rfl) (Nat.le_of_ble_eq_true rfl) rfl (sk_11 hS3) h ?_))
      rintro v μ6 ⟨r8, rfl, hS7, h⟩
      refine aw_stk (st' := [.int r8]) rfl ?_
      refine aw_if_le (pc' := 51) (tgt := 62) (dt_X10_tried 29 (48, .ifCond .le 14, 3) rfl) (by decide) rfl ?_ ?_
      · intro q9
        have h := h.1 q9
        refine aw_iinc (pc' := 65) (v := 1) (ls' := [some (.ref 11), some (.int x1), some (.int x2), some (.int (x3 + 1))]) (dt_X10_tried 35 (62, .iinc 3 1, 3) rfl) rfl (by decide) (by decide) rfl rfl (aw_goto (tgt := 25) (dt_X10_tried 36 (65, .goto (-40), 3) rfl) (by decide) ?_)
        exact h
      · intro q9
        have h := h.2 q9
        refine aw_aload_n (pc' := 52) (dt_X10_tried 30 (51, .aload_n 0, 1) rfl) rfl rfl (aw_iload_n (pc' := 53) (dt_X10_tried 31 (52, .iload_n 3, 1) rfl) rfl rfl (aw_callV0 (pc' := 56) (nc := nc) (ns := ns) (y2 := mX10_isHit) (As := [.int x3]) (rest := []) (a := 11) (dt_X10_tried 32 (53, .invokevirtual 402, 3) rfl) ok_X10_isHit ln_ReturnDesk_402 im_X10_isHit se_X10_isHit pr_X10_isHit (Or.inl ⟨by decide, rfl⟩) rfl (Nat.le_of_ble_eq_true rfl) (Nat.le_of_ble_eq_true rfl) rfl (sk_11 hS7) h ?_))
        rintro v μ10 ⟨r12, rfl, hS11, h⟩
        refine aw_stk (st' := [.int r12]) rfl ?_
        refine aw_if_eq (pc' := 59) (tgt := 62) (dt_X10_tried 33 (56, .ifCond .eq 6, 3) rfl) (by decide) rfl ?_ ?_
        · intro q13
          have h := h.1 q13
          refine aw_iinc (pc' := 65) (v := 1) (ls' := [some (.ref 11), some (.int x1), some (.int x2), some (.int (x3 + 1))]) (dt_X10_tried 35 (62, .iinc 3 1, 3) rfl) rfl (by decide) (by decide) rfl rfl (aw_goto (tgt := 25) (dt_X10_tried 36 (65, .goto (-40), 3) rfl) (by decide) ?_)
          exact h
        · intro q13
          have h := h.2 q13
          refine aw_iinc (pc' := 62) (v := 1) (ls' := [some (.ref 11), some (.int x1), some (.int (x2 + 1)), some (.int x3)]) (dt_X10_tried 34 (59, .iinc 2 1, 3) rfl) rfl (by decide) (by decide) rfl rfl (aw_iinc (pc' := 65) (v := 1) (ls' := [some (.ref 11), some (.int x1), some (.int (x2 + 1)), some (.int (x3 + 1))]) (dt_X10_tried 35 (62, .iinc 3 1, 3) rfl) rfl (by decide) (by decide) rfl rfl (aw_goto (tgt := 25) (dt_X10_tried 36 (65, .goto (-40), 3) rfl) (by decide) ?_))
          exact h

theorem t_X10_hits {E : ZE} {l : Launch} {d nc ns : Nat} {x1 : Int32} {μ : ZM} {K : Option Value → ZM → Prop} (hS : Stat μ) (h :
  (x1 < 0 →
    K (some (.int (-1))) μ) ∧
  (¬ x1 < 0 →
    (59 < x1 →
      K (some (.int (-1))) μ) ∧
    (¬ 59 < x1 →
      (zA μ 11 11 = none →
        K (some (.int (-2))) μ) ∧
      (∀ b4, zA μ 11 11 = some b4 →
        AW E l (d + 5) 0 0 mX10_isHit 0 (zargs 4 [.ref 11, .int x1]) [] μ (fun v μ5 => ∃ r7 : Int32, v = some (.int r7) ∧ Stat μ5 ∧ 
          (r7 = 0 →
            K (some (.int 0)) μ5) ∧
          (¬ r7 = 0 →
            K (some (.int 1)) μ5)))))) : AW E l (d + 6) nc ns mX10_hits 0 [some (.ref 11), some (.int x1)] [] μ K := by
  refine aw_iload_n (pc' := 1) (dt_X10_hits 0 (0, .iload_n 1, 1) rfl) rfl rfl (aw_inS (pc' := 4) (nc1 := 0) (ns1 := 0) (nc := nc) (ns := ns) (ls' := [some (.int x1)]) (y2 := mX10_isBuyer) (As := [.int x1]) (rest := []) (dt_X10_hits 1 (1, .invokestatic 387, 3) rfl) ok_X10_isBuyer ln_ReturnDesk_387 sm_X10_isBuyer pr_X10_isBuyer rfl (Nat.le_of_ble_eq_true rfl) (Nat.le_of_ble_eq_true rfl) rfl rfl (aw_iload_n (pc' := 1) (dt_X10_isBuyer 0 (0, .iload_n 0, 1) rfl) rfl rfl (aw_iconst (pc' := 2) (v := 0) (dt_X10_isBuyer 1 (1, .iconst 0, 1) rfl) (by decide) rfl (aw_bipush (pc' := 4) (v := 59) (dt_X10_isBuyer 2 (2, .bipush 59, 2) rfl) (by decide) rfl (aw_inS (pc' := 7) (nc1 := 0) (ns1 := 0) (nc := 0) (ns := 0) (ls' := [some (.int x1), some (.int 0), some (.int 59)]) (y2 := mX10_within) (As := [.int x1, .int 0, .int 59]) (rest := []) (dt_X10_isBuyer 3 (4, .invokestatic 76, 3) rfl) ok_X10_within ln_ReturnDesk_76 sm_X10_within pr_X10_within rfl (Nat.le_of_ble_eq_true rfl) (Nat.le_of_ble_eq_true rfl) rfl rfl (aw_iload_n (pc' := 1) (dt_X10_within 0 (0, .iload_n 0, 1) rfl) rfl rfl (aw_iload_n (pc' := 2) (dt_X10_within 1 (1, .iload_n 1, 1) rfl) rfl rfl (aw_icmp_lt (pc' := 5) (tgt := 14) (dt_X10_within 2 (2, .if_icmp .lt 12, 3) rfl) (by decide) rfl ?_ ?_))))))))
  · intro q1
    have h := h.1 q1
    refine aw_iconst (pc' := 15) (v := 0) (dt_X10_within 8 (14, .iconst 0, 1) rfl) (by decide) rfl (aw_iret (dt_X10_within 9 (15, .ireturn, 1) rfl) rfl rfl (aw_stk (st' := [.int 0]) rfl (aw_iret (dt_X10_isBuyer 4 (7, .ireturn, 1) rfl) rfl rfl (aw_stk (st' := [.int 0]) rfl (aw_if_ne_F (pc' := 7) (tgt := 9) (dt_X10_hits 2 (4, .ifCond .ne 5, 3) rfl) (by decide) rfl (by decide) (aw_iconst (pc' := 8) (v := (-1)) (dt_X10_hits 3 (7, .iconst (-1), 1) rfl) (by decide) rfl (aw_iret (dt_X10_hits 4 (8, .ireturn, 1) rfl) rfl rfl ?_)))))))
    exact h
  · intro q1
    have h := h.2 q1
    refine aw_iload_n (pc' := 6) (dt_X10_within 3 (5, .iload_n 0, 1) rfl) rfl rfl (aw_iload_n (pc' := 7) (dt_X10_within 4 (6, .iload_n 2, 1) rfl) rfl rfl (aw_icmp_gt (pc' := 10) (tgt := 14) (dt_X10_within 5 (7, .if_icmp .gt 7, 3) rfl) (by decide) rfl ?_ ?_))
    · intro q2
      have h := h.1 q2
      refine aw_iconst (pc' := 15) (v := 0) (dt_X10_within 8 (14, .iconst 0, 1) rfl) (by decide) rfl (aw_iret (dt_X10_within 9 (15, .ireturn, 1) rfl) rfl rfl (aw_stk (st' := [.int 0]) rfl (aw_iret (dt_X10_isBuyer 4 (7, .ireturn, 1) rfl) rfl rfl (aw_stk (st' := [.int 0]) rfl (aw_if_ne_F (pc' := 7) (tgt := 9) (dt_X10_hits 2 (4, .ifCond .ne 5, 3) rfl) (by decide) rfl (by decide) (aw_iconst (pc' := 8) (v := (-1)) (dt_X10_hits 3 (7, .iconst (-1), 1) rfl) (by decide) rfl (aw_iret (dt_X10_hits 4 (8, .ireturn, 1) rfl) rfl rfl ?_)))))))
      exact h
    · intro q2
      have h := h.2 q2
      refine aw_iconst (pc' := 11) (v := 1) (dt_X10_within 6 (10, .iconst 1, 1) rfl) (by decide) rfl (aw_goto (tgt := 15) (dt_X10_within 7 (11, .goto 4, 3) rfl) (by decide) (aw_iret (dt_X10_within 9 (15, .ireturn, 1) rfl) rfl rfl (aw_stk (st' := [.int 1]) rfl (aw_iret (dt_X10_isBuyer 4 (7, .ireturn, 1) rfl) rfl rfl (aw_stk (st' := [.int 1]) rfl (aw_if_ne_T (pc' := 7) (tgt := 9) (dt_X10_hits 2 (4, .ifCond .ne 5, 3) rfl) (by decide) rfl (by decide) (aw_aload_n (pc' := 10) (dt_X10_hits 5 (9, .aload_n 0, 1) rfl) rfl rfl (aw_getA (pc' := 13) (dt_X10_hits 6 (10, .getfield 393, 3) rfl) fl_ReturnDesk_393 rfl rfl (sk_11 hS) ?_ ?_))))))))
      · intro e3
        have h := h.1 e3
        refine aw_ifnonnullN (pc' := 16) (dt_X10_hits 7 (13, .ifnonnull 8, 3) rfl) rfl (aw_bipush (pc' := 18) (v := (-2)) (dt_X10_hits 8 (16, .bipush (-2), 2) rfl) (by decide) rfl (aw_goto (tgt := 29) (dt_X10_hits 9 (18, .goto 11, 3) rfl) (by decide) (aw_iret (dt_X10_hits 14 (29, .ireturn, 1) rfl) rfl rfl ?_)))
        exact h
      · intro b4 e3
        have h := h.2 b4 e3
        refine aw_ifnonnull (tgt := 21) (dt_X10_hits 7 (13, .ifnonnull 8, 3) rfl) (by decide) (aw_aload_n (pc' := 22) (dt_X10_hits 10 (21, .aload_n 0, 1) rfl) rfl rfl (aw_iload_n (pc' := 23) (dt_X10_hits 11 (22, .iload_n 1, 1) rfl) rfl rfl (aw_callV0 (pc' := 26) (nc := nc) (ns := ns) (y2 := mX10_isHit) (As := [.int x1]) (rest := []) (a := 11) (dt_X10_hits 12 (23, .invokevirtual 402, 3) rfl) ok_X10_isHit ln_ReturnDesk_402 im_X10_isHit se_X10_isHit pr_X10_isHit (Or.inl ⟨by decide, rfl⟩) rfl (Nat.le_of_ble_eq_true rfl) (Nat.le_of_ble_eq_true rfl) rfl (sk_11 hS) h ?_)))
        rintro v μ5 ⟨r7, rfl, hS6, h⟩
        refine aw_stk (st' := [.int r7]) rfl ?_
        refine aw_inS (pc' := 29) (nc1 := 0) (ns1 := 0) (nc := nc) (ns := ns) (ls' := [some (.int r7)]) (y2 := mX10_asBit) (As := [.int r7]) (rest := []) (dt_X10_hits 13 (26, .invokestatic 287, 3) rfl) ok_X10_asBit ln_ReturnDesk_287 sm_X10_asBit pr_X10_asBit rfl (Nat.le_of_ble_eq_true rfl) (Nat.le_of_ble_eq_true rfl) rfl rfl (aw_iload_n (pc' := 1) (dt_X10_asBit 0 (0, .iload_n 0, 1) rfl) rfl rfl (aw_if_eq (pc' := 4) (tgt := 8) (dt_X10_asBit 1 (1, .ifCond .eq 7, 3) rfl) (by decide) rfl ?_ ?_))
        · intro q8
          have h := h.1 q8
          refine aw_iconst (pc' := 9) (v := 0) (dt_X10_asBit 4 (8, .iconst 0, 1) rfl) (by decide) rfl (aw_iret (dt_X10_asBit 5 (9, .ireturn, 1) rfl) rfl rfl (aw_stk (st' := [.int 0]) rfl (aw_iret (dt_X10_hits 14 (29, .ireturn, 1) rfl) rfl rfl ?_)))
          exact h
        · intro q8
          have h := h.2 q8
          refine aw_iconst (pc' := 5) (v := 1) (dt_X10_asBit 2 (4, .iconst 1, 1) rfl) (by decide) rfl (aw_goto (tgt := 9) (dt_X10_asBit 3 (5, .goto 4, 3) rfl) (by decide) (aw_iret (dt_X10_asBit 5 (9, .ireturn, 1) rfl) rfl rfl (aw_stk (st' := [.int 1]) rfl (aw_iret (dt_X10_hits 14 (29, .ireturn, 1) rfl) rfl rfl ?_))))
          exact h

theorem t_X10_size {E : ZE} {l : Launch} {d nc ns : Nat} {x1 : Int32} {x2 : Int32} {μ : ZM} {K : Option Value → ZM → Prop} (hS : Stat μ) (h :
  (x1 < 0 →
    K (some (.int (-1))) μ) ∧
  (¬ x1 < 0 →
    (((zI μ 11 14) - 1) < x1 →
      K (some (.int (-1))) μ) ∧
    (¬ ((zI μ 11 14) - 1) < x1 →
      (vp_in x1 300) ∧
      (zA μ 14 x1.toNatClampNeg = none →
        K (some (.int (-1))) μ) ∧
      (∀ b5, zA μ 14 x1.toNatClampNeg = some b5 →
        (x2 < 0 →
          K (some (.int (-1))) μ) ∧
        (¬ x2 < 0 →
          (2 < x2 →
            K (some (.int (-1))) μ) ∧
          (¬ 2 < x2 →
            (zK μ b5 = 7) ∧
            ((zI μ b5 11) = 2 →
              K (some (.int (zI μ b5 14))) (sI μ b5 14 x2)) ∧
            (¬ (zI μ b5 11) = 2 →
              K (some (.int (-2))) μ))))))) : AW E l (d + 2) nc ns mX10_size 0 [some (.ref 11), some (.int x1), some (.int x2), none, none] [] μ K := by
  refine aw_aload_n (pc' := 1) (dt_X10_size 0 (0, .aload_n 0, 1) rfl) rfl rfl (aw_iload_n (pc' := 2) (dt_X10_size 1 (1, .iload_n 1, 1) rfl) rfl rfl (aw_inV (pc' := 5) (nc1 := 0) (ns1 := 0) (nc := nc) (ns := ns) (ls' := [some (.ref 11), some (.int x1)]) (y2 := mX10_saleAt) (As := [.int x1]) (rest := []) (a := 11) (dt_X10_size 2 (2, .invokevirtual 152, 3) rfl) ok_X10_saleAt ln_ReturnDesk_152 im_X10_saleAt se_X10_saleAt pr_X10_saleAt (Or.inl ⟨by decide, rfl⟩) rfl (Nat.le_of_ble_eq_true rfl) (Nat.le_of_ble_eq_true rfl) rfl rfl (sk_11 hS) (aw_iload_n (pc' := 1) (dt_X10_saleAt 0 (0, .iload_n 1, 1) rfl) rfl rfl (aw_iconst (pc' := 2) (v := 0) (dt_X10_saleAt 1 (1, .iconst 0, 1) rfl) (by decide) rfl (aw_aload_n (pc' := 3) (dt_X10_saleAt 2 (2, .aload_n 0, 1) rfl) rfl rfl (aw_getI (pc' := 6) (dt_X10_saleAt 3 (3, .getfield 131, 3) rfl) fl_ReturnDesk_131 rfl rfl (sk_11 hS) (aw_iconst (pc' := 7) (v := 1) (dt_X10_saleAt 4 (6, .iconst 1, 1) rfl) (by decide) rfl (aw_isub (pc' := 8) (dt_X10_saleAt 5 (7, .isub, 1) rfl) rfl (aw_inS (pc' := 11) (nc1 := 0) (ns1 := 0) (nc := 0) (ns := 0) (ls' := [some (.int x1), some (.int 0), some (.int ((zI μ 11 14) - 1))]) (y2 := mX10_within) (As := [.int x1, .int 0, .int ((zI μ 11 14) - 1)]) (rest := []) (dt_X10_saleAt 6 (8, .invokestatic 76, 3) rfl) ok_X10_within ln_ReturnDesk_76 sm_X10_within pr_X10_within rfl (Nat.le_of_ble_eq_true rfl) (Nat.le_of_ble_eq_true rfl) rfl rfl (aw_iload_n (pc' := 1) (dt_X10_within 0 (0, .iload_n 0, 1) rfl) rfl rfl (aw_iload_n (pc' := 2) (dt_X10_within 1 (1, .iload_n 1, 1) rfl) rfl rfl (aw_icmp_lt (pc' := 5) (tgt := 14) (dt_X10_within 2 (2, .if_icmp .lt 12, 3) rfl) (by decide) rfl ?_ ?_))))))))))))
  · intro q1
    have h := h.1 q1
    refine aw_iconst (pc' := 15) (v := 0) (dt_X10_within 8 (14, .iconst 0, 1) rfl) (by decide) rfl (aw_iret (dt_X10_within 9 (15, .ireturn, 1) rfl) rfl rfl (aw_stk (st' := [.int 0]) rfl (aw_if_eq_T (pc' := 14) (tgt := 23) (dt_X10_saleAt 7 (11, .ifCond .eq 12, 3) rfl) (by decide) rfl (by decide) (aw_null (pc' := 24) (dt_X10_saleAt 13 (23, .aconst_null, 1) rfl) rfl (aw_aretN (dt_X10_saleAt 14 (24, .areturn, 1) rfl) rfl rfl (aw_stk (st' := [.null]) rfl (aw_astore_nN (pc' := 6) (ls' := [some (.ref 11), some (.int x1), some (.int x2), some (.null), none]) (dt_X10_size 3 (5, .astore_n 3, 1) rfl) (by decide) rfl rfl (aw_aload_nN (pc' := 7) (dt_X10_size 4 (6, .aload_n 3, 1) rfl) rfl rfl (aw_ifnullN (tgt := 19) (dt_X10_size 5 (7, .ifnull 12, 3) rfl) (by decide) (aw_iconst (pc' := 20) (v := (-1)) (dt_X10_size 11 (19, .iconst (-1), 1) rfl) (by decide) rfl (aw_iret (dt_X10_size 12 (20, .ireturn, 1) rfl) rfl rfl ?_)))))))))))
    exact h
  · intro q1
    have h := h.2 q1
    refine aw_iload_n (pc' := 6) (dt_X10_within 3 (5, .iload_n 0, 1) rfl) rfl rfl (aw_iload_n (pc' := 7) (dt_X10_within 4 (6, .iload_n 2, 1) rfl) rfl rfl (aw_icmp_gt (pc' := 10) (tgt := 14) (dt_X10_within 5 (7, .if_icmp .gt 7, 3) rfl) (by decide) rfl ?_ ?_))
    · intro q2
      have h := h.1 q2
      refine aw_iconst (pc' := 15) (v := 0) (dt_X10_within 8 (14, .iconst 0, 1) rfl) (by decide) rfl (aw_iret (dt_X10_within 9 (15, .ireturn, 1) rfl) rfl rfl (aw_stk (st' := [.int 0]) rfl (aw_if_eq_T (pc' := 14) (tgt := 23) (dt_X10_saleAt 7 (11, .ifCond .eq 12, 3) rfl) (by decide) rfl (by decide) (aw_null (pc' := 24) (dt_X10_saleAt 13 (23, .aconst_null, 1) rfl) rfl (aw_aretN (dt_X10_saleAt 14 (24, .areturn, 1) rfl) rfl rfl (aw_stk (st' := [.null]) rfl (aw_astore_nN (pc' := 6) (ls' := [some (.ref 11), some (.int x1), some (.int x2), some (.null), none]) (dt_X10_size 3 (5, .astore_n 3, 1) rfl) (by decide) rfl rfl (aw_aload_nN (pc' := 7) (dt_X10_size 4 (6, .aload_n 3, 1) rfl) rfl rfl (aw_ifnullN (tgt := 19) (dt_X10_size 5 (7, .ifnull 12, 3) rfl) (by decide) (aw_iconst (pc' := 20) (v := (-1)) (dt_X10_size 11 (19, .iconst (-1), 1) rfl) (by decide) rfl (aw_iret (dt_X10_size 12 (20, .ireturn, 1) rfl) rfl rfl ?_)))))))))))
      exact h
    · intro q2
      have h := h.2 q2
      obtain ⟨g3, h⟩ := h
      refine aw_iconst (pc' := 11) (v := 1) (dt_X10_within 6 (10, .iconst 1, 1) rfl) (by decide) rfl (aw_goto (tgt := 15) (dt_X10_within 7 (11, .goto 4, 3) rfl) (by decide) (aw_iret (dt_X10_within 9 (15, .ireturn, 1) rfl) rfl rfl (aw_stk (st' := [.int 1]) rfl (aw_if_eq_F (pc' := 14) (tgt := 23) (dt_X10_saleAt 7 (11, .ifCond .eq 12, 3) rfl) (by decide) rfl (by decide) (aw_aload_n (pc' := 15) (dt_X10_saleAt 8 (14, .aload_n 0, 1) rfl) rfl rfl (aw_getAs (pc' := 18) (dt_X10_saleAt 9 (15, .getfield 23, 3) rfl) fl_ReturnDesk_23 rfl rfl (sk_11 hS) (sa_11_2 hS) (aw_iload_n (pc' := 19) (dt_X10_saleAt 10 (18, .iload_n 1, 1) rfl) rfl rfl (aw_aald (pc' := 20) (dt_X10_saleAt 11 (19, .aaload, 1) rfl) (by decide) (by decide) rfl (sk_14 hS) (vin_eq (sl_14 hS) g3) ?_ ?_))))))))
      · intro e4
        have h := h.1 e4
        refine aw_goto (tgt := 24) (dt_X10_saleAt 12 (20, .goto 4, 3) rfl) (by decide) (aw_aretN (dt_X10_saleAt 14 (24, .areturn, 1) rfl) rfl rfl (aw_stk (st' := [.null]) rfl (aw_astore_nN (pc' := 6) (ls' := [some (.ref 11), some (.int x1), some (.int x2), some (.null), none]) (dt_X10_size 3 (5, .astore_n 3, 1) rfl) (by decide) rfl rfl (aw_aload_nN (pc' := 7) (dt_X10_size 4 (6, .aload_n 3, 1) rfl) rfl rfl (aw_ifnullN (tgt := 19) (dt_X10_size 5 (7, .ifnull 12, 3) rfl) (by decide) (aw_iconst (pc' := 20) (v := (-1)) (dt_X10_size 11 (19, .iconst (-1), 1) rfl) (by decide) rfl (aw_iret (dt_X10_size 12 (20, .ireturn, 1) rfl) rfl rfl ?_)))))))
        exact h
      · intro b5 e4
        have h := h.2 b5 e4
        refine aw_goto (tgt := 24) (dt_X10_saleAt 12 (20, .goto 4, 3) rfl) (by decide) (aw_aret (dt_X10_saleAt 14 (24, .areturn, 1) rfl) rfl rfl (aw_stk (st' := [.ref b5]) rfl (aw_astore_n (pc' := 6) (ls' := [some (.ref 11), some (.int x1), some (.int x2), some (.ref b5), none]) (dt_X10_size 3 (5, .astore_n 3, 1) rfl) (by decide) rfl rfl (aw_aload_n (pc' := 7) (dt_X10_size 4 (6, .aload_n 3, 1) rfl) rfl rfl (aw_ifnull (pc' := 10) (dt_X10_size 5 (7, .ifnull 12, 3) rfl) rfl (aw_iload_n (pc' := 11) (dt_X10_size 6 (10, .iload_n 2, 1) rfl) rfl rfl (aw_iconst (pc' := 12) (v := 0) (dt_X10_size 7 (11, .iconst 0, 1) rfl) (by decide) rfl (aw_iconst (pc' := 13) (v := 2) (dt_X10_size 8 (12, .iconst 2, 1) rfl) (by decide) rfl (aw_inS (pc' := 16) (nc1 := 0) (ns1 := 0) (nc := nc) (ns := ns) (ls' := [some (.int x2), some (.int 0), some (.int 2)]) (y2 := mX10_within) (As := [.int x2, .int 0, .int 2]) (rest := []) (dt_X10_size 9 (13, .invokestatic 76, 3) rfl) ok_X10_within ln_ReturnDesk_76 sm_X10_within pr_X10_within rfl (Nat.le_of_ble_eq_true rfl) (Nat.le_of_ble_eq_true rfl) rfl rfl (aw_iload_n (pc' := 1) (dt_X10_within 0 (0, .iload_n 0, 1) rfl) rfl rfl (aw_iload_n (pc' := 2) (dt_X10_within 1 (1, .iload_n 1, 1) rfl) rfl rfl (aw_icmp_lt (pc' := 5) (tgt := 14) (dt_X10_within 2 (2, .if_icmp .lt 12, 3) rfl) (by decide) rfl ?_ ?_))))))))))))
        · intro q6
          have h := h.1 q6
          refine aw_iconst (pc' := 15) (v := 0) (dt_X10_within 8 (14, .iconst 0, 1) rfl) (by decide) rfl (aw_iret (dt_X10_within 9 (15, .ireturn, 1) rfl) rfl rfl (aw_stk (st' := [.int 0]) rfl (aw_if_ne_F (pc' := 19) (tgt := 21) (dt_X10_size 10 (16, .ifCond .ne 5, 3) rfl) (by decide) rfl (by decide) (aw_iconst (pc' := 20) (v := (-1)) (dt_X10_size 11 (19, .iconst (-1), 1) rfl) (by decide) rfl (aw_iret (dt_X10_size 12 (20, .ireturn, 1) rfl) rfl rfl ?_)))))
          exact h
        · intro q6
          have h := h.2 q6
          refine aw_iload_n (pc' := 6) (dt_X10_within 3 (5, .iload_n 0, 1) rfl) rfl rfl (aw_iload_n (pc' := 7) (dt_X10_within 4 (6, .iload_n 2, 1) rfl) rfl rfl (aw_icmp_gt (pc' := 10) (tgt := 14) (dt_X10_within 5 (7, .if_icmp .gt 7, 3) rfl) (by decide) rfl ?_ ?_))
          · intro q7
            have h := h.1 q7
            refine aw_iconst (pc' := 15) (v := 0) (dt_X10_within 8 (14, .iconst 0, 1) rfl) (by decide) rfl (aw_iret (dt_X10_within 9 (15, .ireturn, 1) rfl) rfl rfl (aw_stk (st' := [.int 0]) rfl (aw_if_ne_F (pc' := 19) (tgt := 21) (dt_X10_size 10 (16, .ifCond .ne 5, 3) rfl) (by decide) rfl (by decide) (aw_iconst (pc' := 20) (v := (-1)) (dt_X10_size 11 (19, .iconst (-1), 1) rfl) (by decide) rfl (aw_iret (dt_X10_size 12 (20, .ireturn, 1) rfl) rfl rfl ?_)))))
            exact h
          · intro q7
            have h := h.2 q7
            obtain ⟨g8, h⟩ := h
            refine aw_iconst (pc' := 11) (v := 1) (dt_X10_within 6 (10, .iconst 1, 1) rfl) (by decide) rfl (aw_goto (tgt := 15) (dt_X10_within 7 (11, .goto 4, 3) rfl) (by decide) (aw_iret (dt_X10_within 9 (15, .ireturn, 1) rfl) rfl rfl (aw_stk (st' := [.int 1]) rfl (aw_if_ne_T (pc' := 19) (tgt := 21) (dt_X10_size 10 (16, .ifCond .ne 5, 3) rfl) (by decide) rfl (by decide) (aw_aload_n (pc' := 22) (dt_X10_size 13 (21, .aload_n 3, 1) rfl) rfl rfl (aw_getI (pc' := 25) (dt_X10_size 14 (22, .getfield 160, 3) rfl) fl_ReturnDesk_160 rfl rfl g8 (aw_iconst (pc' := 26) (v := 2) (dt_X10_size 15 (25, .iconst 2, 1) rfl) (by decide) rfl (aw_icmp_eq (pc' := 29) (tgt := 32) (dt_X10_size 16 (26, .if_icmp .eq 6, 3) rfl) (by decide) rfl ?_ ?_))))))))
            · intro q9
              have h := h.1 q9
              refine aw_aload_n (pc' := 33) (dt_X10_size 19 (32, .aload_n 3, 1) rfl) rfl rfl (aw_getI (pc' := 36) (dt_X10_size 20 (33, .getfield 405, 3) rfl) fl_ReturnDesk_405 rfl rfl g8 (aw_istore (pc' := 38) (ls' := [some (.ref 11), some (.int x1), some (.int x2), some (.ref b5), some (.int (zI μ b5 14))]) (dt_X10_size 21 (36, .istore 4, 2) rfl) (by decide) rfl rfl (aw_aload_n (pc' := 39) (dt_X10_size 22 (38, .aload_n 3, 1) rfl) rfl rfl (aw_iload_n (pc' := 40) (dt_X10_size 23 (39, .iload_n 2, 1) rfl) rfl rfl (aw_putI (pc' := 43) (dt_X10_size 24 (40, .putfield 405, 3) rfl) fl_ReturnDesk_405 rfl (by decide +kernel) rfl g8 (aw_iload (pc' := 45) (dt_X10_size 25 (43, .iload 4, 2) rfl) rfl rfl (aw_iret (dt_X10_size 26 (45, .ireturn, 1) rfl) rfl rfl ?_)))))))
              exact h
            · intro q9
              have h := h.2 q9
              refine aw_bipush (pc' := 31) (v := (-2)) (dt_X10_size 17 (29, .bipush (-2), 2) rfl) (by decide) rfl (aw_iret (dt_X10_size 18 (31, .ireturn, 1) rfl) rfl rfl ?_)
              exact h

theorem t_X10_shift {E : ZE} {l : Launch} {d nc ns : Nat} {x1 : Int32} {μ : ZM} {K : Option Value → ZM → Prop} (hS : Stat μ) (h :
  (x1 < 0 →
    K (some (.int (-9))) μ) ∧
  (¬ x1 < 0 →
    (((zI μ 11 12) - 1) < x1 →
      K (some (.int (-9))) μ) ∧
    (¬ ((zI μ 11 12) - 1) < x1 →
      (vp_in x1 20) ∧
      (zA μ 12 x1.toNatClampNeg = none →
        K (some (.int (-9))) μ) ∧
      (∀ b5, zA μ 12 x1.toNatClampNeg = some b5 →
        AW E l (d + 2) nc ns mX10_shift 18 [some (.ref 11), none, some (.ref b5), some (.int 0), some (.int 0), none] [] μ K)))) : AW E l (d + 2) nc ns mX10_shift 0 [some (.ref 11), some (.int x1), none, none, none, none] [] μ K := by
  refine aw_aload_n (pc' := 1) (dt_X10_shift 0 (0, .aload_n 0, 1) rfl) rfl rfl (aw_iload_n (pc' := 2) (dt_X10_shift 1 (1, .iload_n 1, 1) rfl) rfl rfl (aw_inV (pc' := 5) (nc1 := 0) (ns1 := 0) (nc := nc) (ns := ns) (ls' := [some (.ref 11), some (.int x1)]) (y2 := mX10_modelAt) (As := [.int x1]) (rest := []) (a := 11) (dt_X10_shift 2 (2, .invokevirtual 88, 3) rfl) ok_X10_modelAt ln_ReturnDesk_88 im_X10_modelAt se_X10_modelAt pr_X10_modelAt (Or.inl ⟨by decide, rfl⟩) rfl (Nat.le_of_ble_eq_true rfl) (Nat.le_of_ble_eq_true rfl) rfl rfl (sk_11 hS) (aw_iload_n (pc' := 1) (dt_X10_modelAt 0 (0, .iload_n 1, 1) rfl) rfl rfl (aw_iconst (pc' := 2) (v := 0) (dt_X10_modelAt 1 (1, .iconst 0, 1) rfl) (by decide) rfl (aw_aload_n (pc' := 3) (dt_X10_modelAt 2 (2, .aload_n 0, 1) rfl) rfl rfl (aw_getI (pc' := 6) (dt_X10_modelAt 3 (3, .getfield 81, 3) rfl) fl_ReturnDesk_81 rfl rfl (sk_11 hS) (aw_iconst (pc' := 7) (v := 1) (dt_X10_modelAt 4 (6, .iconst 1, 1) rfl) (by decide) rfl (aw_isub (pc' := 8) (dt_X10_modelAt 5 (7, .isub, 1) rfl) rfl (aw_inS (pc' := 11) (nc1 := 0) (ns1 := 0) (nc := 0) (ns := 0) (ls' := [some (.int x1), some (.int 0), some (.int ((zI μ 11 12) - 1))]) (y2 := mX10_within) (As := [.int x1, .int 0, .int ((zI μ 11 12) - 1)]) (rest := []) (dt_X10_modelAt 6 (8, .invokestatic 76, 3) rfl) ok_X10_within ln_ReturnDesk_76 sm_X10_within pr_X10_within rfl (Nat.le_of_ble_eq_true rfl) (Nat.le_of_ble_eq_true rfl) rfl rfl (aw_iload_n (pc' := 1) (dt_X10_within 0 (0, .iload_n 0, 1) rfl) rfl rfl (aw_iload_n (pc' := 2) (dt_X10_within 1 (1, .iload_n 1, 1) rfl) rfl rfl (aw_icmp_lt (pc' := 5) (tgt := 14) (dt_X10_within 2 (2, .if_icmp .lt 12, 3) rfl) (by decide) rfl ?_ ?_))))))))))))
  · intro q1
    have h := h.1 q1
    refine aw_iconst (pc' := 15) (v := 0) (dt_X10_within 8 (14, .iconst 0, 1) rfl) (by decide) rfl (aw_iret (dt_X10_within 9 (15, .ireturn, 1) rfl) rfl rfl (aw_stk (st' := [.int 0]) rfl (aw_if_eq_T (pc' := 14) (tgt := 23) (dt_X10_modelAt 7 (11, .ifCond .eq 12, 3) rfl) (by decide) rfl (by decide) (aw_null (pc' := 24) (dt_X10_modelAt 13 (23, .aconst_null, 1) rfl) rfl (aw_aretN (dt_X10_modelAt 14 (24, .areturn, 1) rfl) rfl rfl (aw_stk (st' := [.null]) rfl (aw_astore_nN (pc' := 6) (ls' := [some (.ref 11), some (.int x1), some (.null), none, none, none]) (dt_X10_shift 3 (5, .astore_n 2, 1) rfl) (by decide) rfl rfl (aw_aload_nN (pc' := 7) (dt_X10_shift 4 (6, .aload_n 2, 1) rfl) rfl rfl (aw_ifnonnullN (pc' := 10) (dt_X10_shift 5 (7, .ifnonnull 6, 3) rfl) rfl (aw_bipush (pc' := 12) (v := (-9)) (dt_X10_shift 6 (10, .bipush (-9), 2) rfl) (by decide) rfl (aw_iret (dt_X10_shift 7 (12, .ireturn, 1) rfl) rfl rfl ?_)))))))))))
    exact h
  · intro q1
    have h := h.2 q1
    refine aw_iload_n (pc' := 6) (dt_X10_within 3 (5, .iload_n 0, 1) rfl) rfl rfl (aw_iload_n (pc' := 7) (dt_X10_within 4 (6, .iload_n 2, 1) rfl) rfl rfl (aw_icmp_gt (pc' := 10) (tgt := 14) (dt_X10_within 5 (7, .if_icmp .gt 7, 3) rfl) (by decide) rfl ?_ ?_))
    · intro q2
      have h := h.1 q2
      refine aw_iconst (pc' := 15) (v := 0) (dt_X10_within 8 (14, .iconst 0, 1) rfl) (by decide) rfl (aw_iret (dt_X10_within 9 (15, .ireturn, 1) rfl) rfl rfl (aw_stk (st' := [.int 0]) rfl (aw_if_eq_T (pc' := 14) (tgt := 23) (dt_X10_modelAt 7 (11, .ifCond .eq 12, 3) rfl) (by decide) rfl (by decide) (aw_null (pc' := 24) (dt_X10_modelAt 13 (23, .aconst_null, 1) rfl) rfl (aw_aretN (dt_X10_modelAt 14 (24, .areturn, 1) rfl) rfl rfl (aw_stk (st' := [.null]) rfl (aw_astore_nN (pc' := 6) (ls' := [some (.ref 11), some (.int x1), some (.null), none, none, none]) (dt_X10_shift 3 (5, .astore_n 2, 1) rfl) (by decide) rfl rfl (aw_aload_nN (pc' := 7) (dt_X10_shift 4 (6, .aload_n 2, 1) rfl) rfl rfl (aw_ifnonnullN (pc' := 10) (dt_X10_shift 5 (7, .ifnonnull 6, 3) rfl) rfl (aw_bipush (pc' := 12) (v := (-9)) (dt_X10_shift 6 (10, .bipush (-9), 2) rfl) (by decide) rfl (aw_iret (dt_X10_shift 7 (12, .ireturn, 1) rfl) rfl rfl ?_)))))))))))
      exact h
    · intro q2
      have h := h.2 q2
      obtain ⟨g3, h⟩ := h
      refine aw_iconst (pc' := 11) (v := 1) (dt_X10_within 6 (10, .iconst 1, 1) rfl) (by decide) rfl (aw_goto (tgt := 15) (dt_X10_within 7 (11, .goto 4, 3) rfl) (by decide) (aw_iret (dt_X10_within 9 (15, .ireturn, 1) rfl) rfl rfl (aw_stk (st' := [.int 1]) rfl (aw_if_eq_F (pc' := 14) (tgt := 23) (dt_X10_modelAt 7 (11, .ifCond .eq 12, 3) rfl) (by decide) rfl (by decide) (aw_aload_n (pc' := 15) (dt_X10_modelAt 8 (14, .aload_n 0, 1) rfl) rfl rfl (aw_getAs (pc' := 18) (dt_X10_modelAt 9 (15, .getfield 11, 3) rfl) fl_ReturnDesk_11 rfl rfl (sk_11 hS) (sa_11_0 hS) (aw_iload_n (pc' := 19) (dt_X10_modelAt 10 (18, .iload_n 1, 1) rfl) rfl rfl (aw_aald (pc' := 20) (dt_X10_modelAt 11 (19, .aaload, 1) rfl) (by decide) (by decide) rfl (sk_12 hS) (vin_eq (sl_12 hS) g3) ?_ ?_))))))))
      · intro e4
        have h := h.1 e4
        refine aw_goto (tgt := 24) (dt_X10_modelAt 12 (20, .goto 4, 3) rfl) (by decide) (aw_aretN (dt_X10_modelAt 14 (24, .areturn, 1) rfl) rfl rfl (aw_stk (st' := [.null]) rfl (aw_astore_nN (pc' := 6) (ls' := [some (.ref 11), some (.int x1), some (.null), none, none, none]) (dt_X10_shift 3 (5, .astore_n 2, 1) rfl) (by decide) rfl rfl (aw_aload_nN (pc' := 7) (dt_X10_shift 4 (6, .aload_n 2, 1) rfl) rfl rfl (aw_ifnonnullN (pc' := 10) (dt_X10_shift 5 (7, .ifnonnull 6, 3) rfl) rfl (aw_bipush (pc' := 12) (v := (-9)) (dt_X10_shift 6 (10, .bipush (-9), 2) rfl) (by decide) rfl (aw_iret (dt_X10_shift 7 (12, .ireturn, 1) rfl) rfl rfl ?_)))))))
        exact h
      · intro b5 e4
        have h := h.2 b5 e4
        refine aw_goto (tgt := 24) (dt_X10_modelAt 12 (20, .goto 4, 3) rfl) (by decide) (aw_aret (dt_X10_modelAt 14 (24, .areturn, 1) rfl) rfl rfl (aw_stk (st' := [.ref b5]) rfl (aw_astore_n (pc' := 6) (ls' := [some (.ref 11), some (.int x1), some (.ref b5), none, none, none]) (dt_X10_shift 3 (5, .astore_n 2, 1) rfl) (by decide) rfl rfl (aw_aload_n (pc' := 7) (dt_X10_shift 4 (6, .aload_n 2, 1) rfl) rfl rfl (aw_ifnonnull (tgt := 13) (dt_X10_shift 5 (7, .ifnonnull 6, 3) rfl) (by decide) (aw_iconst (pc' := 14) (v := 0) (dt_X10_shift 8 (13, .iconst 0, 1) rfl) (by decide) rfl (aw_istore_n (pc' := 15) (ls' := [some (.ref 11), some (.int x1), some (.ref b5), some (.int 0), none, none]) (dt_X10_shift 9 (14, .istore_n 3, 1) rfl) (by decide) rfl rfl (aw_iconst (pc' := 16) (v := 0) (dt_X10_shift 10 (15, .iconst 0, 1) rfl) (by decide) rfl (aw_istore (pc' := 18) (ls' := [some (.ref 11), some (.int x1), some (.ref b5), some (.int 0), some (.int 0), none]) (dt_X10_shift 11 (16, .istore 4, 2) rfl) (by decide) rfl rfl (aw_drop (ls' := [some (.ref 11), none, some (.ref b5), some (.int 0), some (.int 0), none]) ⟨rfl, rfl, rfl, rfl, trivial⟩ ?_))))))))))
        exact h

theorem t_X10_shift_18 {E : ZE} {l : Launch} {d nc ns : Nat} {a2 : Nat} {x3 : Int32} {x4 : Int32} {μ : ZM} {K : Option Value → ZM → Prop} (hS : Stat μ) (h :
  ((zI μ 11 14) ≤ x4 →
    (x3 < 3 →
      ((-3) < x3 →
        K (some (.int 0)) μ) ∧
      (¬ (-3) < x3 →
        K (some (.int (-1))) μ)) ∧
    (¬ x3 < 3 →
      K (some (.int 1)) μ)) ∧
  (¬ (zI μ 11 14) ≤ x4 →
    (vp_in x4 300) ∧
    (zA μ 14 x4.toNatClampNeg = none →
      False) ∧
    (∀ b6, zA μ 14 x4.toNatClampNeg = some b6 →
      (zK μ b6 = 7) ∧
      (zA μ b6 1 = none →
        False) ∧
      (∀ b9, zA μ b6 1 = some b9 →
        (11 ≤ b9) ∧
        (11 ≤ a2) ∧
        (¬ b9 = a2 →
          AW E l (d + 2) nc ns mX10_shift 18 [some (.ref 11), none, some (.ref a2), some (.int x3), some (.int (x4 + 1)), none] [] μ K) ∧
        (b9 = a2 →
          (¬ (zI μ b6 11) = 2 →
            AW E l (d + 2) nc ns mX10_shift 18 [some (.ref 11), none, some (.ref a2), some (.int x3), some (.int (x4 + 1)), none] [] μ K) ∧
          ((zI μ b6 11) = 2 →
            ((zI μ b6 14) = 0 →
              AW E l (d + 2) nc ns mX10_shift 18 [some (.ref 11), none, some (.ref a2), some (.int x3), some (.int (x4 + 1)), none] [] μ K) ∧
            (¬ (zI μ b6 14) = 0 →
              AW E l (d + 1) 0 0 mX10_hasOtherSize 0 (zargs 3 [.ref 11, .ref b6]) [] μ (fun v μ15 => ∃ r17 : Int32, v = some (.int r17) ∧ Stat μ15 ∧ 
                (r17 = 0 →
                  AW E l (d + 2) nc ns mX10_shift 18 [some (.ref 11), none, some (.ref a2), some (.int x3), some (.int (x4 + 1)), none] [] μ15 K) ∧
                (¬ r17 = 0 →
                  (zK μ15 b6 = 7) ∧
                  (¬ (zI μ15 b6 14) = 1 →
                    AW E l (d + 2) nc ns mX10_shift 18 [some (.ref 11), none, some (.ref a2), some (.int (x3 + (-1))), some (.int (x4 + 1)), none] [] μ15 K) ∧
                  ((zI μ15 b6 14) = 1 →
                    AW E l (d + 2) nc ns mX10_shift 18 [some (.ref 11), none, some (.ref a2), some (.int (x3 + 1)), some (.int (x4 + 1)), none] [] μ15 K)))))))))) : AW E l (d + 2) nc ns mX10_shift 18 [some (.ref 11), none, some (.ref a2), some (.int x3), some (.int x4), none] [] μ K := by
  refine aw_iload (pc' := 20) (dt_X10_shift 12 (18, .iload 4, 2) rfl) rfl rfl (aw_aload_n (pc' := 21) (dt_X10_shift 13 (20, .aload_n 0, 1) rfl) rfl rfl (aw_getI (pc' := 24) (dt_X10_shift 14 (21, .getfield 131, 3) rfl) fl_ReturnDesk_131 rfl rfl (sk_11 hS) (aw_icmp_ge (pc' := 27) (tgt := 94) (dt_X10_shift 15 (24, .if_icmp .ge 70, 3) rfl) (by decide) rfl ?_ ?_)))
  · intro q1
    have h := h.1 q1
    refine aw_iload_n (pc' := 95) (dt_X10_shift 48 (94, .iload_n 3, 1) rfl) rfl rfl (aw_iconst (pc' := 96) (v := 3) (dt_X10_shift 49 (95, .iconst 3, 1) rfl) (by decide) rfl (aw_icmp_lt (pc' := 99) (tgt := 103) (dt_X10_shift 50 (96, .if_icmp .lt 7, 3) rfl) (by decide) rfl ?_ ?_))
    · intro q2
      have h := h.1 q2
      refine aw_iload_n (pc' := 104) (dt_X10_shift 53 (103, .iload_n 3, 1) rfl) rfl rfl (aw_bipush (pc' := 106) (v := (-3)) (dt_X10_shift 54 (104, .bipush (-3), 2) rfl) (by decide) rfl (aw_icmp_gt (pc' := 109) (tgt := 113) (dt_X10_shift 55 (106, .if_icmp .gt 7, 3) rfl) (by decide) rfl ?_ ?_))
      · intro q3
        have h := h.1 q3
        refine aw_iconst (pc' := 114) (v := 0) (dt_X10_shift 58 (113, .iconst 0, 1) rfl) (by decide) rfl (aw_iret (dt_X10_shift 59 (114, .ireturn, 1) rfl) rfl rfl ?_)
        exact h
      · intro q3
        have h := h.2 q3
        refine aw_iconst (pc' := 110) (v := (-1)) (dt_X10_shift 56 (109, .iconst (-1), 1) rfl) (by decide) rfl (aw_goto (tgt := 114) (dt_X10_shift 57 (110, .goto 4, 3) rfl) (by decide) (aw_iret (dt_X10_shift 59 (114, .ireturn, 1) rfl) rfl rfl ?_))
        exact h
    · intro q2
      have h := h.2 q2
      refine aw_iconst (pc' := 100) (v := 1) (dt_X10_shift 51 (99, .iconst 1, 1) rfl) (by decide) rfl (aw_goto (tgt := 114) (dt_X10_shift 52 (100, .goto 14, 3) rfl) (by decide) (aw_iret (dt_X10_shift 59 (114, .ireturn, 1) rfl) rfl rfl ?_))
      exact h
  · intro q1
    have h := h.2 q1
    obtain ⟨g4, h⟩ := h
    refine aw_aload_n (pc' := 28) (dt_X10_shift 16 (27, .aload_n 0, 1) rfl) rfl rfl (aw_getAs (pc' := 31) (dt_X10_shift 17 (28, .getfield 23, 3) rfl) fl_ReturnDesk_23 rfl rfl (sk_11 hS) (sa_11_2 hS) (aw_iload (pc' := 33) (dt_X10_shift 18 (31, .iload 4, 2) rfl) rfl rfl (aw_aald (pc' := 34) (dt_X10_shift 19 (33, .aaload, 1) rfl) (by decide) (by decide) rfl (sk_14 hS) (vin_eq (sl_14 hS) g4) ?_ ?_)))
    · intro e5
      have h := h.1 e5
      refine aw_astoreN (pc' := 36) (ls' := [some (.ref 11), none, some (.ref a2), some (.int x3), some (.int x4), some (.null)]) (dt_X10_shift 20 (34, .astore 5, 2) rfl) (by decide) rfl rfl (aw_aloadN (pc' := 38) (dt_X10_shift 21 (36, .aload 5, 2) rfl) rfl rfl ?_)
      exact h.elim
    · intro b6 e5
      have h := h.2 b6 e5
      obtain ⟨g7, h⟩ := h
      refine aw_astore (pc' := 36) (ls' := [some (.ref 11), none, some (.ref a2), some (.int x3), some (.int x4), some (.ref b6)]) (dt_X10_shift 20 (34, .astore 5, 2) rfl) (by decide) rfl rfl (aw_aload (pc' := 38) (dt_X10_shift 21 (36, .aload 5, 2) rfl) rfl rfl (aw_getA (pc' := 41) (dt_X10_shift 22 (38, .getfield 163, 3) rfl) fl_ReturnDesk_163 rfl rfl g7 ?_ ?_))
      · intro e8
        have h := h.1 e8
        refine aw_aload_n (pc' := 42) (dt_X10_shift 23 (41, .aload_n 2, 1) rfl) rfl rfl ?_
        exact h.elim
      · intro b9 e8
        have h := h.2 b9 e8
        obtain ⟨g10, h⟩ := h
        obtain ⟨g11, h⟩ := h
        refine aw_aload_n (pc' := 42) (dt_X10_shift 23 (41, .aload_n 2, 1) rfl) rfl rfl (aw_acmp_ne (pc' := 45) (tgt := 88) (dt_X10_shift 24 (42, .if_acmp .ne 46, 3) rfl) (by decide) rfl g10 g11 ?_ ?_)
        · intro q12
          have h := h.1 q12
          refine aw_iinc (pc' := 91) (v := 1) (ls' := [some (.ref 11), none, some (.ref a2), some (.int x3), some (.int (x4 + 1)), some (.ref b6)]) (dt_X10_shift 46 (88, .iinc 4 1, 3) rfl) rfl (by decide) (by decide) rfl rfl (aw_goto (tgt := 18) (dt_X10_shift 47 (91, .goto (-73), 3) rfl) (by decide) (aw_drop (ls' := [some (.ref 11), none, some (.ref a2), some (.int x3), some (.int (x4 + 1)), none]) ⟨rfl, rfl, rfl, rfl, trivial⟩ ?_))
          exact h
        · intro q12
          have h := h.2 q12
          refine aw_aload (pc' := 47) (dt_X10_shift 25 (45, .aload 5, 2) rfl) rfl rfl (aw_getI (pc' := 50) (dt_X10_shift 26 (47, .getfield 160, 3) rfl) fl_ReturnDesk_160 rfl rfl g7 (aw_iconst (pc' := 51) (v := 2) (dt_X10_shift 27 (50, .iconst 2, 1) rfl) (by decide) rfl (aw_icmp_ne (pc' := 54) (tgt := 88) (dt_X10_shift 28 (51, .if_icmp .ne 37, 3) rfl) (by decide) rfl ?_ ?_)))
          · intro q13
            have h := h.1 q13
            refine aw_iinc (pc' := 91) (v := 1) (ls' := [some (.ref 11), none, some (.ref a2), some (.int x3), some (.int (x4 + 1)), some (.ref b6)]) (dt_X10_shift 46 (88, .iinc 4 1, 3) rfl) rfl (by decide) (by decide) rfl rfl (aw_goto (tgt := 18) (dt_X10_shift 47 (91, .goto (-73), 3) rfl) (by decide) (aw_drop (ls' := [some (.ref 11), none, some (.ref a2), some (.int x3), some (.int (x4 + 1)), none]) ⟨rfl, rfl, rfl, rfl, trivial⟩ ?_))
            exact h
          · intro q13
            have h := h.2 q13
            refine aw_aload (pc' := 56) (dt_X10_shift 29 (54, .aload 5, 2) rfl) rfl rfl (aw_getI (pc' := 59) (dt_X10_shift 30 (56, .getfield 405, 3) rfl) fl_ReturnDesk_405 rfl rfl g7 (aw_if_eq (pc' := 62) (tgt := 88) (dt_X10_shift 31 (59, .ifCond .eq 29, 3) rfl) (by decide) rfl ?_ ?_))
            · intro q14
              have h := h.1 q14
              refine aw_iinc (pc' := 91) (v := 1) (ls' := [some (.ref 11), none, some (.ref a2), some (.int x3), some (.int (x4 + 1)), some (.ref b6)]) (dt_X10_shift 46 (88, .iinc 4 1, 3) rfl) rfl (by decide) (by decide) rfl rfl (aw_goto (tgt := 18) (dt_X10_shift 47 (91, .goto (-73), 3) rfl) (by decide) (aw_drop (ls' := [some (.ref 11), none, some (.ref a2), some (.int x3), some (.int (x4 + 1)), none]) ⟨rfl, rfl, rfl, rfl, trivial⟩ ?_))
              exact h
            · intro q14
              have h := h.2 q14
              refine aw_aload_n (pc' := 63) (dt_X10_shift 32 (62, .aload_n 0, 1) rfl) rfl rfl (aw_aload (pc' := 65) (dt_X10_shift 33 (63, .aload 5, 2) rfl) rfl rfl (aw_callV0 (pc' := 68) (nc := nc) (ns := ns) (y2 := mX10_hasOtherSize) (As := [.ref b6]) (rest := []) (a := 11) (dt_X10_shift 34 (65, .invokevirtual 408, 3) rfl) ok_X10_hasOtherSize ln_ReturnDesk_408 im_X10_hasOtherSize se_X10_hasOtherSize pr_X10_hasOtherSize (Or.inl ⟨by decide, rfl⟩) rfl (Nat.le_of_ble_eq_true rfl) (Nat.le_of_ble_eq_true rfl) rfl (sk_11 hS) h ?_))
              rintro v μ15 ⟨r17, rfl, hS16, h⟩
              refine aw_stk (st' := [.int r17]) rfl ?_
              refine aw_if_eq (pc' := 71) (tgt := 88) (dt_X10_shift 35 (68, .ifCond .eq 20, 3) rfl) (by decide) rfl ?_ ?_
              · intro q18
                have h := h.1 q18
                refine aw_iinc (pc' := 91) (v := 1) (ls' := [some (.ref 11), none, some (.ref a2), some (.int x3), some (.int (x4 + 1)), some (.ref b6)]) (dt_X10_shift 46 (88, .iinc 4 1, 3) rfl) rfl (by decide) (by decide) rfl rfl (aw_goto (tgt := 18) (dt_X10_shift 47 (91, .goto (-73), 3) rfl) (by decide) (aw_drop (ls' := [some (.ref 11), none, some (.ref a2), some (.int x3), some (.int (x4 + 1)), none]) ⟨rfl, rfl, rfl, rfl, trivial⟩ ?_))
                exact h
              · intro q18
                have h := h.2 q18
                obtain ⟨g19, h⟩ := h
                refine aw_iload_n (pc' := 72) (dt_X10_shift 36 (71, .iload_n 3, 1) rfl) rfl rfl (aw_aload (pc' := 74) (dt_X10_shift 37 (72, .aload 5, 2) rfl) rfl rfl (aw_getI (pc' := 77) (dt_X10_shift 38 (74, .getfield 405, 3) rfl) fl_ReturnDesk_405 rfl rfl g19 (aw_iconst (pc' := 78) (v := 1) (dt_X10_shift 39 (77, .iconst 1, 1) rfl) (by decide) rfl (aw_icmp_ne (pc' := 81) (tgt := 85) (dt_X10_shift 40 (78, .if_icmp .ne 7, 3) rfl) (by decide) rfl ?_ ?_))))
                · intro q20
                  have h := h.1 q20
                  refine aw_iconst (pc' := 86) (v := (-1)) (dt_X10_shift 43 (85, .iconst (-1), 1) rfl) (by decide) rfl (aw_iadd (pc' := 87) (dt_X10_shift 44 (86, .iadd, 1) rfl) rfl (aw_istore_n (pc' := 88) (ls' := [some (.ref 11), none, some (.ref a2), some (.int (x3 + (-1))), some (.int x4), some (.ref b6)]) (dt_X10_shift 45 (87, .istore_n 3, 1) rfl) (by decide) rfl rfl (aw_iinc (pc' := 91) (v := 1) (ls' := [some (.ref 11), none, some (.ref a2), some (.int (x3 + (-1))), some (.int (x4 + 1)), some (.ref b6)]) (dt_X10_shift 46 (88, .iinc 4 1, 3) rfl) rfl (by decide) (by decide) rfl rfl (aw_goto (tgt := 18) (dt_X10_shift 47 (91, .goto (-73), 3) rfl) (by decide) (aw_drop (ls' := [some (.ref 11), none, some (.ref a2), some (.int (x3 + (-1))), some (.int (x4 + 1)), none]) ⟨rfl, rfl, rfl, rfl, trivial⟩ ?_)))))
                  exact h
                · intro q20
                  have h := h.2 q20
                  refine aw_iconst (pc' := 82) (v := 1) (dt_X10_shift 41 (81, .iconst 1, 1) rfl) (by decide) rfl (aw_goto (tgt := 86) (dt_X10_shift 42 (82, .goto 4, 3) rfl) (by decide) (aw_iadd (pc' := 87) (dt_X10_shift 44 (86, .iadd, 1) rfl) rfl (aw_istore_n (pc' := 88) (ls' := [some (.ref 11), none, some (.ref a2), some (.int (x3 + 1)), some (.int x4), some (.ref b6)]) (dt_X10_shift 45 (87, .istore_n 3, 1) rfl) (by decide) rfl rfl (aw_iinc (pc' := 91) (v := 1) (ls' := [some (.ref 11), none, some (.ref a2), some (.int (x3 + 1)), some (.int (x4 + 1)), some (.ref b6)]) (dt_X10_shift 46 (88, .iinc 4 1, 3) rfl) rfl (by decide) (by decide) rfl rfl (aw_goto (tgt := 18) (dt_X10_shift 47 (91, .goto (-73), 3) rfl) (by decide) (aw_drop (ls' := [some (.ref 11), none, some (.ref a2), some (.int (x3 + 1)), some (.int (x4 + 1)), none]) ⟨rfl, rfl, rfl, rfl, trivial⟩ ?_))))))
                  exact h

theorem t_X10_brought {E : ZE} {l : Launch} {d nc ns : Nat} {x1 : Int32} {x2 : Int32} {μ : ZM} {K : Option Value → ZM → Prop} (hS : Stat μ) (h :
  (x1 < 0 →
    K (some (.int (-1))) μ) ∧
  (¬ x1 < 0 →
    (((zI μ 11 14) - 1) < x1 →
      K (some (.int (-1))) μ) ∧
    (¬ ((zI μ 11 14) - 1) < x1 →
      (vp_in x1 300) ∧
      (zA μ 14 x1.toNatClampNeg = none →
        K (some (.int (-1))) μ) ∧
      (∀ b5, zA μ 14 x1.toNatClampNeg = some b5 →
        (x2 < 0 →
          K (some (.int (-1))) μ) ∧
        (¬ x2 < 0 →
          (4 < x2 →
            K (some (.int (-1))) μ) ∧
          (¬ 4 < x2 →
            (zK μ b5 = 7) ∧
            ((zI μ b5 15) < 0 →
              K (some (.int 1)) (sI μ b5 15 x2)) ∧
            (¬ (zI μ b5 15) < 0 →
              K (some (.int (-2))) μ))))))) : AW E l (d + 2) nc ns mX10_brought 0 [some (.ref 11), some (.int x1), some (.int x2), none] [] μ K := by
  refine aw_aload_n (pc' := 1) (dt_X10_brought 0 (0, .aload_n 0, 1) rfl) rfl rfl (aw_iload_n (pc' := 2) (dt_X10_brought 1 (1, .iload_n 1, 1) rfl) rfl rfl (aw_inV (pc' := 5) (nc1 := 0) (ns1 := 0) (nc := nc) (ns := ns) (ls' := [some (.ref 11), some (.int x1)]) (y2 := mX10_saleAt) (As := [.int x1]) (rest := []) (a := 11) (dt_X10_brought 2 (2, .invokevirtual 152, 3) rfl) ok_X10_saleAt ln_ReturnDesk_152 im_X10_saleAt se_X10_saleAt pr_X10_saleAt (Or.inl ⟨by decide, rfl⟩) rfl (Nat.le_of_ble_eq_true rfl) (Nat.le_of_ble_eq_true rfl) rfl rfl (sk_11 hS) (aw_iload_n (pc' := 1) (dt_X10_saleAt 0 (0, .iload_n 1, 1) rfl) rfl rfl (aw_iconst (pc' := 2) (v := 0) (dt_X10_saleAt 1 (1, .iconst 0, 1) rfl) (by decide) rfl (aw_aload_n (pc' := 3) (dt_X10_saleAt 2 (2, .aload_n 0, 1) rfl) rfl rfl (aw_getI (pc' := 6) (dt_X10_saleAt 3 (3, .getfield 131, 3) rfl) fl_ReturnDesk_131 rfl rfl (sk_11 hS) (aw_iconst (pc' := 7) (v := 1) (dt_X10_saleAt 4 (6, .iconst 1, 1) rfl) (by decide) rfl (aw_isub (pc' := 8) (dt_X10_saleAt 5 (7, .isub, 1) rfl) rfl (aw_inS (pc' := 11) (nc1 := 0) (ns1 := 0) (nc := 0) (ns := 0) (ls' := [some (.int x1), some (.int 0), some (.int ((zI μ 11 14) - 1))]) (y2 := mX10_within) (As := [.int x1, .int 0, .int ((zI μ 11 14) - 1)]) (rest := []) (dt_X10_saleAt 6 (8, .invokestatic 76, 3) rfl) ok_X10_within ln_ReturnDesk_76 sm_X10_within pr_X10_within rfl (Nat.le_of_ble_eq_true rfl) (Nat.le_of_ble_eq_true rfl) rfl rfl (aw_iload_n (pc' := 1) (dt_X10_within 0 (0, .iload_n 0, 1) rfl) rfl rfl (aw_iload_n (pc' := 2) (dt_X10_within 1 (1, .iload_n 1, 1) rfl) rfl rfl (aw_icmp_lt (pc' := 5) (tgt := 14) (dt_X10_within 2 (2, .if_icmp .lt 12, 3) rfl) (by decide) rfl ?_ ?_))))))))))))
  · intro q1
    have h := h.1 q1
    refine aw_iconst (pc' := 15) (v := 0) (dt_X10_within 8 (14, .iconst 0, 1) rfl) (by decide) rfl (aw_iret (dt_X10_within 9 (15, .ireturn, 1) rfl) rfl rfl (aw_stk (st' := [.int 0]) rfl (aw_if_eq_T (pc' := 14) (tgt := 23) (dt_X10_saleAt 7 (11, .ifCond .eq 12, 3) rfl) (by decide) rfl (by decide) (aw_null (pc' := 24) (dt_X10_saleAt 13 (23, .aconst_null, 1) rfl) rfl (aw_aretN (dt_X10_saleAt 14 (24, .areturn, 1) rfl) rfl rfl (aw_stk (st' := [.null]) rfl (aw_astore_nN (pc' := 6) (ls' := [some (.ref 11), some (.int x1), some (.int x2), some (.null)]) (dt_X10_brought 3 (5, .astore_n 3, 1) rfl) (by decide) rfl rfl (aw_aload_nN (pc' := 7) (dt_X10_brought 4 (6, .aload_n 3, 1) rfl) rfl rfl (aw_ifnullN (tgt := 17) (dt_X10_brought 5 (7, .ifnull 10, 3) rfl) (by decide) (aw_iconst (pc' := 18) (v := (-1)) (dt_X10_brought 9 (17, .iconst (-1), 1) rfl) (by decide) rfl (aw_iret (dt_X10_brought 10 (18, .ireturn, 1) rfl) rfl rfl ?_)))))))))))
    exact h
  · intro q1
    have h := h.2 q1
    refine aw_iload_n (pc' := 6) (dt_X10_within 3 (5, .iload_n 0, 1) rfl) rfl rfl (aw_iload_n (pc' := 7) (dt_X10_within 4 (6, .iload_n 2, 1) rfl) rfl rfl (aw_icmp_gt (pc' := 10) (tgt := 14) (dt_X10_within 5 (7, .if_icmp .gt 7, 3) rfl) (by decide) rfl ?_ ?_))
    · intro q2
      have h := h.1 q2
      refine aw_iconst (pc' := 15) (v := 0) (dt_X10_within 8 (14, .iconst 0, 1) rfl) (by decide) rfl (aw_iret (dt_X10_within 9 (15, .ireturn, 1) rfl) rfl rfl (aw_stk (st' := [.int 0]) rfl (aw_if_eq_T (pc' := 14) (tgt := 23) (dt_X10_saleAt 7 (11, .ifCond .eq 12, 3) rfl) (by decide) rfl (by decide) (aw_null (pc' := 24) (dt_X10_saleAt 13 (23, .aconst_null, 1) rfl) rfl (aw_aretN (dt_X10_saleAt 14 (24, .areturn, 1) rfl) rfl rfl (aw_stk (st' := [.null]) rfl (aw_astore_nN (pc' := 6) (ls' := [some (.ref 11), some (.int x1), some (.int x2), some (.null)]) (dt_X10_brought 3 (5, .astore_n 3, 1) rfl) (by decide) rfl rfl (aw_aload_nN (pc' := 7) (dt_X10_brought 4 (6, .aload_n 3, 1) rfl) rfl rfl (aw_ifnullN (tgt := 17) (dt_X10_brought 5 (7, .ifnull 10, 3) rfl) (by decide) (aw_iconst (pc' := 18) (v := (-1)) (dt_X10_brought 9 (17, .iconst (-1), 1) rfl) (by decide) rfl (aw_iret (dt_X10_brought 10 (18, .ireturn, 1) rfl) rfl rfl ?_)))))))))))
      exact h
    · intro q2
      have h := h.2 q2
      obtain ⟨g3, h⟩ := h
      refine aw_iconst (pc' := 11) (v := 1) (dt_X10_within 6 (10, .iconst 1, 1) rfl) (by decide) rfl (aw_goto (tgt := 15) (dt_X10_within 7 (11, .goto 4, 3) rfl) (by decide) (aw_iret (dt_X10_within 9 (15, .ireturn, 1) rfl) rfl rfl (aw_stk (st' := [.int 1]) rfl (aw_if_eq_F (pc' := 14) (tgt := 23) (dt_X10_saleAt 7 (11, .ifCond .eq 12, 3) rfl) (by decide) rfl (by decide) (aw_aload_n (pc' := 15) (dt_X10_saleAt 8 (14, .aload_n 0, 1) rfl) rfl rfl (aw_getAs (pc' := 18) (dt_X10_saleAt 9 (15, .getfield 23, 3) rfl) fl_ReturnDesk_23 rfl rfl (sk_11 hS) (sa_11_2 hS) (aw_iload_n (pc' := 19) (dt_X10_saleAt 10 (18, .iload_n 1, 1) rfl) rfl rfl (aw_aald (pc' := 20) (dt_X10_saleAt 11 (19, .aaload, 1) rfl) (by decide) (by decide) rfl (sk_14 hS) (vin_eq (sl_14 hS) g3) ?_ ?_))))))))
      · intro e4
        have h := h.1 e4
        refine aw_goto (tgt := 24) (dt_X10_saleAt 12 (20, .goto 4, 3) rfl) (by decide) (aw_aretN (dt_X10_saleAt 14 (24, .areturn, 1) rfl) rfl rfl (aw_stk (st' := [.null]) rfl (aw_astore_nN (pc' := 6) (ls' := [some (.ref 11), some (.int x1), some (.int x2), some (.null)]) (dt_X10_brought 3 (5, .astore_n 3, 1) rfl) (by decide) rfl rfl (aw_aload_nN (pc' := 7) (dt_X10_brought 4 (6, .aload_n 3, 1) rfl) rfl rfl (aw_ifnullN (tgt := 17) (dt_X10_brought 5 (7, .ifnull 10, 3) rfl) (by decide) (aw_iconst (pc' := 18) (v := (-1)) (dt_X10_brought 9 (17, .iconst (-1), 1) rfl) (by decide) rfl (aw_iret (dt_X10_brought 10 (18, .ireturn, 1) rfl) rfl rfl ?_)))))))
        exact h
      · intro b5 e4
        have h := h.2 b5 e4
        refine aw_goto (tgt := 24) (dt_X10_saleAt 12 (20, .goto 4, 3) rfl) (by decide) (aw_aret (dt_X10_saleAt 14 (24, .areturn, 1) rfl) rfl rfl (aw_stk (st' := [.ref b5]) rfl (aw_astore_n (pc' := 6) (ls' := [some (.ref 11), some (.int x1), some (.int x2), some (.ref b5)]) (dt_X10_brought 3 (5, .astore_n 3, 1) rfl) (by decide) rfl rfl (aw_aload_n (pc' := 7) (dt_X10_brought 4 (6, .aload_n 3, 1) rfl) rfl rfl (aw_ifnull (pc' := 10) (dt_X10_brought 5 (7, .ifnull 10, 3) rfl) rfl (aw_iload_n (pc' := 11) (dt_X10_brought 6 (10, .iload_n 2, 1) rfl) rfl rfl (aw_inS (pc' := 14) (nc1 := 0) (ns1 := 0) (nc := nc) (ns := ns) (ls' := [some (.int x2)]) (y2 := mX10_isCarrier) (As := [.int x2]) (rest := []) (dt_X10_brought 7 (11, .invokestatic 412, 3) rfl) ok_X10_isCarrier ln_ReturnDesk_412 sm_X10_isCarrier pr_X10_isCarrier rfl (Nat.le_of_ble_eq_true rfl) (Nat.le_of_ble_eq_true rfl) rfl rfl (aw_iload_n (pc' := 1) (dt_X10_isCarrier 0 (0, .iload_n 0, 1) rfl) rfl rfl (aw_iconst (pc' := 2) (v := 0) (dt_X10_isCarrier 1 (1, .iconst 0, 1) rfl) (by decide) rfl (aw_iconst (pc' := 3) (v := 4) (dt_X10_isCarrier 2 (2, .iconst 4, 1) rfl) (by decide) rfl (aw_inS (pc' := 6) (nc1 := 0) (ns1 := 0) (nc := 0) (ns := 0) (ls' := [some (.int x2), some (.int 0), some (.int 4)]) (y2 := mX10_within) (As := [.int x2, .int 0, .int 4]) (rest := []) (dt_X10_isCarrier 3 (3, .invokestatic 76, 3) rfl) ok_X10_within ln_ReturnDesk_76 sm_X10_within pr_X10_within rfl (Nat.le_of_ble_eq_true rfl) (Nat.le_of_ble_eq_true rfl) rfl rfl (aw_iload_n (pc' := 1) (dt_X10_within 0 (0, .iload_n 0, 1) rfl) rfl rfl (aw_iload_n (pc' := 2) (dt_X10_within 1 (1, .iload_n 1, 1) rfl) rfl rfl (aw_icmp_lt (pc' := 5) (tgt := 14) (dt_X10_within 2 (2, .if_icmp .lt 12, 3) rfl) (by decide) rfl ?_ ?_))))))))))))))
        · intro q6
          have h := h.1 q6
          refine aw_iconst (pc' := 15) (v := 0) (dt_X10_within 8 (14, .iconst 0, 1) rfl) (by decide) rfl (aw_iret (dt_X10_within 9 (15, .ireturn, 1) rfl) rfl rfl (aw_stk (st' := [.int 0]) rfl (aw_iret (dt_X10_isCarrier 4 (6, .ireturn, 1) rfl) rfl rfl (aw_stk (st' := [.int 0]) rfl (aw_if_ne_F (pc' := 17) (tgt := 19) (dt_X10_brought 8 (14, .ifCond .ne 5, 3) rfl) (by decide) rfl (by decide) (aw_iconst (pc' := 18) (v := (-1)) (dt_X10_brought 9 (17, .iconst (-1), 1) rfl) (by decide) rfl (aw_iret (dt_X10_brought 10 (18, .ireturn, 1) rfl) rfl rfl ?_)))))))
          exact h
        · intro q6
          have h := h.2 q6
          refine aw_iload_n (pc' := 6) (dt_X10_within 3 (5, .iload_n 0, 1) rfl) rfl rfl (aw_iload_n (pc' := 7) (dt_X10_within 4 (6, .iload_n 2, 1) rfl) rfl rfl (aw_icmp_gt (pc' := 10) (tgt := 14) (dt_X10_within 5 (7, .if_icmp .gt 7, 3) rfl) (by decide) rfl ?_ ?_))
          · intro q7
            have h := h.1 q7
            refine aw_iconst (pc' := 15) (v := 0) (dt_X10_within 8 (14, .iconst 0, 1) rfl) (by decide) rfl (aw_iret (dt_X10_within 9 (15, .ireturn, 1) rfl) rfl rfl (aw_stk (st' := [.int 0]) rfl (aw_iret (dt_X10_isCarrier 4 (6, .ireturn, 1) rfl) rfl rfl (aw_stk (st' := [.int 0]) rfl (aw_if_ne_F (pc' := 17) (tgt := 19) (dt_X10_brought 8 (14, .ifCond .ne 5, 3) rfl) (by decide) rfl (by decide) (aw_iconst (pc' := 18) (v := (-1)) (dt_X10_brought 9 (17, .iconst (-1), 1) rfl) (by decide) rfl (aw_iret (dt_X10_brought 10 (18, .ireturn, 1) rfl) rfl rfl ?_)))))))
            exact h
          · intro q7
            have h := h.2 q7
            obtain ⟨g8, h⟩ := h
            refine aw_iconst (pc' := 11) (v := 1) (dt_X10_within 6 (10, .iconst 1, 1) rfl) (by decide) rfl (aw_goto (tgt := 15) (dt_X10_within 7 (11, .goto 4, 3) rfl) (by decide) (aw_iret (dt_X10_within 9 (15, .ireturn, 1) rfl) rfl rfl (aw_stk (st' := [.int 1]) rfl (aw_iret (dt_X10_isCarrier 4 (6, .ireturn, 1) rfl) rfl rfl (aw_stk (st' := [.int 1]) rfl (aw_if_ne_T (pc' := 17) (tgt := 19) (dt_X10_brought 8 (14, .ifCond .ne 5, 3) rfl) (by decide) rfl (by decide) (aw_aload_n (pc' := 20) (dt_X10_brought 11 (19, .aload_n 3, 1) rfl) rfl rfl (aw_getI (pc' := 23) (dt_X10_brought 12 (20, .getfield 415, 3) rfl) fl_ReturnDesk_415 rfl rfl g8 (aw_if_lt (pc' := 26) (tgt := 29) (dt_X10_brought 13 (23, .ifCond .lt 6, 3) rfl) (by decide) rfl ?_ ?_)))))))))
            · intro q9
              have h := h.1 q9
              refine aw_aload_n (pc' := 30) (dt_X10_brought 16 (29, .aload_n 3, 1) rfl) rfl rfl (aw_iload_n (pc' := 31) (dt_X10_brought 17 (30, .iload_n 2, 1) rfl) rfl rfl (aw_putI (pc' := 34) (dt_X10_brought 18 (31, .putfield 415, 3) rfl) fl_ReturnDesk_415 rfl (by decide +kernel) rfl g8 (aw_iconst (pc' := 35) (v := 1) (dt_X10_brought 19 (34, .iconst 1, 1) rfl) (by decide) rfl (aw_iret (dt_X10_brought 20 (35, .ireturn, 1) rfl) rfl rfl ?_))))
              exact h
            · intro q9
              have h := h.2 q9
              refine aw_bipush (pc' := 28) (v := (-2)) (dt_X10_brought 14 (26, .bipush (-2), 2) rfl) (by decide) rfl (aw_iret (dt_X10_brought 15 (28, .ireturn, 1) rfl) rfl rfl ?_)
              exact h

theorem t_X10_damage {E : ZE} {l : Launch} {d nc ns : Nat} {x1 : Int32} {μ : ZM} {K : Option Value → ZM → Prop} (hS : Stat μ) (h :
  (x1 < 0 →
    K (some (.int (-1))) μ) ∧
  (¬ x1 < 0 →
    (((zI μ 11 14) - 1) < x1 →
      K (some (.int (-1))) μ) ∧
    (¬ ((zI μ 11 14) - 1) < x1 →
      (vp_in x1 300) ∧
      (zA μ 14 x1.toNatClampNeg = none →
        K (some (.int (-1))) μ) ∧
      (∀ b5, zA μ 14 x1.toNatClampNeg = some b5 →
        (zK μ b5 = 7) ∧
        ((zI μ b5 15) < 0 →
          K (some (.int (-2))) μ) ∧
        (¬ (zI μ b5 15) < 0 →
          ((zI μ b5 16) = (-1) →
            ((((zI μ b5 8) / 24) + 3) < ((zI μ 11 17) / 24) →
              K (some (.int (zI (sI μ b5 16 0) b5 16))) (sI μ b5 16 0)) ∧
            (¬ (((zI μ b5 8) / 24) + 3) < ((zI μ 11 17) / 24) →
              K (some (.int (zI (sI μ b5 16 1) b5 16))) (sI μ b5 16 1))) ∧
          (¬ (zI μ b5 16) = (-1) →
            K (some (.int (-2))) μ)))))) : AW E l (d + 2) nc ns mX10_damage 0 [some (.ref 11), some (.int x1), none] [] μ K := by
  refine aw_aload_n (pc' := 1) (dt_X10_damage 0 (0, .aload_n 0, 1) rfl) rfl rfl (aw_iload_n (pc' := 2) (dt_X10_damage 1 (1, .iload_n 1, 1) rfl) rfl rfl (aw_inV (pc' := 5) (nc1 := 0) (ns1 := 0) (nc := nc) (ns := ns) (ls' := [some (.ref 11), some (.int x1)]) (y2 := mX10_saleAt) (As := [.int x1]) (rest := []) (a := 11) (dt_X10_damage 2 (2, .invokevirtual 152, 3) rfl) ok_X10_saleAt ln_ReturnDesk_152 im_X10_saleAt se_X10_saleAt pr_X10_saleAt (Or.inl ⟨by decide, rfl⟩) rfl (Nat.le_of_ble_eq_true rfl) (Nat.le_of_ble_eq_true rfl) rfl rfl (sk_11 hS) (aw_iload_n (pc' := 1) (dt_X10_saleAt 0 (0, .iload_n 1, 1) rfl) rfl rfl (aw_iconst (pc' := 2) (v := 0) (dt_X10_saleAt 1 (1, .iconst 0, 1) rfl) (by decide) rfl (aw_aload_n (pc' := 3) (dt_X10_saleAt 2 (2, .aload_n 0, 1) rfl) rfl rfl (aw_getI (pc' := 6) (dt_X10_saleAt 3 (3, .getfield 131, 3) rfl) fl_ReturnDesk_131 rfl rfl (sk_11 hS) (aw_iconst (pc' := 7) (v := 1) (dt_X10_saleAt 4 (6, .iconst 1, 1) rfl) (by decide) rfl (aw_isub (pc' := 8) (dt_X10_saleAt 5 (7, .isub, 1) rfl) rfl (aw_inS (pc' := 11) (nc1 := 0) (ns1 := 0) (nc := 0) (ns := 0) (ls' := [some (.int x1), some (.int 0), some (.int ((zI μ 11 14) - 1))]) (y2 := mX10_within) (As := [.int x1, .int 0, .int ((zI μ 11 14) - 1)]) (rest := []) (dt_X10_saleAt 6 (8, .invokestatic 76, 3) rfl) ok_X10_within ln_ReturnDesk_76 sm_X10_within pr_X10_within rfl (Nat.le_of_ble_eq_true rfl) (Nat.le_of_ble_eq_true rfl) rfl rfl (aw_iload_n (pc' := 1) (dt_X10_within 0 (0, .iload_n 0, 1) rfl) rfl rfl (aw_iload_n (pc' := 2) (dt_X10_within 1 (1, .iload_n 1, 1) rfl) rfl rfl (aw_icmp_lt (pc' := 5) (tgt := 14) (dt_X10_within 2 (2, .if_icmp .lt 12, 3) rfl) (by decide) rfl ?_ ?_))))))))))))
  · intro q1
    have h := h.1 q1
    refine aw_iconst (pc' := 15) (v := 0) (dt_X10_within 8 (14, .iconst 0, 1) rfl) (by decide) rfl (aw_iret (dt_X10_within 9 (15, .ireturn, 1) rfl) rfl rfl (aw_stk (st' := [.int 0]) rfl (aw_if_eq_T (pc' := 14) (tgt := 23) (dt_X10_saleAt 7 (11, .ifCond .eq 12, 3) rfl) (by decide) rfl (by decide) (aw_null (pc' := 24) (dt_X10_saleAt 13 (23, .aconst_null, 1) rfl) rfl (aw_aretN (dt_X10_saleAt 14 (24, .areturn, 1) rfl) rfl rfl (aw_stk (st' := [.null]) rfl (aw_astore_nN (pc' := 6) (ls' := [some (.ref 11), some (.int x1), some (.null)]) (dt_X10_damage 3 (5, .astore_n 2, 1) rfl) (by decide) rfl rfl (aw_aload_nN (pc' := 7) (dt_X10_damage 4 (6, .aload_n 2, 1) rfl) rfl rfl (aw_ifnonnullN (pc' := 10) (dt_X10_damage 5 (7, .ifnonnull 5, 3) rfl) rfl (aw_iconst (pc' := 11) (v := (-1)) (dt_X10_damage 6 (10, .iconst (-1), 1) rfl) (by decide) rfl (aw_iret (dt_X10_damage 7 (11, .ireturn, 1) rfl) rfl rfl ?_)))))))))))
    exact h
  · intro q1
    have h := h.2 q1
    refine aw_iload_n (pc' := 6) (dt_X10_within 3 (5, .iload_n 0, 1) rfl) rfl rfl (aw_iload_n (pc' := 7) (dt_X10_within 4 (6, .iload_n 2, 1) rfl) rfl rfl (aw_icmp_gt (pc' := 10) (tgt := 14) (dt_X10_within 5 (7, .if_icmp .gt 7, 3) rfl) (by decide) rfl ?_ ?_))
    · intro q2
      have h := h.1 q2
      refine aw_iconst (pc' := 15) (v := 0) (dt_X10_within 8 (14, .iconst 0, 1) rfl) (by decide) rfl (aw_iret (dt_X10_within 9 (15, .ireturn, 1) rfl) rfl rfl (aw_stk (st' := [.int 0]) rfl (aw_if_eq_T (pc' := 14) (tgt := 23) (dt_X10_saleAt 7 (11, .ifCond .eq 12, 3) rfl) (by decide) rfl (by decide) (aw_null (pc' := 24) (dt_X10_saleAt 13 (23, .aconst_null, 1) rfl) rfl (aw_aretN (dt_X10_saleAt 14 (24, .areturn, 1) rfl) rfl rfl (aw_stk (st' := [.null]) rfl (aw_astore_nN (pc' := 6) (ls' := [some (.ref 11), some (.int x1), some (.null)]) (dt_X10_damage 3 (5, .astore_n 2, 1) rfl) (by decide) rfl rfl (aw_aload_nN (pc' := 7) (dt_X10_damage 4 (6, .aload_n 2, 1) rfl) rfl rfl (aw_ifnonnullN (pc' := 10) (dt_X10_damage 5 (7, .ifnonnull 5, 3) rfl) rfl (aw_iconst (pc' := 11) (v := (-1)) (dt_X10_damage 6 (10, .iconst (-1), 1) rfl) (by decide) rfl (aw_iret (dt_X10_damage 7 (11, .ireturn, 1) rfl) rfl rfl ?_)))))))))))
      exact h
    · intro q2
      have h := h.2 q2
      obtain ⟨g3, h⟩ := h
      refine aw_iconst (pc' := 11) (v := 1) (dt_X10_within 6 (10, .iconst 1, 1) rfl) (by decide) rfl (aw_goto (tgt := 15) (dt_X10_within 7 (11, .goto 4, 3) rfl) (by decide) (aw_iret (dt_X10_within 9 (15, .ireturn, 1) rfl) rfl rfl (aw_stk (st' := [.int 1]) rfl (aw_if_eq_F (pc' := 14) (tgt := 23) (dt_X10_saleAt 7 (11, .ifCond .eq 12, 3) rfl) (by decide) rfl (by decide) (aw_aload_n (pc' := 15) (dt_X10_saleAt 8 (14, .aload_n 0, 1) rfl) rfl rfl (aw_getAs (pc' := 18) (dt_X10_saleAt 9 (15, .getfield 23, 3) rfl) fl_ReturnDesk_23 rfl rfl (sk_11 hS) (sa_11_2 hS) (aw_iload_n (pc' := 19) (dt_X10_saleAt 10 (18, .iload_n 1, 1) rfl) rfl rfl (aw_aald (pc' := 20) (dt_X10_saleAt 11 (19, .aaload, 1) rfl) (by decide) (by decide) rfl (sk_14 hS) (vin_eq (sl_14 hS) g3) ?_ ?_))))))))
      · intro e4
        have h := h.1 e4
        refine aw_goto (tgt := 24) (dt_X10_saleAt 12 (20, .goto 4, 3) rfl) (by decide) (aw_aretN (dt_X10_saleAt 14 (24, .areturn, 1) rfl) rfl rfl (aw_stk (st' := [.null]) rfl (aw_astore_nN (pc' := 6) (ls' := [some (.ref 11), some (.int x1), some (.null)]) (dt_X10_damage 3 (5, .astore_n 2, 1) rfl) (by decide) rfl rfl (aw_aload_nN (pc' := 7) (dt_X10_damage 4 (6, .aload_n 2, 1) rfl) rfl rfl (aw_ifnonnullN (pc' := 10) (dt_X10_damage 5 (7, .ifnonnull 5, 3) rfl) rfl (aw_iconst (pc' := 11) (v := (-1)) (dt_X10_damage 6 (10, .iconst (-1), 1) rfl) (by decide) rfl (aw_iret (dt_X10_damage 7 (11, .ireturn, 1) rfl) rfl rfl ?_)))))))
        exact h
      · intro b5 e4
        have h := h.2 b5 e4
        obtain ⟨g6, h⟩ := h
        refine aw_goto (tgt := 24) (dt_X10_saleAt 12 (20, .goto 4, 3) rfl) (by decide) (aw_aret (dt_X10_saleAt 14 (24, .areturn, 1) rfl) rfl rfl (aw_stk (st' := [.ref b5]) rfl (aw_astore_n (pc' := 6) (ls' := [some (.ref 11), some (.int x1), some (.ref b5)]) (dt_X10_damage 3 (5, .astore_n 2, 1) rfl) (by decide) rfl rfl (aw_aload_n (pc' := 7) (dt_X10_damage 4 (6, .aload_n 2, 1) rfl) rfl rfl (aw_ifnonnull (tgt := 12) (dt_X10_damage 5 (7, .ifnonnull 5, 3) rfl) (by decide) (aw_aload_n (pc' := 13) (dt_X10_damage 8 (12, .aload_n 2, 1) rfl) rfl rfl (aw_getI (pc' := 16) (dt_X10_damage 9 (13, .getfield 415, 3) rfl) fl_ReturnDesk_415 rfl rfl g6 (aw_if_lt (pc' := 19) (tgt := 27) (dt_X10_damage 10 (16, .ifCond .lt 11, 3) rfl) (by decide) rfl ?_ ?_))))))))
        · intro q7
          have h := h.1 q7
          refine aw_bipush (pc' := 29) (v := (-2)) (dt_X10_damage 15 (27, .bipush (-2), 2) rfl) (by decide) rfl (aw_iret (dt_X10_damage 16 (29, .ireturn, 1) rfl) rfl rfl ?_)
          exact h
        · intro q7
          have h := h.2 q7
          refine aw_aload_n (pc' := 20) (dt_X10_damage 11 (19, .aload_n 2, 1) rfl) rfl rfl (aw_getI (pc' := 23) (dt_X10_damage 12 (20, .getfield 418, 3) rfl) fl_ReturnDesk_418 rfl rfl g6 (aw_iconst (pc' := 24) (v := (-1)) (dt_X10_damage 13 (23, .iconst (-1), 1) rfl) (by decide) rfl (aw_icmp_eq (pc' := 27) (tgt := 30) (dt_X10_damage 14 (24, .if_icmp .eq 6, 3) rfl) (by decide) rfl ?_ ?_)))
          · intro q8
            have h := h.1 q8
            refine aw_aload_n (pc' := 31) (dt_X10_damage 17 (30, .aload_n 2, 1) rfl) rfl rfl (aw_aload_n (pc' := 32) (dt_X10_damage 18 (31, .aload_n 0, 1) rfl) rfl rfl (aw_inV (pc' := 35) (nc1 := 0) (ns1 := 0) (nc := nc) (ns := ns) (ls' := [some (.ref 11)]) (y2 := mX10_today) (As := []) (rest := [.ref b5]) (a := 11) (dt_X10_damage 19 (32, .invokevirtual 138, 3) rfl) ok_X10_today ln_ReturnDesk_138 im_X10_today se_X10_today pr_X10_today (Or.inl ⟨by decide, rfl⟩) rfl (Nat.le_of_ble_eq_true rfl) (Nat.le_of_ble_eq_true rfl) rfl rfl (sk_11 hS) (aw_aload_n (pc' := 1) (dt_X10_today 0 (0, .aload_n 0, 1) rfl) rfl rfl (aw_getI (pc' := 4) (dt_X10_today 1 (1, .getfield 114, 3) rfl) fl_ReturnDesk_114 rfl rfl (sk_11 hS) (aw_bipush (pc' := 6) (v := 24) (dt_X10_today 2 (4, .bipush 24, 2) rfl) (by decide) rfl (aw_idiv (pc' := 7) (dt_X10_today 3 (6, .idiv, 1) rfl) (by decide) rfl (aw_iret (dt_X10_today 4 (7, .ireturn, 1) rfl) rfl rfl (aw_stk (st' := [.int ((zI μ 11 17) / 24), .ref b5]) rfl (aw_aload_n (pc' := 36) (dt_X10_damage 20 (35, .aload_n 2, 1) rfl) rfl rfl (aw_inV (pc' := 39) (nc1 := 0) (ns1 := 0) (nc := nc) (ns := ns) (ls' := [some (.ref b5)]) (y2 := mX7_madeOn) (As := []) (rest := [.int ((zI μ 11 17) / 24), .ref b5]) (a := b5) (dt_X10_damage 21 (36, .invokevirtual 376, 3) rfl) ok_X7_madeOn ln_ReturnDesk_376 im_X7_madeOn se_X7_madeOn pr_X7_madeOn (Or.inl ⟨by decide, rfl⟩) rfl (Nat.le_of_ble_eq_true rfl) (Nat.le_of_ble_eq_true rfl) rfl rfl g6 (aw_aload_n (pc' := 1) (dt_X7_madeOn 0 (0, .aload_n 0, 1) rfl) rfl rfl (aw_getI (pc' := 4) (dt_X7_madeOn 1 (1, .getfield 56, 3) rfl) fl_Sale_56 rfl rfl g6 (aw_bipush (pc' := 6) (v := 24) (dt_X7_madeOn 2 (4, .bipush 24, 2) rfl) (by decide) rfl (aw_idiv (pc' := 7) (dt_X7_madeOn 3 (6, .idiv, 1) rfl) (by decide) rfl (aw_iret (dt_X7_madeOn 4 (7, .ireturn, 1) rfl) rfl rfl (aw_stk (st' := [.int ((zI μ b5 8) / 24), .int ((zI μ 11 17) / 24), .ref b5]) rfl (aw_iconst (pc' := 40) (v := 3) (dt_X10_damage 22 (39, .iconst 3, 1) rfl) (by decide) rfl (aw_iadd (pc' := 41) (dt_X10_damage 23 (40, .iadd, 1) rfl) rfl (aw_icmp_gt (pc' := 44) (tgt := 48) (dt_X10_damage 24 (41, .if_icmp .gt 7, 3) rfl) (by decide) rfl ?_ ?_)))))))))))))))))))
            · intro q9
              have h := h.1 q9
              refine aw_iconst (pc' := 49) (v := 0) (dt_X10_damage 27 (48, .iconst 0, 1) rfl) (by decide) rfl (aw_putI (pc' := 52) (dt_X10_damage 28 (49, .putfield 418, 3) rfl) fl_ReturnDesk_418 rfl (by decide +kernel) rfl g6 (aw_aload_n (pc' := 53) (dt_X10_damage 29 (52, .aload_n 2, 1) rfl) rfl rfl (aw_getI (pc' := 56) (dt_X10_damage 30 (53, .getfield 418, 3) rfl) fl_ReturnDesk_418 rfl rfl g6 (aw_iret (dt_X10_damage 31 (56, .ireturn, 1) rfl) rfl rfl ?_))))
              exact h
            · intro q9
              have h := h.2 q9
              refine aw_iconst (pc' := 45) (v := 1) (dt_X10_damage 25 (44, .iconst 1, 1) rfl) (by decide) rfl (aw_goto (tgt := 49) (dt_X10_damage 26 (45, .goto 4, 3) rfl) (by decide) (aw_putI (pc' := 52) (dt_X10_damage 28 (49, .putfield 418, 3) rfl) fl_ReturnDesk_418 rfl (by decide +kernel) rfl g6 (aw_aload_n (pc' := 53) (dt_X10_damage 29 (52, .aload_n 2, 1) rfl) rfl rfl (aw_getI (pc' := 56) (dt_X10_damage 30 (53, .getfield 418, 3) rfl) fl_ReturnDesk_418 rfl rfl g6 (aw_iret (dt_X10_damage 31 (56, .ireturn, 1) rfl) rfl rfl ?_)))))
              exact h
          · intro q8
            have h := h.2 q8
            refine aw_bipush (pc' := 29) (v := (-2)) (dt_X10_damage 15 (27, .bipush (-2), 2) rfl) (by decide) rfl (aw_iret (dt_X10_damage 16 (29, .ireturn, 1) rfl) rfl rfl ?_)
            exact h

theorem t_X10_carrier {E : ZE} {l : Launch} {d nc ns : Nat} {x1 : Int32} {x2 : Int32} {μ : ZM} {K : Option Value → ZM → Prop} (hS : Stat μ) (h :
  (x1 < 0 →
    K (some (.int (-1))) μ) ∧
  (¬ x1 < 0 →
    (4 < x1 →
      K (some (.int (-1))) μ) ∧
    (¬ 4 < x1 →
      (x2 < 0 →
        K (some (.int (-1))) μ) ∧
      (¬ x2 < 0 →
        (1 < x2 →
          K (some (.int (-1))) μ) ∧
        (¬ 1 < x2 →
          AW E l (d + 2) nc ns mX10_carrier 23 [some (.ref 11), some (.int x1), some (.int x2), some (.int 0), some (.int 0), none] [] μ K))))) : AW E l (d + 2) nc ns mX10_carrier 0 [some (.ref 11), some (.int x1), some (.int x2), none, none, none] [] μ K := by
  refine aw_iload_n (pc' := 1) (dt_X10_carrier 0 (0, .iload_n 1, 1) rfl) rfl rfl (aw_inS (pc' := 4) (nc1 := 0) (ns1 := 0) (nc := nc) (ns := ns) (ls' := [some (.int x1)]) (y2 := mX10_isCarrier) (As := [.int x1]) (rest := []) (dt_X10_carrier 1 (1, .invokestatic 412, 3) rfl) ok_X10_isCarrier ln_ReturnDesk_412 sm_X10_isCarrier pr_X10_isCarrier rfl (Nat.le_of_ble_eq_true rfl) (Nat.le_of_ble_eq_true rfl) rfl rfl (aw_iload_n (pc' := 1) (dt_X10_isCarrier 0 (0, .iload_n 0, 1) rfl) rfl rfl (aw_iconst (pc' := 2) (v := 0) (dt_X10_isCarrier 1 (1, .iconst 0, 1) rfl) (by decide) rfl (aw_iconst (pc' := 3) (v := 4) (dt_X10_isCarrier 2 (2, .iconst 4, 1) rfl) (by decide) rfl (aw_inS (pc' := 6) (nc1 := 0) (ns1 := 0) (nc := 0) (ns := 0) (ls' := [some (.int x1), some (.int 0), some (.int 4)]) (y2 := mX10_within) (As := [.int x1, .int 0, .int 4]) (rest := []) (dt_X10_isCarrier 3 (3, .invokestatic 76, 3) rfl) ok_X10_within ln_ReturnDesk_76 sm_X10_within pr_X10_within rfl (Nat.le_of_ble_eq_true rfl) (Nat.le_of_ble_eq_true rfl) rfl rfl (aw_iload_n (pc' := 1) (dt_X10_within 0 (0, .iload_n 0, 1) rfl) rfl rfl (aw_iload_n (pc' := 2) (dt_X10_within 1 (1, .iload_n 1, 1) rfl) rfl rfl (aw_icmp_lt (pc' := 5) (tgt := 14) (dt_X10_within 2 (2, .if_icmp .lt 12, 3) rfl) (by decide) rfl ?_ ?_))))))))
  · intro q1
    have h := h.1 q1
    refine aw_iconst (pc' := 15) (v := 0) (dt_X10_within 8 (14, .iconst 0, 1) rfl) (by decide) rfl (aw_iret (dt_X10_within 9 (15, .ireturn, 1) rfl) rfl rfl (aw_stk (st' := [.int 0]) rfl (aw_iret (dt_X10_isCarrier 4 (6, .ireturn, 1) rfl) rfl rfl (aw_stk (st' := [.int 0]) rfl (aw_if_eq_T (pc' := 7) (tgt := 16) (dt_X10_carrier 2 (4, .ifCond .eq 12, 3) rfl) (by decide) rfl (by decide) (aw_iconst (pc' := 17) (v := (-1)) (dt_X10_carrier 8 (16, .iconst (-1), 1) rfl) (by decide) rfl (aw_iret (dt_X10_carrier 9 (17, .ireturn, 1) rfl) rfl rfl ?_)))))))
    exact h
  · intro q1
    have h := h.2 q1
    refine aw_iload_n (pc' := 6) (dt_X10_within 3 (5, .iload_n 0, 1) rfl) rfl rfl (aw_iload_n (pc' := 7) (dt_X10_within 4 (6, .iload_n 2, 1) rfl) rfl rfl (aw_icmp_gt (pc' := 10) (tgt := 14) (dt_X10_within 5 (7, .if_icmp .gt 7, 3) rfl) (by decide) rfl ?_ ?_))
    · intro q2
      have h := h.1 q2
      refine aw_iconst (pc' := 15) (v := 0) (dt_X10_within 8 (14, .iconst 0, 1) rfl) (by decide) rfl (aw_iret (dt_X10_within 9 (15, .ireturn, 1) rfl) rfl rfl (aw_stk (st' := [.int 0]) rfl (aw_iret (dt_X10_isCarrier 4 (6, .ireturn, 1) rfl) rfl rfl (aw_stk (st' := [.int 0]) rfl (aw_if_eq_T (pc' := 7) (tgt := 16) (dt_X10_carrier 2 (4, .ifCond .eq 12, 3) rfl) (by decide) rfl (by decide) (aw_iconst (pc' := 17) (v := (-1)) (dt_X10_carrier 8 (16, .iconst (-1), 1) rfl) (by decide) rfl (aw_iret (dt_X10_carrier 9 (17, .ireturn, 1) rfl) rfl rfl ?_)))))))
      exact h
    · intro q2
      have h := h.2 q2
      refine aw_iconst (pc' := 11) (v := 1) (dt_X10_within 6 (10, .iconst 1, 1) rfl) (by decide) rfl (aw_goto (tgt := 15) (dt_X10_within 7 (11, .goto 4, 3) rfl) (by decide) (aw_iret (dt_X10_within 9 (15, .ireturn, 1) rfl) rfl rfl (aw_stk (st' := [.int 1]) rfl (aw_iret (dt_X10_isCarrier 4 (6, .ireturn, 1) rfl) rfl rfl (aw_stk (st' := [.int 1]) rfl (aw_if_eq_F (pc' := 7) (tgt := 16) (dt_X10_carrier 2 (4, .ifCond .eq 12, 3) rfl) (by decide) rfl (by decide) (aw_iload_n (pc' := 8) (dt_X10_carrier 3 (7, .iload_n 2, 1) rfl) rfl rfl (aw_iconst (pc' := 9) (v := 0) (dt_X10_carrier 4 (8, .iconst 0, 1) rfl) (by decide) rfl (aw_iconst (pc' := 10) (v := 1) (dt_X10_carrier 5 (9, .iconst 1, 1) rfl) (by decide) rfl (aw_inS (pc' := 13) (nc1 := 0) (ns1 := 0) (nc := nc) (ns := ns) (ls' := [some (.int x2), some (.int 0), some (.int 1)]) (y2 := mX10_within) (As := [.int x2, .int 0, .int 1]) (rest := []) (dt_X10_carrier 6 (10, .invokestatic 76, 3) rfl) ok_X10_within ln_ReturnDesk_76 sm_X10_within pr_X10_within rfl (Nat.le_of_ble_eq_true rfl) (Nat.le_of_ble_eq_true rfl) rfl rfl (aw_iload_n (pc' := 1) (dt_X10_within 0 (0, .iload_n 0, 1) rfl) rfl rfl (aw_iload_n (pc' := 2) (dt_X10_within 1 (1, .iload_n 1, 1) rfl) rfl rfl (aw_icmp_lt (pc' := 5) (tgt := 14) (dt_X10_within 2 (2, .if_icmp .lt 12, 3) rfl) (by decide) rfl ?_ ?_)))))))))))))
      · intro q3
        have h := h.1 q3
        refine aw_iconst (pc' := 15) (v := 0) (dt_X10_within 8 (14, .iconst 0, 1) rfl) (by decide) rfl (aw_iret (dt_X10_within 9 (15, .ireturn, 1) rfl) rfl rfl (aw_stk (st' := [.int 0]) rfl (aw_if_ne_F (pc' := 16) (tgt := 18) (dt_X10_carrier 7 (13, .ifCond .ne 5, 3) rfl) (by decide) rfl (by decide) (aw_iconst (pc' := 17) (v := (-1)) (dt_X10_carrier 8 (16, .iconst (-1), 1) rfl) (by decide) rfl (aw_iret (dt_X10_carrier 9 (17, .ireturn, 1) rfl) rfl rfl ?_)))))
        exact h
      · intro q3
        have h := h.2 q3
        refine aw_iload_n (pc' := 6) (dt_X10_within 3 (5, .iload_n 0, 1) rfl) rfl rfl (aw_iload_n (pc' := 7) (dt_X10_within 4 (6, .iload_n 2, 1) rfl) rfl rfl (aw_icmp_gt (pc' := 10) (tgt := 14) (dt_X10_within 5 (7, .if_icmp .gt 7, 3) rfl) (by decide) rfl ?_ ?_))
        · intro q4
          have h := h.1 q4
          refine aw_iconst (pc' := 15) (v := 0) (dt_X10_within 8 (14, .iconst 0, 1) rfl) (by decide) rfl (aw_iret (dt_X10_within 9 (15, .ireturn, 1) rfl) rfl rfl (aw_stk (st' := [.int 0]) rfl (aw_if_ne_F (pc' := 16) (tgt := 18) (dt_X10_carrier 7 (13, .ifCond .ne 5, 3) rfl) (by decide) rfl (by decide) (aw_iconst (pc' := 17) (v := (-1)) (dt_X10_carrier 8 (16, .iconst (-1), 1) rfl) (by decide) rfl (aw_iret (dt_X10_carrier 9 (17, .ireturn, 1) rfl) rfl rfl ?_)))))
          exact h
        · intro q4
          have h := h.2 q4
          refine aw_iconst (pc' := 11) (v := 1) (dt_X10_within 6 (10, .iconst 1, 1) rfl) (by decide) rfl (aw_goto (tgt := 15) (dt_X10_within 7 (11, .goto 4, 3) rfl) (by decide) (aw_iret (dt_X10_within 9 (15, .ireturn, 1) rfl) rfl rfl (aw_stk (st' := [.int 1]) rfl (aw_if_ne_T (pc' := 16) (tgt := 18) (dt_X10_carrier 7 (13, .ifCond .ne 5, 3) rfl) (by decide) rfl (by decide) (aw_iconst (pc' := 19) (v := 0) (dt_X10_carrier 10 (18, .iconst 0, 1) rfl) (by decide) rfl (aw_istore_n (pc' := 20) (ls' := [some (.ref 11), some (.int x1), some (.int x2), some (.int 0), none, none]) (dt_X10_carrier 11 (19, .istore_n 3, 1) rfl) (by decide) rfl rfl (aw_iconst (pc' := 21) (v := 0) (dt_X10_carrier 12 (20, .iconst 0, 1) rfl) (by decide) rfl (aw_istore (pc' := 23) (ls' := [some (.ref 11), some (.int x1), some (.int x2), some (.int 0), some (.int 0), none]) (dt_X10_carrier 13 (21, .istore 4, 2) rfl) (by decide) rfl rfl ?_))))))))
          exact h

theorem t_X10_carrier_23 {E : ZE} {l : Launch} {d nc ns : Nat} {x1 : Int32} {x2 : Int32} {x3 : Int32} {x4 : Int32} {μ : ZM} {K : Option Value → ZM → Prop} (hS : Stat μ) (h :
  ((zI μ 11 14) ≤ x4 →
    K (some (.int x3)) μ) ∧
  (¬ (zI μ 11 14) ≤ x4 →
    (vp_in x4 300) ∧
    (zA μ 14 x4.toNatClampNeg = none →
      False) ∧
    (∀ b4, zA μ 14 x4.toNatClampNeg = some b4 →
      (zK μ b4 = 7) ∧
      (¬ (zI μ b4 15) = x1 →
        AW E l (d + 2) nc ns mX10_carrier 23 [some (.ref 11), some (.int x1), some (.int x2), some (.int x3), some (.int (x4 + 1)), none] [] μ K) ∧
      ((zI μ b4 15) = x1 →
        (x2 = 0 →
          AW E l (d + 2) nc ns mX10_carrier 23 [some (.ref 11), some (.int x1), some (.int x2), some (.int (x3 + 1)), some (.int (x4 + 1)), none] [] μ K) ∧
        (¬ x2 = 0 →
          (¬ (zI μ b4 16) = 1 →
            AW E l (d + 2) nc ns mX10_carrier 23 [some (.ref 11), some (.int x1), some (.int x2), some (.int x3), some (.int (x4 + 1)), none] [] μ K) ∧
          ((zI μ b4 16) = 1 →
            AW E l (d + 2) nc ns mX10_carrier 23 [some (.ref 11), some (.int x1), some (.int x2), some (.int (x3 + 1)), some (.int (x4 + 1)), none] [] μ K)))))) : AW E l (d + 2) nc ns mX10_carrier 23 [some (.ref 11), some (.int x1), some (.int x2), some (.int x3), some (.int x4), none] [] μ K := by
  refine aw_iload (pc' := 25) (dt_X10_carrier 14 (23, .iload 4, 2) rfl) rfl rfl (aw_aload_n (pc' := 26) (dt_X10_carrier 15 (25, .aload_n 0, 1) rfl) rfl rfl (aw_getI (pc' := 29) (dt_X10_carrier 16 (26, .getfield 131, 3) rfl) fl_ReturnDesk_131 rfl rfl (sk_11 hS) (aw_icmp_ge (pc' := 32) (tgt := 72) (dt_X10_carrier 17 (29, .if_icmp .ge 43, 3) rfl) (by decide) rfl ?_ ?_)))
  · intro q1
    have h := h.1 q1
    refine aw_iload_n (pc' := 73) (dt_X10_carrier 36 (72, .iload_n 3, 1) rfl) rfl rfl (aw_iret (dt_X10_carrier 37 (73, .ireturn, 1) rfl) rfl rfl ?_)
    exact h
  · intro q1
    have h := h.2 q1
    obtain ⟨g2, h⟩ := h
    refine aw_aload_n (pc' := 33) (dt_X10_carrier 18 (32, .aload_n 0, 1) rfl) rfl rfl (aw_getAs (pc' := 36) (dt_X10_carrier 19 (33, .getfield 23, 3) rfl) fl_ReturnDesk_23 rfl rfl (sk_11 hS) (sa_11_2 hS) (aw_iload (pc' := 38) (dt_X10_carrier 20 (36, .iload 4, 2) rfl) rfl rfl (aw_aald (pc' := 39) (dt_X10_carrier 21 (38, .aaload, 1) rfl) (by decide) (by decide) rfl (sk_14 hS) (vin_eq (sl_14 hS) g2) ?_ ?_)))
    · intro e3
      have h := h.1 e3
      refine aw_astoreN (pc' := 41) (ls' := [some (.ref 11), some (.int x1), some (.int x2), some (.int x3), some (.int x4), some (.null)]) (dt_X10_carrier 22 (39, .astore 5, 2) rfl) (by decide) rfl rfl (aw_aloadN (pc' := 43) (dt_X10_carrier 23 (41, .aload 5, 2) rfl) rfl rfl ?_)
      exact h.elim
    · intro b4 e3
      have h := h.2 b4 e3
      obtain ⟨g5, h⟩ := h
      refine aw_astore (pc' := 41) (ls' := [some (.ref 11), some (.int x1), some (.int x2), some (.int x3), some (.int x4), some (.ref b4)]) (dt_X10_carrier 22 (39, .astore 5, 2) rfl) (by decide) rfl rfl (aw_aload (pc' := 43) (dt_X10_carrier 23 (41, .aload 5, 2) rfl) rfl rfl (aw_getI (pc' := 46) (dt_X10_carrier 24 (43, .getfield 415, 3) rfl) fl_ReturnDesk_415 rfl rfl g5 (aw_iload_n (pc' := 47) (dt_X10_carrier 25 (46, .iload_n 1, 1) rfl) rfl rfl (aw_icmp_ne (pc' := 50) (tgt := 66) (dt_X10_carrier 26 (47, .if_icmp .ne 19, 3) rfl) (by decide) rfl ?_ ?_))))
      · intro q6
        have h := h.1 q6
        refine aw_iinc (pc' := 69) (v := 1) (ls' := [some (.ref 11), some (.int x1), some (.int x2), some (.int x3), some (.int (x4 + 1)), some (.ref b4)]) (dt_X10_carrier 34 (66, .iinc 4 1, 3) rfl) rfl (by decide) (by decide) rfl rfl (aw_goto (tgt := 23) (dt_X10_carrier 35 (69, .goto (-46), 3) rfl) (by decide) (aw_drop (ls' := [some (.ref 11), some (.int x1), some (.int x2), some (.int x3), some (.int (x4 + 1)), none]) ⟨rfl, rfl, rfl, rfl, rfl, trivial⟩ ?_))
        exact h
      · intro q6
        have h := h.2 q6
        refine aw_iload_n (pc' := 51) (dt_X10_carrier 27 (50, .iload_n 2, 1) rfl) rfl rfl (aw_if_eq (pc' := 54) (tgt := 63) (dt_X10_carrier 28 (51, .ifCond .eq 12, 3) rfl) (by decide) rfl ?_ ?_)
        · intro q7
          have h := h.1 q7
          refine aw_iinc (pc' := 66) (v := 1) (ls' := [some (.ref 11), some (.int x1), some (.int x2), some (.int (x3 + 1)), some (.int x4), some (.ref b4)]) (dt_X10_carrier 33 (63, .iinc 3 1, 3) rfl) rfl (by decide) (by decide) rfl rfl (aw_iinc (pc' := 69) (v := 1) (ls' := [some (.ref 11), some (.int x1), some (.int x2), some (.int (x3 + 1)), some (.int (x4 + 1)), some (.ref b4)]) (dt_X10_carrier 34 (66, .iinc 4 1, 3) rfl) rfl (by decide) (by decide) rfl rfl (aw_goto (tgt := 23) (dt_X10_carrier 35 (69, .goto (-46), 3) rfl) (by decide) (aw_drop (ls' := [some (.ref 11), some (.int x1), some (.int x2), some (.int (x3 + 1)), some (.int (x4 + 1)), none]) ⟨rfl, rfl, rfl, rfl, rfl, trivial⟩ ?_)))
          exact h
        · intro q7
          have h := h.2 q7
          refine aw_aload (pc' := 56) (dt_X10_carrier 29 (54, .aload 5, 2) rfl) rfl rfl (aw_getI (pc' := 59) (dt_X10_carrier 30 (56, .getfield 418, 3) rfl) fl_ReturnDesk_418 rfl rfl g5 (aw_iconst (pc' := 60) (v := 1) (dt_X10_carrier 31 (59, .iconst 1, 1) rfl) (by decide) rfl (aw_icmp_ne (pc' := 63) (tgt := 66) (dt_X10_carrier 32 (60, .if_icmp .ne 6, 3) rfl) (by decide) rfl ?_ ?_)))
          · intro q8
            have h := h.1 q8
            refine aw_iinc (pc' := 69) (v := 1) (ls' := [some (.ref 11), some (.int x1), some (.int x2), some (.int x3), some (.int (x4 + 1)), some (.ref b4)]) (dt_X10_carrier 34 (66, .iinc 4 1, 3) rfl) rfl (by decide) (by decide) rfl rfl (aw_goto (tgt := 23) (dt_X10_carrier 35 (69, .goto (-46), 3) rfl) (by decide) (aw_drop (ls' := [some (.ref 11), some (.int x1), some (.int x2), some (.int x3), some (.int (x4 + 1)), none]) ⟨rfl, rfl, rfl, rfl, rfl, trivial⟩ ?_))
            exact h
          · intro q8
            have h := h.2 q8
            refine aw_iinc (pc' := 66) (v := 1) (ls' := [some (.ref 11), some (.int x1), some (.int x2), some (.int (x3 + 1)), some (.int x4), some (.ref b4)]) (dt_X10_carrier 33 (63, .iinc 3 1, 3) rfl) rfl (by decide) (by decide) rfl rfl (aw_iinc (pc' := 69) (v := 1) (ls' := [some (.ref 11), some (.int x1), some (.int x2), some (.int (x3 + 1)), some (.int (x4 + 1)), some (.ref b4)]) (dt_X10_carrier 34 (66, .iinc 4 1, 3) rfl) rfl (by decide) (by decide) rfl rfl (aw_goto (tgt := 23) (dt_X10_carrier 35 (69, .goto (-46), 3) rfl) (by decide) (aw_drop (ls' := [some (.ref 11), some (.int x1), some (.int x2), some (.int (x3 + 1)), some (.int (x4 + 1)), none]) ⟨rfl, rfl, rfl, rfl, rfl, trivial⟩ ?_)))
            exact h

theorem t_X10_count {E : ZE} {l : Launch} {d nc ns : Nat} {x1 : Int32} {μ : ZM} {K : Option Value → ZM → Prop} (hS : Stat μ) (h :
  (x1 = 0 →
    K (some (.int (zI μ 11 12))) μ) ∧
  (x1 = 1 →
    K (some (.int (zI μ 11 13))) μ) ∧
  (x1 = 2 →
    K (some (.int (zI μ 11 14))) μ) ∧
  (x1 = 3 →
    K (some (.int (zI μ 11 15))) μ) ∧
  (x1 = 4 →
    K (some (.int (zI μ 17 1))) μ) ∧
  (x1 = 5 →
    K (some (.int (zI μ 17 2))) μ) ∧
  (x1 = 6 →
    AW E l d 0 0 mX5_onAllNotes 0 (zargs 3 [.ref 17]) [] μ (fun v μ8 => ∃ r10 : Int32, v = some (.int r10) ∧ Stat μ8 ∧ 
      K (some (.int r10)) μ8)) ∧
  (x1 = 7 →
    K (some (.int (zI μ 11 17))) μ) ∧
  (x1 = 8 →
    K (some (.int (zI μ 11 16))) μ) ∧
  (x1 = 9 →
    K (some (.int (zI μ 20 1))) μ) ∧
  (x1 = 10 →
    K (some (.int (zI μ 17 3))) μ) ∧
  (x1 = 11 →
    K (some (.int (zI μ 17 4))) μ) ∧
  ((¬ x1 = 0 ∧ ¬ x1 = 1 ∧ ¬ x1 = 2 ∧ ¬ x1 = 3 ∧ ¬ x1 = 4 ∧ ¬ x1 = 5 ∧ ¬ x1 = 6 ∧ ¬ x1 = 7 ∧ ¬ x1 = 8 ∧ ¬ x1 = 9 ∧ ¬ x1 = 10 ∧ ¬ x1 = 11) →
  K (some (.int (-1))) μ)) : AW E l (d + 1) nc ns mX10_count 0 [some (.ref 11), some (.int x1)] [] μ K := by
  refine aw_iload_n (pc' := 1) (dt_X10_count 0 (0, .iload_n 1, 1) rfl) rfl rfl ?_
  by_cases q1 : x1 = 0
  · have h := h.1 q1
    refine aw_tableE (tgt := 64) (off := 63) (dt_X10_count 1 (1, .tableswitch 141 0 11 #[63, 68, 73, 78, 83, 91, 99, 107, 112, 117, 125, 133], 63) rfl) q1 (by decide) (by decide) (by decide) (by decide) ?_
    refine aw_aload_n (pc' := 65) (dt_X10_count 2 (64, .aload_n 0, 1) rfl) rfl rfl (aw_getI (pc' := 68) (dt_X10_count 3 (65, .getfield 81, 3) rfl) fl_ReturnDesk_81 rfl rfl (sk_11 hS) (aw_iret (dt_X10_count 4 (68, .ireturn, 1) rfl) rfl rfl ?_))
    exact h
  by_cases q2 : x1 = 1
  · have h := h.2.1 q2
    refine aw_tableE (tgt := 69) (off := 68) (dt_X10_count 1 (1, .tableswitch 141 0 11 #[63, 68, 73, 78, 83, 91, 99, 107, 112, 117, 125, 133], 63) rfl) q2 (by decide) (by decide) (by decide) (by decide) ?_
    refine aw_aload_n (pc' := 70) (dt_X10_count 5 (69, .aload_n 0, 1) rfl) rfl rfl (aw_getI (pc' := 73) (dt_X10_count 6 (70, .getfield 107, 3) rfl) fl_ReturnDesk_107 rfl rfl (sk_11 hS) (aw_iret (dt_X10_count 7 (73, .ireturn, 1) rfl) rfl rfl ?_))
    exact h
  by_cases q3 : x1 = 2
  · have h := h.2.2.1 q3
    refine aw_tableE (tgt := 74) (off := 73) (dt_X10_count 1 (1, .tableswitch 141 0 11 #[63, 68, 73, 78, 83, 91, 99, 107, 112, 117, 125, 133], 63) rfl) q3 (by decide) (by decide) (by decide) (by decide) ?_
    refine aw_aload_n (pc' := 75) (dt_X10_count 8 (74, .aload_n 0, 1) rfl) rfl rfl (aw_getI (pc' := 78) (dt_X10_count 9 (75, .getfield 131, 3) rfl) fl_ReturnDesk_131 rfl rfl (sk_11 hS) (aw_iret (dt_X10_count 10 (78, .ireturn, 1) rfl) rfl rfl ?_))
    exact h
  by_cases q4 : x1 = 3
  · have h := h.2.2.2.1 q4
    refine aw_tableE (tgt := 79) (off := 78) (dt_X10_count 1 (1, .tableswitch 141 0 11 #[63, 68, 73, 78, 83, 91, 99, 107, 112, 117, 125, 133], 63) rfl) q4 (by decide) (by decide) (by decide) (by decide) ?_
    refine aw_aload_n (pc' := 80) (dt_X10_count 11 (79, .aload_n 0, 1) rfl) rfl rfl (aw_getI (pc' := 83) (dt_X10_count 12 (80, .getfield 248, 3) rfl) fl_ReturnDesk_248 rfl rfl (sk_11 hS) (aw_iret (dt_X10_count 13 (83, .ireturn, 1) rfl) rfl rfl ?_))
    exact h
  by_cases q5 : x1 = 4
  · have h := h.2.2.2.2.1 q5
    refine aw_tableE (tgt := 84) (off := 83) (dt_X10_count 1 (1, .tableswitch 141 0 11 #[63, 68, 73, 78, 83, 91, 99, 107, 112, 117, 125, 133], 63) rfl) q5 (by decide) (by decide) (by decide) (by decide) ?_
    refine aw_aload_n (pc' := 85) (dt_X10_count 14 (84, .aload_n 0, 1) rfl) rfl rfl (aw_getAs (pc' := 88) (dt_X10_count 15 (85, .getfield 42, 3) rfl) fl_ReturnDesk_42 rfl rfl (sk_11 hS) (sa_11_5 hS) (aw_getI (pc' := 91) (dt_X10_count 16 (88, .getfield 421, 3) rfl) fl_ReturnDesk_421 rfl rfl (sk_17 hS) (aw_iret (dt_X10_count 17 (91, .ireturn, 1) rfl) rfl rfl ?_)))
    exact h
  by_cases q6 : x1 = 5
  · have h := h.2.2.2.2.2.1 q6
    refine aw_tableE (tgt := 92) (off := 91) (dt_X10_count 1 (1, .tableswitch 141 0 11 #[63, 68, 73, 78, 83, 91, 99, 107, 112, 117, 125, 133], 63) rfl) q6 (by decide) (by decide) (by decide) (by decide) ?_
    refine aw_aload_n (pc' := 93) (dt_X10_count 18 (92, .aload_n 0, 1) rfl) rfl rfl (aw_getAs (pc' := 96) (dt_X10_count 19 (93, .getfield 42, 3) rfl) fl_ReturnDesk_42 rfl rfl (sk_11 hS) (sa_11_5 hS) (aw_getI (pc' := 99) (dt_X10_count 20 (96, .getfield 118, 3) rfl) fl_ReturnDesk_118 rfl rfl (sk_17 hS) (aw_iret (dt_X10_count 21 (99, .ireturn, 1) rfl) rfl rfl ?_)))
    exact h
  by_cases q7 : x1 = 6
  · have h := h.2.2.2.2.2.2.1 q7
    refine aw_tableE (tgt := 100) (off := 99) (dt_X10_count 1 (1, .tableswitch 141 0 11 #[63, 68, 73, 78, 83, 91, 99, 107, 112, 117, 125, 133], 63) rfl) q7 (by decide) (by decide) (by decide) (by decide) ?_
    refine aw_aload_n (pc' := 101) (dt_X10_count 22 (100, .aload_n 0, 1) rfl) rfl rfl (aw_getAs (pc' := 104) (dt_X10_count 23 (101, .getfield 42, 3) rfl) fl_ReturnDesk_42 rfl rfl (sk_11 hS) (sa_11_5 hS) (aw_callV0 (pc' := 107) (nc := nc) (ns := ns) (y2 := mX5_onAllNotes) (As := []) (rest := []) (a := 17) (dt_X10_count 24 (104, .invokevirtual 424, 3) rfl) ok_X5_onAllNotes ln_ReturnDesk_424 im_X5_onAllNotes se_X5_onAllNotes pr_X5_onAllNotes (Or.inl ⟨by decide, rfl⟩) rfl (Nat.le_of_ble_eq_true rfl) (Nat.le_of_ble_eq_true rfl) rfl (sk_17 hS) h ?_))
    rintro v μ8 ⟨r10, rfl, hS9, h⟩
    refine aw_stk (st' := [.int r10]) rfl ?_
    refine aw_iret (dt_X10_count 25 (107, .ireturn, 1) rfl) rfl rfl ?_
    exact h
  by_cases q11 : x1 = 7
  · have h := h.2.2.2.2.2.2.2.1 q11
    refine aw_tableE (tgt := 108) (off := 107) (dt_X10_count 1 (1, .tableswitch 141 0 11 #[63, 68, 73, 78, 83, 91, 99, 107, 112, 117, 125, 133], 63) rfl) q11 (by decide) (by decide) (by decide) (by decide) ?_
    refine aw_aload_n (pc' := 109) (dt_X10_count 26 (108, .aload_n 0, 1) rfl) rfl rfl (aw_getI (pc' := 112) (dt_X10_count 27 (109, .getfield 114, 3) rfl) fl_ReturnDesk_114 rfl rfl (sk_11 hS) (aw_iret (dt_X10_count 28 (112, .ireturn, 1) rfl) rfl rfl ?_))
    exact h
  by_cases q12 : x1 = 8
  · have h := h.2.2.2.2.2.2.2.2.1 q12
    refine aw_tableE (tgt := 113) (off := 112) (dt_X10_count 1 (1, .tableswitch 141 0 11 #[63, 68, 73, 78, 83, 91, 99, 107, 112, 117, 125, 133], 63) rfl) q12 (by decide) (by decide) (by decide) (by decide) ?_
    refine aw_aload_n (pc' := 114) (dt_X10_count 29 (113, .aload_n 0, 1) rfl) rfl rfl (aw_getI (pc' := 117) (dt_X10_count 30 (114, .getfield 205, 3) rfl) fl_ReturnDesk_205 rfl rfl (sk_11 hS) (aw_iret (dt_X10_count 31 (117, .ireturn, 1) rfl) rfl rfl ?_))
    exact h
  by_cases q13 : x1 = 9
  · have h := h.2.2.2.2.2.2.2.2.2.1 q13
    refine aw_tableE (tgt := 118) (off := 117) (dt_X10_count 1 (1, .tableswitch 141 0 11 #[63, 68, 73, 78, 83, 91, 99, 107, 112, 117, 125, 133], 63) rfl) q13 (by decide) (by decide) (by decide) (by decide) ?_
    refine aw_aload_n (pc' := 119) (dt_X10_count 32 (118, .aload_n 0, 1) rfl) rfl rfl (aw_getAs (pc' := 122) (dt_X10_count 33 (119, .getfield 57, 3) rfl) fl_ReturnDesk_57 rfl rfl (sk_11 hS) (sa_11_7 hS) (aw_getI (pc' := 125) (dt_X10_count 34 (122, .getfield 196, 3) rfl) fl_ReturnDesk_196 rfl rfl (sk_20 hS) (aw_iret (dt_X10_count 35 (125, .ireturn, 1) rfl) rfl rfl ?_)))
    exact h
  by_cases q14 : x1 = 10
  · have h := h.2.2.2.2.2.2.2.2.2.2.1 q14
    refine aw_tableE (tgt := 126) (off := 125) (dt_X10_count 1 (1, .tableswitch 141 0 11 #[63, 68, 73, 78, 83, 91, 99, 107, 112, 117, 125, 133], 63) rfl) q14 (by decide) (by decide) (by decide) (by decide) ?_
    refine aw_aload_n (pc' := 127) (dt_X10_count 36 (126, .aload_n 0, 1) rfl) rfl rfl (aw_getAs (pc' := 130) (dt_X10_count 37 (127, .getfield 42, 3) rfl) fl_ReturnDesk_42 rfl rfl (sk_11 hS) (sa_11_5 hS) (aw_getI (pc' := 133) (dt_X10_count 38 (130, .getfield 427, 3) rfl) fl_ReturnDesk_427 rfl rfl (sk_17 hS) (aw_iret (dt_X10_count 39 (133, .ireturn, 1) rfl) rfl rfl ?_)))
    exact h
  by_cases q15 : x1 = 11
  · have h := h.2.2.2.2.2.2.2.2.2.2.2.1 q15
    refine aw_tableE (tgt := 134) (off := 133) (dt_X10_count 1 (1, .tableswitch 141 0 11 #[63, 68, 73, 78, 83, 91, 99, 107, 112, 117, 125, 133], 63) rfl) q15 (by decide) (by decide) (by decide) (by decide) ?_
    refine aw_aload_n (pc' := 135) (dt_X10_count 40 (134, .aload_n 0, 1) rfl) rfl rfl (aw_getAs (pc' := 138) (dt_X10_count 41 (135, .getfield 42, 3) rfl) fl_ReturnDesk_42 rfl rfl (sk_11 hS) (sa_11_5 hS) (aw_getI (pc' := 141) (dt_X10_count 42 (138, .getfield 428, 3) rfl) fl_ReturnDesk_428 rfl rfl (sk_17 hS) (aw_iret (dt_X10_count 43 (141, .ireturn, 1) rfl) rfl rfl ?_)))
    exact h
  have h := h.2.2.2.2.2.2.2.2.2.2.2.2 ⟨q1, q2, q3, q4, q5, q6, q7, q11, q12, q13, q14, q15⟩
  refine aw_tableOut (tgt := 142) (dt_X10_count 1 (1, .tableswitch 141 0 11 #[63, 68, 73, 78, 83, 91, 99, 107, 112, 117, 125, 133], 63) rfl) (tab_out (lo := 0) (n := 12) (by decide) (by decide) (by decide) (by
      intro k hk
      match k, hk with
      | 0, _ => exact q1
      | 1, _ => exact q2
      | 2, _ => exact q3
      | 3, _ => exact q4
      | 4, _ => exact q5
      | 5, _ => exact q6
      | 6, _ => exact q7
      | 7, _ => exact q11
      | 8, _ => exact q12
      | 9, _ => exact q13
      | 10, _ => exact q14
      | 11, _ => exact q15
      | k + 12, hk => omega)) (by decide) ?_
  refine aw_iconst (pc' := 143) (v := (-1)) (dt_X10_count 44 (142, .iconst (-1), 1) rfl) (by decide) rfl (aw_iret (dt_X10_count 45 (143, .ireturn, 1) rfl) rfl rfl ?_)
  exact h

