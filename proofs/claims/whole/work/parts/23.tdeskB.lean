theorem t_X10_areFacts {E : ZE} {l : Launch} {d nc ns : Nat} {x0 : Int32} {μ : ZM} {K : Option Value → ZM → Prop} (hS : Stat μ) (h :
  (x0 < 0 →
    K (some (.int 0)) μ) ∧
  (¬ x0 < 0 →
    (999999 < x0 →
      K (some (.int 0)) μ) ∧
    (¬ 999999 < x0 →
      (((x0 / 100000) - (x0 / 100000) / 10 * 10) < 0 →
        K (some (.int 0)) μ) ∧
      (¬ ((x0 / 100000) - (x0 / 100000) / 10 * 10) < 0 →
        (((x0 / 10000) - (x0 / 10000) / 10 * 10) < ((x0 / 100000) - (x0 / 100000) / 10 * 10) →
          K (some (.int 0)) μ) ∧
        (¬ ((x0 / 10000) - (x0 / 10000) / 10 * 10) < ((x0 / 100000) - (x0 / 100000) / 10 * 10) →
          (1 < ((x0 / 10000) - (x0 / 10000) / 10 * 10) →
            K (some (.int 0)) μ) ∧
          (¬ 1 < ((x0 / 10000) - (x0 / 10000) / 10 * 10) →
            (((x0 / 1000) - (x0 / 1000) / 10 * 10) < 0 →
              K (some (.int 0)) μ) ∧
            (¬ ((x0 / 1000) - (x0 / 1000) / 10 * 10) < 0 →
              (((x0 / 100) - (x0 / 100) / 10 * 10) < ((x0 / 1000) - (x0 / 1000) / 10 * 10) →
                K (some (.int 0)) μ) ∧
              (¬ ((x0 / 100) - (x0 / 100) / 10 * 10) < ((x0 / 1000) - (x0 / 1000) / 10 * 10) →
                (9 < ((x0 / 100) - (x0 / 100) / 10 * 10) →
                  K (some (.int 0)) μ) ∧
                (¬ 9 < ((x0 / 100) - (x0 / 100) / 10 * 10) →
                  (((x0 / 10) - (x0 / 10) / 10 * 10) < 0 →
                    K (some (.int 0)) μ) ∧
                  (¬ ((x0 / 10) - (x0 / 10) / 10 * 10) < 0 →
                    (((x0 / 1) - (x0 / 1) / 10 * 10) < ((x0 / 10) - (x0 / 10) / 10 * 10) →
                      K (some (.int 0)) μ) ∧
                    (¬ ((x0 / 1) - (x0 / 1) / 10 * 10) < ((x0 / 10) - (x0 / 10) / 10 * 10) →
                      (1 < ((x0 / 1) - (x0 / 1) / 10 * 10) →
                        K (some (.int 0)) μ) ∧
                      (¬ 1 < ((x0 / 1) - (x0 / 1) / 10 * 10) →
                        K (some (.int 1)) μ)))))))))))) : AW E l (d + 1) nc ns mX10_areFacts 0 [some (.int x0)] [] μ K := by
  refine aw_iload_n (pc' := 1) (dt_X10_areFacts 0 (0, .iload_n 0, 1) rfl) rfl rfl (aw_iconst (pc' := 2) (v := 0) (dt_X10_areFacts 1 (1, .iconst 0, 1) rfl) (by decide) rfl (aw_ldc (pc' := 4) (dt_X10_areFacts 2 (2, .ldc 117, 2) rfl) ct_ReturnDesk_117 rfl (aw_inS (pc' := 7) (nc1 := 0) (ns1 := 0) (nc := nc) (ns := ns) (ls' := [some (.int x0), some (.int 0), some (.int 999999)]) (y2 := mX10_within) (As := [.int x0, .int 0, .int 999999]) (rest := []) (dt_X10_areFacts 3 (4, .invokestatic 76, 3) rfl) ok_X10_within ln_ReturnDesk_76 sm_X10_within pr_X10_within rfl (Nat.le_of_ble_eq_true rfl) (Nat.le_of_ble_eq_true rfl) rfl rfl (aw_iload_n (pc' := 1) (dt_X10_within 0 (0, .iload_n 0, 1) rfl) rfl rfl (aw_iload_n (pc' := 2) (dt_X10_within 1 (1, .iload_n 1, 1) rfl) rfl rfl (aw_icmp_lt (pc' := 5) (tgt := 14) (dt_X10_within 2 (2, .if_icmp .lt 12, 3) rfl) (by decide) rfl ?_ ?_))))))
  · intro q1
    have h := h.1 q1
    refine aw_iconst (pc' := 15) (v := 0) (dt_X10_within 8 (14, .iconst 0, 1) rfl) (by decide) rfl (aw_iret (dt_X10_within 9 (15, .ireturn, 1) rfl) rfl rfl (aw_stk (st' := [.int 0]) rfl (aw_if_eq_T (pc' := 10) (tgt := 74) (dt_X10_areFacts 4 (7, .ifCond .eq 67, 3) rfl) (by decide) rfl (by decide) (aw_iconst (pc' := 75) (v := 0) (dt_X10_areFacts 34 (74, .iconst 0, 1) rfl) (by decide) rfl (aw_iret (dt_X10_areFacts 35 (75, .ireturn, 1) rfl) rfl rfl ?_)))))
    exact h
  · intro q1
    have h := h.2 q1
    refine aw_iload_n (pc' := 6) (dt_X10_within 3 (5, .iload_n 0, 1) rfl) rfl rfl (aw_iload_n (pc' := 7) (dt_X10_within 4 (6, .iload_n 2, 1) rfl) rfl rfl (aw_icmp_gt (pc' := 10) (tgt := 14) (dt_X10_within 5 (7, .if_icmp .gt 7, 3) rfl) (by decide) rfl ?_ ?_))
    · intro q2
      have h := h.1 q2
      refine aw_iconst (pc' := 15) (v := 0) (dt_X10_within 8 (14, .iconst 0, 1) rfl) (by decide) rfl (aw_iret (dt_X10_within 9 (15, .ireturn, 1) rfl) rfl rfl (aw_stk (st' := [.int 0]) rfl (aw_if_eq_T (pc' := 10) (tgt := 74) (dt_X10_areFacts 4 (7, .ifCond .eq 67, 3) rfl) (by decide) rfl (by decide) (aw_iconst (pc' := 75) (v := 0) (dt_X10_areFacts 34 (74, .iconst 0, 1) rfl) (by decide) rfl (aw_iret (dt_X10_areFacts 35 (75, .ireturn, 1) rfl) rfl rfl ?_)))))
      exact h
    · intro q2
      have h := h.2 q2
      refine aw_iconst (pc' := 11) (v := 1) (dt_X10_within 6 (10, .iconst 1, 1) rfl) (by decide) rfl (aw_goto (tgt := 15) (dt_X10_within 7 (11, .goto 4, 3) rfl) (by decide) (aw_iret (dt_X10_within 9 (15, .ireturn, 1) rfl) rfl rfl (aw_stk (st' := [.int 1]) rfl (aw_if_eq_F (pc' := 10) (tgt := 74) (dt_X10_areFacts 4 (7, .ifCond .eq 67, 3) rfl) (by decide) rfl (by decide) (aw_iload_n (pc' := 11) (dt_X10_areFacts 5 (10, .iload_n 0, 1) rfl) rfl rfl (aw_ldcw (pc' := 14) (dt_X10_areFacts 6 (11, .ldc_w 431, 3) rfl) ct_ReturnDesk_431 rfl (aw_inS (pc' := 17) (nc1 := 0) (ns1 := 0) (nc := nc) (ns := ns) (ls' := [some (.int x0), some (.int 100000)]) (y2 := mX10_digit) (As := [.int x0, .int 100000]) (rest := []) (dt_X10_areFacts 7 (14, .invokestatic 227, 3) rfl) ok_X10_digit ln_ReturnDesk_227 sm_X10_digit pr_X10_digit rfl (Nat.le_of_ble_eq_true rfl) (Nat.le_of_ble_eq_true rfl) rfl rfl (aw_iload_n (pc' := 1) (dt_X10_digit 0 (0, .iload_n 1, 1) rfl) rfl rfl (aw_if_le_F (pc' := 4) (tgt := 13) (dt_X10_digit 1 (1, .ifCond .le 12, 3) rfl) (by decide) rfl (by decide) (aw_iload_n (pc' := 5) (dt_X10_digit 2 (4, .iload_n 0, 1) rfl) rfl rfl (aw_iload_n (pc' := 6) (dt_X10_digit 3 (5, .iload_n 1, 1) rfl) rfl rfl (aw_idiv (pc' := 7) (dt_X10_digit 4 (6, .idiv, 1) rfl) (by decide) rfl (aw_bipush (pc' := 9) (v := 10) (dt_X10_digit 5 (7, .bipush 10, 2) rfl) (by decide) rfl (aw_irem (pc' := 10) (dt_X10_digit 6 (9, .irem, 1) rfl) (by decide) rfl (aw_goto (tgt := 14) (dt_X10_digit 7 (10, .goto 4, 3) rfl) (by decide) (aw_iret (dt_X10_digit 9 (14, .ireturn, 1) rfl) rfl rfl (aw_stk (st' := [.int ((x0 / 100000) - (x0 / 100000) / 10 * 10)]) rfl (aw_iload_n (pc' := 18) (dt_X10_areFacts 8 (17, .iload_n 0, 1) rfl) rfl rfl (aw_sipush (pc' := 21) (v := 10000) (dt_X10_areFacts 9 (18, .sipush 10000, 3) rfl) (by decide) rfl (aw_inS (pc' := 24) (nc1 := 0) (ns1 := 0) (nc := nc) (ns := ns) (ls' := [some (.int x0), some (.int 10000)]) (y2 := mX10_digit) (As := [.int x0, .int 10000]) (rest := [.int ((x0 / 100000) - (x0 / 100000) / 10 * 10)]) (dt_X10_areFacts 10 (21, .invokestatic 227, 3) rfl) ok_X10_digit ln_ReturnDesk_227 sm_X10_digit pr_X10_digit rfl (Nat.le_of_ble_eq_true rfl) (Nat.le_of_ble_eq_true rfl) rfl rfl (aw_iload_n (pc' := 1) (dt_X10_digit 0 (0, .iload_n 1, 1) rfl) rfl rfl (aw_if_le_F (pc' := 4) (tgt := 13) (dt_X10_digit 1 (1, .ifCond .le 12, 3) rfl) (by decide) rfl (by decide) (aw_iload_n (pc' := 5) (dt_X10_digit 2 (4, .iload_n 0, 1) rfl) rfl rfl (aw_iload_n (pc' := 6) (dt_X10_digit 3 (5, .iload_n 1, 1) rfl) rfl rfl (aw_idiv (pc' := 7) (dt_X10_digit 4 (6, .idiv, 1) rfl) (by decide) rfl (aw_bipush (pc' := 9) (v := 10) (dt_X10_digit 5 (7, .bipush 10, 2) rfl) (by decide) rfl (aw_irem (pc' := 10) (dt_X10_digit 6 (9, .irem, 1) rfl) (by decide) rfl (aw_goto (tgt := 14) (dt_X10_digit 7 (10, .goto 4, 3) rfl) (by decide) (aw_iret (dt_X10_digit 9 (14, .ireturn, 1) rfl) rfl rfl (aw_stk (st' := [.int ((x0 / 10000) - (x0 / 10000) / 10 * 10), .int ((x0 / 100000) - (x0 / 100000) / 10 * 10)]) rfl (aw_iconst (pc' := 25) (v := 1) (dt_X10_areFacts 11 (24, .iconst 1, 1) rfl) (by decide) rfl (aw_inS (pc' := 28) (nc1 := 0) (ns1 := 0) (nc := nc) (ns := ns) (ls' := [some (.int ((x0 / 100000) - (x0 / 100000) / 10 * 10)), some (.int ((x0 / 10000) - (x0 / 10000) / 10 * 10)), some (.int 1)]) (y2 := mX10_isSpan) (As := [.int ((x0 / 100000) - (x0 / 100000) / 10 * 10), .int ((x0 / 10000) - (x0 / 10000) / 10 * 10), .int 1]) (rest := []) (dt_X10_areFacts 12 (25, .invokestatic 193, 3) rfl) ok_X10_isSpan ln_ReturnDesk_193 sm_X10_isSpan pr_X10_isSpan rfl (Nat.le_of_ble_eq_true rfl) (Nat.le_of_ble_eq_true rfl) rfl rfl (aw_iload_n (pc' := 1) (dt_X10_isSpan 0 (0, .iload_n 0, 1) rfl) rfl rfl (aw_if_lt (pc' := 4) (tgt := 18) (dt_X10_isSpan 1 (1, .ifCond .lt 17, 3) rfl) (by decide) rfl ?_ ?_))))))))))))))))))))))))))))))))))
      · intro q3
        have h := h.1 q3
        refine aw_iconst (pc' := 19) (v := 0) (dt_X10_isSpan 10 (18, .iconst 0, 1) rfl) (by decide) rfl (aw_iret (dt_X10_isSpan 11 (19, .ireturn, 1) rfl) rfl rfl (aw_stk (st' := [.int 0]) rfl (aw_if_eq_T (pc' := 31) (tgt := 74) (dt_X10_areFacts 13 (28, .ifCond .eq 46, 3) rfl) (by decide) rfl (by decide) (aw_iconst (pc' := 75) (v := 0) (dt_X10_areFacts 34 (74, .iconst 0, 1) rfl) (by decide) rfl (aw_iret (dt_X10_areFacts 35 (75, .ireturn, 1) rfl) rfl rfl ?_)))))
        exact h
      · intro q3
        have h := h.2 q3
        refine aw_iload_n (pc' := 5) (dt_X10_isSpan 2 (4, .iload_n 0, 1) rfl) rfl rfl (aw_iload_n (pc' := 6) (dt_X10_isSpan 3 (5, .iload_n 1, 1) rfl) rfl rfl (aw_icmp_gt (pc' := 9) (tgt := 18) (dt_X10_isSpan 4 (6, .if_icmp .gt 12, 3) rfl) (by decide) rfl ?_ ?_))
        · intro q4
          have h := h.1 q4
          refine aw_iconst (pc' := 19) (v := 0) (dt_X10_isSpan 10 (18, .iconst 0, 1) rfl) (by decide) rfl (aw_iret (dt_X10_isSpan 11 (19, .ireturn, 1) rfl) rfl rfl (aw_stk (st' := [.int 0]) rfl (aw_if_eq_T (pc' := 31) (tgt := 74) (dt_X10_areFacts 13 (28, .ifCond .eq 46, 3) rfl) (by decide) rfl (by decide) (aw_iconst (pc' := 75) (v := 0) (dt_X10_areFacts 34 (74, .iconst 0, 1) rfl) (by decide) rfl (aw_iret (dt_X10_areFacts 35 (75, .ireturn, 1) rfl) rfl rfl ?_)))))
          exact h
        · intro q4
          have h := h.2 q4
          refine aw_iload_n (pc' := 10) (dt_X10_isSpan 5 (9, .iload_n 1, 1) rfl) rfl rfl (aw_iload_n (pc' := 11) (dt_X10_isSpan 6 (10, .iload_n 2, 1) rfl) rfl rfl (aw_icmp_gt (pc' := 14) (tgt := 18) (dt_X10_isSpan 7 (11, .if_icmp .gt 7, 3) rfl) (by decide) rfl ?_ ?_))
          · intro q5
            have h := h.1 q5
            refine aw_iconst (pc' := 19) (v := 0) (dt_X10_isSpan 10 (18, .iconst 0, 1) rfl) (by decide) rfl (aw_iret (dt_X10_isSpan 11 (19, .ireturn, 1) rfl) rfl rfl (aw_stk (st' := [.int 0]) rfl (aw_if_eq_T (pc' := 31) (tgt := 74) (dt_X10_areFacts 13 (28, .ifCond .eq 46, 3) rfl) (by decide) rfl (by decide) (aw_iconst (pc' := 75) (v := 0) (dt_X10_areFacts 34 (74, .iconst 0, 1) rfl) (by decide) rfl (aw_iret (dt_X10_areFacts 35 (75, .ireturn, 1) rfl) rfl rfl ?_)))))
            exact h
          · intro q5
            have h := h.2 q5
            refine aw_iconst (pc' := 15) (v := 1) (dt_X10_isSpan 8 (14, .iconst 1, 1) rfl) (by decide) rfl (aw_goto (tgt := 19) (dt_X10_isSpan 9 (15, .goto 4, 3) rfl) (by decide) (aw_iret (dt_X10_isSpan 11 (19, .ireturn, 1) rfl) rfl rfl (aw_stk (st' := [.int 1]) rfl (aw_if_eq_F (pc' := 31) (tgt := 74) (dt_X10_areFacts 13 (28, .ifCond .eq 46, 3) rfl) (by decide) rfl (by decide) (aw_iload_n (pc' := 32) (dt_X10_areFacts 14 (31, .iload_n 0, 1) rfl) rfl rfl (aw_sipush (pc' := 35) (v := 1000) (dt_X10_areFacts 15 (32, .sipush 1000, 3) rfl) (by decide) rfl (aw_inS (pc' := 38) (nc1 := 0) (ns1 := 0) (nc := nc) (ns := ns) (ls' := [some (.int x0), some (.int 1000)]) (y2 := mX10_digit) (As := [.int x0, .int 1000]) (rest := []) (dt_X10_areFacts 16 (35, .invokestatic 227, 3) rfl) ok_X10_digit ln_ReturnDesk_227 sm_X10_digit pr_X10_digit rfl (Nat.le_of_ble_eq_true rfl) (Nat.le_of_ble_eq_true rfl) rfl rfl (aw_iload_n (pc' := 1) (dt_X10_digit 0 (0, .iload_n 1, 1) rfl) rfl rfl (aw_if_le_F (pc' := 4) (tgt := 13) (dt_X10_digit 1 (1, .ifCond .le 12, 3) rfl) (by decide) rfl (by decide) (aw_iload_n (pc' := 5) (dt_X10_digit 2 (4, .iload_n 0, 1) rfl) rfl rfl (aw_iload_n (pc' := 6) (dt_X10_digit 3 (5, .iload_n 1, 1) rfl) rfl rfl (aw_idiv (pc' := 7) (dt_X10_digit 4 (6, .idiv, 1) rfl) (by decide) rfl (aw_bipush (pc' := 9) (v := 10) (dt_X10_digit 5 (7, .bipush 10, 2) rfl) (by decide) rfl (aw_irem (pc' := 10) (dt_X10_digit 6 (9, .irem, 1) rfl) (by decide) rfl (aw_goto (tgt := 14) (dt_X10_digit 7 (10, .goto 4, 3) rfl) (by decide) (aw_iret (dt_X10_digit 9 (14, .ireturn, 1) rfl) rfl rfl (aw_stk (st' := [.int ((x0 / 1000) - (x0 / 1000) / 10 * 10)]) rfl (aw_iload_n (pc' := 39) (dt_X10_areFacts 17 (38, .iload_n 0, 1) rfl) rfl rfl (aw_bipush (pc' := 41) (v := 100) (dt_X10_areFacts 18 (39, .bipush 100, 2) rfl) (by decide) rfl (aw_inS (pc' := 44) (nc1 := 0) (ns1 := 0) (nc := nc) (ns := ns) (ls' := [some (.int x0), some (.int 100)]) (y2 := mX10_digit) (As := [.int x0, .int 100]) (rest := [.int ((x0 / 1000) - (x0 / 1000) / 10 * 10)]) (dt_X10_areFacts 19 (41, .invokestatic 227, 3) rfl) ok_X10_digit ln_ReturnDesk_227 sm_X10_digit pr_X10_digit rfl (Nat.le_of_ble_eq_true rfl) (Nat.le_of_ble_eq_true rfl) rfl rfl (aw_iload_n (pc' := 1) (dt_X10_digit 0 (0, .iload_n 1, 1) rfl) rfl rfl (aw_if_le_F (pc' := 4) (tgt := 13) (dt_X10_digit 1 (1, .ifCond .le 12, 3) rfl) (by decide) rfl (by decide) (aw_iload_n (pc' := 5) (dt_X10_digit 2 (4, .iload_n 0, 1) rfl) rfl rfl (aw_iload_n (pc' := 6) (dt_X10_digit 3 (5, .iload_n 1, 1) rfl) rfl rfl (aw_idiv (pc' := 7) (dt_X10_digit 4 (6, .idiv, 1) rfl) (by decide) rfl (aw_bipush (pc' := 9) (v := 10) (dt_X10_digit 5 (7, .bipush 10, 2) rfl) (by decide) rfl (aw_irem (pc' := 10) (dt_X10_digit 6 (9, .irem, 1) rfl) (by decide) rfl (aw_goto (tgt := 14) (dt_X10_digit 7 (10, .goto 4, 3) rfl) (by decide) (aw_iret (dt_X10_digit 9 (14, .ireturn, 1) rfl) rfl rfl (aw_stk (st' := [.int ((x0 / 100) - (x0 / 100) / 10 * 10), .int ((x0 / 1000) - (x0 / 1000) / 10 * 10)]) rfl (aw_bipush (pc' := 46) (v := 9) (dt_X10_areFacts 20 (44, .bipush 9, 2) rfl) (by decide) rfl (aw_inS (pc' := 49) (nc1 := 0) (ns1 := 0) (nc := nc) (ns := ns) (ls' := [some (.int ((x0 / 1000) - (x0 / 1000) / 10 * 10)), some (.int ((x0 / 100) - (x0 / 100) / 10 * 10)), some (.int 9)]) (y2 := mX10_isSpan) (As := [.int ((x0 / 1000) - (x0 / 1000) / 10 * 10), .int ((x0 / 100) - (x0 / 100) / 10 * 10), .int 9]) (rest := []) (dt_X10_areFacts 21 (46, .invokestatic 193, 3) rfl) ok_X10_isSpan ln_ReturnDesk_193 sm_X10_isSpan pr_X10_isSpan rfl (Nat.le_of_ble_eq_true rfl) (Nat.le_of_ble_eq_true rfl) rfl rfl (aw_iload_n (pc' := 1) (dt_X10_isSpan 0 (0, .iload_n 0, 1) rfl) rfl rfl (aw_if_lt (pc' := 4) (tgt := 18) (dt_X10_isSpan 1 (1, .ifCond .lt 17, 3) rfl) (by decide) rfl ?_ ?_))))))))))))))))))))))))))))))))))
            · intro q6
              have h := h.1 q6
              refine aw_iconst (pc' := 19) (v := 0) (dt_X10_isSpan 10 (18, .iconst 0, 1) rfl) (by decide) rfl (aw_iret (dt_X10_isSpan 11 (19, .ireturn, 1) rfl) rfl rfl (aw_stk (st' := [.int 0]) rfl (aw_if_eq_T (pc' := 52) (tgt := 74) (dt_X10_areFacts 22 (49, .ifCond .eq 25, 3) rfl) (by decide) rfl (by decide) (aw_iconst (pc' := 75) (v := 0) (dt_X10_areFacts 34 (74, .iconst 0, 1) rfl) (by decide) rfl (aw_iret (dt_X10_areFacts 35 (75, .ireturn, 1) rfl) rfl rfl ?_)))))
              exact h
            · intro q6
              have h := h.2 q6
              refine aw_iload_n (pc' := 5) (dt_X10_isSpan 2 (4, .iload_n 0, 1) rfl) rfl rfl (aw_iload_n (pc' := 6) (dt_X10_isSpan 3 (5, .iload_n 1, 1) rfl) rfl rfl (aw_icmp_gt (pc' := 9) (tgt := 18) (dt_X10_isSpan 4 (6, .if_icmp .gt 12, 3) rfl) (by decide) rfl ?_ ?_))
              · intro q7
                have h := h.1 q7
                refine aw_iconst (pc' := 19) (v := 0) (dt_X10_isSpan 10 (18, .iconst 0, 1) rfl) (by decide) rfl (aw_iret (dt_X10_isSpan 11 (19, .ireturn, 1) rfl) rfl rfl (aw_stk (st' := [.int 0]) rfl (aw_if_eq_T (pc' := 52) (tgt := 74) (dt_X10_areFacts 22 (49, .ifCond .eq 25, 3) rfl) (by decide) rfl (by decide) (aw_iconst (pc' := 75) (v := 0) (dt_X10_areFacts 34 (74, .iconst 0, 1) rfl) (by decide) rfl (aw_iret (dt_X10_areFacts 35 (75, .ireturn, 1) rfl) rfl rfl ?_)))))
                exact h
              · intro q7
                have h := h.2 q7
                refine aw_iload_n (pc' := 10) (dt_X10_isSpan 5 (9, .iload_n 1, 1) rfl) rfl rfl (aw_iload_n (pc' := 11) (dt_X10_isSpan 6 (10, .iload_n 2, 1) rfl) rfl rfl (aw_icmp_gt (pc' := 14) (tgt := 18) (dt_X10_isSpan 7 (11, .if_icmp .gt 7, 3) rfl) (by decide) rfl ?_ ?_))
                · intro q8
                  have h := h.1 q8
                  refine aw_iconst (pc' := 19) (v := 0) (dt_X10_isSpan 10 (18, .iconst 0, 1) rfl) (by decide) rfl (aw_iret (dt_X10_isSpan 11 (19, .ireturn, 1) rfl) rfl rfl (aw_stk (st' := [.int 0]) rfl (aw_if_eq_T (pc' := 52) (tgt := 74) (dt_X10_areFacts 22 (49, .ifCond .eq 25, 3) rfl) (by decide) rfl (by decide) (aw_iconst (pc' := 75) (v := 0) (dt_X10_areFacts 34 (74, .iconst 0, 1) rfl) (by decide) rfl (aw_iret (dt_X10_areFacts 35 (75, .ireturn, 1) rfl) rfl rfl ?_)))))
                  exact h
                · intro q8
                  have h := h.2 q8
                  refine aw_iconst (pc' := 15) (v := 1) (dt_X10_isSpan 8 (14, .iconst 1, 1) rfl) (by decide) rfl (aw_goto (tgt := 19) (dt_X10_isSpan 9 (15, .goto 4, 3) rfl) (by decide) (aw_iret (dt_X10_isSpan 11 (19, .ireturn, 1) rfl) rfl rfl (aw_stk (st' := [.int 1]) rfl (aw_if_eq_F (pc' := 52) (tgt := 74) (dt_X10_areFacts 22 (49, .ifCond .eq 25, 3) rfl) (by decide) rfl (by decide) (aw_iload_n (pc' := 53) (dt_X10_areFacts 23 (52, .iload_n 0, 1) rfl) rfl rfl (aw_bipush (pc' := 55) (v := 10) (dt_X10_areFacts 24 (53, .bipush 10, 2) rfl) (by decide) rfl (aw_inS (pc' := 58) (nc1 := 0) (ns1 := 0) (nc := nc) (ns := ns) (ls' := [some (.int x0), some (.int 10)]) (y2 := mX10_digit) (As := [.int x0, .int 10]) (rest := []) (dt_X10_areFacts 25 (55, .invokestatic 227, 3) rfl) ok_X10_digit ln_ReturnDesk_227 sm_X10_digit pr_X10_digit rfl (Nat.le_of_ble_eq_true rfl) (Nat.le_of_ble_eq_true rfl) rfl rfl (aw_iload_n (pc' := 1) (dt_X10_digit 0 (0, .iload_n 1, 1) rfl) rfl rfl (aw_if_le_F (pc' := 4) (tgt := 13) (dt_X10_digit 1 (1, .ifCond .le 12, 3) rfl) (by decide) rfl (by decide) (aw_iload_n (pc' := 5) (dt_X10_digit 2 (4, .iload_n 0, 1) rfl) rfl rfl (aw_iload_n (pc' := 6) (dt_X10_digit 3 (5, .iload_n 1, 1) rfl) rfl rfl (aw_idiv (pc' := 7) (dt_X10_digit 4 (6, .idiv, 1) rfl) (by decide) rfl (aw_bipush (pc' := 9) (v := 10) (dt_X10_digit 5 (7, .bipush 10, 2) rfl) (by decide) rfl (aw_irem (pc' := 10) (dt_X10_digit 6 (9, .irem, 1) rfl) (by decide) rfl (aw_goto (tgt := 14) (dt_X10_digit 7 (10, .goto 4, 3) rfl) (by decide) (aw_iret (dt_X10_digit 9 (14, .ireturn, 1) rfl) rfl rfl (aw_stk (st' := [.int ((x0 / 10) - (x0 / 10) / 10 * 10)]) rfl (aw_iload_n (pc' := 59) (dt_X10_areFacts 26 (58, .iload_n 0, 1) rfl) rfl rfl (aw_iconst (pc' := 60) (v := 1) (dt_X10_areFacts 27 (59, .iconst 1, 1) rfl) (by decide) rfl (aw_inS (pc' := 63) (nc1 := 0) (ns1 := 0) (nc := nc) (ns := ns) (ls' := [some (.int x0), some (.int 1)]) (y2 := mX10_digit) (As := [.int x0, .int 1]) (rest := [.int ((x0 / 10) - (x0 / 10) / 10 * 10)]) (dt_X10_areFacts 28 (60, .invokestatic 227, 3) rfl) ok_X10_digit ln_ReturnDesk_227 sm_X10_digit pr_X10_digit rfl (Nat.le_of_ble_eq_true rfl) (Nat.le_of_ble_eq_true rfl) rfl rfl (aw_iload_n (pc' := 1) (dt_X10_digit 0 (0, .iload_n 1, 1) rfl) rfl rfl (aw_if_le_F (pc' := 4) (tgt := 13) (dt_X10_digit 1 (1, .ifCond .le 12, 3) rfl) (by decide) rfl (by decide) (aw_iload_n (pc' := 5) (dt_X10_digit 2 (4, .iload_n 0, 1) rfl) rfl rfl (aw_iload_n (pc' := 6) (dt_X10_digit 3 (5, .iload_n 1, 1) rfl) rfl rfl (aw_idiv (pc' := 7) (dt_X10_digit 4 (6, .idiv, 1) rfl) (by decide) rfl (aw_bipush (pc' := 9) (v := 10) (dt_X10_digit 5 (7, .bipush 10, 2) rfl) (by decide) rfl (aw_irem (pc' := 10) (dt_X10_digit 6 (9, .irem, 1) rfl) (by decide) rfl (aw_goto (tgt := 14) (dt_X10_digit 7 (10, .goto 4, 3) rfl) (by decide) (aw_iret (dt_X10_digit 9 (14, .ireturn, 1) rfl) rfl rfl (aw_stk (st' := [.int ((x0 / 1) - (x0 / 1) / 10 * 10), .int ((x0 / 10) - (x0 / 10) / 10 * 10)]) rfl (aw_iconst (pc' := 64) (v := 1) (dt_X10_areFacts 29 (63, .iconst 1, 1) rfl) (by decide) rfl (aw_inS (pc' := 67) (nc1 := 0) (ns1 := 0) (nc := nc) (ns := ns) (ls' := [some (.int ((x0 / 10) - (x0 / 10) / 10 * 10)), some (.int ((x0 / 1) - (x0 / 1) / 10 * 10)), some (.int 1)]) (y2 := mX10_isSpan) (As := [.int ((x0 / 10) - (x0 / 10) / 10 * 10), .int ((x0 / 1) - (x0 / 1) / 10 * 10), .int 1]) (rest := []) (dt_X10_areFacts 30 (64, .invokestatic 193, 3) rfl) ok_X10_isSpan ln_ReturnDesk_193 sm_X10_isSpan pr_X10_isSpan rfl (Nat.le_of_ble_eq_true rfl) (Nat.le_of_ble_eq_true rfl) rfl rfl (aw_iload_n (pc' := 1) (dt_X10_isSpan 0 (0, .iload_n 0, 1) rfl) rfl rfl (aw_if_lt (pc' := 4) (tgt := 18) (dt_X10_isSpan 1 (1, .ifCond .lt 17, 3) rfl) (by decide) rfl ?_ ?_))))))))))))))))))))))))))))))))))
                  · intro q9
                    have h := h.1 q9
                    refine aw_iconst (pc' := 19) (v := 0) (dt_X10_isSpan 10 (18, .iconst 0, 1) rfl) (by decide) rfl (aw_iret (dt_X10_isSpan 11 (19, .ireturn, 1) rfl) rfl rfl (aw_stk (st' := [.int 0]) rfl (aw_if_eq_T (pc' := 70) (tgt := 74) (dt_X10_areFacts 31 (67, .ifCond .eq 7, 3) rfl) (by decide) rfl (by decide) (aw_iconst (pc' := 75) (v := 0) (dt_X10_areFacts 34 (74, .iconst 0, 1) rfl) (by decide) rfl (aw_iret (dt_X10_areFacts 35 (75, .ireturn, 1) rfl) rfl rfl ?_)))))
                    exact h
                  · intro q9
                    have h := h.2 q9
                    refine aw_iload_n (pc' := 5) (dt_X10_isSpan 2 (4, .iload_n 0, 1) rfl) rfl rfl (aw_iload_n (pc' := 6) (dt_X10_isSpan 3 (5, .iload_n 1, 1) rfl) rfl rfl (aw_icmp_gt (pc' := 9) (tgt := 18) (dt_X10_isSpan 4 (6, .if_icmp .gt 12, 3) rfl) (by decide) rfl ?_ ?_))
                    · intro q10
                      have h := h.1 q10
                      refine aw_iconst (pc' := 19) (v := 0) (dt_X10_isSpan 10 (18, .iconst 0, 1) rfl) (by decide) rfl (aw_iret (dt_X10_isSpan 11 (19, .ireturn, 1) rfl) rfl rfl (aw_stk (st' := [.int 0]) rfl (aw_if_eq_T (pc' := 70) (tgt := 74) (dt_X10_areFacts 31 (67, .ifCond .eq 7, 3) rfl) (by decide) rfl (by decide) (aw_iconst (pc' := 75) (v := 0) (dt_X10_areFacts 34 (74, .iconst 0, 1) rfl) (by decide) rfl (aw_iret (dt_X10_areFacts 35 (75, .ireturn, 1) rfl) rfl rfl ?_)))))
                      exact h
                    · intro q10
                      have h := h.2 q10
                      refine aw_iload_n (pc' := 10) (dt_X10_isSpan 5 (9, .iload_n 1, 1) rfl) rfl rfl (aw_iload_n (pc' := 11) (dt_X10_isSpan 6 (10, .iload_n 2, 1) rfl) rfl rfl (aw_icmp_gt (pc' := 14) (tgt := 18) (dt_X10_isSpan 7 (11, .if_icmp .gt 7, 3) rfl) (by decide) rfl ?_ ?_))
                      · intro q11
                        have h := h.1 q11
                        refine aw_iconst (pc' := 19) (v := 0) (dt_X10_isSpan 10 (18, .iconst 0, 1) rfl) (by decide) rfl (aw_iret (dt_X10_isSpan 11 (19, .ireturn, 1) rfl) rfl rfl (aw_stk (st' := [.int 0]) rfl (aw_if_eq_T (pc' := 70) (tgt := 74) (dt_X10_areFacts 31 (67, .ifCond .eq 7, 3) rfl) (by decide) rfl (by decide) (aw_iconst (pc' := 75) (v := 0) (dt_X10_areFacts 34 (74, .iconst 0, 1) rfl) (by decide) rfl (aw_iret (dt_X10_areFacts 35 (75, .ireturn, 1) rfl) rfl rfl ?_)))))
                        exact h
                      · intro q11
                        have h := h.2 q11
                        refine aw_iconst (pc' := 15) (v := 1) (dt_X10_isSpan 8 (14, .iconst 1, 1) rfl) (by decide) rfl (aw_goto (tgt := 19) (dt_X10_isSpan 9 (15, .goto 4, 3) rfl) (by decide) (aw_iret (dt_X10_isSpan 11 (19, .ireturn, 1) rfl) rfl rfl (aw_stk (st' := [.int 1]) rfl (aw_if_eq_F (pc' := 70) (tgt := 74) (dt_X10_areFacts 31 (67, .ifCond .eq 7, 3) rfl) (by decide) rfl (by decide) (aw_iconst (pc' := 71) (v := 1) (dt_X10_areFacts 32 (70, .iconst 1, 1) rfl) (by decide) rfl (aw_goto (tgt := 75) (dt_X10_areFacts 33 (71, .goto 4, 3) rfl) (by decide) (aw_iret (dt_X10_areFacts 35 (75, .ireturn, 1) rfl) rfl rfl ?_)))))))
                        exact h

theorem t_X10_threesOf {E : ZE} {l : Launch} {d nc ns : Nat} {a1 : Nat} {μ : ZM} {K : Option Value → ZM → Prop} (hS : Stat μ) (h :
  (zK μ a1 = 7) ∧
  (¬ (zI μ a1 5) = 0 →
    AW E l (d + 1) nc ns mX10_threesOf 13 [some (.ref 11), some (.ref a1), some (.int 0), some (.int 0)] [] μ K) ∧
  ((zI μ a1 5) = 0 →
    K (some (.int 1)) μ)) : AW E l (d + 1) nc ns mX10_threesOf 0 [some (.ref 11), some (.ref a1), none, none] [] μ K := by
  obtain ⟨g1, h⟩ := h
  refine aw_aload_n (pc' := 1) (dt_X10_threesOf 0 (0, .aload_n 1, 1) rfl) rfl rfl (aw_getI (pc' := 4) (dt_X10_threesOf 1 (1, .getfield 182, 3) rfl) fl_ReturnDesk_182 rfl rfl g1 (aw_if_ne (pc' := 7) (tgt := 9) (dt_X10_threesOf 2 (4, .ifCond .ne 5, 3) rfl) (by decide) rfl ?_ ?_))
  · intro q2
    have h := h.1 q2
    refine aw_iconst (pc' := 10) (v := 0) (dt_X10_threesOf 5 (9, .iconst 0, 1) rfl) (by decide) rfl (aw_istore_n (pc' := 11) (ls' := [some (.ref 11), some (.ref a1), some (.int 0), none]) (dt_X10_threesOf 6 (10, .istore_n 2, 1) rfl) (by decide) rfl rfl (aw_iconst (pc' := 12) (v := 0) (dt_X10_threesOf 7 (11, .iconst 0, 1) rfl) (by decide) rfl (aw_istore_n (pc' := 13) (ls' := [some (.ref 11), some (.ref a1), some (.int 0), some (.int 0)]) (dt_X10_threesOf 8 (12, .istore_n 3, 1) rfl) (by decide) rfl rfl ?_)))
    exact h
  · intro q2
    have h := h.2 q2
    refine aw_iconst (pc' := 8) (v := 1) (dt_X10_threesOf 3 (7, .iconst 1, 1) rfl) (by decide) rfl (aw_iret (dt_X10_threesOf 4 (8, .ireturn, 1) rfl) rfl rfl ?_)
    exact h

theorem t_X10_threesOf_13 {E : ZE} {l : Launch} {d nc ns : Nat} {a1 : Nat} {x2 : Int32} {x3 : Int32} {μ : ZM} {K : Option Value → ZM → Prop} (hS : Stat μ) (h :
  ((zI μ 11 14) ≤ x3 →
    K (some (.int x2)) μ) ∧
  (¬ (zI μ 11 14) ≤ x3 →
    (vp_in x3 300) ∧
    (zA μ 14 x3.toNatClampNeg = none →
      False) ∧
    (∀ b4, zA μ 14 x3.toNatClampNeg = some b4 →
      (zK μ b4 = 7) ∧
      ((zI μ b4 5) = 0 →
        AW E l (d + 1) nc ns mX10_threesOf 13 [some (.ref 11), some (.ref a1), some (.int x2), some (.int (x3 + 1))] [] μ K) ∧
      (¬ (zI μ b4 5) = 0 →
        (zK μ a1 = 7) ∧
        (¬ (zI μ b4 5) = (zI μ a1 5) →
          AW E l (d + 1) nc ns mX10_threesOf 13 [some (.ref 11), some (.ref a1), some (.int x2), some (.int (x3 + 1))] [] μ K) ∧
        ((zI μ b4 5) = (zI μ a1 5) →
          (zA μ b4 1 = none →
            (zA μ a1 1 = none →
              False) ∧
            (∀ b12, zA μ a1 1 = some b12 →
              False)) ∧
          (∀ b10, zA μ b4 1 = some b10 →
            (zA μ a1 1 = none →
              False) ∧
            (∀ b14, zA μ a1 1 = some b14 →
              (11 ≤ b10) ∧
              (11 ≤ b14) ∧
              (¬ b10 = b14 →
                AW E l (d + 1) nc ns mX10_threesOf 13 [some (.ref 11), some (.ref a1), some (.int x2), some (.int (x3 + 1))] [] μ K) ∧
              (b10 = b14 →
                AW E l (d + 1) nc ns mX10_threesOf 13 [some (.ref 11), some (.ref a1), some (.int (x2 + 1)), some (.int (x3 + 1))] [] μ K)))))))) : AW E l (d + 1) nc ns mX10_threesOf 13 [some (.ref 11), some (.ref a1), some (.int x2), some (.int x3)] [] μ K := by
  refine aw_iload_n (pc' := 14) (dt_X10_threesOf 9 (13, .iload_n 3, 1) rfl) rfl rfl (aw_aload_n (pc' := 15) (dt_X10_threesOf 10 (14, .aload_n 0, 1) rfl) rfl rfl (aw_getI (pc' := 18) (dt_X10_threesOf 11 (15, .getfield 131, 3) rfl) fl_ReturnDesk_131 rfl rfl (sk_11 hS) (aw_icmp_ge (pc' := 21) (tgt := 43) (dt_X10_threesOf 12 (18, .if_icmp .ge 25, 3) rfl) (by decide) rfl ?_ ?_)))
  · intro q1
    have h := h.1 q1
    refine aw_iload_n (pc' := 44) (dt_X10_threesOf 23 (43, .iload_n 2, 1) rfl) rfl rfl (aw_iret (dt_X10_threesOf 24 (44, .ireturn, 1) rfl) rfl rfl ?_)
    exact h
  · intro q1
    have h := h.2 q1
    obtain ⟨g2, h⟩ := h
    refine aw_aload_n (pc' := 22) (dt_X10_threesOf 13 (21, .aload_n 0, 1) rfl) rfl rfl (aw_getAs (pc' := 25) (dt_X10_threesOf 14 (22, .getfield 23, 3) rfl) fl_ReturnDesk_23 rfl rfl (sk_11 hS) (sa_11_2 hS) (aw_iload_n (pc' := 26) (dt_X10_threesOf 15 (25, .iload_n 3, 1) rfl) rfl rfl (aw_aald (pc' := 27) (dt_X10_threesOf 16 (26, .aaload, 1) rfl) (by decide) (by decide) rfl (sk_14 hS) (vin_eq (sl_14 hS) g2) ?_ ?_)))
    · intro e3
      have h := h.1 e3
      refine aw_aload_n (pc' := 28) (dt_X10_threesOf 17 (27, .aload_n 1, 1) rfl) rfl rfl ?_
      exact h.elim
    · intro b4 e3
      have h := h.2 b4 e3
      obtain ⟨g5, h⟩ := h
      refine aw_aload_n (pc' := 28) (dt_X10_threesOf 17 (27, .aload_n 1, 1) rfl) rfl rfl (aw_inV (pc' := 31) (nc1 := 0) (ns1 := 0) (nc := nc) (ns := ns) (ls' := [some (.ref b4), some (.ref a1)]) (y2 := mX7_isTogetherWith) (As := [.ref a1]) (rest := []) (a := b4) (dt_X10_threesOf 18 (28, .invokevirtual 432, 3) rfl) ok_X7_isTogetherWith ln_ReturnDesk_432 im_X7_isTogetherWith se_X7_isTogetherWith pr_X7_isTogetherWith (Or.inl ⟨by decide, rfl⟩) rfl (Nat.le_of_ble_eq_true rfl) (Nat.le_of_ble_eq_true rfl) rfl rfl g5 (aw_aload_n (pc' := 1) (dt_X7_isTogetherWith 0 (0, .aload_n 0, 1) rfl) rfl rfl (aw_getI (pc' := 4) (dt_X7_isTogetherWith 1 (1, .getfield 47, 3) rfl) fl_Sale_47 rfl rfl g5 (aw_if_eq (pc' := 7) (tgt := 33) (dt_X7_isTogetherWith 2 (4, .ifCond .eq 29, 3) rfl) (by decide) rfl ?_ ?_))))
      · intro q6
        have h := h.1 q6
        refine aw_iconst (pc' := 34) (v := 0) (dt_X7_isTogetherWith 15 (33, .iconst 0, 1) rfl) (by decide) rfl (aw_iret (dt_X7_isTogetherWith 16 (34, .ireturn, 1) rfl) rfl rfl (aw_stk (st' := [.int 0]) rfl (aw_if_eq_T (pc' := 34) (tgt := 37) (dt_X10_threesOf 19 (31, .ifCond .eq 6, 3) rfl) (by decide) rfl (by decide) (aw_iinc (pc' := 40) (v := 1) (ls' := [some (.ref 11), some (.ref a1), some (.int x2), some (.int (x3 + 1))]) (dt_X10_threesOf 21 (37, .iinc 3 1, 3) rfl) rfl (by decide) (by decide) rfl rfl (aw_goto (tgt := 13) (dt_X10_threesOf 22 (40, .goto (-27), 3) rfl) (by decide) ?_)))))
        exact h
      · intro q6
        have h := h.2 q6
        obtain ⟨g7, h⟩ := h
        refine aw_aload_n (pc' := 8) (dt_X7_isTogetherWith 3 (7, .aload_n 0, 1) rfl) rfl rfl (aw_getI (pc' := 11) (dt_X7_isTogetherWith 4 (8, .getfield 47, 3) rfl) fl_Sale_47 rfl rfl g5 (aw_aload_n (pc' := 12) (dt_X7_isTogetherWith 5 (11, .aload_n 1, 1) rfl) rfl rfl (aw_getI (pc' := 15) (dt_X7_isTogetherWith 6 (12, .getfield 47, 3) rfl) fl_Sale_47 rfl rfl g7 (aw_icmp_ne (pc' := 18) (tgt := 33) (dt_X7_isTogetherWith 7 (15, .if_icmp .ne 18, 3) rfl) (by decide) rfl ?_ ?_))))
        · intro q8
          have h := h.1 q8
          refine aw_iconst (pc' := 34) (v := 0) (dt_X7_isTogetherWith 15 (33, .iconst 0, 1) rfl) (by decide) rfl (aw_iret (dt_X7_isTogetherWith 16 (34, .ireturn, 1) rfl) rfl rfl (aw_stk (st' := [.int 0]) rfl (aw_if_eq_T (pc' := 34) (tgt := 37) (dt_X10_threesOf 19 (31, .ifCond .eq 6, 3) rfl) (by decide) rfl (by decide) (aw_iinc (pc' := 40) (v := 1) (ls' := [some (.ref 11), some (.ref a1), some (.int x2), some (.int (x3 + 1))]) (dt_X10_threesOf 21 (37, .iinc 3 1, 3) rfl) rfl (by decide) (by decide) rfl rfl (aw_goto (tgt := 13) (dt_X10_threesOf 22 (40, .goto (-27), 3) rfl) (by decide) ?_)))))
          exact h
        · intro q8
          have h := h.2 q8
          refine aw_aload_n (pc' := 19) (dt_X7_isTogetherWith 8 (18, .aload_n 0, 1) rfl) rfl rfl (aw_getA (pc' := 22) (dt_X7_isTogetherWith 9 (19, .getfield 36, 3) rfl) fl_Sale_36 rfl rfl g5 ?_ ?_)
          · intro e9
            have h := h.1 e9
            refine aw_aload_n (pc' := 23) (dt_X7_isTogetherWith 10 (22, .aload_n 1, 1) rfl) rfl rfl (aw_getA (pc' := 26) (dt_X7_isTogetherWith 11 (23, .getfield 36, 3) rfl) fl_Sale_36 rfl rfl g7 ?_ ?_)
            · intro e11
              have h := h.1 e11
              exact h.elim
            · intro b12 e11
              have h := h.2 b12 e11
              exact h.elim
          · intro b10 e9
            have h := h.2 b10 e9
            refine aw_aload_n (pc' := 23) (dt_X7_isTogetherWith 10 (22, .aload_n 1, 1) rfl) rfl rfl (aw_getA (pc' := 26) (dt_X7_isTogetherWith 11 (23, .getfield 36, 3) rfl) fl_Sale_36 rfl rfl g7 ?_ ?_)
            · intro e13
              have h := h.1 e13
              exact h.elim
            · intro b14 e13
              have h := h.2 b14 e13
              obtain ⟨g15, h⟩ := h
              obtain ⟨g16, h⟩ := h
              refine aw_acmp_ne (pc' := 29) (tgt := 33) (dt_X7_isTogetherWith 12 (26, .if_acmp .ne 7, 3) rfl) (by decide) rfl g15 g16 ?_ ?_
              · intro q17
                have h := h.1 q17
                refine aw_iconst (pc' := 34) (v := 0) (dt_X7_isTogetherWith 15 (33, .iconst 0, 1) rfl) (by decide) rfl (aw_iret (dt_X7_isTogetherWith 16 (34, .ireturn, 1) rfl) rfl rfl (aw_stk (st' := [.int 0]) rfl (aw_if_eq_T (pc' := 34) (tgt := 37) (dt_X10_threesOf 19 (31, .ifCond .eq 6, 3) rfl) (by decide) rfl (by decide) (aw_iinc (pc' := 40) (v := 1) (ls' := [some (.ref 11), some (.ref a1), some (.int x2), some (.int (x3 + 1))]) (dt_X10_threesOf 21 (37, .iinc 3 1, 3) rfl) rfl (by decide) (by decide) rfl rfl (aw_goto (tgt := 13) (dt_X10_threesOf 22 (40, .goto (-27), 3) rfl) (by decide) ?_)))))
                exact h
              · intro q17
                have h := h.2 q17
                refine aw_iconst (pc' := 30) (v := 1) (dt_X7_isTogetherWith 13 (29, .iconst 1, 1) rfl) (by decide) rfl (aw_goto (tgt := 34) (dt_X7_isTogetherWith 14 (30, .goto 4, 3) rfl) (by decide) (aw_iret (dt_X7_isTogetherWith 16 (34, .ireturn, 1) rfl) rfl rfl (aw_stk (st' := [.int 1]) rfl (aw_if_eq_F (pc' := 34) (tgt := 37) (dt_X10_threesOf 19 (31, .ifCond .eq 6, 3) rfl) (by decide) rfl (by decide) (aw_iinc (pc' := 37) (v := 1) (ls' := [some (.ref 11), some (.ref a1), some (.int (x2 + 1)), some (.int x3)]) (dt_X10_threesOf 20 (34, .iinc 2 1, 3) rfl) rfl (by decide) (by decide) rfl rfl (aw_iinc (pc' := 40) (v := 1) (ls' := [some (.ref 11), some (.ref a1), some (.int (x2 + 1)), some (.int (x3 + 1))]) (dt_X10_threesOf 21 (37, .iinc 3 1, 3) rfl) rfl (by decide) (by decide) rfl rfl (aw_goto (tgt := 13) (dt_X10_threesOf 22 (40, .goto (-27), 3) rfl) (by decide) ?_)))))))
                exact h

theorem t_X10_hasOtherSize {E : ZE} {l : Launch} {d nc ns : Nat} {a1 : Nat} {μ : ZM} {K : Option Value → ZM → Prop} (hS : Stat μ) (h :
  AW E l (d + 1) nc ns mX10_hasOtherSize 2 [some (.ref 11), some (.ref a1), some (.int 0)] [] μ K) : AW E l (d + 1) nc ns mX10_hasOtherSize 0 [some (.ref 11), some (.ref a1), none] [] μ K := by
  refine aw_iconst (pc' := 1) (v := 0) (dt_X10_hasOtherSize 0 (0, .iconst 0, 1) rfl) (by decide) rfl (aw_istore_n (pc' := 2) (ls' := [some (.ref 11), some (.ref a1), some (.int 0)]) (dt_X10_hasOtherSize 1 (1, .istore_n 2, 1) rfl) (by decide) rfl rfl ?_)
  exact h

theorem t_X10_hasOtherSize_2 {E : ZE} {l : Launch} {d nc ns : Nat} {a1 : Nat} {x2 : Int32} {μ : ZM} {K : Option Value → ZM → Prop} (hS : Stat μ) (h :
  ((zI μ 11 14) ≤ x2 →
    K (some (.int 0)) μ) ∧
  (¬ (zI μ 11 14) ≤ x2 →
    (vp_in x2 300) ∧
    (zA μ 14 x2.toNatClampNeg = none →
      False) ∧
    (∀ b4, zA μ 14 x2.toNatClampNeg = some b4 →
      (zK μ b4 = 7) ∧
      ((zI μ b4 5) = 0 →
        AW E l (d + 1) nc ns mX10_hasOtherSize 2 [some (.ref 11), some (.ref a1), some (.int (x2 + 1))] [] μ K) ∧
      (¬ (zI μ b4 5) = 0 →
        (zK μ a1 = 7) ∧
        (¬ (zI μ b4 5) = (zI μ a1 5) →
          AW E l (d + 1) nc ns mX10_hasOtherSize 2 [some (.ref 11), some (.ref a1), some (.int (x2 + 1))] [] μ K) ∧
        ((zI μ b4 5) = (zI μ a1 5) →
          (zA μ b4 1 = none →
            (zA μ a1 1 = none →
              False) ∧
            (∀ b12, zA μ a1 1 = some b12 →
              False)) ∧
          (∀ b10, zA μ b4 1 = some b10 →
            (zA μ a1 1 = none →
              False) ∧
            (∀ b14, zA μ a1 1 = some b14 →
              (11 ≤ b10) ∧
              (11 ≤ b14) ∧
              (¬ b10 = b14 →
                AW E l (d + 1) nc ns mX10_hasOtherSize 2 [some (.ref 11), some (.ref a1), some (.int (x2 + 1))] [] μ K) ∧
              (b10 = b14 →
                (vp_in x2 300) ∧
                ((zI μ b4 4) = (zI μ a1 4) →
                  AW E l (d + 1) nc ns mX10_hasOtherSize 2 [some (.ref 11), some (.ref a1), some (.int (x2 + 1))] [] μ K) ∧
                (¬ (zI μ b4 4) = (zI μ a1 4) →
                  K (some (.int 1)) μ))))))))) : AW E l (d + 1) nc ns mX10_hasOtherSize 2 [some (.ref 11), some (.ref a1), some (.int x2)] [] μ K := by
  refine aw_iload_n (pc' := 3) (dt_X10_hasOtherSize 2 (2, .iload_n 2, 1) rfl) rfl rfl (aw_aload_n (pc' := 4) (dt_X10_hasOtherSize 3 (3, .aload_n 0, 1) rfl) rfl rfl (aw_getI (pc' := 7) (dt_X10_hasOtherSize 4 (4, .getfield 131, 3) rfl) fl_ReturnDesk_131 rfl rfl (sk_11 hS) (aw_icmp_ge (pc' := 10) (tgt := 47) (dt_X10_hasOtherSize 5 (7, .if_icmp .ge 40, 3) rfl) (by decide) rfl ?_ ?_)))
  · intro q1
    have h := h.1 q1
    refine aw_iconst (pc' := 48) (v := 0) (dt_X10_hasOtherSize 25 (47, .iconst 0, 1) rfl) (by decide) rfl (aw_iret (dt_X10_hasOtherSize 26 (48, .ireturn, 1) rfl) rfl rfl ?_)
    exact h
  · intro q1
    have h := h.2 q1
    obtain ⟨g2, h⟩ := h
    refine aw_aload_n (pc' := 11) (dt_X10_hasOtherSize 6 (10, .aload_n 0, 1) rfl) rfl rfl (aw_getAs (pc' := 14) (dt_X10_hasOtherSize 7 (11, .getfield 23, 3) rfl) fl_ReturnDesk_23 rfl rfl (sk_11 hS) (sa_11_2 hS) (aw_iload_n (pc' := 15) (dt_X10_hasOtherSize 8 (14, .iload_n 2, 1) rfl) rfl rfl (aw_aald (pc' := 16) (dt_X10_hasOtherSize 9 (15, .aaload, 1) rfl) (by decide) (by decide) rfl (sk_14 hS) (vin_eq (sl_14 hS) g2) ?_ ?_)))
    · intro e3
      have h := h.1 e3
      refine aw_aload_n (pc' := 17) (dt_X10_hasOtherSize 10 (16, .aload_n 1, 1) rfl) rfl rfl ?_
      exact h.elim
    · intro b4 e3
      have h := h.2 b4 e3
      obtain ⟨g5, h⟩ := h
      refine aw_aload_n (pc' := 17) (dt_X10_hasOtherSize 10 (16, .aload_n 1, 1) rfl) rfl rfl (aw_inV (pc' := 20) (nc1 := 0) (ns1 := 0) (nc := nc) (ns := ns) (ls' := [some (.ref b4), some (.ref a1)]) (y2 := mX7_isTogetherWith) (As := [.ref a1]) (rest := []) (a := b4) (dt_X10_hasOtherSize 11 (17, .invokevirtual 432, 3) rfl) ok_X7_isTogetherWith ln_ReturnDesk_432 im_X7_isTogetherWith se_X7_isTogetherWith pr_X7_isTogetherWith (Or.inl ⟨by decide, rfl⟩) rfl (Nat.le_of_ble_eq_true rfl) (Nat.le_of_ble_eq_true rfl) rfl rfl g5 (aw_aload_n (pc' := 1) (dt_X7_isTogetherWith 0 (0, .aload_n 0, 1) rfl) rfl rfl (aw_getI (pc' := 4) (dt_X7_isTogetherWith 1 (1, .getfield 47, 3) rfl) fl_Sale_47 rfl rfl g5 (aw_if_eq (pc' := 7) (tgt := 33) (dt_X7_isTogetherWith 2 (4, .ifCond .eq 29, 3) rfl) (by decide) rfl ?_ ?_))))
      · intro q6
        have h := h.1 q6
        refine aw_iconst (pc' := 34) (v := 0) (dt_X7_isTogetherWith 15 (33, .iconst 0, 1) rfl) (by decide) rfl (aw_iret (dt_X7_isTogetherWith 16 (34, .ireturn, 1) rfl) rfl rfl (aw_stk (st' := [.int 0]) rfl (aw_if_eq_T (pc' := 23) (tgt := 41) (dt_X10_hasOtherSize 12 (20, .ifCond .eq 21, 3) rfl) (by decide) rfl (by decide) (aw_iinc (pc' := 44) (v := 1) (ls' := [some (.ref 11), some (.ref a1), some (.int (x2 + 1))]) (dt_X10_hasOtherSize 23 (41, .iinc 2 1, 3) rfl) rfl (by decide) (by decide) rfl rfl (aw_goto (tgt := 2) (dt_X10_hasOtherSize 24 (44, .goto (-42), 3) rfl) (by decide) ?_)))))
        exact h
      · intro q6
        have h := h.2 q6
        obtain ⟨g7, h⟩ := h
        refine aw_aload_n (pc' := 8) (dt_X7_isTogetherWith 3 (7, .aload_n 0, 1) rfl) rfl rfl (aw_getI (pc' := 11) (dt_X7_isTogetherWith 4 (8, .getfield 47, 3) rfl) fl_Sale_47 rfl rfl g5 (aw_aload_n (pc' := 12) (dt_X7_isTogetherWith 5 (11, .aload_n 1, 1) rfl) rfl rfl (aw_getI (pc' := 15) (dt_X7_isTogetherWith 6 (12, .getfield 47, 3) rfl) fl_Sale_47 rfl rfl g7 (aw_icmp_ne (pc' := 18) (tgt := 33) (dt_X7_isTogetherWith 7 (15, .if_icmp .ne 18, 3) rfl) (by decide) rfl ?_ ?_))))
        · intro q8
          have h := h.1 q8
          refine aw_iconst (pc' := 34) (v := 0) (dt_X7_isTogetherWith 15 (33, .iconst 0, 1) rfl) (by decide) rfl (aw_iret (dt_X7_isTogetherWith 16 (34, .ireturn, 1) rfl) rfl rfl (aw_stk (st' := [.int 0]) rfl (aw_if_eq_T (pc' := 23) (tgt := 41) (dt_X10_hasOtherSize 12 (20, .ifCond .eq 21, 3) rfl) (by decide) rfl (by decide) (aw_iinc (pc' := 44) (v := 1) (ls' := [some (.ref 11), some (.ref a1), some (.int (x2 + 1))]) (dt_X10_hasOtherSize 23 (41, .iinc 2 1, 3) rfl) rfl (by decide) (by decide) rfl rfl (aw_goto (tgt := 2) (dt_X10_hasOtherSize 24 (44, .goto (-42), 3) rfl) (by decide) ?_)))))
          exact h
        · intro q8
          have h := h.2 q8
          refine aw_aload_n (pc' := 19) (dt_X7_isTogetherWith 8 (18, .aload_n 0, 1) rfl) rfl rfl (aw_getA (pc' := 22) (dt_X7_isTogetherWith 9 (19, .getfield 36, 3) rfl) fl_Sale_36 rfl rfl g5 ?_ ?_)
          · intro e9
            have h := h.1 e9
            refine aw_aload_n (pc' := 23) (dt_X7_isTogetherWith 10 (22, .aload_n 1, 1) rfl) rfl rfl (aw_getA (pc' := 26) (dt_X7_isTogetherWith 11 (23, .getfield 36, 3) rfl) fl_Sale_36 rfl rfl g7 ?_ ?_)
            · intro e11
              have h := h.1 e11
              exact h.elim
            · intro b12 e11
              have h := h.2 b12 e11
              exact h.elim
          · intro b10 e9
            have h := h.2 b10 e9
            refine aw_aload_n (pc' := 23) (dt_X7_isTogetherWith 10 (22, .aload_n 1, 1) rfl) rfl rfl (aw_getA (pc' := 26) (dt_X7_isTogetherWith 11 (23, .getfield 36, 3) rfl) fl_Sale_36 rfl rfl g7 ?_ ?_)
            · intro e13
              have h := h.1 e13
              exact h.elim
            · intro b14 e13
              have h := h.2 b14 e13
              obtain ⟨g15, h⟩ := h
              obtain ⟨g16, h⟩ := h
              refine aw_acmp_ne (pc' := 29) (tgt := 33) (dt_X7_isTogetherWith 12 (26, .if_acmp .ne 7, 3) rfl) (by decide) rfl g15 g16 ?_ ?_
              · intro q17
                have h := h.1 q17
                refine aw_iconst (pc' := 34) (v := 0) (dt_X7_isTogetherWith 15 (33, .iconst 0, 1) rfl) (by decide) rfl (aw_iret (dt_X7_isTogetherWith 16 (34, .ireturn, 1) rfl) rfl rfl (aw_stk (st' := [.int 0]) rfl (aw_if_eq_T (pc' := 23) (tgt := 41) (dt_X10_hasOtherSize 12 (20, .ifCond .eq 21, 3) rfl) (by decide) rfl (by decide) (aw_iinc (pc' := 44) (v := 1) (ls' := [some (.ref 11), some (.ref a1), some (.int (x2 + 1))]) (dt_X10_hasOtherSize 23 (41, .iinc 2 1, 3) rfl) rfl (by decide) (by decide) rfl rfl (aw_goto (tgt := 2) (dt_X10_hasOtherSize 24 (44, .goto (-42), 3) rfl) (by decide) ?_)))))
                exact h
              · intro q17
                have h := h.2 q17
                obtain ⟨g18, h⟩ := h
                refine aw_iconst (pc' := 30) (v := 1) (dt_X7_isTogetherWith 13 (29, .iconst 1, 1) rfl) (by decide) rfl (aw_goto (tgt := 34) (dt_X7_isTogetherWith 14 (30, .goto 4, 3) rfl) (by decide) (aw_iret (dt_X7_isTogetherWith 16 (34, .ireturn, 1) rfl) rfl rfl (aw_stk (st' := [.int 1]) rfl (aw_if_eq_F (pc' := 23) (tgt := 41) (dt_X10_hasOtherSize 12 (20, .ifCond .eq 21, 3) rfl) (by decide) rfl (by decide) (aw_aload_n (pc' := 24) (dt_X10_hasOtherSize 13 (23, .aload_n 0, 1) rfl) rfl rfl (aw_getAs (pc' := 27) (dt_X10_hasOtherSize 14 (24, .getfield 23, 3) rfl) fl_ReturnDesk_23 rfl rfl (sk_11 hS) (sa_11_2 hS) (aw_iload_n (pc' := 28) (dt_X10_hasOtherSize 15 (27, .iload_n 2, 1) rfl) rfl rfl (aw_aalds (pc' := 29) (dt_X10_hasOtherSize 16 (28, .aaload, 1) rfl) (by decide) (by decide) rfl (sk_14 hS) (vin_eq (sl_14 hS) g18) e3 (aw_getI (pc' := 32) (dt_X10_hasOtherSize 17 (29, .getfield 172, 3) rfl) fl_ReturnDesk_172 rfl rfl g5 (aw_aload_n (pc' := 33) (dt_X10_hasOtherSize 18 (32, .aload_n 1, 1) rfl) rfl rfl (aw_getI (pc' := 36) (dt_X10_hasOtherSize 19 (33, .getfield 172, 3) rfl) fl_ReturnDesk_172 rfl rfl g7 (aw_icmp_eq (pc' := 39) (tgt := 41) (dt_X10_hasOtherSize 20 (36, .if_icmp .eq 5, 3) rfl) (by decide) rfl ?_ ?_))))))))))))
                · intro q19
                  have h := h.1 q19
                  refine aw_iinc (pc' := 44) (v := 1) (ls' := [some (.ref 11), some (.ref a1), some (.int (x2 + 1))]) (dt_X10_hasOtherSize 23 (41, .iinc 2 1, 3) rfl) rfl (by decide) (by decide) rfl rfl (aw_goto (tgt := 2) (dt_X10_hasOtherSize 24 (44, .goto (-42), 3) rfl) (by decide) ?_)
                  exact h
                · intro q19
                  have h := h.2 q19
                  refine aw_iconst (pc' := 40) (v := 1) (dt_X10_hasOtherSize 21 (39, .iconst 1, 1) rfl) (by decide) rfl (aw_iret (dt_X10_hasOtherSize 22 (40, .ireturn, 1) rfl) rfl rfl ?_)
                  exact h

theorem t_X10_boughtBy {E : ZE} {l : Launch} {d nc ns : Nat} {x1 : Int32} {μ : ZM} {K : Option Value → ZM → Prop} (hS : Stat μ) (h :
  AW E l d nc ns mX10_boughtBy 4 [some (.ref 11), some (.int x1), some (.int 0), some (.int 0)] [] μ K) : AW E l d nc ns mX10_boughtBy 0 [some (.ref 11), some (.int x1), none, none] [] μ K := by
  refine aw_iconst (pc' := 1) (v := 0) (dt_X10_boughtBy 0 (0, .iconst 0, 1) rfl) (by decide) rfl (aw_istore_n (pc' := 2) (ls' := [some (.ref 11), some (.int x1), some (.int 0), none]) (dt_X10_boughtBy 1 (1, .istore_n 2, 1) rfl) (by decide) rfl rfl (aw_iconst (pc' := 3) (v := 0) (dt_X10_boughtBy 2 (2, .iconst 0, 1) rfl) (by decide) rfl (aw_istore_n (pc' := 4) (ls' := [some (.ref 11), some (.int x1), some (.int 0), some (.int 0)]) (dt_X10_boughtBy 3 (3, .istore_n 3, 1) rfl) (by decide) rfl rfl ?_)))
  exact h

theorem t_X10_boughtBy_4 {E : ZE} {l : Launch} {d nc ns : Nat} {x1 : Int32} {x2 : Int32} {x3 : Int32} {μ : ZM} {K : Option Value → ZM → Prop} (hS : Stat μ) (h :
  ((zI μ 11 14) ≤ x3 →
    K (some (.int x2)) μ) ∧
  (¬ (zI μ 11 14) ≤ x3 →
    (vp_in x3 300) ∧
    (zA μ 14 x3.toNatClampNeg = none →
      False) ∧
    (∀ b4, zA μ 14 x3.toNatClampNeg = some b4 →
      (zK μ b4 = 7) ∧
      (¬ (zI μ b4 7) = x1 →
        AW E l d nc ns mX10_boughtBy 4 [some (.ref 11), some (.int x1), some (.int x2), some (.int (x3 + 1))] [] μ K) ∧
      ((zI μ b4 7) = x1 →
        AW E l d nc ns mX10_boughtBy 4 [some (.ref 11), some (.int x1), some (.int (x2 + 1)), some (.int (x3 + 1))] [] μ K)))) : AW E l d nc ns mX10_boughtBy 4 [some (.ref 11), some (.int x1), some (.int x2), some (.int x3)] [] μ K := by
  refine aw_iload_n (pc' := 5) (dt_X10_boughtBy 4 (4, .iload_n 3, 1) rfl) rfl rfl (aw_aload_n (pc' := 6) (dt_X10_boughtBy 5 (5, .aload_n 0, 1) rfl) rfl rfl (aw_getI (pc' := 9) (dt_X10_boughtBy 6 (6, .getfield 131, 3) rfl) fl_ReturnDesk_131 rfl rfl (sk_11 hS) (aw_icmp_ge (pc' := 12) (tgt := 34) (dt_X10_boughtBy 7 (9, .if_icmp .ge 25, 3) rfl) (by decide) rfl ?_ ?_)))
  · intro q1
    have h := h.1 q1
    refine aw_iload_n (pc' := 35) (dt_X10_boughtBy 18 (34, .iload_n 2, 1) rfl) rfl rfl (aw_iret (dt_X10_boughtBy 19 (35, .ireturn, 1) rfl) rfl rfl ?_)
    exact h
  · intro q1
    have h := h.2 q1
    obtain ⟨g2, h⟩ := h
    refine aw_aload_n (pc' := 13) (dt_X10_boughtBy 8 (12, .aload_n 0, 1) rfl) rfl rfl (aw_getAs (pc' := 16) (dt_X10_boughtBy 9 (13, .getfield 23, 3) rfl) fl_ReturnDesk_23 rfl rfl (sk_11 hS) (sa_11_2 hS) (aw_iload_n (pc' := 17) (dt_X10_boughtBy 10 (16, .iload_n 3, 1) rfl) rfl rfl (aw_aald (pc' := 18) (dt_X10_boughtBy 11 (17, .aaload, 1) rfl) (by decide) (by decide) rfl (sk_14 hS) (vin_eq (sl_14 hS) g2) ?_ ?_)))
    · intro e3
      have h := h.1 e3
      exact h.elim
    · intro b4 e3
      have h := h.2 b4 e3
      obtain ⟨g5, h⟩ := h
      refine aw_getI (pc' := 21) (dt_X10_boughtBy 12 (18, .getfield 179, 3) rfl) fl_ReturnDesk_179 rfl rfl g5 (aw_iload_n (pc' := 22) (dt_X10_boughtBy 13 (21, .iload_n 1, 1) rfl) rfl rfl (aw_icmp_ne (pc' := 25) (tgt := 28) (dt_X10_boughtBy 14 (22, .if_icmp .ne 6, 3) rfl) (by decide) rfl ?_ ?_))
      · intro q6
        have h := h.1 q6
        refine aw_iinc (pc' := 31) (v := 1) (ls' := [some (.ref 11), some (.int x1), some (.int x2), some (.int (x3 + 1))]) (dt_X10_boughtBy 16 (28, .iinc 3 1, 3) rfl) rfl (by decide) (by decide) rfl rfl (aw_goto (tgt := 4) (dt_X10_boughtBy 17 (31, .goto (-27), 3) rfl) (by decide) ?_)
        exact h
      · intro q6
        have h := h.2 q6
        refine aw_iinc (pc' := 28) (v := 1) (ls' := [some (.ref 11), some (.int x1), some (.int (x2 + 1)), some (.int x3)]) (dt_X10_boughtBy 15 (25, .iinc 2 1, 3) rfl) rfl (by decide) (by decide) rfl rfl (aw_iinc (pc' := 31) (v := 1) (ls' := [some (.ref 11), some (.int x1), some (.int (x2 + 1)), some (.int (x3 + 1))]) (dt_X10_boughtBy 16 (28, .iinc 3 1, 3) rfl) rfl (by decide) (by decide) rfl rfl (aw_goto (tgt := 4) (dt_X10_boughtBy 17 (31, .goto (-27), 3) rfl) (by decide) ?_))
        exact h

theorem t_X10_spentBy {E : ZE} {l : Launch} {d nc ns : Nat} {x1 : Int32} {μ : ZM} {K : Option Value → ZM → Prop} (hS : Stat μ) (h :
  AW E l d nc ns mX10_spentBy 4 [some (.ref 11), some (.int x1), some (.int 0), some (.int 0)] [] μ K) : AW E l d nc ns mX10_spentBy 0 [some (.ref 11), some (.int x1), none, none] [] μ K := by
  refine aw_iconst (pc' := 1) (v := 0) (dt_X10_spentBy 0 (0, .iconst 0, 1) rfl) (by decide) rfl (aw_istore_n (pc' := 2) (ls' := [some (.ref 11), some (.int x1), some (.int 0), none]) (dt_X10_spentBy 1 (1, .istore_n 2, 1) rfl) (by decide) rfl rfl (aw_iconst (pc' := 3) (v := 0) (dt_X10_spentBy 2 (2, .iconst 0, 1) rfl) (by decide) rfl (aw_istore_n (pc' := 4) (ls' := [some (.ref 11), some (.int x1), some (.int 0), some (.int 0)]) (dt_X10_spentBy 3 (3, .istore_n 3, 1) rfl) (by decide) rfl rfl ?_)))
  exact h

theorem t_X10_spentBy_4 {E : ZE} {l : Launch} {d nc ns : Nat} {x1 : Int32} {x2 : Int32} {x3 : Int32} {μ : ZM} {K : Option Value → ZM → Prop} (hS : Stat μ) (h :
  ((zI μ 11 14) ≤ x3 →
    K (some (.int x2)) μ) ∧
  (¬ (zI μ 11 14) ≤ x3 →
    (vp_in x3 300) ∧
    (zA μ 14 x3.toNatClampNeg = none →
      False) ∧
    (∀ b4, zA μ 14 x3.toNatClampNeg = some b4 →
      (zK μ b4 = 7) ∧
      (¬ (zI μ b4 7) = x1 →
        AW E l d nc ns mX10_spentBy 4 [some (.ref 11), some (.int x1), some (.int x2), some (.int (x3 + 1))] [] μ K) ∧
      ((zI μ b4 7) = x1 →
        (vp_in x3 300) ∧
        AW E l d nc ns mX10_spentBy 4 [some (.ref 11), some (.int x1), some (.int (x2 + (zI μ b4 9))), some (.int (x3 + 1))] [] μ K)))) : AW E l d nc ns mX10_spentBy 4 [some (.ref 11), some (.int x1), some (.int x2), some (.int x3)] [] μ K := by
  refine aw_iload_n (pc' := 5) (dt_X10_spentBy 4 (4, .iload_n 3, 1) rfl) rfl rfl (aw_aload_n (pc' := 6) (dt_X10_spentBy 5 (5, .aload_n 0, 1) rfl) rfl rfl (aw_getI (pc' := 9) (dt_X10_spentBy 6 (6, .getfield 131, 3) rfl) fl_ReturnDesk_131 rfl rfl (sk_11 hS) (aw_icmp_ge (pc' := 12) (tgt := 43) (dt_X10_spentBy 7 (9, .if_icmp .ge 34, 3) rfl) (by decide) rfl ?_ ?_)))
  · intro q1
    have h := h.1 q1
    refine aw_iload_n (pc' := 44) (dt_X10_spentBy 25 (43, .iload_n 2, 1) rfl) rfl rfl (aw_iret (dt_X10_spentBy 26 (44, .ireturn, 1) rfl) rfl rfl ?_)
    exact h
  · intro q1
    have h := h.2 q1
    obtain ⟨g2, h⟩ := h
    refine aw_aload_n (pc' := 13) (dt_X10_spentBy 8 (12, .aload_n 0, 1) rfl) rfl rfl (aw_getAs (pc' := 16) (dt_X10_spentBy 9 (13, .getfield 23, 3) rfl) fl_ReturnDesk_23 rfl rfl (sk_11 hS) (sa_11_2 hS) (aw_iload_n (pc' := 17) (dt_X10_spentBy 10 (16, .iload_n 3, 1) rfl) rfl rfl (aw_aald (pc' := 18) (dt_X10_spentBy 11 (17, .aaload, 1) rfl) (by decide) (by decide) rfl (sk_14 hS) (vin_eq (sl_14 hS) g2) ?_ ?_)))
    · intro e3
      have h := h.1 e3
      exact h.elim
    · intro b4 e3
      have h := h.2 b4 e3
      obtain ⟨g5, h⟩ := h
      refine aw_getI (pc' := 21) (dt_X10_spentBy 12 (18, .getfield 179, 3) rfl) fl_ReturnDesk_179 rfl rfl g5 (aw_iload_n (pc' := 22) (dt_X10_spentBy 13 (21, .iload_n 1, 1) rfl) rfl rfl (aw_icmp_ne (pc' := 25) (tgt := 37) (dt_X10_spentBy 14 (22, .if_icmp .ne 15, 3) rfl) (by decide) rfl ?_ ?_))
      · intro q6
        have h := h.1 q6
        refine aw_iinc (pc' := 40) (v := 1) (ls' := [some (.ref 11), some (.int x1), some (.int x2), some (.int (x3 + 1))]) (dt_X10_spentBy 23 (37, .iinc 3 1, 3) rfl) rfl (by decide) (by decide) rfl rfl (aw_goto (tgt := 4) (dt_X10_spentBy 24 (40, .goto (-36), 3) rfl) (by decide) ?_)
        exact h
      · intro q6
        have h := h.2 q6
        obtain ⟨g7, h⟩ := h
        refine aw_iload_n (pc' := 26) (dt_X10_spentBy 15 (25, .iload_n 2, 1) rfl) rfl rfl (aw_aload_n (pc' := 27) (dt_X10_spentBy 16 (26, .aload_n 0, 1) rfl) rfl rfl (aw_getAs (pc' := 30) (dt_X10_spentBy 17 (27, .getfield 23, 3) rfl) fl_ReturnDesk_23 rfl rfl (sk_11 hS) (sa_11_2 hS) (aw_iload_n (pc' := 31) (dt_X10_spentBy 18 (30, .iload_n 3, 1) rfl) rfl rfl (aw_aalds (pc' := 32) (dt_X10_spentBy 19 (31, .aaload, 1) rfl) (by decide) (by decide) rfl (sk_14 hS) (vin_eq (sl_14 hS) g7) e3 (aw_getI (pc' := 35) (dt_X10_spentBy 20 (32, .getfield 145, 3) rfl) fl_ReturnDesk_145 rfl rfl g5 (aw_iadd (pc' := 36) (dt_X10_spentBy 21 (35, .iadd, 1) rfl) rfl (aw_istore_n (pc' := 37) (ls' := [some (.ref 11), some (.int x1), some (.int (x2 + (zI μ b4 9))), some (.int x3)]) (dt_X10_spentBy 22 (36, .istore_n 2, 1) rfl) (by decide) rfl rfl (aw_iinc (pc' := 40) (v := 1) (ls' := [some (.ref 11), some (.int x1), some (.int (x2 + (zI μ b4 9))), some (.int (x3 + 1))]) (dt_X10_spentBy 23 (37, .iinc 3 1, 3) rfl) rfl (by decide) (by decide) rfl rfl (aw_goto (tgt := 4) (dt_X10_spentBy 24 (40, .goto (-36), 3) rfl) (by decide) ?_)))))))))
        exact h

theorem t_X10_backOfBuyer {E : ZE} {l : Launch} {d nc ns : Nat} {x1 : Int32} {x2 : Int32} {x3 : Int32} {μ : ZM} {K : Option Value → ZM → Prop} (hS : Stat μ) (h :
  AW E l (d + 1) nc ns mX10_backOfBuyer 6 [some (.ref 11), some (.int x1), some (.int x2), some (.int x3), some (.int 0), some (.int 0), none] [] μ K) : AW E l (d + 1) nc ns mX10_backOfBuyer 0 [some (.ref 11), some (.int x1), some (.int x2), some (.int x3), none, none, none] [] μ K := by
  refine aw_iconst (pc' := 1) (v := 0) (dt_X10_backOfBuyer 0 (0, .iconst 0, 1) rfl) (by decide) rfl (aw_istore (pc' := 3) (ls' := [some (.ref 11), some (.int x1), some (.int x2), some (.int x3), some (.int 0), none, none]) (dt_X10_backOfBuyer 1 (1, .istore 4, 2) rfl) (by decide) rfl rfl (aw_iconst (pc' := 4) (v := 0) (dt_X10_backOfBuyer 2 (3, .iconst 0, 1) rfl) (by decide) rfl (aw_istore (pc' := 6) (ls' := [some (.ref 11), some (.int x1), some (.int x2), some (.int x3), some (.int 0), some (.int 0), none]) (dt_X10_backOfBuyer 3 (4, .istore 5, 2) rfl) (by decide) rfl rfl ?_)))
  exact h

theorem t_X10_backOfBuyer_6 {E : ZE} {l : Launch} {d nc ns : Nat} {x1 : Int32} {x2 : Int32} {x3 : Int32} {x4 : Int32} {x5 : Int32} {μ : ZM} {K : Option Value → ZM → Prop} (hS : Stat μ) (h :
  ((zI μ 11 14) ≤ x5 →
    K (some (.int x4)) μ) ∧
  (¬ (zI μ 11 14) ≤ x5 →
    (vp_in x5 300) ∧
    (zA μ 14 x5.toNatClampNeg = none →
      False) ∧
    (∀ b4, zA μ 14 x5.toNatClampNeg = some b4 →
      (zK μ b4 = 7) ∧
      (¬ (zI μ b4 7) = x1 →
        AW E l (d + 1) nc ns mX10_backOfBuyer 6 [some (.ref 11), some (.int x1), some (.int x2), some (.int x3), some (.int x4), some (.int (x5 + 1)), none] [] μ K) ∧
      ((zI μ b4 7) = x1 →
        ((zI μ b4 12) < x2 →
          AW E l (d + 1) nc ns mX10_backOfBuyer 6 [some (.ref 11), some (.int x1), some (.int x2), some (.int x3), some (.int x4), some (.int (x5 + 1)), none] [] μ K) ∧
        (¬ (zI μ b4 12) < x2 →
          (x3 < (zI μ b4 12) →
            AW E l (d + 1) nc ns mX10_backOfBuyer 6 [some (.ref 11), some (.int x1), some (.int x2), some (.int x3), some (.int x4), some (.int (x5 + 1)), none] [] μ K) ∧
          (¬ x3 < (zI μ b4 12) →
            AW E l (d + 1) nc ns mX10_backOfBuyer 6 [some (.ref 11), some (.int x1), some (.int x2), some (.int x3), some (.int (x4 + 1)), some (.int (x5 + 1)), none] [] μ K)))))) : AW E l (d + 1) nc ns mX10_backOfBuyer 6 [some (.ref 11), some (.int x1), some (.int x2), some (.int x3), some (.int x4), some (.int x5), none] [] μ K := by
  refine aw_iload (pc' := 8) (dt_X10_backOfBuyer 4 (6, .iload 5, 2) rfl) rfl rfl (aw_aload_n (pc' := 9) (dt_X10_backOfBuyer 5 (8, .aload_n 0, 1) rfl) rfl rfl (aw_getI (pc' := 12) (dt_X10_backOfBuyer 6 (9, .getfield 131, 3) rfl) fl_ReturnDesk_131 rfl rfl (sk_11 hS) (aw_icmp_ge (pc' := 15) (tgt := 55) (dt_X10_backOfBuyer 7 (12, .if_icmp .ge 43, 3) rfl) (by decide) rfl ?_ ?_)))
  · intro q1
    have h := h.1 q1
    refine aw_iload (pc' := 57) (dt_X10_backOfBuyer 26 (55, .iload 4, 2) rfl) rfl rfl (aw_iret (dt_X10_backOfBuyer 27 (57, .ireturn, 1) rfl) rfl rfl ?_)
    exact h
  · intro q1
    have h := h.2 q1
    obtain ⟨g2, h⟩ := h
    refine aw_aload_n (pc' := 16) (dt_X10_backOfBuyer 8 (15, .aload_n 0, 1) rfl) rfl rfl (aw_getAs (pc' := 19) (dt_X10_backOfBuyer 9 (16, .getfield 23, 3) rfl) fl_ReturnDesk_23 rfl rfl (sk_11 hS) (sa_11_2 hS) (aw_iload (pc' := 21) (dt_X10_backOfBuyer 10 (19, .iload 5, 2) rfl) rfl rfl (aw_aald (pc' := 22) (dt_X10_backOfBuyer 11 (21, .aaload, 1) rfl) (by decide) (by decide) rfl (sk_14 hS) (vin_eq (sl_14 hS) g2) ?_ ?_)))
    · intro e3
      have h := h.1 e3
      refine aw_astoreN (pc' := 24) (ls' := [some (.ref 11), some (.int x1), some (.int x2), some (.int x3), some (.int x4), some (.int x5), some (.null)]) (dt_X10_backOfBuyer 12 (22, .astore 6, 2) rfl) (by decide) rfl rfl (aw_aloadN (pc' := 26) (dt_X10_backOfBuyer 13 (24, .aload 6, 2) rfl) rfl rfl ?_)
      exact h.elim
    · intro b4 e3
      have h := h.2 b4 e3
      obtain ⟨g5, h⟩ := h
      refine aw_astore (pc' := 24) (ls' := [some (.ref 11), some (.int x1), some (.int x2), some (.int x3), some (.int x4), some (.int x5), some (.ref b4)]) (dt_X10_backOfBuyer 12 (22, .astore 6, 2) rfl) (by decide) rfl rfl (aw_aload (pc' := 26) (dt_X10_backOfBuyer 13 (24, .aload 6, 2) rfl) rfl rfl (aw_getI (pc' := 29) (dt_X10_backOfBuyer 14 (26, .getfield 179, 3) rfl) fl_ReturnDesk_179 rfl rfl g5 (aw_iload_n (pc' := 30) (dt_X10_backOfBuyer 15 (29, .iload_n 1, 1) rfl) rfl rfl (aw_icmp_ne (pc' := 33) (tgt := 49) (dt_X10_backOfBuyer 16 (30, .if_icmp .ne 19, 3) rfl) (by decide) rfl ?_ ?_))))
      · intro q6
        have h := h.1 q6
        refine aw_iinc (pc' := 52) (v := 1) (ls' := [some (.ref 11), some (.int x1), some (.int x2), some (.int x3), some (.int x4), some (.int (x5 + 1)), some (.ref b4)]) (dt_X10_backOfBuyer 24 (49, .iinc 5 1, 3) rfl) rfl (by decide) (by decide) rfl rfl (aw_goto (tgt := 6) (dt_X10_backOfBuyer 25 (52, .goto (-46), 3) rfl) (by decide) (aw_drop (ls' := [some (.ref 11), some (.int x1), some (.int x2), some (.int x3), some (.int x4), some (.int (x5 + 1)), none]) ⟨rfl, rfl, rfl, rfl, rfl, rfl, trivial⟩ ?_))
        exact h
      · intro q6
        have h := h.2 q6
        refine aw_aload (pc' := 35) (dt_X10_backOfBuyer 17 (33, .aload 6, 2) rfl) rfl rfl (aw_getI (pc' := 38) (dt_X10_backOfBuyer 18 (35, .getfield 186, 3) rfl) fl_ReturnDesk_186 rfl rfl g5 (aw_iload_n (pc' := 39) (dt_X10_backOfBuyer 19 (38, .iload_n 2, 1) rfl) rfl rfl (aw_iload_n (pc' := 40) (dt_X10_backOfBuyer 20 (39, .iload_n 3, 1) rfl) rfl rfl (aw_inS (pc' := 43) (nc1 := 0) (ns1 := 0) (nc := nc) (ns := ns) (ls' := [some (.int (zI μ b4 12)), some (.int x2), some (.int x3)]) (y2 := mX10_within) (As := [.int (zI μ b4 12), .int x2, .int x3]) (rest := []) (dt_X10_backOfBuyer 21 (40, .invokestatic 76, 3) rfl) ok_X10_within ln_ReturnDesk_76 sm_X10_within pr_X10_within rfl (Nat.le_of_ble_eq_true rfl) (Nat.le_of_ble_eq_true rfl) rfl rfl (aw_iload_n (pc' := 1) (dt_X10_within 0 (0, .iload_n 0, 1) rfl) rfl rfl (aw_iload_n (pc' := 2) (dt_X10_within 1 (1, .iload_n 1, 1) rfl) rfl rfl (aw_icmp_lt (pc' := 5) (tgt := 14) (dt_X10_within 2 (2, .if_icmp .lt 12, 3) rfl) (by decide) rfl ?_ ?_)))))))
        · intro q7
          have h := h.1 q7
          refine aw_iconst (pc' := 15) (v := 0) (dt_X10_within 8 (14, .iconst 0, 1) rfl) (by decide) rfl (aw_iret (dt_X10_within 9 (15, .ireturn, 1) rfl) rfl rfl (aw_stk (st' := [.int 0]) rfl (aw_if_eq_T (pc' := 46) (tgt := 49) (dt_X10_backOfBuyer 22 (43, .ifCond .eq 6, 3) rfl) (by decide) rfl (by decide) (aw_iinc (pc' := 52) (v := 1) (ls' := [some (.ref 11), some (.int x1), some (.int x2), some (.int x3), some (.int x4), some (.int (x5 + 1)), some (.ref b4)]) (dt_X10_backOfBuyer 24 (49, .iinc 5 1, 3) rfl) rfl (by decide) (by decide) rfl rfl (aw_goto (tgt := 6) (dt_X10_backOfBuyer 25 (52, .goto (-46), 3) rfl) (by decide) (aw_drop (ls' := [some (.ref 11), some (.int x1), some (.int x2), some (.int x3), some (.int x4), some (.int (x5 + 1)), none]) ⟨rfl, rfl, rfl, rfl, rfl, rfl, trivial⟩ ?_))))))
          exact h
        · intro q7
          have h := h.2 q7
          refine aw_iload_n (pc' := 6) (dt_X10_within 3 (5, .iload_n 0, 1) rfl) rfl rfl (aw_iload_n (pc' := 7) (dt_X10_within 4 (6, .iload_n 2, 1) rfl) rfl rfl (aw_icmp_gt (pc' := 10) (tgt := 14) (dt_X10_within 5 (7, .if_icmp .gt 7, 3) rfl) (by decide) rfl ?_ ?_))
          · intro q8
            have h := h.1 q8
            refine aw_iconst (pc' := 15) (v := 0) (dt_X10_within 8 (14, .iconst 0, 1) rfl) (by decide) rfl (aw_iret (dt_X10_within 9 (15, .ireturn, 1) rfl) rfl rfl (aw_stk (st' := [.int 0]) rfl (aw_if_eq_T (pc' := 46) (tgt := 49) (dt_X10_backOfBuyer 22 (43, .ifCond .eq 6, 3) rfl) (by decide) rfl (by decide) (aw_iinc (pc' := 52) (v := 1) (ls' := [some (.ref 11), some (.int x1), some (.int x2), some (.int x3), some (.int x4), some (.int (x5 + 1)), some (.ref b4)]) (dt_X10_backOfBuyer 24 (49, .iinc 5 1, 3) rfl) rfl (by decide) (by decide) rfl rfl (aw_goto (tgt := 6) (dt_X10_backOfBuyer 25 (52, .goto (-46), 3) rfl) (by decide) (aw_drop (ls' := [some (.ref 11), some (.int x1), some (.int x2), some (.int x3), some (.int x4), some (.int (x5 + 1)), none]) ⟨rfl, rfl, rfl, rfl, rfl, rfl, trivial⟩ ?_))))))
            exact h
          · intro q8
            have h := h.2 q8
            refine aw_iconst (pc' := 11) (v := 1) (dt_X10_within 6 (10, .iconst 1, 1) rfl) (by decide) rfl (aw_goto (tgt := 15) (dt_X10_within 7 (11, .goto 4, 3) rfl) (by decide) (aw_iret (dt_X10_within 9 (15, .ireturn, 1) rfl) rfl rfl (aw_stk (st' := [.int 1]) rfl (aw_if_eq_F (pc' := 46) (tgt := 49) (dt_X10_backOfBuyer 22 (43, .ifCond .eq 6, 3) rfl) (by decide) rfl (by decide) (aw_iinc (pc' := 49) (v := 1) (ls' := [some (.ref 11), some (.int x1), some (.int x2), some (.int x3), some (.int (x4 + 1)), some (.int x5), some (.ref b4)]) (dt_X10_backOfBuyer 23 (46, .iinc 4 1, 3) rfl) rfl (by decide) (by decide) rfl rfl (aw_iinc (pc' := 52) (v := 1) (ls' := [some (.ref 11), some (.int x1), some (.int x2), some (.int x3), some (.int (x4 + 1)), some (.int (x5 + 1)), some (.ref b4)]) (dt_X10_backOfBuyer 24 (49, .iinc 5 1, 3) rfl) rfl (by decide) (by decide) rfl rfl (aw_goto (tgt := 6) (dt_X10_backOfBuyer 25 (52, .goto (-46), 3) rfl) (by decide) (aw_drop (ls' := [some (.ref 11), some (.int x1), some (.int x2), some (.int x3), some (.int (x4 + 1)), some (.int (x5 + 1)), none]) ⟨rfl, rfl, rfl, rfl, rfl, rfl, trivial⟩ ?_))))))))
            exact h

theorem t_X10_timesOf {E : ZE} {l : Launch} {d nc ns : Nat} {a1 : Nat} {x2 : Int32} {μ : ZM} {K : Option Value → ZM → Prop} (hS : Stat μ) (h :
  (zK μ a1 = 7) ∧
  ((zI μ a1 7) < 0 →
    K (some (.int 0)) μ) ∧
  (¬ (zI μ a1 7) < 0 →
    (59 < (zI μ a1 7) →
      K (some (.int 0)) μ) ∧
    (¬ 59 < (zI μ a1 7) →
      AW E l (d + 1) 0 0 mX10_backOfBuyer 0 (zargs 7 [.ref 11, .int (zI μ a1 7), .int (x2 - 359), .int x2]) [] μ (fun v μ4 => ∃ r6 : Int32, v = some (.int r6) ∧ Stat μ4 ∧ 
        K (some (.int r6)) μ4)))) : AW E l (d + 2) nc ns mX10_timesOf 0 [some (.ref 11), some (.ref a1), some (.int x2)] [] μ K := by
  obtain ⟨g1, h⟩ := h
  refine aw_aload_n (pc' := 1) (dt_X10_timesOf 0 (0, .aload_n 1, 1) rfl) rfl rfl (aw_getI (pc' := 4) (dt_X10_timesOf 1 (1, .getfield 179, 3) rfl) fl_ReturnDesk_179 rfl rfl g1 (aw_inS (pc' := 7) (nc1 := 0) (ns1 := 0) (nc := nc) (ns := ns) (ls' := [some (.int (zI μ a1 7))]) (y2 := mX10_isBuyer) (As := [.int (zI μ a1 7)]) (rest := []) (dt_X10_timesOf 2 (4, .invokestatic 387, 3) rfl) ok_X10_isBuyer ln_ReturnDesk_387 sm_X10_isBuyer pr_X10_isBuyer rfl (Nat.le_of_ble_eq_true rfl) (Nat.le_of_ble_eq_true rfl) rfl rfl (aw_iload_n (pc' := 1) (dt_X10_isBuyer 0 (0, .iload_n 0, 1) rfl) rfl rfl (aw_iconst (pc' := 2) (v := 0) (dt_X10_isBuyer 1 (1, .iconst 0, 1) rfl) (by decide) rfl (aw_bipush (pc' := 4) (v := 59) (dt_X10_isBuyer 2 (2, .bipush 59, 2) rfl) (by decide) rfl (aw_inS (pc' := 7) (nc1 := 0) (ns1 := 0) (nc := 0) (ns := 0) (ls' := [some (.int (zI μ a1 7)), some (.int 0), some (.int 59)]) (y2 := mX10_within) (As := [.int (zI μ a1 7), .int 0, .int 59]) (rest := []) (dt_X10_isBuyer 3 (4, .invokestatic 76, 3) rfl) ok_X10_within ln_ReturnDesk_76 sm_X10_within pr_X10_within rfl (Nat.le_of_ble_eq_true rfl) (Nat.le_of_ble_eq_true rfl) rfl rfl (aw_iload_n (pc' := 1) (dt_X10_within 0 (0, .iload_n 0, 1) rfl) rfl rfl (aw_iload_n (pc' := 2) (dt_X10_within 1 (1, .iload_n 1, 1) rfl) rfl rfl (aw_icmp_lt (pc' := 5) (tgt := 14) (dt_X10_within 2 (2, .if_icmp .lt 12, 3) rfl) (by decide) rfl ?_ ?_)))))))))
  · intro q2
    have h := h.1 q2
    refine aw_iconst (pc' := 15) (v := 0) (dt_X10_within 8 (14, .iconst 0, 1) rfl) (by decide) rfl (aw_iret (dt_X10_within 9 (15, .ireturn, 1) rfl) rfl rfl (aw_stk (st' := [.int 0]) rfl (aw_iret (dt_X10_isBuyer 4 (7, .ireturn, 1) rfl) rfl rfl (aw_stk (st' := [.int 0]) rfl (aw_if_eq_T (pc' := 10) (tgt := 27) (dt_X10_timesOf 3 (7, .ifCond .eq 20, 3) rfl) (by decide) rfl (by decide) (aw_iconst (pc' := 28) (v := 0) (dt_X10_timesOf 13 (27, .iconst 0, 1) rfl) (by decide) rfl (aw_iret (dt_X10_timesOf 14 (28, .ireturn, 1) rfl) rfl rfl ?_)))))))
    exact h
  · intro q2
    have h := h.2 q2
    refine aw_iload_n (pc' := 6) (dt_X10_within 3 (5, .iload_n 0, 1) rfl) rfl rfl (aw_iload_n (pc' := 7) (dt_X10_within 4 (6, .iload_n 2, 1) rfl) rfl rfl (aw_icmp_gt (pc' := 10) (tgt := 14) (dt_X10_within 5 (7, .if_icmp .gt 7, 3) rfl) (by decide) rfl ?_ ?_))
    · intro q3
      have h := h.1 q3
      refine aw_iconst (pc' := 15) (v := 0) (dt_X10_within 8 (14, .iconst 0, 1) rfl) (by decide) rfl (aw_iret (dt_X10_within 9 (15, .ireturn, 1) rfl) rfl rfl (aw_stk (st' := [.int 0]) rfl (aw_iret (dt_X10_isBuyer 4 (7, .ireturn, 1) rfl) rfl rfl (aw_stk (st' := [.int 0]) rfl (aw_if_eq_T (pc' := 10) (tgt := 27) (dt_X10_timesOf 3 (7, .ifCond .eq 20, 3) rfl) (by decide) rfl (by decide) (aw_iconst (pc' := 28) (v := 0) (dt_X10_timesOf 13 (27, .iconst 0, 1) rfl) (by decide) rfl (aw_iret (dt_X10_timesOf 14 (28, .ireturn, 1) rfl) rfl rfl ?_)))))))
      exact h
    · intro q3
      have h := h.2 q3
      refine aw_iconst (pc' := 11) (v := 1) (dt_X10_within 6 (10, .iconst 1, 1) rfl) (by decide) rfl (aw_goto (tgt := 15) (dt_X10_within 7 (11, .goto 4, 3) rfl) (by decide) (aw_iret (dt_X10_within 9 (15, .ireturn, 1) rfl) rfl rfl (aw_stk (st' := [.int 1]) rfl (aw_iret (dt_X10_isBuyer 4 (7, .ireturn, 1) rfl) rfl rfl (aw_stk (st' := [.int 1]) rfl (aw_if_eq_F (pc' := 10) (tgt := 27) (dt_X10_timesOf 3 (7, .ifCond .eq 20, 3) rfl) (by decide) rfl (by decide) (aw_aload_n (pc' := 11) (dt_X10_timesOf 4 (10, .aload_n 0, 1) rfl) rfl rfl (aw_aload_n (pc' := 12) (dt_X10_timesOf 5 (11, .aload_n 1, 1) rfl) rfl rfl (aw_getI (pc' := 15) (dt_X10_timesOf 6 (12, .getfield 179, 3) rfl) fl_ReturnDesk_179 rfl rfl g1 (aw_iload_n (pc' := 16) (dt_X10_timesOf 7 (15, .iload_n 2, 1) rfl) rfl rfl (aw_sipush (pc' := 19) (v := 359) (dt_X10_timesOf 8 (16, .sipush 359, 3) rfl) (by decide) rfl (aw_isub (pc' := 20) (dt_X10_timesOf 9 (19, .isub, 1) rfl) rfl (aw_iload_n (pc' := 21) (dt_X10_timesOf 10 (20, .iload_n 2, 1) rfl) rfl rfl (aw_callV0 (pc' := 24) (nc := nc) (ns := ns) (y2 := mX10_backOfBuyer) (As := [.int (zI μ a1 7), .int (x2 - 359), .int x2]) (rest := []) (a := 11) (dt_X10_timesOf 11 (21, .invokevirtual 435, 3) rfl) ok_X10_backOfBuyer ln_ReturnDesk_435 im_X10_backOfBuyer se_X10_backOfBuyer pr_X10_backOfBuyer (Or.inl ⟨by decide, rfl⟩) rfl (Nat.le_of_ble_eq_true rfl) (Nat.le_of_ble_eq_true rfl) rfl (sk_11 hS) h ?_))))))))))))))
      rintro v μ4 ⟨r6, rfl, hS5, h⟩
      refine aw_stk (st' := [.int r6]) rfl ?_
      refine aw_goto (tgt := 28) (dt_X10_timesOf 12 (24, .goto 4, 3) rfl) (by decide) (aw_iret (dt_X10_timesOf 14 (28, .ireturn, 1) rfl) rfl rfl ?_)
      exact h

theorem t_X10_leftInLots {E : ZE} {l : Launch} {d nc ns : Nat} {a1 : Nat} {μ : ZM} {K : Option Value → ZM → Prop} (hS : Stat μ) (h :
  AW E l d nc ns mX10_leftInLots 4 [some (.ref 11), some (.ref a1), some (.int 0), some (.int 0)] [] μ K) : AW E l d nc ns mX10_leftInLots 0 [some (.ref 11), some (.ref a1), none, none] [] μ K := by
  refine aw_iconst (pc' := 1) (v := 0) (dt_X10_leftInLots 0 (0, .iconst 0, 1) rfl) (by decide) rfl (aw_istore_n (pc' := 2) (ls' := [some (.ref 11), some (.ref a1), some (.int 0), none]) (dt_X10_leftInLots 1 (1, .istore_n 2, 1) rfl) (by decide) rfl rfl (aw_iconst (pc' := 3) (v := 0) (dt_X10_leftInLots 2 (2, .iconst 0, 1) rfl) (by decide) rfl (aw_istore_n (pc' := 4) (ls' := [some (.ref 11), some (.ref a1), some (.int 0), some (.int 0)]) (dt_X10_leftInLots 3 (3, .istore_n 3, 1) rfl) (by decide) rfl rfl ?_)))
  exact h

theorem t_X10_leftInLots_4 {E : ZE} {l : Launch} {d nc ns : Nat} {a1 : Nat} {x2 : Int32} {x3 : Int32} {μ : ZM} {K : Option Value → ZM → Prop} (hS : Stat μ) (h :
  ((zI μ 11 13) ≤ x3 →
    K (some (.int x2)) μ) ∧
  (¬ (zI μ 11 13) ≤ x3 →
    (vp_in x3 60) ∧
    (zA μ 13 x3.toNatClampNeg = none →
      False) ∧
    (∀ b4, zA μ 13 x3.toNatClampNeg = some b4 →
      (zK μ b4 = 2) ∧
      (zA μ b4 1 = none →
        False) ∧
      (∀ b7, zA μ b4 1 = some b7 →
        (11 ≤ b7) ∧
        (11 ≤ a1) ∧
        (¬ b7 = a1 →
          AW E l d nc ns mX10_leftInLots 4 [some (.ref 11), some (.ref a1), some (.int x2), some (.int (x3 + 1))] [] μ K) ∧
        (b7 = a1 →
          (vp_in x3 60) ∧
          AW E l d nc ns mX10_leftInLots 4 [some (.ref 11), some (.ref a1), some (.int (x2 + (zI μ b4 2))), some (.int (x3 + 1))] [] μ K))))) : AW E l d nc ns mX10_leftInLots 4 [some (.ref 11), some (.ref a1), some (.int x2), some (.int x3)] [] μ K := by
  refine aw_iload_n (pc' := 5) (dt_X10_leftInLots 4 (4, .iload_n 3, 1) rfl) rfl rfl (aw_aload_n (pc' := 6) (dt_X10_leftInLots 5 (5, .aload_n 0, 1) rfl) rfl rfl (aw_getI (pc' := 9) (dt_X10_leftInLots 6 (6, .getfield 107, 3) rfl) fl_ReturnDesk_107 rfl rfl (sk_11 hS) (aw_icmp_ge (pc' := 12) (tgt := 43) (dt_X10_leftInLots 7 (9, .if_icmp .ge 34, 3) rfl) (by decide) rfl ?_ ?_)))
  · intro q1
    have h := h.1 q1
    refine aw_iload_n (pc' := 44) (dt_X10_leftInLots 25 (43, .iload_n 2, 1) rfl) rfl rfl (aw_iret (dt_X10_leftInLots 26 (44, .ireturn, 1) rfl) rfl rfl ?_)
    exact h
  · intro q1
    have h := h.2 q1
    obtain ⟨g2, h⟩ := h
    refine aw_aload_n (pc' := 13) (dt_X10_leftInLots 8 (12, .aload_n 0, 1) rfl) rfl rfl (aw_getAs (pc' := 16) (dt_X10_leftInLots 9 (13, .getfield 17, 3) rfl) fl_ReturnDesk_17 rfl rfl (sk_11 hS) (sa_11_1 hS) (aw_iload_n (pc' := 17) (dt_X10_leftInLots 10 (16, .iload_n 3, 1) rfl) rfl rfl (aw_aald (pc' := 18) (dt_X10_leftInLots 11 (17, .aaload, 1) rfl) (by decide) (by decide) rfl (sk_13 hS) (vin_eq (sl_13 hS) g2) ?_ ?_)))
    · intro e3
      have h := h.1 e3
      exact h.elim
    · intro b4 e3
      have h := h.2 b4 e3
      obtain ⟨g5, h⟩ := h
      refine aw_getA (pc' := 21) (dt_X10_leftInLots 12 (18, .getfield 134, 3) rfl) fl_ReturnDesk_134 rfl rfl g5 ?_ ?_
      · intro e6
        have h := h.1 e6
        refine aw_aload_n (pc' := 22) (dt_X10_leftInLots 13 (21, .aload_n 1, 1) rfl) rfl rfl ?_
        exact h.elim
      · intro b7 e6
        have h := h.2 b7 e6
        obtain ⟨g8, h⟩ := h
        obtain ⟨g9, h⟩ := h
        refine aw_aload_n (pc' := 22) (dt_X10_leftInLots 13 (21, .aload_n 1, 1) rfl) rfl rfl (aw_acmp_ne (pc' := 25) (tgt := 37) (dt_X10_leftInLots 14 (22, .if_acmp .ne 15, 3) rfl) (by decide) rfl g8 g9 ?_ ?_)
        · intro q10
          have h := h.1 q10
          refine aw_iinc (pc' := 40) (v := 1) (ls' := [some (.ref 11), some (.ref a1), some (.int x2), some (.int (x3 + 1))]) (dt_X10_leftInLots 23 (37, .iinc 3 1, 3) rfl) rfl (by decide) (by decide) rfl rfl (aw_goto (tgt := 4) (dt_X10_leftInLots 24 (40, .goto (-36), 3) rfl) (by decide) ?_)
          exact h
        · intro q10
          have h := h.2 q10
          obtain ⟨g11, h⟩ := h
          refine aw_iload_n (pc' := 26) (dt_X10_leftInLots 15 (25, .iload_n 2, 1) rfl) rfl rfl (aw_aload_n (pc' := 27) (dt_X10_leftInLots 16 (26, .aload_n 0, 1) rfl) rfl rfl (aw_getAs (pc' := 30) (dt_X10_leftInLots 17 (27, .getfield 17, 3) rfl) fl_ReturnDesk_17 rfl rfl (sk_11 hS) (sa_11_1 hS) (aw_iload_n (pc' := 31) (dt_X10_leftInLots 18 (30, .iload_n 3, 1) rfl) rfl rfl (aw_aalds (pc' := 32) (dt_X10_leftInLots 19 (31, .aaload, 1) rfl) (by decide) (by decide) rfl (sk_13 hS) (vin_eq (sl_13 hS) g11) e3 (aw_getI (pc' := 35) (dt_X10_leftInLots 20 (32, .getfield 128, 3) rfl) fl_ReturnDesk_128 rfl rfl g5 (aw_iadd (pc' := 36) (dt_X10_leftInLots 21 (35, .iadd, 1) rfl) rfl (aw_istore_n (pc' := 37) (ls' := [some (.ref 11), some (.ref a1), some (.int (x2 + (zI μ b4 2))), some (.int x3)]) (dt_X10_leftInLots 22 (36, .istore_n 2, 1) rfl) (by decide) rfl rfl (aw_iinc (pc' := 40) (v := 1) (ls' := [some (.ref 11), some (.ref a1), some (.int (x2 + (zI μ b4 2))), some (.int (x3 + 1))]) (dt_X10_leftInLots 23 (37, .iinc 3 1, 3) rfl) rfl (by decide) (by decide) rfl rfl (aw_goto (tgt := 4) (dt_X10_leftInLots 24 (40, .goto (-36), 3) rfl) (by decide) ?_)))))))))
          exact h

theorem t_X10_salesOf {E : ZE} {l : Launch} {d nc ns : Nat} {a1 : Nat} {x2 : Int32} {x3 : Int32} {μ : ZM} {K : Option Value → ZM → Prop} (hS : Stat μ) (h :
  AW E l d nc ns mX10_salesOf 6 [some (.ref 11), some (.ref a1), some (.int x2), some (.int x3), some (.int 0), some (.int 0), none] [] μ K) : AW E l d nc ns mX10_salesOf 0 [some (.ref 11), some (.ref a1), some (.int x2), some (.int x3), none, none, none] [] μ K := by
  refine aw_iconst (pc' := 1) (v := 0) (dt_X10_salesOf 0 (0, .iconst 0, 1) rfl) (by decide) rfl (aw_istore (pc' := 3) (ls' := [some (.ref 11), some (.ref a1), some (.int x2), some (.int x3), some (.int 0), none, none]) (dt_X10_salesOf 1 (1, .istore 4, 2) rfl) (by decide) rfl rfl (aw_iconst (pc' := 4) (v := 0) (dt_X10_salesOf 2 (3, .iconst 0, 1) rfl) (by decide) rfl (aw_istore (pc' := 6) (ls' := [some (.ref 11), some (.ref a1), some (.int x2), some (.int x3), some (.int 0), some (.int 0), none]) (dt_X10_salesOf 3 (4, .istore 5, 2) rfl) (by decide) rfl rfl ?_)))
  exact h

theorem t_X10_salesOf_6 {E : ZE} {l : Launch} {d nc ns : Nat} {a1 : Nat} {x2 : Int32} {x3 : Int32} {x4 : Int32} {x5 : Int32} {μ : ZM} {K : Option Value → ZM → Prop} (hS : Stat μ) (h :
  ((zI μ 11 14) ≤ x5 →
    K (some (.int x4)) μ) ∧
  (¬ (zI μ 11 14) ≤ x5 →
    (vp_in x5 300) ∧
    (zA μ 14 x5.toNatClampNeg = none →
      False) ∧
    (∀ b4, zA μ 14 x5.toNatClampNeg = some b4 →
      (zK μ b4 = 7) ∧
      (zA μ b4 1 = none →
        False) ∧
      (∀ b7, zA μ b4 1 = some b7 →
        (11 ≤ b7) ∧
        (11 ≤ a1) ∧
        (¬ b7 = a1 →
          AW E l d nc ns mX10_salesOf 6 [some (.ref 11), some (.ref a1), some (.int x2), some (.int x3), some (.int x4), some (.int (x5 + 1)), none] [] μ K) ∧
        (b7 = a1 →
          (x2 = 0 →
            (x3 = 0 →
              AW E l d nc ns mX10_salesOf 6 [some (.ref 11), some (.ref a1), some (.int x2), some (.int x3), some (.int (x4 + 1)), some (.int (x5 + 1)), none] [] μ K) ∧
            (¬ x3 = 0 →
              ((zI μ b4 17) = 0 →
                AW E l d nc ns mX10_salesOf 6 [some (.ref 11), some (.ref a1), some (.int x2), some (.int x3), some (.int x4), some (.int (x5 + 1)), none] [] μ K) ∧
              (¬ (zI μ b4 17) = 0 →
                AW E l d nc ns mX10_salesOf 6 [some (.ref 11), some (.ref a1), some (.int x2), some (.int x3), some (.int (x4 + 1)), some (.int (x5 + 1)), none] [] μ K))) ∧
          (¬ x2 = 0 →
            (¬ (zI μ b4 11) = 2 →
              AW E l d nc ns mX10_salesOf 6 [some (.ref 11), some (.ref a1), some (.int x2), some (.int x3), some (.int x4), some (.int (x5 + 1)), none] [] μ K) ∧
            ((zI μ b4 11) = 2 →
              (x3 = 0 →
                AW E l d nc ns mX10_salesOf 6 [some (.ref 11), some (.ref a1), some (.int x2), some (.int x3), some (.int (x4 + 1)), some (.int (x5 + 1)), none] [] μ K) ∧
              (¬ x3 = 0 →
                ((zI μ b4 17) = 0 →
                  AW E l d nc ns mX10_salesOf 6 [some (.ref 11), some (.ref a1), some (.int x2), some (.int x3), some (.int x4), some (.int (x5 + 1)), none] [] μ K) ∧
                (¬ (zI μ b4 17) = 0 →
                  AW E l d nc ns mX10_salesOf 6 [some (.ref 11), some (.ref a1), some (.int x2), some (.int x3), some (.int (x4 + 1)), some (.int (x5 + 1)), none] [] μ K))))))))) : AW E l d nc ns mX10_salesOf 6 [some (.ref 11), some (.ref a1), some (.int x2), some (.int x3), some (.int x4), some (.int x5), none] [] μ K := by
  refine aw_iload (pc' := 8) (dt_X10_salesOf 4 (6, .iload 5, 2) rfl) rfl rfl (aw_aload_n (pc' := 9) (dt_X10_salesOf 5 (8, .aload_n 0, 1) rfl) rfl rfl (aw_getI (pc' := 12) (dt_X10_salesOf 6 (9, .getfield 131, 3) rfl) fl_ReturnDesk_131 rfl rfl (sk_11 hS) (aw_icmp_ge (pc' := 15) (tgt := 67) (dt_X10_salesOf 7 (12, .if_icmp .ge 55, 3) rfl) (by decide) rfl ?_ ?_)))
  · intro q1
    have h := h.1 q1
    refine aw_iload (pc' := 69) (dt_X10_salesOf 31 (67, .iload 4, 2) rfl) rfl rfl (aw_iret (dt_X10_salesOf 32 (69, .ireturn, 1) rfl) rfl rfl ?_)
    exact h
  · intro q1
    have h := h.2 q1
    obtain ⟨g2, h⟩ := h
    refine aw_aload_n (pc' := 16) (dt_X10_salesOf 8 (15, .aload_n 0, 1) rfl) rfl rfl (aw_getAs (pc' := 19) (dt_X10_salesOf 9 (16, .getfield 23, 3) rfl) fl_ReturnDesk_23 rfl rfl (sk_11 hS) (sa_11_2 hS) (aw_iload (pc' := 21) (dt_X10_salesOf 10 (19, .iload 5, 2) rfl) rfl rfl (aw_aald (pc' := 22) (dt_X10_salesOf 11 (21, .aaload, 1) rfl) (by decide) (by decide) rfl (sk_14 hS) (vin_eq (sl_14 hS) g2) ?_ ?_)))
    · intro e3
      have h := h.1 e3
      refine aw_astoreN (pc' := 24) (ls' := [some (.ref 11), some (.ref a1), some (.int x2), some (.int x3), some (.int x4), some (.int x5), some (.null)]) (dt_X10_salesOf 12 (22, .astore 6, 2) rfl) (by decide) rfl rfl (aw_aloadN (pc' := 26) (dt_X10_salesOf 13 (24, .aload 6, 2) rfl) rfl rfl ?_)
      exact h.elim
    · intro b4 e3
      have h := h.2 b4 e3
      obtain ⟨g5, h⟩ := h
      refine aw_astore (pc' := 24) (ls' := [some (.ref 11), some (.ref a1), some (.int x2), some (.int x3), some (.int x4), some (.int x5), some (.ref b4)]) (dt_X10_salesOf 12 (22, .astore 6, 2) rfl) (by decide) rfl rfl (aw_aload (pc' := 26) (dt_X10_salesOf 13 (24, .aload 6, 2) rfl) rfl rfl (aw_getA (pc' := 29) (dt_X10_salesOf 14 (26, .getfield 163, 3) rfl) fl_ReturnDesk_163 rfl rfl g5 ?_ ?_))
      · intro e6
        have h := h.1 e6
        refine aw_aload_n (pc' := 30) (dt_X10_salesOf 15 (29, .aload_n 1, 1) rfl) rfl rfl ?_
        exact h.elim
      · intro b7 e6
        have h := h.2 b7 e6
        obtain ⟨g8, h⟩ := h
        obtain ⟨g9, h⟩ := h
        refine aw_aload_n (pc' := 30) (dt_X10_salesOf 15 (29, .aload_n 1, 1) rfl) rfl rfl (aw_acmp_ne (pc' := 33) (tgt := 61) (dt_X10_salesOf 16 (30, .if_acmp .ne 31, 3) rfl) (by decide) rfl g8 g9 ?_ ?_)
        · intro q10
          have h := h.1 q10
          refine aw_iinc (pc' := 64) (v := 1) (ls' := [some (.ref 11), some (.ref a1), some (.int x2), some (.int x3), some (.int x4), some (.int (x5 + 1)), some (.ref b4)]) (dt_X10_salesOf 29 (61, .iinc 5 1, 3) rfl) rfl (by decide) (by decide) rfl rfl (aw_goto (tgt := 6) (dt_X10_salesOf 30 (64, .goto (-58), 3) rfl) (by decide) (aw_drop (ls' := [some (.ref 11), some (.ref a1), some (.int x2), some (.int x3), some (.int x4), some (.int (x5 + 1)), none]) ⟨rfl, rfl, rfl, rfl, rfl, rfl, trivial⟩ ?_))
          exact h
        · intro q10
          have h := h.2 q10
          refine aw_iload_n (pc' := 34) (dt_X10_salesOf 17 (33, .iload_n 2, 1) rfl) rfl rfl (aw_if_eq (pc' := 37) (tgt := 46) (dt_X10_salesOf 18 (34, .ifCond .eq 12, 3) rfl) (by decide) rfl ?_ ?_)
          · intro q11
            have h := h.1 q11
            refine aw_iload_n (pc' := 47) (dt_X10_salesOf 23 (46, .iload_n 3, 1) rfl) rfl rfl (aw_if_eq (pc' := 50) (tgt := 58) (dt_X10_salesOf 24 (47, .ifCond .eq 11, 3) rfl) (by decide) rfl ?_ ?_)
            · intro q12
              have h := h.1 q12
              refine aw_iinc (pc' := 61) (v := 1) (ls' := [some (.ref 11), some (.ref a1), some (.int x2), some (.int x3), some (.int (x4 + 1)), some (.int x5), some (.ref b4)]) (dt_X10_salesOf 28 (58, .iinc 4 1, 3) rfl) rfl (by decide) (by decide) rfl rfl (aw_iinc (pc' := 64) (v := 1) (ls' := [some (.ref 11), some (.ref a1), some (.int x2), some (.int x3), some (.int (x4 + 1)), some (.int (x5 + 1)), some (.ref b4)]) (dt_X10_salesOf 29 (61, .iinc 5 1, 3) rfl) rfl (by decide) (by decide) rfl rfl (aw_goto (tgt := 6) (dt_X10_salesOf 30 (64, .goto (-58), 3) rfl) (by decide) (aw_drop (ls' := [some (.ref 11), some (.ref a1), some (.int x2), some (.int x3), some (.int (x4 + 1)), some (.int (x5 + 1)), none]) ⟨rfl, rfl, rfl, rfl, rfl, rfl, trivial⟩ ?_)))
              exact h
            · intro q12
              have h := h.2 q12
              refine aw_aload (pc' := 52) (dt_X10_salesOf 25 (50, .aload 6, 2) rfl) rfl rfl (aw_getI (pc' := 55) (dt_X10_salesOf 26 (52, .getfield 346, 3) rfl) fl_ReturnDesk_346 rfl rfl g5 (aw_if_eq (pc' := 58) (tgt := 61) (dt_X10_salesOf 27 (55, .ifCond .eq 6, 3) rfl) (by decide) rfl ?_ ?_))
              · intro q13
                have h := h.1 q13
                refine aw_iinc (pc' := 64) (v := 1) (ls' := [some (.ref 11), some (.ref a1), some (.int x2), some (.int x3), some (.int x4), some (.int (x5 + 1)), some (.ref b4)]) (dt_X10_salesOf 29 (61, .iinc 5 1, 3) rfl) rfl (by decide) (by decide) rfl rfl (aw_goto (tgt := 6) (dt_X10_salesOf 30 (64, .goto (-58), 3) rfl) (by decide) (aw_drop (ls' := [some (.ref 11), some (.ref a1), some (.int x2), some (.int x3), some (.int x4), some (.int (x5 + 1)), none]) ⟨rfl, rfl, rfl, rfl, rfl, rfl, trivial⟩ ?_))
                exact h
              · intro q13
                have h := h.2 q13
                refine aw_iinc (pc' := 61) (v := 1) (ls' := [some (.ref 11), some (.ref a1), some (.int x2), some (.int x3), some (.int (x4 + 1)), some (.int x5), some (.ref b4)]) (dt_X10_salesOf 28 (58, .iinc 4 1, 3) rfl) rfl (by decide) (by decide) rfl rfl (aw_iinc (pc' := 64) (v := 1) (ls' := [some (.ref 11), some (.ref a1), some (.int x2), some (.int x3), some (.int (x4 + 1)), some (.int (x5 + 1)), some (.ref b4)]) (dt_X10_salesOf 29 (61, .iinc 5 1, 3) rfl) rfl (by decide) (by decide) rfl rfl (aw_goto (tgt := 6) (dt_X10_salesOf 30 (64, .goto (-58), 3) rfl) (by decide) (aw_drop (ls' := [some (.ref 11), some (.ref a1), some (.int x2), some (.int x3), some (.int (x4 + 1)), some (.int (x5 + 1)), none]) ⟨rfl, rfl, rfl, rfl, rfl, rfl, trivial⟩ ?_)))
                exact h
          · intro q11
            have h := h.2 q11
            refine aw_aload (pc' := 39) (dt_X10_salesOf 19 (37, .aload 6, 2) rfl) rfl rfl (aw_getI (pc' := 42) (dt_X10_salesOf 20 (39, .getfield 160, 3) rfl) fl_ReturnDesk_160 rfl rfl g5 (aw_iconst (pc' := 43) (v := 2) (dt_X10_salesOf 21 (42, .iconst 2, 1) rfl) (by decide) rfl (aw_icmp_ne (pc' := 46) (tgt := 61) (dt_X10_salesOf 22 (43, .if_icmp .ne 18, 3) rfl) (by decide) rfl ?_ ?_)))
            · intro q14
              have h := h.1 q14
              refine aw_iinc (pc' := 64) (v := 1) (ls' := [some (.ref 11), some (.ref a1), some (.int x2), some (.int x3), some (.int x4), some (.int (x5 + 1)), some (.ref b4)]) (dt_X10_salesOf 29 (61, .iinc 5 1, 3) rfl) rfl (by decide) (by decide) rfl rfl (aw_goto (tgt := 6) (dt_X10_salesOf 30 (64, .goto (-58), 3) rfl) (by decide) (aw_drop (ls' := [some (.ref 11), some (.ref a1), some (.int x2), some (.int x3), some (.int x4), some (.int (x5 + 1)), none]) ⟨rfl, rfl, rfl, rfl, rfl, rfl, trivial⟩ ?_))
              exact h
            · intro q14
              have h := h.2 q14
              refine aw_iload_n (pc' := 47) (dt_X10_salesOf 23 (46, .iload_n 3, 1) rfl) rfl rfl (aw_if_eq (pc' := 50) (tgt := 58) (dt_X10_salesOf 24 (47, .ifCond .eq 11, 3) rfl) (by decide) rfl ?_ ?_)
              · intro q15
                have h := h.1 q15
                refine aw_iinc (pc' := 61) (v := 1) (ls' := [some (.ref 11), some (.ref a1), some (.int x2), some (.int x3), some (.int (x4 + 1)), some (.int x5), some (.ref b4)]) (dt_X10_salesOf 28 (58, .iinc 4 1, 3) rfl) rfl (by decide) (by decide) rfl rfl (aw_iinc (pc' := 64) (v := 1) (ls' := [some (.ref 11), some (.ref a1), some (.int x2), some (.int x3), some (.int (x4 + 1)), some (.int (x5 + 1)), some (.ref b4)]) (dt_X10_salesOf 29 (61, .iinc 5 1, 3) rfl) rfl (by decide) (by decide) rfl rfl (aw_goto (tgt := 6) (dt_X10_salesOf 30 (64, .goto (-58), 3) rfl) (by decide) (aw_drop (ls' := [some (.ref 11), some (.ref a1), some (.int x2), some (.int x3), some (.int (x4 + 1)), some (.int (x5 + 1)), none]) ⟨rfl, rfl, rfl, rfl, rfl, rfl, trivial⟩ ?_)))
                exact h
              · intro q15
                have h := h.2 q15
                refine aw_aload (pc' := 52) (dt_X10_salesOf 25 (50, .aload 6, 2) rfl) rfl rfl (aw_getI (pc' := 55) (dt_X10_salesOf 26 (52, .getfield 346, 3) rfl) fl_ReturnDesk_346 rfl rfl g5 (aw_if_eq (pc' := 58) (tgt := 61) (dt_X10_salesOf 27 (55, .ifCond .eq 6, 3) rfl) (by decide) rfl ?_ ?_))
                · intro q16
                  have h := h.1 q16
                  refine aw_iinc (pc' := 64) (v := 1) (ls' := [some (.ref 11), some (.ref a1), some (.int x2), some (.int x3), some (.int x4), some (.int (x5 + 1)), some (.ref b4)]) (dt_X10_salesOf 29 (61, .iinc 5 1, 3) rfl) rfl (by decide) (by decide) rfl rfl (aw_goto (tgt := 6) (dt_X10_salesOf 30 (64, .goto (-58), 3) rfl) (by decide) (aw_drop (ls' := [some (.ref 11), some (.ref a1), some (.int x2), some (.int x3), some (.int x4), some (.int (x5 + 1)), none]) ⟨rfl, rfl, rfl, rfl, rfl, rfl, trivial⟩ ?_))
                  exact h
                · intro q16
                  have h := h.2 q16
                  refine aw_iinc (pc' := 61) (v := 1) (ls' := [some (.ref 11), some (.ref a1), some (.int x2), some (.int x3), some (.int (x4 + 1)), some (.int x5), some (.ref b4)]) (dt_X10_salesOf 28 (58, .iinc 4 1, 3) rfl) rfl (by decide) (by decide) rfl rfl (aw_iinc (pc' := 64) (v := 1) (ls' := [some (.ref 11), some (.ref a1), some (.int x2), some (.int x3), some (.int (x4 + 1)), some (.int (x5 + 1)), some (.ref b4)]) (dt_X10_salesOf 29 (61, .iinc 5 1, 3) rfl) rfl (by decide) (by decide) rfl rfl (aw_goto (tgt := 6) (dt_X10_salesOf 30 (64, .goto (-58), 3) rfl) (by decide) (aw_drop (ls' := [some (.ref 11), some (.ref a1), some (.int x2), some (.int x3), some (.int (x4 + 1)), some (.int (x5 + 1)), none]) ⟨rfl, rfl, rfl, rfl, rfl, rfl, trivial⟩ ?_)))
                  exact h

theorem t_X10_textFor {E : ZE} {l : Launch} {d nc ns : Nat} {x1 : Int32} {a2 : Nat} {x3 : Int32} {μ : ZM} {K : Option Value → ZM → Prop} (hS : Stat μ) (h :
  AW E l (d + 1) nc ns mX10_textFor 8 [some (.ref 11), some (.int x1), some (.ref a2), some (.int x3), some (.int ((zI μ 11 16) - 1)), none] [] μ K) : AW E l (d + 1) nc ns mX10_textFor 0 [some (.ref 11), some (.int x1), some (.ref a2), some (.int x3), none, none] [] μ K := by
  refine aw_aload_n (pc' := 1) (dt_X10_textFor 0 (0, .aload_n 0, 1) rfl) rfl rfl (aw_getI (pc' := 4) (dt_X10_textFor 1 (1, .getfield 205, 3) rfl) fl_ReturnDesk_205 rfl rfl (sk_11 hS) (aw_iconst (pc' := 5) (v := 1) (dt_X10_textFor 2 (4, .iconst 1, 1) rfl) (by decide) rfl (aw_isub (pc' := 6) (dt_X10_textFor 3 (5, .isub, 1) rfl) rfl (aw_istore (pc' := 8) (ls' := [some (.ref 11), some (.int x1), some (.ref a2), some (.int x3), some (.int ((zI μ 11 16) - 1)), none]) (dt_X10_textFor 4 (6, .istore 4, 2) rfl) (by decide) rfl rfl ?_))))
  exact h

theorem t_X10_textFor_8 {E : ZE} {l : Launch} {d nc ns : Nat} {x1 : Int32} {a2 : Nat} {x3 : Int32} {x4 : Int32} {μ : ZM} {K : Option Value → ZM → Prop} (hS : Stat μ) (h :
  (x4 < 0 →
    K (some .null) μ) ∧
  (¬ x4 < 0 →
    (vp_in x4 20) ∧
    (zA μ 16 x4.toNatClampNeg = none →
      False) ∧
    (∀ b4, zA μ 16 x4.toNatClampNeg = some b4 →
      (zK μ b4 = 9) ∧
      (¬ (zI μ b4 1) = x1 →
        AW E l (d + 1) nc ns mX10_textFor 8 [some (.ref 11), some (.int x1), some (.ref a2), some (.int x3), some (.int (x4 + (-1))), none] [] μ K) ∧
      ((zI μ b4 1) = x1 →
        (x3 < (zI μ b4 3) →
          AW E l (d + 1) nc ns mX10_textFor 8 [some (.ref 11), some (.int x1), some (.ref a2), some (.int x3), some (.int (x4 + (-1))), none] [] μ K) ∧
        (¬ x3 < (zI μ b4 3) →
          (zK μ a2 = 7) ∧
          (((zI μ a2 8) / 24) < (zI μ b4 2) →
            AW E l (d + 1) nc ns mX10_textFor 8 [some (.ref 11), some (.int x1), some (.ref a2), some (.int x3), some (.int (x4 + (-1))), none] [] μ K) ∧
          (¬ ((zI μ a2 8) / 24) < (zI μ b4 2) →
            K (some (.ref b4)) μ)))))) : AW E l (d + 1) nc ns mX10_textFor 8 [some (.ref 11), some (.int x1), some (.ref a2), some (.int x3), some (.int x4), none] [] μ K := by
  refine aw_iload (pc' := 10) (dt_X10_textFor 5 (8, .iload 4, 2) rfl) rfl rfl (aw_if_lt (pc' := 13) (tgt := 61) (dt_X10_textFor 6 (10, .ifCond .lt 51, 3) rfl) (by decide) rfl ?_ ?_)
  · intro q1
    have h := h.1 q1
    refine aw_null (pc' := 62) (dt_X10_textFor 29 (61, .aconst_null, 1) rfl) rfl (aw_aretN (dt_X10_textFor 30 (62, .areturn, 1) rfl) rfl rfl ?_)
    exact h
  · intro q1
    have h := h.2 q1
    obtain ⟨g2, h⟩ := h
    refine aw_aload_n (pc' := 14) (dt_X10_textFor 7 (13, .aload_n 0, 1) rfl) rfl rfl (aw_getAs (pc' := 17) (dt_X10_textFor 8 (14, .getfield 35, 3) rfl) fl_ReturnDesk_35 rfl rfl (sk_11 hS) (sa_11_4 hS) (aw_iload (pc' := 19) (dt_X10_textFor 9 (17, .iload 4, 2) rfl) rfl rfl (aw_aald (pc' := 20) (dt_X10_textFor 10 (19, .aaload, 1) rfl) (by decide) (by decide) rfl (sk_16 hS) (vin_eq (sl_16 hS) g2) ?_ ?_)))
    · intro e3
      have h := h.1 e3
      refine aw_astoreN (pc' := 22) (ls' := [some (.ref 11), some (.int x1), some (.ref a2), some (.int x3), some (.int x4), some (.null)]) (dt_X10_textFor 11 (20, .astore 5, 2) rfl) (by decide) rfl rfl (aw_aloadN (pc' := 24) (dt_X10_textFor 12 (22, .aload 5, 2) rfl) rfl rfl ?_)
      exact h.elim
    · intro b4 e3
      have h := h.2 b4 e3
      obtain ⟨g5, h⟩ := h
      refine aw_astore (pc' := 22) (ls' := [some (.ref 11), some (.int x1), some (.ref a2), some (.int x3), some (.int x4), some (.ref b4)]) (dt_X10_textFor 11 (20, .astore 5, 2) rfl) (by decide) rfl rfl (aw_aload (pc' := 24) (dt_X10_textFor 12 (22, .aload 5, 2) rfl) rfl rfl (aw_getI (pc' := 27) (dt_X10_textFor 13 (24, .getfield 439, 3) rfl) fl_ReturnDesk_439 rfl rfl g5 (aw_iload_n (pc' := 28) (dt_X10_textFor 14 (27, .iload_n 1, 1) rfl) rfl rfl (aw_icmp_ne (pc' := 31) (tgt := 55) (dt_X10_textFor 15 (28, .if_icmp .ne 27, 3) rfl) (by decide) rfl ?_ ?_))))
      · intro q6
        have h := h.1 q6
        refine aw_iinc (pc' := 58) (v := (-1)) (ls' := [some (.ref 11), some (.int x1), some (.ref a2), some (.int x3), some (.int (x4 + (-1))), some (.ref b4)]) (dt_X10_textFor 27 (55, .iinc 4 (-1), 3) rfl) rfl (by decide) (by decide) rfl rfl (aw_goto (tgt := 8) (dt_X10_textFor 28 (58, .goto (-50), 3) rfl) (by decide) (aw_drop (ls' := [some (.ref 11), some (.int x1), some (.ref a2), some (.int x3), some (.int (x4 + (-1))), none]) ⟨rfl, rfl, rfl, rfl, rfl, trivial⟩ ?_))
        exact h
      · intro q6
        have h := h.2 q6
        refine aw_aload (pc' := 33) (dt_X10_textFor 16 (31, .aload 5, 2) rfl) rfl rfl (aw_getI (pc' := 36) (dt_X10_textFor 17 (33, .getfield 442, 3) rfl) fl_ReturnDesk_442 rfl rfl g5 (aw_iload_n (pc' := 37) (dt_X10_textFor 18 (36, .iload_n 3, 1) rfl) rfl rfl (aw_icmp_gt (pc' := 40) (tgt := 55) (dt_X10_textFor 19 (37, .if_icmp .gt 18, 3) rfl) (by decide) rfl ?_ ?_)))
        · intro q7
          have h := h.1 q7
          refine aw_iinc (pc' := 58) (v := (-1)) (ls' := [some (.ref 11), some (.int x1), some (.ref a2), some (.int x3), some (.int (x4 + (-1))), some (.ref b4)]) (dt_X10_textFor 27 (55, .iinc 4 (-1), 3) rfl) rfl (by decide) (by decide) rfl rfl (aw_goto (tgt := 8) (dt_X10_textFor 28 (58, .goto (-50), 3) rfl) (by decide) (aw_drop (ls' := [some (.ref 11), some (.int x1), some (.ref a2), some (.int x3), some (.int (x4 + (-1))), none]) ⟨rfl, rfl, rfl, rfl, rfl, trivial⟩ ?_))
          exact h
        · intro q7
          have h := h.2 q7
          obtain ⟨g8, h⟩ := h
          refine aw_aload (pc' := 42) (dt_X10_textFor 20 (40, .aload 5, 2) rfl) rfl rfl (aw_getI (pc' := 45) (dt_X10_textFor 21 (42, .getfield 445, 3) rfl) fl_ReturnDesk_445 rfl rfl g5 (aw_aload_n (pc' := 46) (dt_X10_textFor 22 (45, .aload_n 2, 1) rfl) rfl rfl (aw_inV (pc' := 49) (nc1 := 0) (ns1 := 0) (nc := nc) (ns := ns) (ls' := [some (.ref a2)]) (y2 := mX7_madeOn) (As := []) (rest := [.int (zI μ b4 2)]) (a := a2) (dt_X10_textFor 23 (46, .invokevirtual 376, 3) rfl) ok_X7_madeOn ln_ReturnDesk_376 im_X7_madeOn se_X7_madeOn pr_X7_madeOn (Or.inl ⟨by decide, rfl⟩) rfl (Nat.le_of_ble_eq_true rfl) (Nat.le_of_ble_eq_true rfl) rfl rfl g8 (aw_aload_n (pc' := 1) (dt_X7_madeOn 0 (0, .aload_n 0, 1) rfl) rfl rfl (aw_getI (pc' := 4) (dt_X7_madeOn 1 (1, .getfield 56, 3) rfl) fl_Sale_56 rfl rfl g8 (aw_bipush (pc' := 6) (v := 24) (dt_X7_madeOn 2 (4, .bipush 24, 2) rfl) (by decide) rfl (aw_idiv (pc' := 7) (dt_X7_madeOn 3 (6, .idiv, 1) rfl) (by decide) rfl (aw_iret (dt_X7_madeOn 4 (7, .ireturn, 1) rfl) rfl rfl (aw_stk (st' := [.int ((zI μ a2 8) / 24), .int (zI μ b4 2)]) rfl (aw_icmp_gt (pc' := 52) (tgt := 55) (dt_X10_textFor 24 (49, .if_icmp .gt 6, 3) rfl) (by decide) rfl ?_ ?_))))))))))
          · intro q9
            have h := h.1 q9
            refine aw_iinc (pc' := 58) (v := (-1)) (ls' := [some (.ref 11), some (.int x1), some (.ref a2), some (.int x3), some (.int (x4 + (-1))), some (.ref b4)]) (dt_X10_textFor 27 (55, .iinc 4 (-1), 3) rfl) rfl (by decide) (by decide) rfl rfl (aw_goto (tgt := 8) (dt_X10_textFor 28 (58, .goto (-50), 3) rfl) (by decide) (aw_drop (ls' := [some (.ref 11), some (.int x1), some (.ref a2), some (.int x3), some (.int (x4 + (-1))), none]) ⟨rfl, rfl, rfl, rfl, rfl, trivial⟩ ?_))
            exact h
          · intro q9
            have h := h.2 q9
            refine aw_aload (pc' := 54) (dt_X10_textFor 25 (52, .aload 5, 2) rfl) rfl rfl (aw_aret (dt_X10_textFor 26 (54, .areturn, 1) rfl) rfl rfl ?_)
            exact h

theorem t_X10_tellSale {E : ZE} {l : Launch} {d nc ns : Nat} {a1 : Nat} {x2 : Int32} {x3 : Int32} {μ : ZM} {K : Option Value → ZM → Prop} (hS : Stat μ) (h :
  (zK (sI μ 27 4 x2) a1 = 7) ∧
  (zA (sI (sI μ 27 4 x2) 27 5 (zI (sI μ 27 4 x2) a1 10)) a1 1 = none →
    False) ∧
  (∀ b3, zA (sI (sI μ 27 4 x2) 27 5 (zI (sI μ 27 4 x2) a1 10)) a1 1 = some b3 →
    (zK (sI (sI μ 27 4 x2) 27 5 (zI (sI μ 27 4 x2) a1 10)) b3 = 4) ∧
    ∀ μ5, μ5 = (sI (sI (sI (sI μ 27 4 x2) 27 5 (zI (sI μ 27 4 x2) a1 10)) 27 6 (zI (sI (sI μ 27 4 x2) 27 5 (zI (sI μ 27 4 x2) a1 10)) b3 1)) 27 7 (zI (sI (sI (sI μ 27 4 x2) 27 5 (zI (sI μ 27 4 x2) a1 10)) 27 6 (zI (sI (sI μ 27 4 x2) 27 5 (zI (sI μ 27 4 x2) a1 10)) b3 1)) a1 9)) →
    AW E l (d + 2) 0 0 mX10_threesOf 0 (zargs 4 [.ref 11, .ref a1]) [] (sI (sI μ5 27 8 (zI μ5 a1 4)) 27 9 ((((zI (sI μ5 27 8 (zI μ5 a1 4)) a1 8) / 24) / 30) - (((zI (sI μ5 27 8 (zI μ5 a1 4)) a1 8) / 24) / 30) / 12 * 12)) (fun v μ11 => ∃ r13 : Int32, v = some (.int r13) ∧ Stat μ11 ∧ 
      AW E l (d + 2) 0 0 mX10_timesOf 0 (zargs 3 [.ref 11, .ref a1, .int x3]) [] (sI μ11 27 10 r13) (fun v μ14 => ∃ r16 : Int32, v = some (.int r16) ∧ Stat μ14 ∧ 
        K none (sI μ14 27 11 r16))))) : AW E l (d + 3) nc ns mX10_tellSale 0 [some (.ref 11), some (.ref a1), some (.int x2), some (.int x3)] [] μ K := by
  obtain ⟨g1, h⟩ := h
  refine aw_aload_n (pc' := 1) (dt_X10_tellSale 0 (0, .aload_n 0, 1) rfl) rfl rfl (aw_getAs (pc' := 4) (dt_X10_tellSale 1 (1, .getfield 61, 3) rfl) fl_ReturnDesk_61 rfl rfl (sk_11 hS) (sa_11_8 hS) (aw_iconst (pc' := 5) (v := 4) (dt_X10_tellSale 2 (4, .iconst 4, 1) rfl) (by decide) rfl (aw_iload_n (pc' := 6) (dt_X10_tellSale 3 (5, .iload_n 2, 1) rfl) rfl rfl (aw_inV (pc' := 9) (nc1 := 0) (ns1 := 0) (nc := nc) (ns := ns) (ls' := [some (.ref 26), some (.int 4), some (.int x2)]) (y2 := mX3_tell) (As := [.int 4, .int x2]) (rest := []) (a := 26) (dt_X10_tellSale 4 (6, .invokevirtual 448, 3) rfl) ok_X3_tell ln_ReturnDesk_448 im_X3_tell se_X3_tell pr_X3_tell (Or.inl ⟨by decide, rfl⟩) rfl (Nat.le_of_ble_eq_true rfl) (Nat.le_of_ble_eq_true rfl) rfl rfl (sk_26 hS) (aw_iload_n (pc' := 1) (dt_X3_tell 0 (0, .iload_n 1, 1) rfl) rfl rfl (aw_if_lt_F (pc' := 4) (tgt := 20) (dt_X3_tell 1 (1, .ifCond .lt 19, 3) rfl) (by decide) rfl (by decide) (aw_iload_n (pc' := 5) (dt_X3_tell 2 (4, .iload_n 1, 1) rfl) rfl rfl (aw_aload_n (pc' := 6) (dt_X3_tell 3 (5, .aload_n 0, 1) rfl) rfl rfl (aw_getAs (pc' := 9) (dt_X3_tell 4 (6, .getfield 9, 3) rfl) fl_Machine_9 rfl rfl (sk_26 hS) (sa_26_0 hS) (aw_alens (pc' := 10) (n := 12) (v := 12) (dt_X3_tell 5 (9, .arraylength, 1) rfl) (by decide) (by decide) rfl (sk_27 hS) (sl_27 hS) (by decide) (aw_icmp_ge_F (pc' := 13) (tgt := 20) (dt_X3_tell 6 (10, .if_icmp .ge 10, 3) rfl) (by decide) rfl (by decide) (aw_aload_n (pc' := 14) (dt_X3_tell 7 (13, .aload_n 0, 1) rfl) rfl rfl (aw_getAs (pc' := 17) (dt_X3_tell 8 (14, .getfield 9, 3) rfl) fl_Machine_9 rfl rfl (sk_26 hS) (sa_26_0 hS) (aw_iload_n (pc' := 18) (dt_X3_tell 9 (17, .iload_n 1, 1) rfl) rfl rfl (aw_iload_n (pc' := 19) (dt_X3_tell 10 (18, .iload_n 2, 1) rfl) rfl rfl (aw_iast (pc' := 20) (dt_X3_tell 11 (19, .iastore, 1) rfl) rfl (sk_27 hS) (by decide) (vin_eq (sl_27 hS) (vlit (by decide))) (aw_ret (dt_X3_tell 12 (20, .return_, 1) rfl) rfl (aw_stk (st' := []) rfl (aw_aload_n (pc' := 10) (dt_X10_tellSale 5 (9, .aload_n 0, 1) rfl) rfl rfl (aw_getAs (pc' := 13) (dt_X10_tellSale 6 (10, .getfield 61, 3) rfl) fl_ReturnDesk_61 rfl rfl (sk_11 hS.wI) (sa_11_8 hS.wI) (aw_iconst (pc' := 14) (v := 5) (dt_X10_tellSale 7 (13, .iconst 5, 1) rfl) (by decide) rfl (aw_aload_n (pc' := 15) (dt_X10_tellSale 8 (14, .aload_n 1, 1) rfl) rfl rfl (aw_getI (pc' := 18) (dt_X10_tellSale 9 (15, .getfield 156, 3) rfl) fl_ReturnDesk_156 rfl rfl g1 (aw_inV (pc' := 21) (nc1 := 0) (ns1 := 0) (nc := nc) (ns := ns) (ls' := [some (.ref 26), some (.int 5), some (.int (zI (sI μ 27 4 x2) a1 10))]) (y2 := mX3_tell) (As := [.int 5, .int (zI (sI μ 27 4 x2) a1 10)]) (rest := []) (a := 26) (dt_X10_tellSale 10 (18, .invokevirtual 448, 3) rfl) ok_X3_tell ln_ReturnDesk_448 im_X3_tell se_X3_tell pr_X3_tell (Or.inl ⟨by decide, rfl⟩) rfl (Nat.le_of_ble_eq_true rfl) (Nat.le_of_ble_eq_true rfl) rfl rfl (sk_26 hS.wI) (aw_iload_n (pc' := 1) (dt_X3_tell 0 (0, .iload_n 1, 1) rfl) rfl rfl (aw_if_lt_F (pc' := 4) (tgt := 20) (dt_X3_tell 1 (1, .ifCond .lt 19, 3) rfl) (by decide) rfl (by decide) (aw_iload_n (pc' := 5) (dt_X3_tell 2 (4, .iload_n 1, 1) rfl) rfl rfl (aw_aload_n (pc' := 6) (dt_X3_tell 3 (5, .aload_n 0, 1) rfl) rfl rfl (aw_getAs (pc' := 9) (dt_X3_tell 4 (6, .getfield 9, 3) rfl) fl_Machine_9 rfl rfl (sk_26 hS.wI) (sa_26_0 hS.wI) (aw_alens (pc' := 10) (n := 12) (v := 12) (dt_X3_tell 5 (9, .arraylength, 1) rfl) (by decide) (by decide) rfl (sk_27 hS.wI) (sl_27 hS.wI) (by decide) (aw_icmp_ge_F (pc' := 13) (tgt := 20) (dt_X3_tell 6 (10, .if_icmp .ge 10, 3) rfl) (by decide) rfl (by decide) (aw_aload_n (pc' := 14) (dt_X3_tell 7 (13, .aload_n 0, 1) rfl) rfl rfl (aw_getAs (pc' := 17) (dt_X3_tell 8 (14, .getfield 9, 3) rfl) fl_Machine_9 rfl rfl (sk_26 hS.wI) (sa_26_0 hS.wI) (aw_iload_n (pc' := 18) (dt_X3_tell 9 (17, .iload_n 1, 1) rfl) rfl rfl (aw_iload_n (pc' := 19) (dt_X3_tell 10 (18, .iload_n 2, 1) rfl) rfl rfl (aw_iast (pc' := 20) (dt_X3_tell 11 (19, .iastore, 1) rfl) rfl (sk_27 hS.wI) (by decide) (vin_eq (sl_27 hS.wI) (vlit (by decide))) (aw_ret (dt_X3_tell 12 (20, .return_, 1) rfl) rfl (aw_stk (st' := []) rfl (aw_aload_n (pc' := 22) (dt_X10_tellSale 11 (21, .aload_n 0, 1) rfl) rfl rfl (aw_getAs (pc' := 25) (dt_X10_tellSale 12 (22, .getfield 61, 3) rfl) fl_ReturnDesk_61 rfl rfl (sk_11 hS.wI.wI) (sa_11_8 hS.wI.wI) (aw_bipush (pc' := 27) (v := 6) (dt_X10_tellSale 13 (25, .bipush 6, 2) rfl) (by decide) rfl (aw_aload_n (pc' := 28) (dt_X10_tellSale 14 (27, .aload_n 1, 1) rfl) rfl rfl (aw_getA (pc' := 31) (dt_X10_tellSale 15 (28, .getfield 163, 3) rfl) fl_ReturnDesk_163 rfl rfl g1 ?_ ?_)))))))))))))))))))))))))))))))))))))))))))
  · intro e2
    have h := h.1 e2
    exact h.elim
  · intro b3 e2
    have h := h.2 b3 e2
    obtain ⟨g4, h⟩ := h
    refine aw_getI (pc' := 34) (dt_X10_tellSale 16 (31, .getfield 452, 3) rfl) fl_ReturnDesk_452 rfl rfl g4 (aw_inV (pc' := 37) (nc1 := 0) (ns1 := 0) (nc := nc) (ns := ns) (ls' := [some (.ref 26), some (.int 6), some (.int (zI (sI (sI μ 27 4 x2) 27 5 (zI (sI μ 27 4 x2) a1 10)) b3 1))]) (y2 := mX3_tell) (As := [.int 6, .int (zI (sI (sI μ 27 4 x2) 27 5 (zI (sI μ 27 4 x2) a1 10)) b3 1)]) (rest := []) (a := 26) (dt_X10_tellSale 17 (34, .invokevirtual 448, 3) rfl) ok_X3_tell ln_ReturnDesk_448 im_X3_tell se_X3_tell pr_X3_tell (Or.inl ⟨by decide, rfl⟩) rfl (Nat.le_of_ble_eq_true rfl) (Nat.le_of_ble_eq_true rfl) rfl rfl (sk_26 hS.wI.wI) (aw_iload_n (pc' := 1) (dt_X3_tell 0 (0, .iload_n 1, 1) rfl) rfl rfl (aw_if_lt_F (pc' := 4) (tgt := 20) (dt_X3_tell 1 (1, .ifCond .lt 19, 3) rfl) (by decide) rfl (by decide) (aw_iload_n (pc' := 5) (dt_X3_tell 2 (4, .iload_n 1, 1) rfl) rfl rfl (aw_aload_n (pc' := 6) (dt_X3_tell 3 (5, .aload_n 0, 1) rfl) rfl rfl (aw_getAs (pc' := 9) (dt_X3_tell 4 (6, .getfield 9, 3) rfl) fl_Machine_9 rfl rfl (sk_26 hS.wI.wI) (sa_26_0 hS.wI.wI) (aw_alens (pc' := 10) (n := 12) (v := 12) (dt_X3_tell 5 (9, .arraylength, 1) rfl) (by decide) (by decide) rfl (sk_27 hS.wI.wI) (sl_27 hS.wI.wI) (by decide) (aw_icmp_ge_F (pc' := 13) (tgt := 20) (dt_X3_tell 6 (10, .if_icmp .ge 10, 3) rfl) (by decide) rfl (by decide) (aw_aload_n (pc' := 14) (dt_X3_tell 7 (13, .aload_n 0, 1) rfl) rfl rfl (aw_getAs (pc' := 17) (dt_X3_tell 8 (14, .getfield 9, 3) rfl) fl_Machine_9 rfl rfl (sk_26 hS.wI.wI) (sa_26_0 hS.wI.wI) (aw_iload_n (pc' := 18) (dt_X3_tell 9 (17, .iload_n 1, 1) rfl) rfl rfl (aw_iload_n (pc' := 19) (dt_X3_tell 10 (18, .iload_n 2, 1) rfl) rfl rfl (aw_iast (pc' := 20) (dt_X3_tell 11 (19, .iastore, 1) rfl) rfl (sk_27 hS.wI.wI) (by decide) (vin_eq (sl_27 hS.wI.wI) (vlit (by decide))) (aw_ret (dt_X3_tell 12 (20, .return_, 1) rfl) rfl (aw_stk (st' := []) rfl (aw_aload_n (pc' := 38) (dt_X10_tellSale 18 (37, .aload_n 0, 1) rfl) rfl rfl (aw_getAs (pc' := 41) (dt_X10_tellSale 19 (38, .getfield 61, 3) rfl) fl_ReturnDesk_61 rfl rfl (sk_11 hS.wI.wI.wI) (sa_11_8 hS.wI.wI.wI) (aw_bipush (pc' := 43) (v := 7) (dt_X10_tellSale 20 (41, .bipush 7, 2) rfl) (by decide) rfl (aw_aload_n (pc' := 44) (dt_X10_tellSale 21 (43, .aload_n 1, 1) rfl) rfl rfl (aw_getI (pc' := 47) (dt_X10_tellSale 22 (44, .getfield 145, 3) rfl) fl_ReturnDesk_145 rfl rfl g1 (aw_inV (pc' := 50) (nc1 := 0) (ns1 := 0) (nc := nc) (ns := ns) (ls' := [some (.ref 26), some (.int 7), some (.int (zI (sI (sI (sI μ 27 4 x2) 27 5 (zI (sI μ 27 4 x2) a1 10)) 27 6 (zI (sI (sI μ 27 4 x2) 27 5 (zI (sI μ 27 4 x2) a1 10)) b3 1)) a1 9))]) (y2 := mX3_tell) (As := [.int 7, .int (zI (sI (sI (sI μ 27 4 x2) 27 5 (zI (sI μ 27 4 x2) a1 10)) 27 6 (zI (sI (sI μ 27 4 x2) 27 5 (zI (sI μ 27 4 x2) a1 10)) b3 1)) a1 9)]) (rest := []) (a := 26) (dt_X10_tellSale 23 (47, .invokevirtual 448, 3) rfl) ok_X3_tell ln_ReturnDesk_448 im_X3_tell se_X3_tell pr_X3_tell (Or.inl ⟨by decide, rfl⟩) rfl (Nat.le_of_ble_eq_true rfl) (Nat.le_of_ble_eq_true rfl) rfl rfl (sk_26 hS.wI.wI.wI) (aw_iload_n (pc' := 1) (dt_X3_tell 0 (0, .iload_n 1, 1) rfl) rfl rfl (aw_if_lt_F (pc' := 4) (tgt := 20) (dt_X3_tell 1 (1, .ifCond .lt 19, 3) rfl) (by decide) rfl (by decide) (aw_iload_n (pc' := 5) (dt_X3_tell 2 (4, .iload_n 1, 1) rfl) rfl rfl (aw_aload_n (pc' := 6) (dt_X3_tell 3 (5, .aload_n 0, 1) rfl) rfl rfl (aw_getAs (pc' := 9) (dt_X3_tell 4 (6, .getfield 9, 3) rfl) fl_Machine_9 rfl rfl (sk_26 hS.wI.wI.wI) (sa_26_0 hS.wI.wI.wI) (aw_alens (pc' := 10) (n := 12) (v := 12) (dt_X3_tell 5 (9, .arraylength, 1) rfl) (by decide) (by decide) rfl (sk_27 hS.wI.wI.wI) (sl_27 hS.wI.wI.wI) (by decide) (aw_icmp_ge_F (pc' := 13) (tgt := 20) (dt_X3_tell 6 (10, .if_icmp .ge 10, 3) rfl) (by decide) rfl (by decide) (aw_aload_n (pc' := 14) (dt_X3_tell 7 (13, .aload_n 0, 1) rfl) rfl rfl (aw_getAs (pc' := 17) (dt_X3_tell 8 (14, .getfield 9, 3) rfl) fl_Machine_9 rfl rfl (sk_26 hS.wI.wI.wI) (sa_26_0 hS.wI.wI.wI) (aw_iload_n (pc' := 18) (dt_X3_tell 9 (17, .iload_n 1, 1) rfl) rfl rfl (aw_iload_n (pc' := 19) (dt_X3_tell 10 (18, .iload_n 2, 1) rfl) rfl rfl (aw_iast (pc' := 20) (dt_X3_tell 11 (19, .iastore, 1) rfl) rfl (sk_27 hS.wI.wI.wI) (by decide) (vin_eq (sl_27 hS.wI.wI.wI) (vlit (by decide))) ?_)))))))))))))))))))))))))))))))))
    refine aw_mem (fun μ5 eμ6 => ?_)
    have h := h μ5 eμ6
    have hS7 : Stat μ5 := by rw [eμ6]; exact hS.wI.wI.wI.wI
    have k8 : zK μ5 a1 = 7 := by rw [eμ6]; exact g1
    have k9 : zK μ5 b3 = 4 := by rw [eμ6]; exact g4
    have e10 : zA μ5 a1 1 = some b3 := by rw [eμ6]; exact e2
    refine aw_ret (dt_X3_tell 12 (20, .return_, 1) rfl) rfl (aw_stk (st' := []) rfl (aw_aload_n (pc' := 51) (dt_X10_tellSale 24 (50, .aload_n 0, 1) rfl) rfl rfl (aw_getAs (pc' := 54) (dt_X10_tellSale 25 (51, .getfield 61, 3) rfl) fl_ReturnDesk_61 rfl rfl (sk_11 hS7) (sa_11_8 hS7) (aw_bipush (pc' := 56) (v := 8) (dt_X10_tellSale 26 (54, .bipush 8, 2) rfl) (by decide) rfl (aw_aload_n (pc' := 57) (dt_X10_tellSale 27 (56, .aload_n 1, 1) rfl) rfl rfl (aw_getI (pc' := 60) (dt_X10_tellSale 28 (57, .getfield 172, 3) rfl) fl_ReturnDesk_172 rfl rfl k8 (aw_inV (pc' := 63) (nc1 := 0) (ns1 := 0) (nc := nc) (ns := ns) (ls' := [some (.ref 26), some (.int 8), some (.int (zI μ5 a1 4))]) (y2 := mX3_tell) (As := [.int 8, .int (zI μ5 a1 4)]) (rest := []) (a := 26) (dt_X10_tellSale 29 (60, .invokevirtual 448, 3) rfl) ok_X3_tell ln_ReturnDesk_448 im_X3_tell se_X3_tell pr_X3_tell (Or.inl ⟨by decide, rfl⟩) rfl (Nat.le_of_ble_eq_true rfl) (Nat.le_of_ble_eq_true rfl) rfl rfl (sk_26 hS7) (aw_iload_n (pc' := 1) (dt_X3_tell 0 (0, .iload_n 1, 1) rfl) rfl rfl (aw_if_lt_F (pc' := 4) (tgt := 20) (dt_X3_tell 1 (1, .ifCond .lt 19, 3) rfl) (by decide) rfl (by decide) (aw_iload_n (pc' := 5) (dt_X3_tell 2 (4, .iload_n 1, 1) rfl) rfl rfl (aw_aload_n (pc' := 6) (dt_X3_tell 3 (5, .aload_n 0, 1) rfl) rfl rfl (aw_getAs (pc' := 9) (dt_X3_tell 4 (6, .getfield 9, 3) rfl) fl_Machine_9 rfl rfl (sk_26 hS7) (sa_26_0 hS7) (aw_alens (pc' := 10) (n := 12) (v := 12) (dt_X3_tell 5 (9, .arraylength, 1) rfl) (by decide) (by decide) rfl (sk_27 hS7) (sl_27 hS7) (by decide) (aw_icmp_ge_F (pc' := 13) (tgt := 20) (dt_X3_tell 6 (10, .if_icmp .ge 10, 3) rfl) (by decide) rfl (by decide) (aw_aload_n (pc' := 14) (dt_X3_tell 7 (13, .aload_n 0, 1) rfl) rfl rfl (aw_getAs (pc' := 17) (dt_X3_tell 8 (14, .getfield 9, 3) rfl) fl_Machine_9 rfl rfl (sk_26 hS7) (sa_26_0 hS7) (aw_iload_n (pc' := 18) (dt_X3_tell 9 (17, .iload_n 1, 1) rfl) rfl rfl (aw_iload_n (pc' := 19) (dt_X3_tell 10 (18, .iload_n 2, 1) rfl) rfl rfl (aw_iast (pc' := 20) (dt_X3_tell 11 (19, .iastore, 1) rfl) rfl (sk_27 hS7) (by decide) (vin_eq (sl_27 hS7) (vlit (by decide))) (aw_ret (dt_X3_tell 12 (20, .return_, 1) rfl) rfl (aw_stk (st' := []) rfl (aw_aload_n (pc' := 64) (dt_X10_tellSale 30 (63, .aload_n 0, 1) rfl) rfl rfl (aw_getAs (pc' := 67) (dt_X10_tellSale 31 (64, .getfield 61, 3) rfl) fl_ReturnDesk_61 rfl rfl (sk_11 hS7.wI) (sa_11_8 hS7.wI) (aw_bipush (pc' := 69) (v := 9) (dt_X10_tellSale 32 (67, .bipush 9, 2) rfl) (by decide) rfl (aw_aload_n (pc' := 70) (dt_X10_tellSale 33 (69, .aload_n 1, 1) rfl) rfl rfl (aw_inV (pc' := 73) (nc1 := 0) (ns1 := 0) (nc := nc) (ns := ns) (ls' := [some (.ref a1)]) (y2 := mX7_madeOn) (As := []) (rest := [.int 9, .ref 26]) (a := a1) (dt_X10_tellSale 34 (70, .invokevirtual 376, 3) rfl) ok_X7_madeOn ln_ReturnDesk_376 im_X7_madeOn se_X7_madeOn pr_X7_madeOn (Or.inl ⟨by decide, rfl⟩) rfl (Nat.le_of_ble_eq_true rfl) (Nat.le_of_ble_eq_true rfl) rfl rfl k8 (aw_aload_n (pc' := 1) (dt_X7_madeOn 0 (0, .aload_n 0, 1) rfl) rfl rfl (aw_getI (pc' := 4) (dt_X7_madeOn 1 (1, .getfield 56, 3) rfl) fl_Sale_56 rfl rfl k8 (aw_bipush (pc' := 6) (v := 24) (dt_X7_madeOn 2 (4, .bipush 24, 2) rfl) (by decide) rfl (aw_idiv (pc' := 7) (dt_X7_madeOn 3 (6, .idiv, 1) rfl) (by decide) rfl (aw_iret (dt_X7_madeOn 4 (7, .ireturn, 1) rfl) rfl rfl (aw_stk (st' := [.int ((zI (sI μ5 27 8 (zI μ5 a1 4)) a1 8) / 24), .int 9, .ref 26]) rfl (aw_bipush (pc' := 75) (v := 30) (dt_X10_tellSale 35 (73, .bipush 30, 2) rfl) (by decide) rfl (aw_idiv (pc' := 76) (dt_X10_tellSale 36 (75, .idiv, 1) rfl) (by decide) rfl (aw_bipush (pc' := 78) (v := 12) (dt_X10_tellSale 37 (76, .bipush 12, 2) rfl) (by decide) rfl (aw_irem (pc' := 79) (dt_X10_tellSale 38 (78, .irem, 1) rfl) (by decide) rfl (aw_inV (pc' := 82) (nc1 := 0) (ns1 := 0) (nc := nc) (ns := ns) (ls' := [some (.ref 26), some (.int 9), some (.int ((((zI (sI μ5 27 8 (zI μ5 a1 4)) a1 8) / 24) / 30) - (((zI (sI μ5 27 8 (zI μ5 a1 4)) a1 8) / 24) / 30) / 12 * 12))]) (y2 := mX3_tell) (As := [.int 9, .int ((((zI (sI μ5 27 8 (zI μ5 a1 4)) a1 8) / 24) / 30) - (((zI (sI μ5 27 8 (zI μ5 a1 4)) a1 8) / 24) / 30) / 12 * 12)]) (rest := []) (a := 26) (dt_X10_tellSale 39 (79, .invokevirtual 448, 3) rfl) ok_X3_tell ln_ReturnDesk_448 im_X3_tell se_X3_tell pr_X3_tell (Or.inl ⟨by decide, rfl⟩) rfl (Nat.le_of_ble_eq_true rfl) (Nat.le_of_ble_eq_true rfl) rfl rfl (sk_26 hS7.wI) (aw_iload_n (pc' := 1) (dt_X3_tell 0 (0, .iload_n 1, 1) rfl) rfl rfl (aw_if_lt_F (pc' := 4) (tgt := 20) (dt_X3_tell 1 (1, .ifCond .lt 19, 3) rfl) (by decide) rfl (by decide) (aw_iload_n (pc' := 5) (dt_X3_tell 2 (4, .iload_n 1, 1) rfl) rfl rfl (aw_aload_n (pc' := 6) (dt_X3_tell 3 (5, .aload_n 0, 1) rfl) rfl rfl (aw_getAs (pc' := 9) (dt_X3_tell 4 (6, .getfield 9, 3) rfl) fl_Machine_9 rfl rfl (sk_26 hS7.wI) (sa_26_0 hS7.wI) (aw_alens (pc' := 10) (n := 12) (v := 12) (dt_X3_tell 5 (9, .arraylength, 1) rfl) (by decide) (by decide) rfl (sk_27 hS7.wI) (sl_27 hS7.wI) (by decide) (aw_icmp_ge_F (pc' := 13) (tgt := 20) (dt_X3_tell 6 (10, .if_icmp .ge 10, 3) rfl) (by decide) rfl (by decide) (aw_aload_n (pc' := 14) (dt_X3_tell 7 (13, .aload_n 0, 1) rfl) rfl rfl (aw_getAs (pc' := 17) (dt_X3_tell 8 (14, .getfield 9, 3) rfl) fl_Machine_9 rfl rfl (sk_26 hS7.wI) (sa_26_0 hS7.wI) (aw_iload_n (pc' := 18) (dt_X3_tell 9 (17, .iload_n 1, 1) rfl) rfl rfl (aw_iload_n (pc' := 19) (dt_X3_tell 10 (18, .iload_n 2, 1) rfl) rfl rfl (aw_iast (pc' := 20) (dt_X3_tell 11 (19, .iastore, 1) rfl) rfl (sk_27 hS7.wI) (by decide) (vin_eq (sl_27 hS7.wI) (vlit (by decide))) (aw_ret (dt_X3_tell 12 (20, .return_, 1) rfl) rfl (aw_stk (st' := []) rfl (aw_aload_n (pc' := 83) (dt_X10_tellSale 40 (82, .aload_n 0, 1) rfl) rfl rfl (aw_getAs (pc' := 86) (dt_X10_tellSale 41 (83, .getfield 61, 3) rfl) fl_ReturnDesk_61 rfl rfl (sk_11 hS7.wI.wI) (sa_11_8 hS7.wI.wI) (aw_bipush (pc' := 88) (v := 10) (dt_X10_tellSale 42 (86, .bipush 10, 2) rfl) (by decide) rfl (aw_aload_n (pc' := 89) (dt_X10_tellSale 43 (88, .aload_n 0, 1) rfl) rfl rfl (aw_aload_n (pc' := 90) (dt_X10_tellSale 44 (89, .aload_n 1, 1) rfl) rfl rfl (aw_callV0 (pc' := 93) (nc := nc) (ns := ns) (y2 := mX10_threesOf) (As := [.ref a1]) (rest := [.int 10, .ref 26]) (a := 11) (dt_X10_tellSale 45 (90, .invokevirtual 189, 3) rfl) ok_X10_threesOf ln_ReturnDesk_189 im_X10_threesOf se_X10_threesOf pr_X10_threesOf (Or.inl ⟨by decide, rfl⟩) rfl (Nat.le_of_ble_eq_true rfl) (Nat.le_of_ble_eq_true rfl) rfl (sk_11 hS7.wI.wI) h ?_)))))))))))))))))))))))))))))))))))))))))))))))))))))))))
    rintro v μ11 ⟨r13, rfl, hS12, h⟩
    refine aw_stk (st' := [.int r13, .int 10, .ref 26]) rfl ?_
    refine aw_inV (pc' := 96) (nc1 := 0) (ns1 := 0) (nc := nc) (ns := ns) (ls' := [some (.ref 26), some (.int 10), some (.int r13)]) (y2 := mX3_tell) (As := [.int 10, .int r13]) (rest := []) (a := 26) (dt_X10_tellSale 46 (93, .invokevirtual 448, 3) rfl) ok_X3_tell ln_ReturnDesk_448 im_X3_tell se_X3_tell pr_X3_tell (Or.inl ⟨by decide, rfl⟩) rfl (Nat.le_of_ble_eq_true rfl) (Nat.le_of_ble_eq_true rfl) rfl rfl (sk_26 hS12) (aw_iload_n (pc' := 1) (dt_X3_tell 0 (0, .iload_n 1, 1) rfl) rfl rfl (aw_if_lt_F (pc' := 4) (tgt := 20) (dt_X3_tell 1 (1, .ifCond .lt 19, 3) rfl) (by decide) rfl (by decide) (aw_iload_n (pc' := 5) (dt_X3_tell 2 (4, .iload_n 1, 1) rfl) rfl rfl (aw_aload_n (pc' := 6) (dt_X3_tell 3 (5, .aload_n 0, 1) rfl) rfl rfl (aw_getAs (pc' := 9) (dt_X3_tell 4 (6, .getfield 9, 3) rfl) fl_Machine_9 rfl rfl (sk_26 hS12) (sa_26_0 hS12) (aw_alens (pc' := 10) (n := 12) (v := 12) (dt_X3_tell 5 (9, .arraylength, 1) rfl) (by decide) (by decide) rfl (sk_27 hS12) (sl_27 hS12) (by decide) (aw_icmp_ge_F (pc' := 13) (tgt := 20) (dt_X3_tell 6 (10, .if_icmp .ge 10, 3) rfl) (by decide) rfl (by decide) (aw_aload_n (pc' := 14) (dt_X3_tell 7 (13, .aload_n 0, 1) rfl) rfl rfl (aw_getAs (pc' := 17) (dt_X3_tell 8 (14, .getfield 9, 3) rfl) fl_Machine_9 rfl rfl (sk_26 hS12) (sa_26_0 hS12) (aw_iload_n (pc' := 18) (dt_X3_tell 9 (17, .iload_n 1, 1) rfl) rfl rfl (aw_iload_n (pc' := 19) (dt_X3_tell 10 (18, .iload_n 2, 1) rfl) rfl rfl (aw_iast (pc' := 20) (dt_X3_tell 11 (19, .iastore, 1) rfl) rfl (sk_27 hS12) (by decide) (vin_eq (sl_27 hS12) (vlit (by decide))) (aw_ret (dt_X3_tell 12 (20, .return_, 1) rfl) rfl (aw_stk (st' := []) rfl (aw_aload_n (pc' := 97) (dt_X10_tellSale 47 (96, .aload_n 0, 1) rfl) rfl rfl (aw_getAs (pc' := 100) (dt_X10_tellSale 48 (97, .getfield 61, 3) rfl) fl_ReturnDesk_61 rfl rfl (sk_11 hS12.wI) (sa_11_8 hS12.wI) (aw_bipush (pc' := 102) (v := 11) (dt_X10_tellSale 49 (100, .bipush 11, 2) rfl) (by decide) rfl (aw_aload_n (pc' := 103) (dt_X10_tellSale 50 (102, .aload_n 0, 1) rfl) rfl rfl (aw_aload_n (pc' := 104) (dt_X10_tellSale 51 (103, .aload_n 1, 1) rfl) rfl rfl (aw_iload_n (pc' := 105) (dt_X10_tellSale 52 (104, .iload_n 3, 1) rfl) rfl rfl (aw_callV0 (pc' := 108) (nc := nc) (ns := ns) (y2 := mX10_timesOf) (As := [.ref a1, .int x3]) (rest := [.int 11, .ref 26]) (a := 11) (dt_X10_tellSale 53 (105, .invokevirtual 455, 3) rfl) ok_X10_timesOf ln_ReturnDesk_455 im_X10_timesOf se_X10_timesOf pr_X10_timesOf (Or.inl ⟨by decide, rfl⟩) rfl (Nat.le_of_ble_eq_true rfl) (Nat.le_of_ble_eq_true rfl) rfl (sk_11 hS12.wI) h ?_)))))))))))))))))))))
    rintro v μ14 ⟨r16, rfl, hS15, h⟩
    refine aw_stk (st' := [.int r16, .int 11, .ref 26]) rfl ?_
    refine aw_inV (pc' := 111) (nc1 := 0) (ns1 := 0) (nc := nc) (ns := ns) (ls' := [some (.ref 26), some (.int 11), some (.int r16)]) (y2 := mX3_tell) (As := [.int 11, .int r16]) (rest := []) (a := 26) (dt_X10_tellSale 54 (108, .invokevirtual 448, 3) rfl) ok_X3_tell ln_ReturnDesk_448 im_X3_tell se_X3_tell pr_X3_tell (Or.inl ⟨by decide, rfl⟩) rfl (Nat.le_of_ble_eq_true rfl) (Nat.le_of_ble_eq_true rfl) rfl rfl (sk_26 hS15) (aw_iload_n (pc' := 1) (dt_X3_tell 0 (0, .iload_n 1, 1) rfl) rfl rfl (aw_if_lt_F (pc' := 4) (tgt := 20) (dt_X3_tell 1 (1, .ifCond .lt 19, 3) rfl) (by decide) rfl (by decide) (aw_iload_n (pc' := 5) (dt_X3_tell 2 (4, .iload_n 1, 1) rfl) rfl rfl (aw_aload_n (pc' := 6) (dt_X3_tell 3 (5, .aload_n 0, 1) rfl) rfl rfl (aw_getAs (pc' := 9) (dt_X3_tell 4 (6, .getfield 9, 3) rfl) fl_Machine_9 rfl rfl (sk_26 hS15) (sa_26_0 hS15) (aw_alens (pc' := 10) (n := 12) (v := 12) (dt_X3_tell 5 (9, .arraylength, 1) rfl) (by decide) (by decide) rfl (sk_27 hS15) (sl_27 hS15) (by decide) (aw_icmp_ge_F (pc' := 13) (tgt := 20) (dt_X3_tell 6 (10, .if_icmp .ge 10, 3) rfl) (by decide) rfl (by decide) (aw_aload_n (pc' := 14) (dt_X3_tell 7 (13, .aload_n 0, 1) rfl) rfl rfl (aw_getAs (pc' := 17) (dt_X3_tell 8 (14, .getfield 9, 3) rfl) fl_Machine_9 rfl rfl (sk_26 hS15) (sa_26_0 hS15) (aw_iload_n (pc' := 18) (dt_X3_tell 9 (17, .iload_n 1, 1) rfl) rfl rfl (aw_iload_n (pc' := 19) (dt_X3_tell 10 (18, .iload_n 2, 1) rfl) rfl rfl (aw_iast (pc' := 20) (dt_X3_tell 11 (19, .iastore, 1) rfl) rfl (sk_27 hS15) (by decide) (vin_eq (sl_27 hS15) (vlit (by decide))) (aw_ret (dt_X3_tell 12 (20, .return_, 1) rfl) rfl (aw_stk (st' := []) rfl (aw_ret (dt_X10_tellSale 55 (111, .return_, 1) rfl) rfl ?_)))))))))))))))
    exact h

theorem t_X10_judge {E : ZE} {l : Launch} {d nc ns : Nat} {a1 : Nat} {x2 : Int32} {μ : ZM} {K : Option Value → ZM → Prop} (hS : Stat μ) (h :
  (zK μ a1 = 0) ∧
  (zA μ a1 0 = none →
    AW E l (d + 4) 0 0 mX10_textFor 0 (zargs 6 [.ref 11, .int 0, .null, .int x2]) [] μ (fun v μ4 => ∃ o6 : Option Nat, v = some (va_rf o6) ∧ Stat μ4 ∧ 
      (zK μ4 a1 = 0) ∧
      (zA μ4 a1 0 = none →
        AW E l (d + 4) 0 0 mX10_textFor 0 (zargs 6 [.ref 11, .int 1, .null, .int x2]) [] μ4 (fun v μ10 => ∃ o12 : Option Nat, v = some (va_rf o12) ∧ Stat μ10 ∧ 
          (zK μ10 a1 = 0) ∧
          (zA μ10 a1 0 = none →
            AW E l (d + 4) 0 0 mX10_tellSale 0 (zargs 4 [.ref 11, .null, .int (zI μ10 a1 1), .int (zI μ10 a1 2)]) [] μ10 (fun v μ16 => v = none ∧ Stat μ16 ∧ 
              (zK μ16 a1 = 0) ∧
              (zA μ16 a1 0 = none →
                False) ∧
              (∀ b20, zA μ16 a1 0 = some b20 →
                (zK μ16 b20 = 7) ∧
                (o6 = none →
                  (o12 = none →
                    AW E l (d + 5) nc ns mX10_judge 81 [some (.ref 11), some (.ref a1), none, some (va_rf o6), some (va_rf o12), none, none, none, none, none, none, none, none] [.int (zI (sI (sI (sI (sI (sI (sI (sI μ16 29 0 (zI μ16 b20 9)) 29 1 0) 29 2 0) 29 3 0) 29 4 0) 29 5 0) 29 6 0) a1 3)] (sI (sI (sI (sI (sI (sI (sI μ16 29 0 (zI μ16 b20 9)) 29 1 0) 29 2 0) 29 3 0) 29 4 0) 29 5 0) 29 6 0) K) ∧
                  (∀ b25, o12 = some b25 →
                    (zK (sI (sI (sI (sI (sI (sI (sI μ16 29 0 (zI μ16 b20 9)) 29 1 0) 29 2 0) 29 3 0) 29 4 0) 29 5 0) 29 6 0) b25 = 9) ∧
                    (((zI (sI (sI (sI (sI (sI (sI (sI μ16 29 0 (zI μ16 b20 9)) 29 1 0) 29 2 0) 29 3 0) 29 4 0) 29 5 0) 29 6 0) b25 5) &&& ((1 : Int32) <<< ((0 : Int32) &&& 31))) = 0 →
                      AW E l (d + 5) nc ns mX10_judge 81 [some (.ref 11), some (.ref a1), none, some (va_rf o6), some (va_rf o12), none, none, none, none, none, none, none, none] [.int (zI (sI (sI (sI (sI (sI (sI (sI μ16 29 0 (zI μ16 b20 9)) 29 1 0) 29 2 0) 29 3 0) 29 4 0) 29 5 0) 29 6 0) a1 3)] (sI (sI (sI (sI (sI (sI (sI μ16 29 0 (zI μ16 b20 9)) 29 1 0) 29 2 0) 29 3 0) 29 4 0) 29 5 0) 29 6 0) K) ∧
                    (¬ ((zI (sI (sI (sI (sI (sI (sI (sI μ16 29 0 (zI μ16 b20 9)) 29 1 0) 29 2 0) 29 3 0) 29 4 0) 29 5 0) 29 6 0) b25 5) &&& ((1 : Int32) <<< ((0 : Int32) &&& 31))) = 0 →
                      AW E l (d + 5) nc ns mX10_judge 70 [some (.ref 11), some (.ref a1), none, some (va_rf o6), some (va_rf o12), none, none, none, none, none, none, none, none] [] (sI (sI (sI (sI (sI (sI (sI μ16 29 0 (zI μ16 b20 9)) 29 1 0) 29 2 0) 29 3 0) 29 4 0) 29 5 0) 29 6 0) K))) ∧
                (∀ b23, o6 = some b23 →
                  (zK (sI (sI (sI (sI (sI (sI (sI μ16 29 0 (zI μ16 b20 9)) 29 1 0) 29 2 0) 29 3 0) 29 4 0) 29 5 0) 29 6 0) b23 = 9) ∧
                  (((zI (sI (sI (sI (sI (sI (sI (sI μ16 29 0 (zI μ16 b20 9)) 29 1 0) 29 2 0) 29 3 0) 29 4 0) 29 5 0) 29 6 0) b23 5) &&& ((1 : Int32) <<< ((0 : Int32) &&& 31))) = 0 →
                    (o12 = none →
                      AW E l (d + 5) nc ns mX10_judge 81 [some (.ref 11), some (.ref a1), none, some (va_rf o6), some (va_rf o12), none, none, none, none, none, none, none, none] [.int (zI (sI (sI (sI (sI (sI (sI (sI μ16 29 0 (zI μ16 b20 9)) 29 1 0) 29 2 0) 29 3 0) 29 4 0) 29 5 0) 29 6 0) a1 3)] (sI (sI (sI (sI (sI (sI (sI μ16 29 0 (zI μ16 b20 9)) 29 1 0) 29 2 0) 29 3 0) 29 4 0) 29 5 0) 29 6 0) K) ∧
                    (∀ b31, o12 = some b31 →
                      (zK (sI (sI (sI (sI (sI (sI (sI μ16 29 0 (zI μ16 b20 9)) 29 1 0) 29 2 0) 29 3 0) 29 4 0) 29 5 0) 29 6 0) b31 = 9) ∧
                      (((zI (sI (sI (sI (sI (sI (sI (sI μ16 29 0 (zI μ16 b20 9)) 29 1 0) 29 2 0) 29 3 0) 29 4 0) 29 5 0) 29 6 0) b31 5) &&& ((1 : Int32) <<< ((0 : Int32) &&& 31))) = 0 →
                        AW E l (d + 5) nc ns mX10_judge 81 [some (.ref 11), some (.ref a1), none, some (va_rf o6), some (va_rf o12), none, none, none, none, none, none, none, none] [.int (zI (sI (sI (sI (sI (sI (sI (sI μ16 29 0 (zI μ16 b20 9)) 29 1 0) 29 2 0) 29 3 0) 29 4 0) 29 5 0) 29 6 0) a1 3)] (sI (sI (sI (sI (sI (sI (sI μ16 29 0 (zI μ16 b20 9)) 29 1 0) 29 2 0) 29 3 0) 29 4 0) 29 5 0) 29 6 0) K) ∧
                      (¬ ((zI (sI (sI (sI (sI (sI (sI (sI μ16 29 0 (zI μ16 b20 9)) 29 1 0) 29 2 0) 29 3 0) 29 4 0) 29 5 0) 29 6 0) b31 5) &&& ((1 : Int32) <<< ((0 : Int32) &&& 31))) = 0 →
                        AW E l (d + 5) nc ns mX10_judge 70 [some (.ref 11), some (.ref a1), none, some (va_rf o6), some (va_rf o12), none, none, none, none, none, none, none, none] [] (sI (sI (sI (sI (sI (sI (sI μ16 29 0 (zI μ16 b20 9)) 29 1 0) 29 2 0) 29 3 0) 29 4 0) 29 5 0) 29 6 0) K))) ∧
                  (¬ ((zI (sI (sI (sI (sI (sI (sI (sI μ16 29 0 (zI μ16 b20 9)) 29 1 0) 29 2 0) 29 3 0) 29 4 0) 29 5 0) 29 6 0) b23 5) &&& ((1 : Int32) <<< ((0 : Int32) &&& 31))) = 0 →
                    AW E l (d + 5) nc ns mX10_judge 70 [some (.ref 11), some (.ref a1), none, some (va_rf o6), some (va_rf o12), none, none, none, none, none, none, none, none] [] (sI (sI (sI (sI (sI (sI (sI μ16 29 0 (zI μ16 b20 9)) 29 1 0) 29 2 0) 29 3 0) 29 4 0) 29 5 0) 29 6 0) K))))) ∧
          (∀ b15, zA μ10 a1 0 = some b15 →
            AW E l (d + 4) 0 0 mX10_tellSale 0 (zargs 4 [.ref 11, .ref b15, .int (zI μ10 a1 1), .int (zI μ10 a1 2)]) [] μ10 (fun v μ34 => v = none ∧ Stat μ34 ∧ 
              (zK μ34 a1 = 0) ∧
              (zA μ34 a1 0 = none →
                False) ∧
              (∀ b38, zA μ34 a1 0 = some b38 →
                (zK μ34 b38 = 7) ∧
                (o6 = none →
                  (o12 = none →
                    AW E l (d + 5) nc ns mX10_judge 81 [some (.ref 11), some (.ref a1), none, some (va_rf o6), some (va_rf o12), none, none, none, none, none, none, none, none] [.int (zI (sI (sI (sI (sI (sI (sI (sI μ34 29 0 (zI μ34 b38 9)) 29 1 0) 29 2 0) 29 3 0) 29 4 0) 29 5 0) 29 6 0) a1 3)] (sI (sI (sI (sI (sI (sI (sI μ34 29 0 (zI μ34 b38 9)) 29 1 0) 29 2 0) 29 3 0) 29 4 0) 29 5 0) 29 6 0) K) ∧
                  (∀ b43, o12 = some b43 →
                    (zK (sI (sI (sI (sI (sI (sI (sI μ34 29 0 (zI μ34 b38 9)) 29 1 0) 29 2 0) 29 3 0) 29 4 0) 29 5 0) 29 6 0) b43 = 9) ∧
                    (((zI (sI (sI (sI (sI (sI (sI (sI μ34 29 0 (zI μ34 b38 9)) 29 1 0) 29 2 0) 29 3 0) 29 4 0) 29 5 0) 29 6 0) b43 5) &&& ((1 : Int32) <<< ((0 : Int32) &&& 31))) = 0 →
                      AW E l (d + 5) nc ns mX10_judge 81 [some (.ref 11), some (.ref a1), none, some (va_rf o6), some (va_rf o12), none, none, none, none, none, none, none, none] [.int (zI (sI (sI (sI (sI (sI (sI (sI μ34 29 0 (zI μ34 b38 9)) 29 1 0) 29 2 0) 29 3 0) 29 4 0) 29 5 0) 29 6 0) a1 3)] (sI (sI (sI (sI (sI (sI (sI μ34 29 0 (zI μ34 b38 9)) 29 1 0) 29 2 0) 29 3 0) 29 4 0) 29 5 0) 29 6 0) K) ∧
                    (¬ ((zI (sI (sI (sI (sI (sI (sI (sI μ34 29 0 (zI μ34 b38 9)) 29 1 0) 29 2 0) 29 3 0) 29 4 0) 29 5 0) 29 6 0) b43 5) &&& ((1 : Int32) <<< ((0 : Int32) &&& 31))) = 0 →
                      AW E l (d + 5) nc ns mX10_judge 70 [some (.ref 11), some (.ref a1), none, some (va_rf o6), some (va_rf o12), none, none, none, none, none, none, none, none] [] (sI (sI (sI (sI (sI (sI (sI μ34 29 0 (zI μ34 b38 9)) 29 1 0) 29 2 0) 29 3 0) 29 4 0) 29 5 0) 29 6 0) K))) ∧
                (∀ b41, o6 = some b41 →
                  (zK (sI (sI (sI (sI (sI (sI (sI μ34 29 0 (zI μ34 b38 9)) 29 1 0) 29 2 0) 29 3 0) 29 4 0) 29 5 0) 29 6 0) b41 = 9) ∧
                  (((zI (sI (sI (sI (sI (sI (sI (sI μ34 29 0 (zI μ34 b38 9)) 29 1 0) 29 2 0) 29 3 0) 29 4 0) 29 5 0) 29 6 0) b41 5) &&& ((1 : Int32) <<< ((0 : Int32) &&& 31))) = 0 →
                    (o12 = none →
                      AW E l (d + 5) nc ns mX10_judge 81 [some (.ref 11), some (.ref a1), none, some (va_rf o6), some (va_rf o12), none, none, none, none, none, none, none, none] [.int (zI (sI (sI (sI (sI (sI (sI (sI μ34 29 0 (zI μ34 b38 9)) 29 1 0) 29 2 0) 29 3 0) 29 4 0) 29 5 0) 29 6 0) a1 3)] (sI (sI (sI (sI (sI (sI (sI μ34 29 0 (zI μ34 b38 9)) 29 1 0) 29 2 0) 29 3 0) 29 4 0) 29 5 0) 29 6 0) K) ∧
                    (∀ b49, o12 = some b49 →
                      (zK (sI (sI (sI (sI (sI (sI (sI μ34 29 0 (zI μ34 b38 9)) 29 1 0) 29 2 0) 29 3 0) 29 4 0) 29 5 0) 29 6 0) b49 = 9) ∧
                      (((zI (sI (sI (sI (sI (sI (sI (sI μ34 29 0 (zI μ34 b38 9)) 29 1 0) 29 2 0) 29 3 0) 29 4 0) 29 5 0) 29 6 0) b49 5) &&& ((1 : Int32) <<< ((0 : Int32) &&& 31))) = 0 →
                        AW E l (d + 5) nc ns mX10_judge 81 [some (.ref 11), some (.ref a1), none, some (va_rf o6), some (va_rf o12), none, none, none, none, none, none, none, none] [.int (zI (sI (sI (sI (sI (sI (sI (sI μ34 29 0 (zI μ34 b38 9)) 29 1 0) 29 2 0) 29 3 0) 29 4 0) 29 5 0) 29 6 0) a1 3)] (sI (sI (sI (sI (sI (sI (sI μ34 29 0 (zI μ34 b38 9)) 29 1 0) 29 2 0) 29 3 0) 29 4 0) 29 5 0) 29 6 0) K) ∧
                      (¬ ((zI (sI (sI (sI (sI (sI (sI (sI μ34 29 0 (zI μ34 b38 9)) 29 1 0) 29 2 0) 29 3 0) 29 4 0) 29 5 0) 29 6 0) b49 5) &&& ((1 : Int32) <<< ((0 : Int32) &&& 31))) = 0 →
                        AW E l (d + 5) nc ns mX10_judge 70 [some (.ref 11), some (.ref a1), none, some (va_rf o6), some (va_rf o12), none, none, none, none, none, none, none, none] [] (sI (sI (sI (sI (sI (sI (sI μ34 29 0 (zI μ34 b38 9)) 29 1 0) 29 2 0) 29 3 0) 29 4 0) 29 5 0) 29 6 0) K))) ∧
                  (¬ ((zI (sI (sI (sI (sI (sI (sI (sI μ34 29 0 (zI μ34 b38 9)) 29 1 0) 29 2 0) 29 3 0) 29 4 0) 29 5 0) 29 6 0) b41 5) &&& ((1 : Int32) <<< ((0 : Int32) &&& 31))) = 0 →
                    AW E l (d + 5) nc ns mX10_judge 70 [some (.ref 11), some (.ref a1), none, some (va_rf o6), some (va_rf o12), none, none, none, none, none, none, none, none] [] (sI (sI (sI (sI (sI (sI (sI μ34 29 0 (zI μ34 b38 9)) 29 1 0) 29 2 0) 29 3 0) 29 4 0) 29 5 0) 29 6 0) K))))))) ∧
      (∀ b9, zA μ4 a1 0 = some b9 →
        AW E l (d + 4) 0 0 mX10_textFor 0 (zargs 6 [.ref 11, .int 1, .ref b9, .int x2]) [] μ4 (fun v μ52 => ∃ o54 : Option Nat, v = some (va_rf o54) ∧ Stat μ52 ∧ 
          (zK μ52 a1 = 0) ∧
          (zA μ52 a1 0 = none →
            AW E l (d + 4) 0 0 mX10_tellSale 0 (zargs 4 [.ref 11, .null, .int (zI μ52 a1 1), .int (zI μ52 a1 2)]) [] μ52 (fun v μ58 => v = none ∧ Stat μ58 ∧ 
              (zK μ58 a1 = 0) ∧
              (zA μ58 a1 0 = none →
                False) ∧
              (∀ b62, zA μ58 a1 0 = some b62 →
                (zK μ58 b62 = 7) ∧
                (o6 = none →
                  (o54 = none →
                    AW E l (d + 5) nc ns mX10_judge 81 [some (.ref 11), some (.ref a1), none, some (va_rf o6), some (va_rf o54), none, none, none, none, none, none, none, none] [.int (zI (sI (sI (sI (sI (sI (sI (sI μ58 29 0 (zI μ58 b62 9)) 29 1 0) 29 2 0) 29 3 0) 29 4 0) 29 5 0) 29 6 0) a1 3)] (sI (sI (sI (sI (sI (sI (sI μ58 29 0 (zI μ58 b62 9)) 29 1 0) 29 2 0) 29 3 0) 29 4 0) 29 5 0) 29 6 0) K) ∧
                  (∀ b67, o54 = some b67 →
                    (zK (sI (sI (sI (sI (sI (sI (sI μ58 29 0 (zI μ58 b62 9)) 29 1 0) 29 2 0) 29 3 0) 29 4 0) 29 5 0) 29 6 0) b67 = 9) ∧
                    (((zI (sI (sI (sI (sI (sI (sI (sI μ58 29 0 (zI μ58 b62 9)) 29 1 0) 29 2 0) 29 3 0) 29 4 0) 29 5 0) 29 6 0) b67 5) &&& ((1 : Int32) <<< ((0 : Int32) &&& 31))) = 0 →
                      AW E l (d + 5) nc ns mX10_judge 81 [some (.ref 11), some (.ref a1), none, some (va_rf o6), some (va_rf o54), none, none, none, none, none, none, none, none] [.int (zI (sI (sI (sI (sI (sI (sI (sI μ58 29 0 (zI μ58 b62 9)) 29 1 0) 29 2 0) 29 3 0) 29 4 0) 29 5 0) 29 6 0) a1 3)] (sI (sI (sI (sI (sI (sI (sI μ58 29 0 (zI μ58 b62 9)) 29 1 0) 29 2 0) 29 3 0) 29 4 0) 29 5 0) 29 6 0) K) ∧
                    (¬ ((zI (sI (sI (sI (sI (sI (sI (sI μ58 29 0 (zI μ58 b62 9)) 29 1 0) 29 2 0) 29 3 0) 29 4 0) 29 5 0) 29 6 0) b67 5) &&& ((1 : Int32) <<< ((0 : Int32) &&& 31))) = 0 →
                      AW E l (d + 5) nc ns mX10_judge 70 [some (.ref 11), some (.ref a1), none, some (va_rf o6), some (va_rf o54), none, none, none, none, none, none, none, none] [] (sI (sI (sI (sI (sI (sI (sI μ58 29 0 (zI μ58 b62 9)) 29 1 0) 29 2 0) 29 3 0) 29 4 0) 29 5 0) 29 6 0) K))) ∧
                (∀ b65, o6 = some b65 →
                  (zK (sI (sI (sI (sI (sI (sI (sI μ58 29 0 (zI μ58 b62 9)) 29 1 0) 29 2 0) 29 3 0) 29 4 0) 29 5 0) 29 6 0) b65 = 9) ∧
                  (((zI (sI (sI (sI (sI (sI (sI (sI μ58 29 0 (zI μ58 b62 9)) 29 1 0) 29 2 0) 29 3 0) 29 4 0) 29 5 0) 29 6 0) b65 5) &&& ((1 : Int32) <<< ((0 : Int32) &&& 31))) = 0 →
                    (o54 = none →
                      AW E l (d + 5) nc ns mX10_judge 81 [some (.ref 11), some (.ref a1), none, some (va_rf o6), some (va_rf o54), none, none, none, none, none, none, none, none] [.int (zI (sI (sI (sI (sI (sI (sI (sI μ58 29 0 (zI μ58 b62 9)) 29 1 0) 29 2 0) 29 3 0) 29 4 0) 29 5 0) 29 6 0) a1 3)] (sI (sI (sI (sI (sI (sI (sI μ58 29 0 (zI μ58 b62 9)) 29 1 0) 29 2 0) 29 3 0) 29 4 0) 29 5 0) 29 6 0) K) ∧
                    (∀ b73, o54 = some b73 →
                      (zK (sI (sI (sI (sI (sI (sI (sI μ58 29 0 (zI μ58 b62 9)) 29 1 0) 29 2 0) 29 3 0) 29 4 0) 29 5 0) 29 6 0) b73 = 9) ∧
                      (((zI (sI (sI (sI (sI (sI (sI (sI μ58 29 0 (zI μ58 b62 9)) 29 1 0) 29 2 0) 29 3 0) 29 4 0) 29 5 0) 29 6 0) b73 5) &&& ((1 : Int32) <<< ((0 : Int32) &&& 31))) = 0 →
                        AW E l (d + 5) nc ns mX10_judge 81 [some (.ref 11), some (.ref a1), none, some (va_rf o6), some (va_rf o54), none, none, none, none, none, none, none, none] [.int (zI (sI (sI (sI (sI (sI (sI (sI μ58 29 0 (zI μ58 b62 9)) 29 1 0) 29 2 0) 29 3 0) 29 4 0) 29 5 0) 29 6 0) a1 3)] (sI (sI (sI (sI (sI (sI (sI μ58 29 0 (zI μ58 b62 9)) 29 1 0) 29 2 0) 29 3 0) 29 4 0) 29 5 0) 29 6 0) K) ∧
                      (¬ ((zI (sI (sI (sI (sI (sI (sI (sI μ58 29 0 (zI μ58 b62 9)) 29 1 0) 29 2 0) 29 3 0) 29 4 0) 29 5 0) 29 6 0) b73 5) &&& ((1 : Int32) <<< ((0 : Int32) &&& 31))) = 0 →
                        AW E l (d + 5) nc ns mX10_judge 70 [some (.ref 11), some (.ref a1), none, some (va_rf o6), some (va_rf o54), none, none, none, none, none, none, none, none] [] (sI (sI (sI (sI (sI (sI (sI μ58 29 0 (zI μ58 b62 9)) 29 1 0) 29 2 0) 29 3 0) 29 4 0) 29 5 0) 29 6 0) K))) ∧
                  (¬ ((zI (sI (sI (sI (sI (sI (sI (sI μ58 29 0 (zI μ58 b62 9)) 29 1 0) 29 2 0) 29 3 0) 29 4 0) 29 5 0) 29 6 0) b65 5) &&& ((1 : Int32) <<< ((0 : Int32) &&& 31))) = 0 →
                    AW E l (d + 5) nc ns mX10_judge 70 [some (.ref 11), some (.ref a1), none, some (va_rf o6), some (va_rf o54), none, none, none, none, none, none, none, none] [] (sI (sI (sI (sI (sI (sI (sI μ58 29 0 (zI μ58 b62 9)) 29 1 0) 29 2 0) 29 3 0) 29 4 0) 29 5 0) 29 6 0) K))))) ∧
          (∀ b57, zA μ52 a1 0 = some b57 →
            AW E l (d + 4) 0 0 mX10_tellSale 0 (zargs 4 [.ref 11, .ref b57, .int (zI μ52 a1 1), .int (zI μ52 a1 2)]) [] μ52 (fun v μ76 => v = none ∧ Stat μ76 ∧ 
              (zK μ76 a1 = 0) ∧
              (zA μ76 a1 0 = none →
                False) ∧
              (∀ b80, zA μ76 a1 0 = some b80 →
                (zK μ76 b80 = 7) ∧
                (o6 = none →
                  (o54 = none →
                    AW E l (d + 5) nc ns mX10_judge 81 [some (.ref 11), some (.ref a1), none, some (va_rf o6), some (va_rf o54), none, none, none, none, none, none, none, none] [.int (zI (sI (sI (sI (sI (sI (sI (sI μ76 29 0 (zI μ76 b80 9)) 29 1 0) 29 2 0) 29 3 0) 29 4 0) 29 5 0) 29 6 0) a1 3)] (sI (sI (sI (sI (sI (sI (sI μ76 29 0 (zI μ76 b80 9)) 29 1 0) 29 2 0) 29 3 0) 29 4 0) 29 5 0) 29 6 0) K) ∧
                  (∀ b85, o54 = some b85 →
                    (zK (sI (sI (sI (sI (sI (sI (sI μ76 29 0 (zI μ76 b80 9)) 29 1 0) 29 2 0) 29 3 0) 29 4 0) 29 5 0) 29 6 0) b85 = 9) ∧
                    (((zI (sI (sI (sI (sI (sI (sI (sI μ76 29 0 (zI μ76 b80 9)) 29 1 0) 29 2 0) 29 3 0) 29 4 0) 29 5 0) 29 6 0) b85 5) &&& ((1 : Int32) <<< ((0 : Int32) &&& 31))) = 0 →
                      AW E l (d + 5) nc ns mX10_judge 81 [some (.ref 11), some (.ref a1), none, some (va_rf o6), some (va_rf o54), none, none, none, none, none, none, none, none] [.int (zI (sI (sI (sI (sI (sI (sI (sI μ76 29 0 (zI μ76 b80 9)) 29 1 0) 29 2 0) 29 3 0) 29 4 0) 29 5 0) 29 6 0) a1 3)] (sI (sI (sI (sI (sI (sI (sI μ76 29 0 (zI μ76 b80 9)) 29 1 0) 29 2 0) 29 3 0) 29 4 0) 29 5 0) 29 6 0) K) ∧
                    (¬ ((zI (sI (sI (sI (sI (sI (sI (sI μ76 29 0 (zI μ76 b80 9)) 29 1 0) 29 2 0) 29 3 0) 29 4 0) 29 5 0) 29 6 0) b85 5) &&& ((1 : Int32) <<< ((0 : Int32) &&& 31))) = 0 →
                      AW E l (d + 5) nc ns mX10_judge 70 [some (.ref 11), some (.ref a1), none, some (va_rf o6), some (va_rf o54), none, none, none, none, none, none, none, none] [] (sI (sI (sI (sI (sI (sI (sI μ76 29 0 (zI μ76 b80 9)) 29 1 0) 29 2 0) 29 3 0) 29 4 0) 29 5 0) 29 6 0) K))) ∧
                (∀ b83, o6 = some b83 →
                  (zK (sI (sI (sI (sI (sI (sI (sI μ76 29 0 (zI μ76 b80 9)) 29 1 0) 29 2 0) 29 3 0) 29 4 0) 29 5 0) 29 6 0) b83 = 9) ∧
                  (((zI (sI (sI (sI (sI (sI (sI (sI μ76 29 0 (zI μ76 b80 9)) 29 1 0) 29 2 0) 29 3 0) 29 4 0) 29 5 0) 29 6 0) b83 5) &&& ((1 : Int32) <<< ((0 : Int32) &&& 31))) = 0 →
                    (o54 = none →
                      AW E l (d + 5) nc ns mX10_judge 81 [some (.ref 11), some (.ref a1), none, some (va_rf o6), some (va_rf o54), none, none, none, none, none, none, none, none] [.int (zI (sI (sI (sI (sI (sI (sI (sI μ76 29 0 (zI μ76 b80 9)) 29 1 0) 29 2 0) 29 3 0) 29 4 0) 29 5 0) 29 6 0) a1 3)] (sI (sI (sI (sI (sI (sI (sI μ76 29 0 (zI μ76 b80 9)) 29 1 0) 29 2 0) 29 3 0) 29 4 0) 29 5 0) 29 6 0) K) ∧
                    (∀ b91, o54 = some b91 →
                      (zK (sI (sI (sI (sI (sI (sI (sI μ76 29 0 (zI μ76 b80 9)) 29 1 0) 29 2 0) 29 3 0) 29 4 0) 29 5 0) 29 6 0) b91 = 9) ∧
                      (((zI (sI (sI (sI (sI (sI (sI (sI μ76 29 0 (zI μ76 b80 9)) 29 1 0) 29 2 0) 29 3 0) 29 4 0) 29 5 0) 29 6 0) b91 5) &&& ((1 : Int32) <<< ((0 : Int32) &&& 31))) = 0 →
                        AW E l (d + 5) nc ns mX10_judge 81 [some (.ref 11), some (.ref a1), none, some (va_rf o6), some (va_rf o54), none, none, none, none, none, none, none, none] [.int (zI (sI (sI (sI (sI (sI (sI (sI μ76 29 0 (zI μ76 b80 9)) 29 1 0) 29 2 0) 29 3 0) 29 4 0) 29 5 0) 29 6 0) a1 3)] (sI (sI (sI (sI (sI (sI (sI μ76 29 0 (zI μ76 b80 9)) 29 1 0) 29 2 0) 29 3 0) 29 4 0) 29 5 0) 29 6 0) K) ∧
                      (¬ ((zI (sI (sI (sI (sI (sI (sI (sI μ76 29 0 (zI μ76 b80 9)) 29 1 0) 29 2 0) 29 3 0) 29 4 0) 29 5 0) 29 6 0) b91 5) &&& ((1 : Int32) <<< ((0 : Int32) &&& 31))) = 0 →
                        AW E l (d + 5) nc ns mX10_judge 70 [some (.ref 11), some (.ref a1), none, some (va_rf o6), some (va_rf o54), none, none, none, none, none, none, none, none] [] (sI (sI (sI (sI (sI (sI (sI μ76 29 0 (zI μ76 b80 9)) 29 1 0) 29 2 0) 29 3 0) 29 4 0) 29 5 0) 29 6 0) K))) ∧
                  (¬ ((zI (sI (sI (sI (sI (sI (sI (sI μ76 29 0 (zI μ76 b80 9)) 29 1 0) 29 2 0) 29 3 0) 29 4 0) 29 5 0) 29 6 0) b83 5) &&& ((1 : Int32) <<< ((0 : Int32) &&& 31))) = 0 →
                    AW E l (d + 5) nc ns mX10_judge 70 [some (.ref 11), some (.ref a1), none, some (va_rf o6), some (va_rf o54), none, none, none, none, none, none, none, none] [] (sI (sI (sI (sI (sI (sI (sI μ76 29 0 (zI μ76 b80 9)) 29 1 0) 29 2 0) 29 3 0) 29 4 0) 29 5 0) 29 6 0) K))))))))) ∧
  (∀ b3, zA μ a1 0 = some b3 →
    AW E l (d + 4) 0 0 mX10_textFor 0 (zargs 6 [.ref 11, .int 0, .ref b3, .int x2]) [] μ (fun v μ94 => ∃ o96 : Option Nat, v = some (va_rf o96) ∧ Stat μ94 ∧ 
      (zK μ94 a1 = 0) ∧
      (zA μ94 a1 0 = none →
        AW E l (d + 4) 0 0 mX10_textFor 0 (zargs 6 [.ref 11, .int 1, .null, .int x2]) [] μ94 (fun v μ100 => ∃ o102 : Option Nat, v = some (va_rf o102) ∧ Stat μ100 ∧ 
          (zK μ100 a1 = 0) ∧
          (zA μ100 a1 0 = none →
            AW E l (d + 4) 0 0 mX10_tellSale 0 (zargs 4 [.ref 11, .null, .int (zI μ100 a1 1), .int (zI μ100 a1 2)]) [] μ100 (fun v μ106 => v = none ∧ Stat μ106 ∧ 
              (zK μ106 a1 = 0) ∧
              (zA μ106 a1 0 = none →
                False) ∧
              (∀ b110, zA μ106 a1 0 = some b110 →
                (zK μ106 b110 = 7) ∧
                (o96 = none →
                  (o102 = none →
                    AW E l (d + 5) nc ns mX10_judge 81 [some (.ref 11), some (.ref a1), none, some (va_rf o96), some (va_rf o102), none, none, none, none, none, none, none, none] [.int (zI (sI (sI (sI (sI (sI (sI (sI μ106 29 0 (zI μ106 b110 9)) 29 1 0) 29 2 0) 29 3 0) 29 4 0) 29 5 0) 29 6 0) a1 3)] (sI (sI (sI (sI (sI (sI (sI μ106 29 0 (zI μ106 b110 9)) 29 1 0) 29 2 0) 29 3 0) 29 4 0) 29 5 0) 29 6 0) K) ∧
                  (∀ b115, o102 = some b115 →
                    (zK (sI (sI (sI (sI (sI (sI (sI μ106 29 0 (zI μ106 b110 9)) 29 1 0) 29 2 0) 29 3 0) 29 4 0) 29 5 0) 29 6 0) b115 = 9) ∧
                    (((zI (sI (sI (sI (sI (sI (sI (sI μ106 29 0 (zI μ106 b110 9)) 29 1 0) 29 2 0) 29 3 0) 29 4 0) 29 5 0) 29 6 0) b115 5) &&& ((1 : Int32) <<< ((0 : Int32) &&& 31))) = 0 →
                      AW E l (d + 5) nc ns mX10_judge 81 [some (.ref 11), some (.ref a1), none, some (va_rf o96), some (va_rf o102), none, none, none, none, none, none, none, none] [.int (zI (sI (sI (sI (sI (sI (sI (sI μ106 29 0 (zI μ106 b110 9)) 29 1 0) 29 2 0) 29 3 0) 29 4 0) 29 5 0) 29 6 0) a1 3)] (sI (sI (sI (sI (sI (sI (sI μ106 29 0 (zI μ106 b110 9)) 29 1 0) 29 2 0) 29 3 0) 29 4 0) 29 5 0) 29 6 0) K) ∧
                    (¬ ((zI (sI (sI (sI (sI (sI (sI (sI μ106 29 0 (zI μ106 b110 9)) 29 1 0) 29 2 0) 29 3 0) 29 4 0) 29 5 0) 29 6 0) b115 5) &&& ((1 : Int32) <<< ((0 : Int32) &&& 31))) = 0 →
                      AW E l (d + 5) nc ns mX10_judge 70 [some (.ref 11), some (.ref a1), none, some (va_rf o96), some (va_rf o102), none, none, none, none, none, none, none, none] [] (sI (sI (sI (sI (sI (sI (sI μ106 29 0 (zI μ106 b110 9)) 29 1 0) 29 2 0) 29 3 0) 29 4 0) 29 5 0) 29 6 0) K))) ∧
                (∀ b113, o96 = some b113 →
                  (zK (sI (sI (sI (sI (sI (sI (sI μ106 29 0 (zI μ106 b110 9)) 29 1 0) 29 2 0) 29 3 0) 29 4 0) 29 5 0) 29 6 0) b113 = 9) ∧
                  (((zI (sI (sI (sI (sI (sI (sI (sI μ106 29 0 (zI μ106 b110 9)) 29 1 0) 29 2 0) 29 3 0) 29 4 0) 29 5 0) 29 6 0) b113 5) &&& ((1 : Int32) <<< ((0 : Int32) &&& 31))) = 0 →
                    (o102 = none →
                      AW E l (d + 5) nc ns mX10_judge 81 [some (.ref 11), some (.ref a1), none, some (va_rf o96), some (va_rf o102), none, none, none, none, none, none, none, none] [.int (zI (sI (sI (sI (sI (sI (sI (sI μ106 29 0 (zI μ106 b110 9)) 29 1 0) 29 2 0) 29 3 0) 29 4 0) 29 5 0) 29 6 0) a1 3)] (sI (sI (sI (sI (sI (sI (sI μ106 29 0 (zI μ106 b110 9)) 29 1 0) 29 2 0) 29 3 0) 29 4 0) 29 5 0) 29 6 0) K) ∧
                    (∀ b121, o102 = some b121 →
                      (zK (sI (sI (sI (sI (sI (sI (sI μ106 29 0 (zI μ106 b110 9)) 29 1 0) 29 2 0) 29 3 0) 29 4 0) 29 5 0) 29 6 0) b121 = 9) ∧
                      (((zI (sI (sI (sI (sI (sI (sI (sI μ106 29 0 (zI μ106 b110 9)) 29 1 0) 29 2 0) 29 3 0) 29 4 0) 29 5 0) 29 6 0) b121 5) &&& ((1 : Int32) <<< ((0 : Int32) &&& 31))) = 0 →
                        AW E l (d + 5) nc ns mX10_judge 81 [some (.ref 11), some (.ref a1), none, some (va_rf o96), some (va_rf o102), none, none, none, none, none, none, none, none] [.int (zI (sI (sI (sI (sI (sI (sI (sI μ106 29 0 (zI μ106 b110 9)) 29 1 0) 29 2 0) 29 3 0) 29 4 0) 29 5 0) 29 6 0) a1 3)] (sI (sI (sI (sI (sI (sI (sI μ106 29 0 (zI μ106 b110 9)) 29 1 0) 29 2 0) 29 3 0) 29 4 0) 29 5 0) 29 6 0) K) ∧
                      (¬ ((zI (sI (sI (sI (sI (sI (sI (sI μ106 29 0 (zI μ106 b110 9)) 29 1 0) 29 2 0) 29 3 0) 29 4 0) 29 5 0) 29 6 0) b121 5) &&& ((1 : Int32) <<< ((0 : Int32) &&& 31))) = 0 →
                        AW E l (d + 5) nc ns mX10_judge 70 [some (.ref 11), some (.ref a1), none, some (va_rf o96), some (va_rf o102), none, none, none, none, none, none, none, none] [] (sI (sI (sI (sI (sI (sI (sI μ106 29 0 (zI μ106 b110 9)) 29 1 0) 29 2 0) 29 3 0) 29 4 0) 29 5 0) 29 6 0) K))) ∧
                  (¬ ((zI (sI (sI (sI (sI (sI (sI (sI μ106 29 0 (zI μ106 b110 9)) 29 1 0) 29 2 0) 29 3 0) 29 4 0) 29 5 0) 29 6 0) b113 5) &&& ((1 : Int32) <<< ((0 : Int32) &&& 31))) = 0 →
                    AW E l (d + 5) nc ns mX10_judge 70 [some (.ref 11), some (.ref a1), none, some (va_rf o96), some (va_rf o102), none, none, none, none, none, none, none, none] [] (sI (sI (sI (sI (sI (sI (sI μ106 29 0 (zI μ106 b110 9)) 29 1 0) 29 2 0) 29 3 0) 29 4 0) 29 5 0) 29 6 0) K))))) ∧
          (∀ b105, zA μ100 a1 0 = some b105 →
            AW E l (d + 4) 0 0 mX10_tellSale 0 (zargs 4 [.ref 11, .ref b105, .int (zI μ100 a1 1), .int (zI μ100 a1 2)]) [] μ100 (fun v μ124 => v = none ∧ Stat μ124 ∧ 
              (zK μ124 a1 = 0) ∧
              (zA μ124 a1 0 = none →
                False) ∧
              (∀ b128, zA μ124 a1 0 = some b128 →
                (zK μ124 b128 = 7) ∧
                (o96 = none →
                  (o102 = none →
                    AW E l (d + 5) nc ns mX10_judge 81 [some (.ref 11), some (.ref a1), none, some (va_rf o96), some (va_rf o102), none, none, none, none, none, none, none, none] [.int (zI (sI (sI (sI (sI (sI (sI (sI μ124 29 0 (zI μ124 b128 9)) 29 1 0) 29 2 0) 29 3 0) 29 4 0) 29 5 0) 29 6 0) a1 3)] (sI (sI (sI (sI (sI (sI (sI μ124 29 0 (zI μ124 b128 9)) 29 1 0) 29 2 0) 29 3 0) 29 4 0) 29 5 0) 29 6 0) K) ∧
                  (∀ b133, o102 = some b133 →
                    (zK (sI (sI (sI (sI (sI (sI (sI μ124 29 0 (zI μ124 b128 9)) 29 1 0) 29 2 0) 29 3 0) 29 4 0) 29 5 0) 29 6 0) b133 = 9) ∧
                    (((zI (sI (sI (sI (sI (sI (sI (sI μ124 29 0 (zI μ124 b128 9)) 29 1 0) 29 2 0) 29 3 0) 29 4 0) 29 5 0) 29 6 0) b133 5) &&& ((1 : Int32) <<< ((0 : Int32) &&& 31))) = 0 →
                      AW E l (d + 5) nc ns mX10_judge 81 [some (.ref 11), some (.ref a1), none, some (va_rf o96), some (va_rf o102), none, none, none, none, none, none, none, none] [.int (zI (sI (sI (sI (sI (sI (sI (sI μ124 29 0 (zI μ124 b128 9)) 29 1 0) 29 2 0) 29 3 0) 29 4 0) 29 5 0) 29 6 0) a1 3)] (sI (sI (sI (sI (sI (sI (sI μ124 29 0 (zI μ124 b128 9)) 29 1 0) 29 2 0) 29 3 0) 29 4 0) 29 5 0) 29 6 0) K) ∧
                    (¬ ((zI (sI (sI (sI (sI (sI (sI (sI μ124 29 0 (zI μ124 b128 9)) 29 1 0) 29 2 0) 29 3 0) 29 4 0) 29 5 0) 29 6 0) b133 5) &&& ((1 : Int32) <<< ((0 : Int32) &&& 31))) = 0 →
                      AW E l (d + 5) nc ns mX10_judge 70 [some (.ref 11), some (.ref a1), none, some (va_rf o96), some (va_rf o102), none, none, none, none, none, none, none, none] [] (sI (sI (sI (sI (sI (sI (sI μ124 29 0 (zI μ124 b128 9)) 29 1 0) 29 2 0) 29 3 0) 29 4 0) 29 5 0) 29 6 0) K))) ∧
                (∀ b131, o96 = some b131 →
                  (zK (sI (sI (sI (sI (sI (sI (sI μ124 29 0 (zI μ124 b128 9)) 29 1 0) 29 2 0) 29 3 0) 29 4 0) 29 5 0) 29 6 0) b131 = 9) ∧
                  (((zI (sI (sI (sI (sI (sI (sI (sI μ124 29 0 (zI μ124 b128 9)) 29 1 0) 29 2 0) 29 3 0) 29 4 0) 29 5 0) 29 6 0) b131 5) &&& ((1 : Int32) <<< ((0 : Int32) &&& 31))) = 0 →
                    (o102 = none →
                      AW E l (d + 5) nc ns mX10_judge 81 [some (.ref 11), some (.ref a1), none, some (va_rf o96), some (va_rf o102), none, none, none, none, none, none, none, none] [.int (zI (sI (sI (sI (sI (sI (sI (sI μ124 29 0 (zI μ124 b128 9)) 29 1 0) 29 2 0) 29 3 0) 29 4 0) 29 5 0) 29 6 0) a1 3)] (sI (sI (sI (sI (sI (sI (sI μ124 29 0 (zI μ124 b128 9)) 29 1 0) 29 2 0) 29 3 0) 29 4 0) 29 5 0) 29 6 0) K) ∧
                    (∀ b139, o102 = some b139 →
                      (zK (sI (sI (sI (sI (sI (sI (sI μ124 29 0 (zI μ124 b128 9)) 29 1 0) 29 2 0) 29 3 0) 29 4 0) 29 5 0) 29 6 0) b139 = 9) ∧
                      (((zI (sI (sI (sI (sI (sI (sI (sI μ124 29 0 (zI μ124 b128 9)) 29 1 0) 29 2 0) 29 3 0) 29 4 0) 29 5 0) 29 6 0) b139 5) &&& ((1 : Int32) <<< ((0 : Int32) &&& 31))) = 0 →
                        AW E l (d + 5) nc ns mX10_judge 81 [some (.ref 11), some (.ref a1), none, some (va_rf o96), some (va_rf o102), none, none, none, none, none, none, none, none] [.int (zI (sI (sI (sI (sI (sI (sI (sI μ124 29 0 (zI μ124 b128 9)) 29 1 0) 29 2 0) 29 3 0) 29 4 0) 29 5 0) 29 6 0) a1 3)] (sI (sI (sI (sI (sI (sI (sI μ124 29 0 (zI μ124 b128 9)) 29 1 0) 29 2 0) 29 3 0) 29 4 0) 29 5 0) 29 6 0) K) ∧
                      (¬ ((zI (sI (sI (sI (sI (sI (sI (sI μ124 29 0 (zI μ124 b128 9)) 29 1 0) 29 2 0) 29 3 0) 29 4 0) 29 5 0) 29 6 0) b139 5) &&& ((1 : Int32) <<< ((0 : Int32) &&& 31))) = 0 →
                        AW E l (d + 5) nc ns mX10_judge 70 [some (.ref 11), some (.ref a1), none, some (va_rf o96), some (va_rf o102), none, none, none, none, none, none, none, none] [] (sI (sI (sI (sI (sI (sI (sI μ124 29 0 (zI μ124 b128 9)) 29 1 0) 29 2 0) 29 3 0) 29 4 0) 29 5 0) 29 6 0) K))) ∧
                  (¬ ((zI (sI (sI (sI (sI (sI (sI (sI μ124 29 0 (zI μ124 b128 9)) 29 1 0) 29 2 0) 29 3 0) 29 4 0) 29 5 0) 29 6 0) b131 5) &&& ((1 : Int32) <<< ((0 : Int32) &&& 31))) = 0 →
                    AW E l (d + 5) nc ns mX10_judge 70 [some (.ref 11), some (.ref a1), none, some (va_rf o96), some (va_rf o102), none, none, none, none, none, none, none, none] [] (sI (sI (sI (sI (sI (sI (sI μ124 29 0 (zI μ124 b128 9)) 29 1 0) 29 2 0) 29 3 0) 29 4 0) 29 5 0) 29 6 0) K))))))) ∧
      (∀ b99, zA μ94 a1 0 = some b99 →
        AW E l (d + 4) 0 0 mX10_textFor 0 (zargs 6 [.ref 11, .int 1, .ref b99, .int x2]) [] μ94 (fun v μ142 => ∃ o144 : Option Nat, v = some (va_rf o144) ∧ Stat μ142 ∧ 
          (zK μ142 a1 = 0) ∧
          (zA μ142 a1 0 = none →
            AW E l (d + 4) 0 0 mX10_tellSale 0 (zargs 4 [.ref 11, .null, .int (zI μ142 a1 1), .int (zI μ142 a1 2)]) [] μ142 (fun v μ148 => v = none ∧ Stat μ148 ∧ 
              (zK μ148 a1 = 0) ∧
              (zA μ148 a1 0 = none →
                False) ∧
              (∀ b152, zA μ148 a1 0 = some b152 →
                (zK μ148 b152 = 7) ∧
                (o96 = none →
                  (o144 = none →
                    AW E l (d + 5) nc ns mX10_judge 81 [some (.ref 11), some (.ref a1), none, some (va_rf o96), some (va_rf o144), none, none, none, none, none, none, none, none] [.int (zI (sI (sI (sI (sI (sI (sI (sI μ148 29 0 (zI μ148 b152 9)) 29 1 0) 29 2 0) 29 3 0) 29 4 0) 29 5 0) 29 6 0) a1 3)] (sI (sI (sI (sI (sI (sI (sI μ148 29 0 (zI μ148 b152 9)) 29 1 0) 29 2 0) 29 3 0) 29 4 0) 29 5 0) 29 6 0) K) ∧
                  (∀ b157, o144 = some b157 →
                    (zK (sI (sI (sI (sI (sI (sI (sI μ148 29 0 (zI μ148 b152 9)) 29 1 0) 29 2 0) 29 3 0) 29 4 0) 29 5 0) 29 6 0) b157 = 9) ∧
                    (((zI (sI (sI (sI (sI (sI (sI (sI μ148 29 0 (zI μ148 b152 9)) 29 1 0) 29 2 0) 29 3 0) 29 4 0) 29 5 0) 29 6 0) b157 5) &&& ((1 : Int32) <<< ((0 : Int32) &&& 31))) = 0 →
                      AW E l (d + 5) nc ns mX10_judge 81 [some (.ref 11), some (.ref a1), none, some (va_rf o96), some (va_rf o144), none, none, none, none, none, none, none, none] [.int (zI (sI (sI (sI (sI (sI (sI (sI μ148 29 0 (zI μ148 b152 9)) 29 1 0) 29 2 0) 29 3 0) 29 4 0) 29 5 0) 29 6 0) a1 3)] (sI (sI (sI (sI (sI (sI (sI μ148 29 0 (zI μ148 b152 9)) 29 1 0) 29 2 0) 29 3 0) 29 4 0) 29 5 0) 29 6 0) K) ∧
                    (¬ ((zI (sI (sI (sI (sI (sI (sI (sI μ148 29 0 (zI μ148 b152 9)) 29 1 0) 29 2 0) 29 3 0) 29 4 0) 29 5 0) 29 6 0) b157 5) &&& ((1 : Int32) <<< ((0 : Int32) &&& 31))) = 0 →
                      AW E l (d + 5) nc ns mX10_judge 70 [some (.ref 11), some (.ref a1), none, some (va_rf o96), some (va_rf o144), none, none, none, none, none, none, none, none] [] (sI (sI (sI (sI (sI (sI (sI μ148 29 0 (zI μ148 b152 9)) 29 1 0) 29 2 0) 29 3 0) 29 4 0) 29 5 0) 29 6 0) K))) ∧
                (∀ b155, o96 = some b155 →
                  (zK (sI (sI (sI (sI (sI (sI (sI μ148 29 0 (zI μ148 b152 9)) 29 1 0) 29 2 0) 29 3 0) 29 4 0) 29 5 0) 29 6 0) b155 = 9) ∧
                  (((zI (sI (sI (sI (sI (sI (sI (sI μ148 29 0 (zI μ148 b152 9)) 29 1 0) 29 2 0) 29 3 0) 29 4 0) 29 5 0) 29 6 0) b155 5) &&& ((1 : Int32) <<< ((0 : Int32) &&& 31))) = 0 →
                    (o144 = none →
                      AW E l (d + 5) nc ns mX10_judge 81 [some (.ref 11), some (.ref a1), none, some (va_rf o96), some (va_rf o144), none, none, none, none, none, none, none, none] [.int (zI (sI (sI (sI (sI (sI (sI (sI μ148 29 0 (zI μ148 b152 9)) 29 1 0) 29 2 0) 29 3 0) 29 4 0) 29 5 0) 29 6 0) a1 3)] (sI (sI (sI (sI (sI (sI (sI μ148 29 0 (zI μ148 b152 9)) 29 1 0) 29 2 0) 29 3 0) 29 4 0) 29 5 0) 29 6 0) K) ∧
                    (∀ b163, o144 = some b163 →
                      (zK (sI (sI (sI (sI (sI (sI (sI μ148 29 0 (zI μ148 b152 9)) 29 1 0) 29 2 0) 29 3 0) 29 4 0) 29 5 0) 29 6 0) b163 = 9) ∧
                      (((zI (sI (sI (sI (sI (sI (sI (sI μ148 29 0 (zI μ148 b152 9)) 29 1 0) 29 2 0) 29 3 0) 29 4 0) 29 5 0) 29 6 0) b163 5) &&& ((1 : Int32) <<< ((0 : Int32) &&& 31))) = 0 →
                        AW E l (d + 5) nc ns mX10_judge 81 [some (.ref 11), some (.ref a1), none, some (va_rf o96), some (va_rf o144), none, none, none, none, none, none, none, none] [.int (zI (sI (sI (sI (sI (sI (sI (sI μ148 29 0 (zI μ148 b152 9)) 29 1 0) 29 2 0) 29 3 0) 29 4 0) 29 5 0) 29 6 0) a1 3)] (sI (sI (sI (sI (sI (sI (sI μ148 29 0 (zI μ148 b152 9)) 29 1 0) 29 2 0) 29 3 0) 29 4 0) 29 5 0) 29 6 0) K) ∧
                      (¬ ((zI (sI (sI (sI (sI (sI (sI (sI μ148 29 0 (zI μ148 b152 9)) 29 1 0) 29 2 0) 29 3 0) 29 4 0) 29 5 0) 29 6 0) b163 5) &&& ((1 : Int32) <<< ((0 : Int32) &&& 31))) = 0 →
                        AW E l (d + 5) nc ns mX10_judge 70 [some (.ref 11), some (.ref a1), none, some (va_rf o96), some (va_rf o144), none, none, none, none, none, none, none, none] [] (sI (sI (sI (sI (sI (sI (sI μ148 29 0 (zI μ148 b152 9)) 29 1 0) 29 2 0) 29 3 0) 29 4 0) 29 5 0) 29 6 0) K))) ∧
                  (¬ ((zI (sI (sI (sI (sI (sI (sI (sI μ148 29 0 (zI μ148 b152 9)) 29 1 0) 29 2 0) 29 3 0) 29 4 0) 29 5 0) 29 6 0) b155 5) &&& ((1 : Int32) <<< ((0 : Int32) &&& 31))) = 0 →
                    AW E l (d + 5) nc ns mX10_judge 70 [some (.ref 11), some (.ref a1), none, some (va_rf o96), some (va_rf o144), none, none, none, none, none, none, none, none] [] (sI (sI (sI (sI (sI (sI (sI μ148 29 0 (zI μ148 b152 9)) 29 1 0) 29 2 0) 29 3 0) 29 4 0) 29 5 0) 29 6 0) K))))) ∧
          (∀ b147, zA μ142 a1 0 = some b147 →
            AW E l (d + 4) 0 0 mX10_tellSale 0 (zargs 4 [.ref 11, .ref b147, .int (zI μ142 a1 1), .int (zI μ142 a1 2)]) [] μ142 (fun v μ166 => v = none ∧ Stat μ166 ∧ 
              (zK μ166 a1 = 0) ∧
              (zA μ166 a1 0 = none →
                False) ∧
              (∀ b170, zA μ166 a1 0 = some b170 →
                (zK μ166 b170 = 7) ∧
                (o96 = none →
                  (o144 = none →
                    AW E l (d + 5) nc ns mX10_judge 81 [some (.ref 11), some (.ref a1), none, some (va_rf o96), some (va_rf o144), none, none, none, none, none, none, none, none] [.int (zI (sI (sI (sI (sI (sI (sI (sI μ166 29 0 (zI μ166 b170 9)) 29 1 0) 29 2 0) 29 3 0) 29 4 0) 29 5 0) 29 6 0) a1 3)] (sI (sI (sI (sI (sI (sI (sI μ166 29 0 (zI μ166 b170 9)) 29 1 0) 29 2 0) 29 3 0) 29 4 0) 29 5 0) 29 6 0) K) ∧
                  (∀ b175, o144 = some b175 →
                    (zK (sI (sI (sI (sI (sI (sI (sI μ166 29 0 (zI μ166 b170 9)) 29 1 0) 29 2 0) 29 3 0) 29 4 0) 29 5 0) 29 6 0) b175 = 9) ∧
                    (((zI (sI (sI (sI (sI (sI (sI (sI μ166 29 0 (zI μ166 b170 9)) 29 1 0) 29 2 0) 29 3 0) 29 4 0) 29 5 0) 29 6 0) b175 5) &&& ((1 : Int32) <<< ((0 : Int32) &&& 31))) = 0 →
                      AW E l (d + 5) nc ns mX10_judge 81 [some (.ref 11), some (.ref a1), none, some (va_rf o96), some (va_rf o144), none, none, none, none, none, none, none, none] [.int (zI (sI (sI (sI (sI (sI (sI (sI μ166 29 0 (zI μ166 b170 9)) 29 1 0) 29 2 0) 29 3 0) 29 4 0) 29 5 0) 29 6 0) a1 3)] (sI (sI (sI (sI (sI (sI (sI μ166 29 0 (zI μ166 b170 9)) 29 1 0) 29 2 0) 29 3 0) 29 4 0) 29 5 0) 29 6 0) K) ∧
                    (¬ ((zI (sI (sI (sI (sI (sI (sI (sI μ166 29 0 (zI μ166 b170 9)) 29 1 0) 29 2 0) 29 3 0) 29 4 0) 29 5 0) 29 6 0) b175 5) &&& ((1 : Int32) <<< ((0 : Int32) &&& 31))) = 0 →
                      AW E l (d + 5) nc ns mX10_judge 70 [some (.ref 11), some (.ref a1), none, some (va_rf o96), some (va_rf o144), none, none, none, none, none, none, none, none] [] (sI (sI (sI (sI (sI (sI (sI μ166 29 0 (zI μ166 b170 9)) 29 1 0) 29 2 0) 29 3 0) 29 4 0) 29 5 0) 29 6 0) K))) ∧
                (∀ b173, o96 = some b173 →
                  (zK (sI (sI (sI (sI (sI (sI (sI μ166 29 0 (zI μ166 b170 9)) 29 1 0) 29 2 0) 29 3 0) 29 4 0) 29 5 0) 29 6 0) b173 = 9) ∧
                  (((zI (sI (sI (sI (sI (sI (sI (sI μ166 29 0 (zI μ166 b170 9)) 29 1 0) 29 2 0) 29 3 0) 29 4 0) 29 5 0) 29 6 0) b173 5) &&& ((1 : Int32) <<< ((0 : Int32) &&& 31))) = 0 →
                    (o144 = none →
                      AW E l (d + 5) nc ns mX10_judge 81 [some (.ref 11), some (.ref a1), none, some (va_rf o96), some (va_rf o144), none, none, none, none, none, none, none, none] [.int (zI (sI (sI (sI (sI (sI (sI (sI μ166 29 0 (zI μ166 b170 9)) 29 1 0) 29 2 0) 29 3 0) 29 4 0) 29 5 0) 29 6 0) a1 3)] (sI (sI (sI (sI (sI (sI (sI μ166 29 0 (zI μ166 b170 9)) 29 1 0) 29 2 0) 29 3 0) 29 4 0) 29 5 0) 29 6 0) K) ∧
                    (∀ b181, o144 = some b181 →
                      (zK (sI (sI (sI (sI (sI (sI (sI μ166 29 0 (zI μ166 b170 9)) 29 1 0) 29 2 0) 29 3 0) 29 4 0) 29 5 0) 29 6 0) b181 = 9) ∧
                      (((zI (sI (sI (sI (sI (sI (sI (sI μ166 29 0 (zI μ166 b170 9)) 29 1 0) 29 2 0) 29 3 0) 29 4 0) 29 5 0) 29 6 0) b181 5) &&& ((1 : Int32) <<< ((0 : Int32) &&& 31))) = 0 →
                        AW E l (d + 5) nc ns mX10_judge 81 [some (.ref 11), some (.ref a1), none, some (va_rf o96), some (va_rf o144), none, none, none, none, none, none, none, none] [.int (zI (sI (sI (sI (sI (sI (sI (sI μ166 29 0 (zI μ166 b170 9)) 29 1 0) 29 2 0) 29 3 0) 29 4 0) 29 5 0) 29 6 0) a1 3)] (sI (sI (sI (sI (sI (sI (sI μ166 29 0 (zI μ166 b170 9)) 29 1 0) 29 2 0) 29 3 0) 29 4 0) 29 5 0) 29 6 0) K) ∧
                      (¬ ((zI (sI (sI (sI (sI (sI (sI (sI μ166 29 0 (zI μ166 b170 9)) 29 1 0) 29 2 0) 29 3 0) 29 4 0) 29 5 0) 29 6 0) b181 5) &&& ((1 : Int32) <<< ((0 : Int32) &&& 31))) = 0 →
                        AW E l (d + 5) nc ns mX10_judge 70 [some (.ref 11), some (.ref a1), none, some (va_rf o96), some (va_rf o144), none, none, none, none, none, none, none, none] [] (sI (sI (sI (sI (sI (sI (sI μ166 29 0 (zI μ166 b170 9)) 29 1 0) 29 2 0) 29 3 0) 29 4 0) 29 5 0) 29 6 0) K))) ∧
                  (¬ ((zI (sI (sI (sI (sI (sI (sI (sI μ166 29 0 (zI μ166 b170 9)) 29 1 0) 29 2 0) 29 3 0) 29 4 0) 29 5 0) 29 6 0) b173 5) &&& ((1 : Int32) <<< ((0 : Int32) &&& 31))) = 0 →
                    AW E l (d + 5) nc ns mX10_judge 70 [some (.ref 11), some (.ref a1), none, some (va_rf o96), some (va_rf o144), none, none, none, none, none, none, none, none] [] (sI (sI (sI (sI (sI (sI (sI μ166 29 0 (zI μ166 b170 9)) 29 1 0) 29 2 0) 29 3 0) 29 4 0) 29 5 0) 29 6 0) K)))))))))) : AW E l (d + 5) nc ns mX10_judge 0 [some (.ref 11), some (.ref a1), some (.int x2), none, none, none, none, none, none, none, none, none, none] [] μ K := by
  obtain ⟨g1, h⟩ := h
  refine aw_aload_n (pc' := 1) (dt_X10_judge 0 (0, .aload_n 0, 1) rfl) rfl rfl (aw_iconst (pc' := 2) (v := 0) (dt_X10_judge 1 (1, .iconst 0, 1) rfl) (by decide) rfl (aw_aload_n (pc' := 3) (dt_X10_judge 2 (2, .aload_n 1, 1) rfl) rfl rfl (aw_getA (pc' := 6) (dt_X10_judge 3 (3, .getfield 271, 3) rfl) fl_ReturnDesk_271 rfl rfl g1 ?_ ?_)))
  · intro e2
    have h := h.1 e2
    refine aw_iload_n (pc' := 7) (dt_X10_judge 4 (6, .iload_n 2, 1) rfl) rfl rfl (aw_callV0 (pc' := 10) (nc := nc) (ns := ns) (y2 := mX10_textFor) (As := [.int 0, .null, .int x2]) (rest := []) (a := 11) (dt_X10_judge 5 (7, .invokevirtual 222, 3) rfl) ok_X10_textFor ln_ReturnDesk_222 im_X10_textFor se_X10_textFor pr_X10_textFor (Or.inl ⟨by decide, rfl⟩) rfl (Nat.le_of_ble_eq_true rfl) (Nat.le_of_ble_eq_true rfl) rfl (sk_11 hS) h ?_)
    rintro v μ4 ⟨o6, rfl, hS5, h⟩
    refine aw_stk (st' := [va_rf o6]) rfl ?_
    obtain ⟨g7, h⟩ := h
    refine aw_astore_nO (pc' := 11) (ls' := [some (.ref 11), some (.ref a1), some (.int x2), some (va_rf o6), none, none, none, none, none, none, none, none, none]) (dt_X10_judge 6 (10, .astore_n 3, 1) rfl) (by decide) rfl rfl (aw_aload_n (pc' := 12) (dt_X10_judge 7 (11, .aload_n 0, 1) rfl) rfl rfl (aw_iconst (pc' := 13) (v := 1) (dt_X10_judge 8 (12, .iconst 1, 1) rfl) (by decide) rfl (aw_aload_n (pc' := 14) (dt_X10_judge 9 (13, .aload_n 1, 1) rfl) rfl rfl (aw_getA (pc' := 17) (dt_X10_judge 10 (14, .getfield 271, 3) rfl) fl_ReturnDesk_271 rfl rfl g7 ?_ ?_))))
    · intro e8
      have h := h.1 e8
      refine aw_iload_n (pc' := 18) (dt_X10_judge 11 (17, .iload_n 2, 1) rfl) rfl rfl (aw_callV0 (pc' := 21) (nc := nc) (ns := ns) (y2 := mX10_textFor) (As := [.int 1, .null, .int x2]) (rest := []) (a := 11) (dt_X10_judge 12 (18, .invokevirtual 222, 3) rfl) ok_X10_textFor ln_ReturnDesk_222 im_X10_textFor se_X10_textFor pr_X10_textFor (Or.inl ⟨by decide, rfl⟩) rfl (Nat.le_of_ble_eq_true rfl) (Nat.le_of_ble_eq_true rfl) rfl (sk_11 hS5) h ?_)
      rintro v μ10 ⟨o12, rfl, hS11, h⟩
      refine aw_stk (st' := [va_rf o12]) rfl ?_
      obtain ⟨g13, h⟩ := h
      refine aw_astoreO (pc' := 23) (ls' := [some (.ref 11), some (.ref a1), some (.int x2), some (va_rf o6), some (va_rf o12), none, none, none, none, none, none, none, none]) (dt_X10_judge 13 (21, .astore 4, 2) rfl) (by decide) (zset1_o (j := 3) rfl (zcat_rf _) rfl) rfl (aw_aload_n (pc' := 24) (dt_X10_judge 14 (23, .aload_n 0, 1) rfl) rfl rfl (aw_aload_n (pc' := 25) (dt_X10_judge 15 (24, .aload_n 1, 1) rfl) rfl rfl (aw_getA (pc' := 28) (dt_X10_judge 16 (25, .getfield 271, 3) rfl) fl_ReturnDesk_271 rfl rfl g13 ?_ ?_)))
      · intro e14
        have h := h.1 e14
        refine aw_aload_n (pc' := 29) (dt_X10_judge 17 (28, .aload_n 1, 1) rfl) rfl rfl (aw_getI (pc' := 32) (dt_X10_judge 18 (29, .getfield 278, 3) rfl) fl_ReturnDesk_278 rfl rfl g13 (aw_aload_n (pc' := 33) (dt_X10_judge 19 (32, .aload_n 1, 1) rfl) rfl rfl (aw_getI (pc' := 36) (dt_X10_judge 20 (33, .getfield 268, 3) rfl) fl_ReturnDesk_268 rfl rfl g13 (aw_callV0 (pc' := 39) (nc := nc) (ns := ns) (y2 := mX10_tellSale) (As := [.null, .int (zI μ10 a1 1), .int (zI μ10 a1 2)]) (rest := []) (a := 11) (dt_X10_judge 21 (36, .invokevirtual 230, 3) rfl) ok_X10_tellSale ln_ReturnDesk_230 im_X10_tellSale se_X10_tellSale pr_X10_tellSale (Or.inl ⟨by decide, rfl⟩) rfl (Nat.le_of_ble_eq_true rfl) (Nat.le_of_ble_eq_true rfl) rfl (sk_11 hS11) h ?_))))
        rintro v μ16 ⟨rfl, hS17, h⟩
        refine aw_stk (st' := []) rfl ?_
        obtain ⟨g18, h⟩ := h
        refine aw_aload_n (pc' := 40) (dt_X10_judge 22 (39, .aload_n 0, 1) rfl) rfl rfl (aw_getAs (pc' := 43) (dt_X10_judge 23 (40, .getfield 68, 3) rfl) fl_ReturnDesk_68 rfl rfl (sk_11 hS17) (sa_11_9 hS17) (aw_aload_n (pc' := 44) (dt_X10_judge 24 (43, .aload_n 1, 1) rfl) rfl rfl (aw_getA (pc' := 47) (dt_X10_judge 25 (44, .getfield 271, 3) rfl) fl_ReturnDesk_271 rfl rfl g18 ?_ ?_)))
        · intro e19
          have h := h.1 e19
          exact h.elim
        · intro b20 e19
          have h := h.2 b20 e19
          obtain ⟨g21, h⟩ := h
          refine aw_getI (pc' := 50) (dt_X10_judge 26 (47, .getfield 145, 3) rfl) fl_ReturnDesk_145 rfl rfl g21 (aw_inV (pc' := 53) (nc1 := 0) (ns1 := 0) (nc := nc) (ns := ns) (ls' := [some (.ref 29), some (.int (zI μ16 b20 9))]) (y2 := mX1_start) (As := [.int (zI μ16 b20 9)]) (rest := []) (a := 29) (dt_X10_judge 27 (50, .invokevirtual 468, 3) rfl) ok_X1_start ln_ReturnDesk_468 im_X1_start se_X1_start pr_X1_start (Or.inl ⟨by decide, rfl⟩) rfl (Nat.le_of_ble_eq_true rfl) (Nat.le_of_ble_eq_true rfl) rfl rfl (sk_29 hS17) (aw_aload_n (pc' := 1) (dt_X1_start 0 (0, .aload_n 0, 1) rfl) rfl rfl (aw_iload_n (pc' := 2) (dt_X1_start 1 (1, .iload_n 1, 1) rfl) rfl rfl (aw_putI (pc' := 5) (dt_X1_start 2 (2, .putfield 9, 3) rfl) fl_Judgement_9 rfl (by decide +kernel) rfl (sk_29 hS17) (aw_aload_n (pc' := 6) (dt_X1_start 3 (5, .aload_n 0, 1) rfl) rfl rfl (aw_iconst (pc' := 7) (v := 0) (dt_X1_start 4 (6, .iconst 0, 1) rfl) (by decide) rfl (aw_putZ (pc' := 10) (dt_X1_start 5 (7, .putfield 15, 3) rfl) fl_Judgement_15 rfl (by decide +kernel) rfl (sk_29 hS17.wI) (by decide) (aw_aload_n (pc' := 11) (dt_X1_start 6 (10, .aload_n 0, 1) rfl) rfl rfl (aw_iconst (pc' := 12) (v := 0) (dt_X1_start 7 (11, .iconst 0, 1) rfl) (by decide) rfl (aw_putI (pc' := 15) (dt_X1_start 8 (12, .putfield 19, 3) rfl) fl_Judgement_19 rfl (by decide +kernel) rfl (sk_29 hS17.wI.wI) (aw_aload_n (pc' := 16) (dt_X1_start 9 (15, .aload_n 0, 1) rfl) rfl rfl (aw_iconst (pc' := 17) (v := 0) (dt_X1_start 10 (16, .iconst 0, 1) rfl) (by decide) rfl (aw_putI (pc' := 20) (dt_X1_start 11 (17, .putfield 22, 3) rfl) fl_Judgement_22 rfl (by decide +kernel) rfl (sk_29 hS17.wI.wI.wI) (aw_aload_n (pc' := 21) (dt_X1_start 12 (20, .aload_n 0, 1) rfl) rfl rfl (aw_iconst (pc' := 22) (v := 0) (dt_X1_start 13 (21, .iconst 0, 1) rfl) (by decide) rfl (aw_putI (pc' := 25) (dt_X1_start 14 (22, .putfield 25, 3) rfl) fl_Judgement_25 rfl (by decide +kernel) rfl (sk_29 hS17.wI.wI.wI.wI) (aw_aload_n (pc' := 26) (dt_X1_start 15 (25, .aload_n 0, 1) rfl) rfl rfl (aw_iconst (pc' := 27) (v := 0) (dt_X1_start 16 (26, .iconst 0, 1) rfl) (by decide) rfl (aw_putI (pc' := 30) (dt_X1_start 17 (27, .putfield 28, 3) rfl) fl_Judgement_28 rfl (by decide +kernel) rfl (sk_29 hS17.wI.wI.wI.wI.wI) (aw_aload_n (pc' := 31) (dt_X1_start 18 (30, .aload_n 0, 1) rfl) rfl rfl (aw_iconst (pc' := 32) (v := 0) (dt_X1_start 19 (31, .iconst 0, 1) rfl) (by decide) rfl (aw_putI (pc' := 35) (dt_X1_start 20 (32, .putfield 31, 3) rfl) fl_Judgement_31 rfl (by decide +kernel) rfl (sk_29 hS17.wI.wI.wI.wI.wI.wI) (aw_ret (dt_X1_start 21 (35, .return_, 1) rfl) rfl (aw_stk (st' := []) rfl (aw_aload_nO (pc' := 54) (dt_X10_judge 28 (53, .aload_n 3, 1) rfl) rfl rfl (aw_iconst (pc' := 55) (v := 0) (dt_X10_judge 29 (54, .iconst 0, 1) rfl) (by decide) rfl (aw_inS (pc' := 58) (nc1 := 0) (ns1 := 0) (nc := nc) (ns := ns) (ls' := [some (va_rf o6), some (.int 0)]) (y2 := mX10_names) (As := [va_rf o6, .int 0]) (rest := []) (dt_X10_judge 30 (55, .invokestatic 471, 3) rfl) ok_X10_names ln_ReturnDesk_471 sm_X10_names pr_X10_names rfl ((fun o => by cases o <;> exact Nat.le_of_ble_eq_true rfl : ∀ o : Option Nat, (zaf [va_rf o, .int 0]).length ≤ mX10_names.2.2.1) o6) (Nat.le_of_ble_eq_true rfl) rfl ((fun o => by cases o <;> rfl : ∀ o : Option Nat, zargs mX10_names.2.2.1 [va_rf o, .int 0] = [some (va_rf o), some (.int 0)]) o6) (aw_aload_nO (pc' := 1) (dt_X10_names 0 (0, .aload_n 0, 1) rfl) rfl rfl (aw_ifnullO (pc' := 4) (tgt := 19) (dt_X10_names 1 (1, .ifnull 18, 3) rfl) (by decide) rfl ?_ ?_)))))))))))))))))))))))))))))
          · intro e22
            have h := h.1 e22
            refine aw_iconst (pc' := 20) (v := 0) (dt_X10_names 11 (19, .iconst 0, 1) rfl) (by decide) rfl (aw_iret (dt_X10_names 12 (20, .ireturn, 1) rfl) rfl rfl (aw_stk (st' := [.int 0]) rfl (aw_if_ne_F (pc' := 61) (tgt := 70) (dt_X10_judge 31 (58, .ifCond .ne 12, 3) rfl) (by decide) rfl (by decide) (aw_aloadO (pc' := 63) (dt_X10_judge 32 (61, .aload 4, 2) rfl) rfl rfl (aw_iconst (pc' := 64) (v := 0) (dt_X10_judge 33 (63, .iconst 0, 1) rfl) (by decide) rfl (aw_inS (pc' := 67) (nc1 := 0) (ns1 := 0) (nc := nc) (ns := ns) (ls' := [some (va_rf o12), some (.int 0)]) (y2 := mX10_names) (As := [va_rf o12, .int 0]) (rest := []) (dt_X10_judge 34 (64, .invokestatic 471, 3) rfl) ok_X10_names ln_ReturnDesk_471 sm_X10_names pr_X10_names rfl ((fun o => by cases o <;> exact Nat.le_of_ble_eq_true rfl : ∀ o : Option Nat, (zaf [va_rf o, .int 0]).length ≤ mX10_names.2.2.1) o12) (Nat.le_of_ble_eq_true rfl) rfl ((fun o => by cases o <;> rfl : ∀ o : Option Nat, zargs mX10_names.2.2.1 [va_rf o, .int 0] = [some (va_rf o), some (.int 0)]) o12) (aw_aload_nO (pc' := 1) (dt_X10_names 0 (0, .aload_n 0, 1) rfl) rfl rfl (aw_ifnullO (pc' := 4) (tgt := 19) (dt_X10_names 1 (1, .ifnull 18, 3) rfl) (by decide) rfl ?_ ?_))))))))
            · intro e24
              have h := h.1 e24
              refine aw_iconst (pc' := 20) (v := 0) (dt_X10_names 11 (19, .iconst 0, 1) rfl) (by decide) rfl (aw_iret (dt_X10_names 12 (20, .ireturn, 1) rfl) rfl rfl (aw_stk (st' := [.int 0]) rfl (aw_if_eq_T (pc' := 70) (tgt := 77) (dt_X10_judge 35 (67, .ifCond .eq 10, 3) rfl) (by decide) rfl (by decide) (aw_aload_n (pc' := 78) (dt_X10_judge 39 (77, .aload_n 1, 1) rfl) rfl rfl (aw_getI (pc' := 81) (dt_X10_judge 40 (78, .getfield 478, 3) rfl) fl_ReturnDesk_478 rfl rfl g18 (aw_drop (ls' := [some (.ref 11), some (.ref a1), none, some (va_rf o6), some (va_rf o12), none, none, none, none, none, none, none, none]) ⟨rfl, rfl, rfl, rfl, trivial⟩ ?_))))))
              exact h
            · intro b25 e24
              have h := h.2 b25 e24
              obtain ⟨g26, h⟩ := h
              refine aw_aload_nO (pc' := 5) (dt_X10_names 2 (4, .aload_n 0, 1) rfl) rfl rfl (aw_rf e24 (aw_getI (pc' := 8) (dt_X10_names 3 (5, .getfield 458, 3) rfl) fl_ReturnDesk_458 rfl rfl g26 (aw_iconst (pc' := 9) (v := 1) (dt_X10_names 4 (8, .iconst 1, 1) rfl) (by decide) rfl (aw_iload_n (pc' := 10) (dt_X10_names 5 (9, .iload_n 1, 1) rfl) rfl rfl (aw_ishl (pc' := 11) (dt_X10_names 6 (10, .ishl, 1) rfl) rfl (aw_iand (pc' := 12) (dt_X10_names 7 (11, .iand, 1) rfl) rfl (aw_if_eq (pc' := 15) (tgt := 19) (dt_X10_names 8 (12, .ifCond .eq 7, 3) rfl) (by decide) rfl ?_ ?_)))))))
              · intro q27
                have h := h.1 q27
                refine aw_iconst (pc' := 20) (v := 0) (dt_X10_names 11 (19, .iconst 0, 1) rfl) (by decide) rfl (aw_iret (dt_X10_names 12 (20, .ireturn, 1) rfl) rfl rfl (aw_stk (st' := [.int 0]) rfl (aw_if_eq_T (pc' := 70) (tgt := 77) (dt_X10_judge 35 (67, .ifCond .eq 10, 3) rfl) (by decide) rfl (by decide) (aw_aload_n (pc' := 78) (dt_X10_judge 39 (77, .aload_n 1, 1) rfl) rfl rfl (aw_getI (pc' := 81) (dt_X10_judge 40 (78, .getfield 478, 3) rfl) fl_ReturnDesk_478 rfl rfl g18 (aw_drop (ls' := [some (.ref 11), some (.ref a1), none, some (va_rf o6), some (va_rf o12), none, none, none, none, none, none, none, none]) ⟨rfl, rfl, rfl, rfl, trivial⟩ ?_))))))
                exact h
              · intro q27
                have h := h.2 q27
                refine aw_iconst (pc' := 16) (v := 1) (dt_X10_names 9 (15, .iconst 1, 1) rfl) (by decide) rfl (aw_goto (tgt := 20) (dt_X10_names 10 (16, .goto 4, 3) rfl) (by decide) (aw_iret (dt_X10_names 12 (20, .ireturn, 1) rfl) rfl rfl (aw_stk (st' := [.int 1]) rfl (aw_if_eq_F (pc' := 70) (tgt := 77) (dt_X10_judge 35 (67, .ifCond .eq 10, 3) rfl) (by decide) rfl (by decide) (aw_drop (ls' := [some (.ref 11), some (.ref a1), none, some (va_rf o6), some (va_rf o12), none, none, none, none, none, none, none, none]) ⟨rfl, rfl, rfl, rfl, trivial⟩ ?_)))))
                exact h
          · intro b23 e22
            have h := h.2 b23 e22
            obtain ⟨g28, h⟩ := h
            refine aw_aload_nO (pc' := 5) (dt_X10_names 2 (4, .aload_n 0, 1) rfl) rfl rfl (aw_rf e22 (aw_getI (pc' := 8) (dt_X10_names 3 (5, .getfield 458, 3) rfl) fl_ReturnDesk_458 rfl rfl g28 (aw_iconst (pc' := 9) (v := 1) (dt_X10_names 4 (8, .iconst 1, 1) rfl) (by decide) rfl (aw_iload_n (pc' := 10) (dt_X10_names 5 (9, .iload_n 1, 1) rfl) rfl rfl (aw_ishl (pc' := 11) (dt_X10_names 6 (10, .ishl, 1) rfl) rfl (aw_iand (pc' := 12) (dt_X10_names 7 (11, .iand, 1) rfl) rfl (aw_if_eq (pc' := 15) (tgt := 19) (dt_X10_names 8 (12, .ifCond .eq 7, 3) rfl) (by decide) rfl ?_ ?_)))))))
            · intro q29
              have h := h.1 q29
              refine aw_iconst (pc' := 20) (v := 0) (dt_X10_names 11 (19, .iconst 0, 1) rfl) (by decide) rfl (aw_iret (dt_X10_names 12 (20, .ireturn, 1) rfl) rfl rfl (aw_stk (st' := [.int 0]) rfl (aw_if_ne_F (pc' := 61) (tgt := 70) (dt_X10_judge 31 (58, .ifCond .ne 12, 3) rfl) (by decide) rfl (by decide) (aw_aloadO (pc' := 63) (dt_X10_judge 32 (61, .aload 4, 2) rfl) rfl rfl (aw_iconst (pc' := 64) (v := 0) (dt_X10_judge 33 (63, .iconst 0, 1) rfl) (by decide) rfl (aw_inS (pc' := 67) (nc1 := 0) (ns1 := 0) (nc := nc) (ns := ns) (ls' := [some (va_rf o12), some (.int 0)]) (y2 := mX10_names) (As := [va_rf o12, .int 0]) (rest := []) (dt_X10_judge 34 (64, .invokestatic 471, 3) rfl) ok_X10_names ln_ReturnDesk_471 sm_X10_names pr_X10_names rfl ((fun o => by cases o <;> exact Nat.le_of_ble_eq_true rfl : ∀ o : Option Nat, (zaf [va_rf o, .int 0]).length ≤ mX10_names.2.2.1) o12) (Nat.le_of_ble_eq_true rfl) rfl ((fun o => by cases o <;> rfl : ∀ o : Option Nat, zargs mX10_names.2.2.1 [va_rf o, .int 0] = [some (va_rf o), some (.int 0)]) o12) (aw_aload_nO (pc' := 1) (dt_X10_names 0 (0, .aload_n 0, 1) rfl) rfl rfl (aw_ifnullO (pc' := 4) (tgt := 19) (dt_X10_names 1 (1, .ifnull 18, 3) rfl) (by decide) rfl ?_ ?_))))))))
              · intro e30
                have h := h.1 e30
                refine aw_iconst (pc' := 20) (v := 0) (dt_X10_names 11 (19, .iconst 0, 1) rfl) (by decide) rfl (aw_iret (dt_X10_names 12 (20, .ireturn, 1) rfl) rfl rfl (aw_stk (st' := [.int 0]) rfl (aw_if_eq_T (pc' := 70) (tgt := 77) (dt_X10_judge 35 (67, .ifCond .eq 10, 3) rfl) (by decide) rfl (by decide) (aw_aload_n (pc' := 78) (dt_X10_judge 39 (77, .aload_n 1, 1) rfl) rfl rfl (aw_getI (pc' := 81) (dt_X10_judge 40 (78, .getfield 478, 3) rfl) fl_ReturnDesk_478 rfl rfl g18 (aw_drop (ls' := [some (.ref 11), some (.ref a1), none, some (va_rf o6), some (va_rf o12), none, none, none, none, none, none, none, none]) ⟨rfl, rfl, rfl, rfl, trivial⟩ ?_))))))
                exact h
              · intro b31 e30
                have h := h.2 b31 e30
                obtain ⟨g32, h⟩ := h
                refine aw_aload_nO (pc' := 5) (dt_X10_names 2 (4, .aload_n 0, 1) rfl) rfl rfl (aw_rf e30 (aw_getI (pc' := 8) (dt_X10_names 3 (5, .getfield 458, 3) rfl) fl_ReturnDesk_458 rfl rfl g32 (aw_iconst (pc' := 9) (v := 1) (dt_X10_names 4 (8, .iconst 1, 1) rfl) (by decide) rfl (aw_iload_n (pc' := 10) (dt_X10_names 5 (9, .iload_n 1, 1) rfl) rfl rfl (aw_ishl (pc' := 11) (dt_X10_names 6 (10, .ishl, 1) rfl) rfl (aw_iand (pc' := 12) (dt_X10_names 7 (11, .iand, 1) rfl) rfl (aw_if_eq (pc' := 15) (tgt := 19) (dt_X10_names 8 (12, .ifCond .eq 7, 3) rfl) (by decide) rfl ?_ ?_)))))))
                · intro q33
                  have h := h.1 q33
                  refine aw_iconst (pc' := 20) (v := 0) (dt_X10_names 11 (19, .iconst 0, 1) rfl) (by decide) rfl (aw_iret (dt_X10_names 12 (20, .ireturn, 1) rfl) rfl rfl (aw_stk (st' := [.int 0]) rfl (aw_if_eq_T (pc' := 70) (tgt := 77) (dt_X10_judge 35 (67, .ifCond .eq 10, 3) rfl) (by decide) rfl (by decide) (aw_aload_n (pc' := 78) (dt_X10_judge 39 (77, .aload_n 1, 1) rfl) rfl rfl (aw_getI (pc' := 81) (dt_X10_judge 40 (78, .getfield 478, 3) rfl) fl_ReturnDesk_478 rfl rfl g18 (aw_drop (ls' := [some (.ref 11), some (.ref a1), none, some (va_rf o6), some (va_rf o12), none, none, none, none, none, none, none, none]) ⟨rfl, rfl, rfl, rfl, trivial⟩ ?_))))))
                  exact h
                · intro q33
                  have h := h.2 q33
                  refine aw_iconst (pc' := 16) (v := 1) (dt_X10_names 9 (15, .iconst 1, 1) rfl) (by decide) rfl (aw_goto (tgt := 20) (dt_X10_names 10 (16, .goto 4, 3) rfl) (by decide) (aw_iret (dt_X10_names 12 (20, .ireturn, 1) rfl) rfl rfl (aw_stk (st' := [.int 1]) rfl (aw_if_eq_F (pc' := 70) (tgt := 77) (dt_X10_judge 35 (67, .ifCond .eq 10, 3) rfl) (by decide) rfl (by decide) (aw_drop (ls' := [some (.ref 11), some (.ref a1), none, some (va_rf o6), some (va_rf o12), none, none, none, none, none, none, none, none]) ⟨rfl, rfl, rfl, rfl, trivial⟩ ?_)))))
                  exact h
            · intro q29
              have h := h.2 q29
              refine aw_iconst (pc' := 16) (v := 1) (dt_X10_names 9 (15, .iconst 1, 1) rfl) (by decide) rfl (aw_goto (tgt := 20) (dt_X10_names 10 (16, .goto 4, 3) rfl) (by decide) (aw_iret (dt_X10_names 12 (20, .ireturn, 1) rfl) rfl rfl (aw_stk (st' := [.int 1]) rfl (aw_if_ne_T (pc' := 61) (tgt := 70) (dt_X10_judge 31 (58, .ifCond .ne 12, 3) rfl) (by decide) rfl (by decide) (aw_drop (ls' := [some (.ref 11), some (.ref a1), none, some (va_rf o6), some (va_rf o12), none, none, none, none, none, none, none, none]) ⟨rfl, rfl, rfl, rfl, trivial⟩ ?_)))))
              exact h
      · intro b15 e14
        have h := h.2 b15 e14
        refine aw_aload_n (pc' := 29) (dt_X10_judge 17 (28, .aload_n 1, 1) rfl) rfl rfl (aw_getI (pc' := 32) (dt_X10_judge 18 (29, .getfield 278, 3) rfl) fl_ReturnDesk_278 rfl rfl g13 (aw_aload_n (pc' := 33) (dt_X10_judge 19 (32, .aload_n 1, 1) rfl) rfl rfl (aw_getI (pc' := 36) (dt_X10_judge 20 (33, .getfield 268, 3) rfl) fl_ReturnDesk_268 rfl rfl g13 (aw_callV0 (pc' := 39) (nc := nc) (ns := ns) (y2 := mX10_tellSale) (As := [.ref b15, .int (zI μ10 a1 1), .int (zI μ10 a1 2)]) (rest := []) (a := 11) (dt_X10_judge 21 (36, .invokevirtual 230, 3) rfl) ok_X10_tellSale ln_ReturnDesk_230 im_X10_tellSale se_X10_tellSale pr_X10_tellSale (Or.inl ⟨by decide, rfl⟩) rfl (Nat.le_of_ble_eq_true rfl) (Nat.le_of_ble_eq_true rfl) rfl (sk_11 hS11) h ?_))))
        rintro v μ34 ⟨rfl, hS35, h⟩
        refine aw_stk (st' := []) rfl ?_
        obtain ⟨g36, h⟩ := h
        refine aw_aload_n (pc' := 40) (dt_X10_judge 22 (39, .aload_n 0, 1) rfl) rfl rfl (aw_getAs (pc' := 43) (dt_X10_judge 23 (40, .getfield 68, 3) rfl) fl_ReturnDesk_68 rfl rfl (sk_11 hS35) (sa_11_9 hS35) (aw_aload_n (pc' := 44) (dt_X10_judge 24 (43, .aload_n 1, 1) rfl) rfl rfl (aw_getA (pc' := 47) (dt_X10_judge 25 (44, .getfield 271, 3) rfl) fl_ReturnDesk_271 rfl rfl g36 ?_ ?_)))
        · intro e37
          have h := h.1 e37
          exact h.elim
        · intro b38 e37
          have h := h.2 b38 e37
          obtain ⟨g39, h⟩ := h
          refine aw_getI (pc' := 50) (dt_X10_judge 26 (47, .getfield 145, 3) rfl) fl_ReturnDesk_145 rfl rfl g39 (aw_inV (pc' := 53) (nc1 := 0) (ns1 := 0) (nc := nc) (ns := ns) (ls' := [some (.ref 29), some (.int (zI μ34 b38 9))]) (y2 := mX1_start) (As := [.int (zI μ34 b38 9)]) (rest := []) (a := 29) (dt_X10_judge 27 (50, .invokevirtual 468, 3) rfl) ok_X1_start ln_ReturnDesk_468 im_X1_start se_X1_start pr_X1_start (Or.inl ⟨by decide, rfl⟩) rfl (Nat.le_of_ble_eq_true rfl) (Nat.le_of_ble_eq_true rfl) rfl rfl (sk_29 hS35) (aw_aload_n (pc' := 1) (dt_X1_start 0 (0, .aload_n 0, 1) rfl) rfl rfl (aw_iload_n (pc' := 2) (dt_X1_start 1 (1, .iload_n 1, 1) rfl) rfl rfl (aw_putI (pc' := 5) (dt_X1_start 2 (2, .putfield 9, 3) rfl) fl_Judgement_9 rfl (by decide +kernel) rfl (sk_29 hS35) (aw_aload_n (pc' := 6) (dt_X1_start 3 (5, .aload_n 0, 1) rfl) rfl rfl (aw_iconst (pc' := 7) (v := 0) (dt_X1_start 4 (6, .iconst 0, 1) rfl) (by decide) rfl (aw_putZ (pc' := 10) (dt_X1_start 5 (7, .putfield 15, 3) rfl) fl_Judgement_15 rfl (by decide +kernel) rfl (sk_29 hS35.wI) (by decide) (aw_aload_n (pc' := 11) (dt_X1_start 6 (10, .aload_n 0, 1) rfl) rfl rfl (aw_iconst (pc' := 12) (v := 0) (dt_X1_start 7 (11, .iconst 0, 1) rfl) (by decide) rfl (aw_putI (pc' := 15) (dt_X1_start 8 (12, .putfield 19, 3) rfl) fl_Judgement_19 rfl (by decide +kernel) rfl (sk_29 hS35.wI.wI) (aw_aload_n (pc' := 16) (dt_X1_start 9 (15, .aload_n 0, 1) rfl) rfl rfl (aw_iconst (pc' := 17) (v := 0) (dt_X1_start 10 (16, .iconst 0, 1) rfl) (by decide) rfl (aw_putI (pc' := 20) (dt_X1_start 11 (17, .putfield 22, 3) rfl) fl_Judgement_22 rfl (by decide +kernel) rfl (sk_29 hS35.wI.wI.wI) (aw_aload_n (pc' := 21) (dt_X1_start 12 (20, .aload_n 0, 1) rfl) rfl rfl (aw_iconst (pc' := 22) (v := 0) (dt_X1_start 13 (21, .iconst 0, 1) rfl) (by decide) rfl (aw_putI (pc' := 25) (dt_X1_start 14 (22, .putfield 25, 3) rfl) fl_Judgement_25 rfl (by decide +kernel) rfl (sk_29 hS35.wI.wI.wI.wI) (aw_aload_n (pc' := 26) (dt_X1_start 15 (25, .aload_n 0, 1) rfl) rfl rfl (aw_iconst (pc' := 27) (v := 0) (dt_X1_start 16 (26, .iconst 0, 1) rfl) (by decide) rfl (aw_putI (pc' := 30) (dt_X1_start 17 (27, .putfield 28, 3) rfl) fl_Judgement_28 rfl (by decide +kernel) rfl (sk_29 hS35.wI.wI.wI.wI.wI) (aw_aload_n (pc' := 31) (dt_X1_start 18 (30, .aload_n 0, 1) rfl) rfl rfl (aw_iconst (pc' := 32) (v := 0) (dt_X1_start 19 (31, .iconst 0, 1) rfl) (by decide) rfl (aw_putI (pc' := 35) (dt_X1_start 20 (32, .putfield 31, 3) rfl) fl_Judgement_31 rfl (by decide +kernel) rfl (sk_29 hS35.wI.wI.wI.wI.wI.wI) (aw_ret (dt_X1_start 21 (35, .return_, 1) rfl) rfl (aw_stk (st' := []) rfl (aw_aload_nO (pc' := 54) (dt_X10_judge 28 (53, .aload_n 3, 1) rfl) rfl rfl (aw_iconst (pc' := 55) (v := 0) (dt_X10_judge 29 (54, .iconst 0, 1) rfl) (by decide) rfl (aw_inS (pc' := 58) (nc1 := 0) (ns1 := 0) (nc := nc) (ns := ns) (ls' := [some (va_rf o6), some (.int 0)]) (y2 := mX10_names) (As := [va_rf o6, .int 0]) (rest := []) (dt_X10_judge 30 (55, .invokestatic 471, 3) rfl) ok_X10_names ln_ReturnDesk_471 sm_X10_names pr_X10_names rfl ((fun o => by cases o <;> exact Nat.le_of_ble_eq_true rfl : ∀ o : Option Nat, (zaf [va_rf o, .int 0]).length ≤ mX10_names.2.2.1) o6) (Nat.le_of_ble_eq_true rfl) rfl ((fun o => by cases o <;> rfl : ∀ o : Option Nat, zargs mX10_names.2.2.1 [va_rf o, .int 0] = [some (va_rf o), some (.int 0)]) o6) (aw_aload_nO (pc' := 1) (dt_X10_names 0 (0, .aload_n 0, 1) rfl) rfl rfl (aw_ifnullO (pc' := 4) (tgt := 19) (dt_X10_names 1 (1, .ifnull 18, 3) rfl) (by decide) rfl ?_ ?_)))))))))))))))))))))))))))))
          · intro e40
            have h := h.1 e40
            refine aw_iconst (pc' := 20) (v := 0) (dt_X10_names 11 (19, .iconst 0, 1) rfl) (by decide) rfl (aw_iret (dt_X10_names 12 (20, .ireturn, 1) rfl) rfl rfl (aw_stk (st' := [.int 0]) rfl (aw_if_ne_F (pc' := 61) (tgt := 70) (dt_X10_judge 31 (58, .ifCond .ne 12, 3) rfl) (by decide) rfl (by decide) (aw_aloadO (pc' := 63) (dt_X10_judge 32 (61, .aload 4, 2) rfl) rfl rfl (aw_iconst (pc' := 64) (v := 0) (dt_X10_judge 33 (63, .iconst 0, 1) rfl) (by decide) rfl (aw_inS (pc' := 67) (nc1 := 0) (ns1 := 0) (nc := nc) (ns := ns) (ls' := [some (va_rf o12), some (.int 0)]) (y2 := mX10_names) (As := [va_rf o12, .int 0]) (rest := []) (dt_X10_judge 34 (64, .invokestatic 471, 3) rfl) ok_X10_names ln_ReturnDesk_471 sm_X10_names pr_X10_names rfl ((fun o => by cases o <;> exact Nat.le_of_ble_eq_true rfl : ∀ o : Option Nat, (zaf [va_rf o, .int 0]).length ≤ mX10_names.2.2.1) o12) (Nat.le_of_ble_eq_true rfl) rfl ((fun o => by cases o <;> rfl : ∀ o : Option Nat, zargs mX10_names.2.2.1 [va_rf o, .int 0] = [some (va_rf o), some (.int 0)]) o12) (aw_aload_nO (pc' := 1) (dt_X10_names 0 (0, .aload_n 0, 1) rfl) rfl rfl (aw_ifnullO (pc' := 4) (tgt := 19) (dt_X10_names 1 (1, .ifnull 18, 3) rfl) (by decide) rfl ?_ ?_))))))))
            · intro e42
              have h := h.1 e42
              refine aw_iconst (pc' := 20) (v := 0) (dt_X10_names 11 (19, .iconst 0, 1) rfl) (by decide) rfl (aw_iret (dt_X10_names 12 (20, .ireturn, 1) rfl) rfl rfl (aw_stk (st' := [.int 0]) rfl (aw_if_eq_T (pc' := 70) (tgt := 77) (dt_X10_judge 35 (67, .ifCond .eq 10, 3) rfl) (by decide) rfl (by decide) (aw_aload_n (pc' := 78) (dt_X10_judge 39 (77, .aload_n 1, 1) rfl) rfl rfl (aw_getI (pc' := 81) (dt_X10_judge 40 (78, .getfield 478, 3) rfl) fl_ReturnDesk_478 rfl rfl g36 (aw_drop (ls' := [some (.ref 11), some (.ref a1), none, some (va_rf o6), some (va_rf o12), none, none, none, none, none, none, none, none]) ⟨rfl, rfl, rfl, rfl, trivial⟩ ?_))))))
              exact h
            · intro b43 e42
              have h := h.2 b43 e42
              obtain ⟨g44, h⟩ := h
              refine aw_aload_nO (pc' := 5) (dt_X10_names 2 (4, .aload_n 0, 1) rfl) rfl rfl (aw_rf e42 (aw_getI (pc' := 8) (dt_X10_names 3 (5, .getfield 458, 3) rfl) fl_ReturnDesk_458 rfl rfl g44 (aw_iconst (pc' := 9) (v := 1) (dt_X10_names 4 (8, .iconst 1, 1) rfl) (by decide) rfl (aw_iload_n (pc' := 10) (dt_X10_names 5 (9, .iload_n 1, 1) rfl) rfl rfl (aw_ishl (pc' := 11) (dt_X10_names 6 (10, .ishl, 1) rfl) rfl (aw_iand (pc' := 12) (dt_X10_names 7 (11, .iand, 1) rfl) rfl (aw_if_eq (pc' := 15) (tgt := 19) (dt_X10_names 8 (12, .ifCond .eq 7, 3) rfl) (by decide) rfl ?_ ?_)))))))
              · intro q45
                have h := h.1 q45
                refine aw_iconst (pc' := 20) (v := 0) (dt_X10_names 11 (19, .iconst 0, 1) rfl) (by decide) rfl (aw_iret (dt_X10_names 12 (20, .ireturn, 1) rfl) rfl rfl (aw_stk (st' := [.int 0]) rfl (aw_if_eq_T (pc' := 70) (tgt := 77) (dt_X10_judge 35 (67, .ifCond .eq 10, 3) rfl) (by decide) rfl (by decide) (aw_aload_n (pc' := 78) (dt_X10_judge 39 (77, .aload_n 1, 1) rfl) rfl rfl (aw_getI (pc' := 81) (dt_X10_judge 40 (78, .getfield 478, 3) rfl) fl_ReturnDesk_478 rfl rfl g36 (aw_drop (ls' := [some (.ref 11), some (.ref a1), none, some (va_rf o6), some (va_rf o12), none, none, none, none, none, none, none, none]) ⟨rfl, rfl, rfl, rfl, trivial⟩ ?_))))))
                exact h
              · intro q45
                have h := h.2 q45
                refine aw_iconst (pc' := 16) (v := 1) (dt_X10_names 9 (15, .iconst 1, 1) rfl) (by decide) rfl (aw_goto (tgt := 20) (dt_X10_names 10 (16, .goto 4, 3) rfl) (by decide) (aw_iret (dt_X10_names 12 (20, .ireturn, 1) rfl) rfl rfl (aw_stk (st' := [.int 1]) rfl (aw_if_eq_F (pc' := 70) (tgt := 77) (dt_X10_judge 35 (67, .ifCond .eq 10, 3) rfl) (by decide) rfl (by decide) (aw_drop (ls' := [some (.ref 11), some (.ref a1), none, some (va_rf o6), some (va_rf o12), none, none, none, none, none, none, none, none]) ⟨rfl, rfl, rfl, rfl, trivial⟩ ?_)))))
                exact h
          · intro b41 e40
            have h := h.2 b41 e40
            obtain ⟨g46, h⟩ := h
            refine aw_aload_nO (pc' := 5) (dt_X10_names 2 (4, .aload_n 0, 1) rfl) rfl rfl (aw_rf e40 (aw_getI (pc' := 8) (dt_X10_names 3 (5, .getfield 458, 3) rfl) fl_ReturnDesk_458 rfl rfl g46 (aw_iconst (pc' := 9) (v := 1) (dt_X10_names 4 (8, .iconst 1, 1) rfl) (by decide) rfl (aw_iload_n (pc' := 10) (dt_X10_names 5 (9, .iload_n 1, 1) rfl) rfl rfl (aw_ishl (pc' := 11) (dt_X10_names 6 (10, .ishl, 1) rfl) rfl (aw_iand (pc' := 12) (dt_X10_names 7 (11, .iand, 1) rfl) rfl (aw_if_eq (pc' := 15) (tgt := 19) (dt_X10_names 8 (12, .ifCond .eq 7, 3) rfl) (by decide) rfl ?_ ?_)))))))
            · intro q47
              have h := h.1 q47
              refine aw_iconst (pc' := 20) (v := 0) (dt_X10_names 11 (19, .iconst 0, 1) rfl) (by decide) rfl (aw_iret (dt_X10_names 12 (20, .ireturn, 1) rfl) rfl rfl (aw_stk (st' := [.int 0]) rfl (aw_if_ne_F (pc' := 61) (tgt := 70) (dt_X10_judge 31 (58, .ifCond .ne 12, 3) rfl) (by decide) rfl (by decide) (aw_aloadO (pc' := 63) (dt_X10_judge 32 (61, .aload 4, 2) rfl) rfl rfl (aw_iconst (pc' := 64) (v := 0) (dt_X10_judge 33 (63, .iconst 0, 1) rfl) (by decide) rfl (aw_inS (pc' := 67) (nc1 := 0) (ns1 := 0) (nc := nc) (ns := ns) (ls' := [some (va_rf o12), some (.int 0)]) (y2 := mX10_names) (As := [va_rf o12, .int 0]) (rest := []) (dt_X10_judge 34 (64, .invokestatic 471, 3) rfl) ok_X10_names ln_ReturnDesk_471 sm_X10_names pr_X10_names rfl ((fun o => by cases o <;> exact Nat.le_of_ble_eq_true rfl : ∀ o : Option Nat, (zaf [va_rf o, .int 0]).length ≤ mX10_names.2.2.1) o12) (Nat.le_of_ble_eq_true rfl) rfl ((fun o => by cases o <;> rfl : ∀ o : Option Nat, zargs mX10_names.2.2.1 [va_rf o, .int 0] = [some (va_rf o), some (.int 0)]) o12) (aw_aload_nO (pc' := 1) (dt_X10_names 0 (0, .aload_n 0, 1) rfl) rfl rfl (aw_ifnullO (pc' := 4) (tgt := 19) (dt_X10_names 1 (1, .ifnull 18, 3) rfl) (by decide) rfl ?_ ?_))))))))
              · intro e48
                have h := h.1 e48
                refine aw_iconst (pc' := 20) (v := 0) (dt_X10_names 11 (19, .iconst 0, 1) rfl) (by decide) rfl (aw_iret (dt_X10_names 12 (20, .ireturn, 1) rfl) rfl rfl (aw_stk (st' := [.int 0]) rfl (aw_if_eq_T (pc' := 70) (tgt := 77) (dt_X10_judge 35 (67, .ifCond .eq 10, 3) rfl) (by decide) rfl (by decide) (aw_aload_n (pc' := 78) (dt_X10_judge 39 (77, .aload_n 1, 1) rfl) rfl rfl (aw_getI (pc' := 81) (dt_X10_judge 40 (78, .getfield 478, 3) rfl) fl_ReturnDesk_478 rfl rfl g36 (aw_drop (ls' := [some (.ref 11), some (.ref a1), none, some (va_rf o6), some (va_rf o12), none, none, none, none, none, none, none, none]) ⟨rfl, rfl, rfl, rfl, trivial⟩ ?_))))))
                exact h
              · intro b49 e48
                have h := h.2 b49 e48
                obtain ⟨g50, h⟩ := h
                refine aw_aload_nO (pc' := 5) (dt_X10_names 2 (4, .aload_n 0, 1) rfl) rfl rfl (aw_rf e48 (aw_getI (pc' := 8) (dt_X10_names 3 (5, .getfield 458, 3) rfl) fl_ReturnDesk_458 rfl rfl g50 (aw_iconst (pc' := 9) (v := 1) (dt_X10_names 4 (8, .iconst 1, 1) rfl) (by decide) rfl (aw_iload_n (pc' := 10) (dt_X10_names 5 (9, .iload_n 1, 1) rfl) rfl rfl (aw_ishl (pc' := 11) (dt_X10_names 6 (10, .ishl, 1) rfl) rfl (aw_iand (pc' := 12) (dt_X10_names 7 (11, .iand, 1) rfl) rfl (aw_if_eq (pc' := 15) (tgt := 19) (dt_X10_names 8 (12, .ifCond .eq 7, 3) rfl) (by decide) rfl ?_ ?_)))))))
                · intro q51
                  have h := h.1 q51
                  refine aw_iconst (pc' := 20) (v := 0) (dt_X10_names 11 (19, .iconst 0, 1) rfl) (by decide) rfl (aw_iret (dt_X10_names 12 (20, .ireturn, 1) rfl) rfl rfl (aw_stk (st' := [.int 0]) rfl (aw_if_eq_T (pc' := 70) (tgt := 77) (dt_X10_judge 35 (67, .ifCond .eq 10, 3) rfl) (by decide) rfl (by decide) (aw_aload_n (pc' := 78) (dt_X10_judge 39 (77, .aload_n 1, 1) rfl) rfl rfl (aw_getI (pc' := 81) (dt_X10_judge 40 (78, .getfield 478, 3) rfl) fl_ReturnDesk_478 rfl rfl g36 (aw_drop (ls' := [some (.ref 11), some (.ref a1), none, some (va_rf o6), some (va_rf o12), none, none, none, none, none, none, none, none]) ⟨rfl, rfl, rfl, rfl, trivial⟩ ?_))))))
                  exact h
                · intro q51
                  have h := h.2 q51
                  refine aw_iconst (pc' := 16) (v := 1) (dt_X10_names 9 (15, .iconst 1, 1) rfl) (by decide) rfl (aw_goto (tgt := 20) (dt_X10_names 10 (16, .goto 4, 3) rfl) (by decide) (aw_iret (dt_X10_names 12 (20, .ireturn, 1) rfl) rfl rfl (aw_stk (st' := [.int 1]) rfl (aw_if_eq_F (pc' := 70) (tgt := 77) (dt_X10_judge 35 (67, .ifCond .eq 10, 3) rfl) (by decide) rfl (by decide) (aw_drop (ls' := [some (.ref 11), some (.ref a1), none, some (va_rf o6), some (va_rf o12), none, none, none, none, none, none, none, none]) ⟨rfl, rfl, rfl, rfl, trivial⟩ ?_)))))
                  exact h
            · intro q47
              have h := h.2 q47
              refine aw_iconst (pc' := 16) (v := 1) (dt_X10_names 9 (15, .iconst 1, 1) rfl) (by decide) rfl (aw_goto (tgt := 20) (dt_X10_names 10 (16, .goto 4, 3) rfl) (by decide) (aw_iret (dt_X10_names 12 (20, .ireturn, 1) rfl) rfl rfl (aw_stk (st' := [.int 1]) rfl (aw_if_ne_T (pc' := 61) (tgt := 70) (dt_X10_judge 31 (58, .ifCond .ne 12, 3) rfl) (by decide) rfl (by decide) (aw_drop (ls' := [some (.ref 11), some (.ref a1), none, some (va_rf o6), some (va_rf o12), none, none, none, none, none, none, none, none]) ⟨rfl, rfl, rfl, rfl, trivial⟩ ?_)))))
              exact h
    · intro b9 e8
      have h := h.2 b9 e8
      refine aw_iload_n (pc' := 18) (dt_X10_judge 11 (17, .iload_n 2, 1) rfl) rfl rfl (aw_callV0 (pc' := 21) (nc := nc) (ns := ns) (y2 := mX10_textFor) (As := [.int 1, .ref b9, .int x2]) (rest := []) (a := 11) (dt_X10_judge 12 (18, .invokevirtual 222, 3) rfl) ok_X10_textFor ln_ReturnDesk_222 im_X10_textFor se_X10_textFor pr_X10_textFor (Or.inl ⟨by decide, rfl⟩) rfl (Nat.le_of_ble_eq_true rfl) (Nat.le_of_ble_eq_true rfl) rfl (sk_11 hS5) h ?_)
      rintro v μ52 ⟨o54, rfl, hS53, h⟩
      refine aw_stk (st' := [va_rf o54]) rfl ?_
      obtain ⟨g55, h⟩ := h
      refine aw_astoreO (pc' := 23) (ls' := [some (.ref 11), some (.ref a1), some (.int x2), some (va_rf o6), some (va_rf o54), none, none, none, none, none, none, none, none]) (dt_X10_judge 13 (21, .astore 4, 2) rfl) (by decide) (zset1_o (j := 3) rfl (zcat_rf _) rfl) rfl (aw_aload_n (pc' := 24) (dt_X10_judge 14 (23, .aload_n 0, 1) rfl) rfl rfl (aw_aload_n (pc' := 25) (dt_X10_judge 15 (24, .aload_n 1, 1) rfl) rfl rfl (aw_getA (pc' := 28) (dt_X10_judge 16 (25, .getfield 271, 3) rfl) fl_ReturnDesk_271 rfl rfl g55 ?_ ?_)))
      · intro e56
        have h := h.1 e56
        refine aw_aload_n (pc' := 29) (dt_X10_judge 17 (28, .aload_n 1, 1) rfl) rfl rfl (aw_getI (pc' := 32) (dt_X10_judge 18 (29, .getfield 278, 3) rfl) fl_ReturnDesk_278 rfl rfl g55 (aw_aload_n (pc' := 33) (dt_X10_judge 19 (32, .aload_n 1, 1) rfl) rfl rfl (aw_getI (pc' := 36) (dt_X10_judge 20 (33, .getfield 268, 3) rfl) fl_ReturnDesk_268 rfl rfl g55 (aw_callV0 (pc' := 39) (nc := nc) (ns := ns) (y2 := mX10_tellSale) (As := [.null, .int (zI μ52 a1 1), .int (zI μ52 a1 2)]) (rest := []) (a := 11) (dt_X10_judge 21 (36, .invokevirtual 230, 3) rfl) ok_X10_tellSale ln_ReturnDesk_230 im_X10_tellSale se_X10_tellSale pr_X10_tellSale (Or.inl ⟨by decide, rfl⟩) rfl (Nat.le_of_ble_eq_true rfl) (Nat.le_of_ble_eq_true rfl) rfl (sk_11 hS53) h ?_))))
        rintro v μ58 ⟨rfl, hS59, h⟩
        refine aw_stk (st' := []) rfl ?_
        obtain ⟨g60, h⟩ := h
        refine aw_aload_n (pc' := 40) (dt_X10_judge 22 (39, .aload_n 0, 1) rfl) rfl rfl (aw_getAs (pc' := 43) (dt_X10_judge 23 (40, .getfield 68, 3) rfl) fl_ReturnDesk_68 rfl rfl (sk_11 hS59) (sa_11_9 hS59) (aw_aload_n (pc' := 44) (dt_X10_judge 24 (43, .aload_n 1, 1) rfl) rfl rfl (aw_getA (pc' := 47) (dt_X10_judge 25 (44, .getfield 271, 3) rfl) fl_ReturnDesk_271 rfl rfl g60 ?_ ?_)))
        · intro e61
          have h := h.1 e61
          exact h.elim
        · intro b62 e61
          have h := h.2 b62 e61
          obtain ⟨g63, h⟩ := h
          refine aw_getI (pc' := 50) (dt_X10_judge 26 (47, .getfield 145, 3) rfl) fl_ReturnDesk_145 rfl rfl g63 (aw_inV (pc' := 53) (nc1 := 0) (ns1 := 0) (nc := nc) (ns := ns) (ls' := [some (.ref 29), some (.int (zI μ58 b62 9))]) (y2 := mX1_start) (As := [.int (zI μ58 b62 9)]) (rest := []) (a := 29) (dt_X10_judge 27 (50, .invokevirtual 468, 3) rfl) ok_X1_start ln_ReturnDesk_468 im_X1_start se_X1_start pr_X1_start (Or.inl ⟨by decide, rfl⟩) rfl (Nat.le_of_ble_eq_true rfl) (Nat.le_of_ble_eq_true rfl) rfl rfl (sk_29 hS59) (aw_aload_n (pc' := 1) (dt_X1_start 0 (0, .aload_n 0, 1) rfl) rfl rfl (aw_iload_n (pc' := 2) (dt_X1_start 1 (1, .iload_n 1, 1) rfl) rfl rfl (aw_putI (pc' := 5) (dt_X1_start 2 (2, .putfield 9, 3) rfl) fl_Judgement_9 rfl (by decide +kernel) rfl (sk_29 hS59) (aw_aload_n (pc' := 6) (dt_X1_start 3 (5, .aload_n 0, 1) rfl) rfl rfl (aw_iconst (pc' := 7) (v := 0) (dt_X1_start 4 (6, .iconst 0, 1) rfl) (by decide) rfl (aw_putZ (pc' := 10) (dt_X1_start 5 (7, .putfield 15, 3) rfl) fl_Judgement_15 rfl (by decide +kernel) rfl (sk_29 hS59.wI) (by decide) (aw_aload_n (pc' := 11) (dt_X1_start 6 (10, .aload_n 0, 1) rfl) rfl rfl (aw_iconst (pc' := 12) (v := 0) (dt_X1_start 7 (11, .iconst 0, 1) rfl) (by decide) rfl (aw_putI (pc' := 15) (dt_X1_start 8 (12, .putfield 19, 3) rfl) fl_Judgement_19 rfl (by decide +kernel) rfl (sk_29 hS59.wI.wI) (aw_aload_n (pc' := 16) (dt_X1_start 9 (15, .aload_n 0, 1) rfl) rfl rfl (aw_iconst (pc' := 17) (v := 0) (dt_X1_start 10 (16, .iconst 0, 1) rfl) (by decide) rfl (aw_putI (pc' := 20) (dt_X1_start 11 (17, .putfield 22, 3) rfl) fl_Judgement_22 rfl (by decide +kernel) rfl (sk_29 hS59.wI.wI.wI) (aw_aload_n (pc' := 21) (dt_X1_start 12 (20, .aload_n 0, 1) rfl) rfl rfl (aw_iconst (pc' := 22) (v := 0) (dt_X1_start 13 (21, .iconst 0, 1) rfl) (by decide) rfl (aw_putI (pc' := 25) (dt_X1_start 14 (22, .putfield 25, 3) rfl) fl_Judgement_25 rfl (by decide +kernel) rfl (sk_29 hS59.wI.wI.wI.wI) (aw_aload_n (pc' := 26) (dt_X1_start 15 (25, .aload_n 0, 1) rfl) rfl rfl (aw_iconst (pc' := 27) (v := 0) (dt_X1_start 16 (26, .iconst 0, 1) rfl) (by decide) rfl (aw_putI (pc' := 30) (dt_X1_start 17 (27, .putfield 28, 3) rfl) fl_Judgement_28 rfl (by decide +kernel) rfl (sk_29 hS59.wI.wI.wI.wI.wI) (aw_aload_n (pc' := 31) (dt_X1_start 18 (30, .aload_n 0, 1) rfl) rfl rfl (aw_iconst (pc' := 32) (v := 0) (dt_X1_start 19 (31, .iconst 0, 1) rfl) (by decide) rfl (aw_putI (pc' := 35) (dt_X1_start 20 (32, .putfield 31, 3) rfl) fl_Judgement_31 rfl (by decide +kernel) rfl (sk_29 hS59.wI.wI.wI.wI.wI.wI) (aw_ret (dt_X1_start 21 (35, .return_, 1) rfl) rfl (aw_stk (st' := []) rfl (aw_aload_nO (pc' := 54) (dt_X10_judge 28 (53, .aload_n 3, 1) rfl) rfl rfl (aw_iconst (pc' := 55) (v := 0) (dt_X10_judge 29 (54, .iconst 0, 1) rfl) (by decide) rfl (aw_inS (pc' := 58) (nc1 := 0) (ns1 := 0) (nc := nc) (ns := ns) (ls' := [some (va_rf o6), some (.int 0)]) (y2 := mX10_names) (As := [va_rf o6, .int 0]) (rest := []) (dt_X10_judge 30 (55, .invokestatic 471, 3) rfl) ok_X10_names ln_ReturnDesk_471 sm_X10_names pr_X10_names rfl ((fun o => by cases o <;> exact Nat.le_of_ble_eq_true rfl : ∀ o : Option Nat, (zaf [va_rf o, .int 0]).length ≤ mX10_names.2.2.1) o6) (Nat.le_of_ble_eq_true rfl) rfl ((fun o => by cases o <;> rfl : ∀ o : Option Nat, zargs mX10_names.2.2.1 [va_rf o, .int 0] = [some (va_rf o), some (.int 0)]) o6) (aw_aload_nO (pc' := 1) (dt_X10_names 0 (0, .aload_n 0, 1) rfl) rfl rfl (aw_ifnullO (pc' := 4) (tgt := 19) (dt_X10_names 1 (1, .ifnull 18, 3) rfl) (by decide) rfl ?_ ?_)))))))))))))))))))))))))))))
          · intro e64
            have h := h.1 e64
            refine aw_iconst (pc' := 20) (v := 0) (dt_X10_names 11 (19, .iconst 0, 1) rfl) (by decide) rfl (aw_iret (dt_X10_names 12 (20, .ireturn, 1) rfl) rfl rfl (aw_stk (st' := [.int 0]) rfl (aw_if_ne_F (pc' := 61) (tgt := 70) (dt_X10_judge 31 (58, .ifCond .ne 12, 3) rfl) (by decide) rfl (by decide) (aw_aloadO (pc' := 63) (dt_X10_judge 32 (61, .aload 4, 2) rfl) rfl rfl (aw_iconst (pc' := 64) (v := 0) (dt_X10_judge 33 (63, .iconst 0, 1) rfl) (by decide) rfl (aw_inS (pc' := 67) (nc1 := 0) (ns1 := 0) (nc := nc) (ns := ns) (ls' := [some (va_rf o54), some (.int 0)]) (y2 := mX10_names) (As := [va_rf o54, .int 0]) (rest := []) (dt_X10_judge 34 (64, .invokestatic 471, 3) rfl) ok_X10_names ln_ReturnDesk_471 sm_X10_names pr_X10_names rfl ((fun o => by cases o <;> exact Nat.le_of_ble_eq_true rfl : ∀ o : Option Nat, (zaf [va_rf o, .int 0]).length ≤ mX10_names.2.2.1) o54) (Nat.le_of_ble_eq_true rfl) rfl ((fun o => by cases o <;> rfl : ∀ o : Option Nat, zargs mX10_names.2.2.1 [va_rf o, .int 0] = [some (va_rf o), some (.int 0)]) o54) (aw_aload_nO (pc' := 1) (dt_X10_names 0 (0, .aload_n 0, 1) rfl) rfl rfl (aw_ifnullO (pc' := 4) (tgt := 19) (dt_X10_names 1 (1, .ifnull 18, 3) rfl) (by decide) rfl ?_ ?_))))))))
            · intro e66
              have h := h.1 e66
              refine aw_iconst (pc' := 20) (v := 0) (dt_X10_names 11 (19, .iconst 0, 1) rfl) (by decide) rfl (aw_iret (dt_X10_names 12 (20, .ireturn, 1) rfl) rfl rfl (aw_stk (st' := [.int 0]) rfl (aw_if_eq_T (pc' := 70) (tgt := 77) (dt_X10_judge 35 (67, .ifCond .eq 10, 3) rfl) (by decide) rfl (by decide) (aw_aload_n (pc' := 78) (dt_X10_judge 39 (77, .aload_n 1, 1) rfl) rfl rfl (aw_getI (pc' := 81) (dt_X10_judge 40 (78, .getfield 478, 3) rfl) fl_ReturnDesk_478 rfl rfl g60 (aw_drop (ls' := [some (.ref 11), some (.ref a1), none, some (va_rf o6), some (va_rf o54), none, none, none, none, none, none, none, none]) ⟨rfl, rfl, rfl, rfl, trivial⟩ ?_))))))
              exact h
            · intro b67 e66
              have h := h.2 b67 e66
              obtain ⟨g68, h⟩ := h
              refine aw_aload_nO (pc' := 5) (dt_X10_names 2 (4, .aload_n 0, 1) rfl) rfl rfl (aw_rf e66 (aw_getI (pc' := 8) (dt_X10_names 3 (5, .getfield 458, 3) rfl) fl_ReturnDesk_458 rfl rfl g68 (aw_iconst (pc' := 9) (v := 1) (dt_X10_names 4 (8, .iconst 1, 1) rfl) (by decide) rfl (aw_iload_n (pc' := 10) (dt_X10_names 5 (9, .iload_n 1, 1) rfl) rfl rfl (aw_ishl (pc' := 11) (dt_X10_names 6 (10, .ishl, 1) rfl) rfl (aw_iand (pc' := 12) (dt_X10_names 7 (11, .iand, 1) rfl) rfl (aw_if_eq (pc' := 15) (tgt := 19) (dt_X10_names 8 (12, .ifCond .eq 7, 3) rfl) (by decide) rfl ?_ ?_)))))))
              · intro q69
                have h := h.1 q69
                refine aw_iconst (pc' := 20) (v := 0) (dt_X10_names 11 (19, .iconst 0, 1) rfl) (by decide) rfl (aw_iret (dt_X10_names 12 (20, .ireturn, 1) rfl) rfl rfl (aw_stk (st' := [.int 0]) rfl (aw_if_eq_T (pc' := 70) (tgt := 77) (dt_X10_judge 35 (67, .ifCond .eq 10, 3) rfl) (by decide) rfl (by decide) (aw_aload_n (pc' := 78) (dt_X10_judge 39 (77, .aload_n 1, 1) rfl) rfl rfl (aw_getI (pc' := 81) (dt_X10_judge 40 (78, .getfield 478, 3) rfl) fl_ReturnDesk_478 rfl rfl g60 (aw_drop (ls' := [some (.ref 11), some (.ref a1), none, some (va_rf o6), some (va_rf o54), none, none, none, none, none, none, none, none]) ⟨rfl, rfl, rfl, rfl, trivial⟩ ?_))))))
                exact h
              · intro q69
                have h := h.2 q69
                refine aw_iconst (pc' := 16) (v := 1) (dt_X10_names 9 (15, .iconst 1, 1) rfl) (by decide) rfl (aw_goto (tgt := 20) (dt_X10_names 10 (16, .goto 4, 3) rfl) (by decide) (aw_iret (dt_X10_names 12 (20, .ireturn, 1) rfl) rfl rfl (aw_stk (st' := [.int 1]) rfl (aw_if_eq_F (pc' := 70) (tgt := 77) (dt_X10_judge 35 (67, .ifCond .eq 10, 3) rfl) (by decide) rfl (by decide) (aw_drop (ls' := [some (.ref 11), some (.ref a1), none, some (va_rf o6), some (va_rf o54), none, none, none, none, none, none, none, none]) ⟨rfl, rfl, rfl, rfl, trivial⟩ ?_)))))
                exact h
          · intro b65 e64
            have h := h.2 b65 e64
            obtain ⟨g70, h⟩ := h
            refine aw_aload_nO (pc' := 5) (dt_X10_names 2 (4, .aload_n 0, 1) rfl) rfl rfl (aw_rf e64 (aw_getI (pc' := 8) (dt_X10_names 3 (5, .getfield 458, 3) rfl) fl_ReturnDesk_458 rfl rfl g70 (aw_iconst (pc' := 9) (v := 1) (dt_X10_names 4 (8, .iconst 1, 1) rfl) (by decide) rfl (aw_iload_n (pc' := 10) (dt_X10_names 5 (9, .iload_n 1, 1) rfl) rfl rfl (aw_ishl (pc' := 11) (dt_X10_names 6 (10, .ishl, 1) rfl) rfl (aw_iand (pc' := 12) (dt_X10_names 7 (11, .iand, 1) rfl) rfl (aw_if_eq (pc' := 15) (tgt := 19) (dt_X10_names 8 (12, .ifCond .eq 7, 3) rfl) (by decide) rfl ?_ ?_)))))))
            · intro q71
              have h := h.1 q71
              refine aw_iconst (pc' := 20) (v := 0) (dt_X10_names 11 (19, .iconst 0, 1) rfl) (by decide) rfl (aw_iret (dt_X10_names 12 (20, .ireturn, 1) rfl) rfl rfl (aw_stk (st' := [.int 0]) rfl (aw_if_ne_F (pc' := 61) (tgt := 70) (dt_X10_judge 31 (58, .ifCond .ne 12, 3) rfl) (by decide) rfl (by decide) (aw_aloadO (pc' := 63) (dt_X10_judge 32 (61, .aload 4, 2) rfl) rfl rfl (aw_iconst (pc' := 64) (v := 0) (dt_X10_judge 33 (63, .iconst 0, 1) rfl) (by decide) rfl (aw_inS (pc' := 67) (nc1 := 0) (ns1 := 0) (nc := nc) (ns := ns) (ls' := [some (va_rf o54), some (.int 0)]) (y2 := mX10_names) (As := [va_rf o54, .int 0]) (rest := []) (dt_X10_judge 34 (64, .invokestatic 471, 3) rfl) ok_X10_names ln_ReturnDesk_471 sm_X10_names pr_X10_names rfl ((fun o => by cases o <;> exact Nat.le_of_ble_eq_true rfl : ∀ o : Option Nat, (zaf [va_rf o, .int 0]).length ≤ mX10_names.2.2.1) o54) (Nat.le_of_ble_eq_true rfl) rfl ((fun o => by cases o <;> rfl : ∀ o : Option Nat, zargs mX10_names.2.2.1 [va_rf o, .int 0] = [some (va_rf o), some (.int 0)]) o54) (aw_aload_nO (pc' := 1) (dt_X10_names 0 (0, .aload_n 0, 1) rfl) rfl rfl (aw_ifnullO (pc' := 4) (tgt := 19) (dt_X10_names 1 (1, .ifnull 18, 3) rfl) (by decide) rfl ?_ ?_))))))))
              · intro e72
                have h := h.1 e72
                refine aw_iconst (pc' := 20) (v := 0) (dt_X10_names 11 (19, .iconst 0, 1) rfl) (by decide) rfl (aw_iret (dt_X10_names 12 (20, .ireturn, 1) rfl) rfl rfl (aw_stk (st' := [.int 0]) rfl (aw_if_eq_T (pc' := 70) (tgt := 77) (dt_X10_judge 35 (67, .ifCond .eq 10, 3) rfl) (by decide) rfl (by decide) (aw_aload_n (pc' := 78) (dt_X10_judge 39 (77, .aload_n 1, 1) rfl) rfl rfl (aw_getI (pc' := 81) (dt_X10_judge 40 (78, .getfield 478, 3) rfl) fl_ReturnDesk_478 rfl rfl g60 (aw_drop (ls' := [some (.ref 11), some (.ref a1), none, some (va_rf o6), some (va_rf o54), none, none, none, none, none, none, none, none]) ⟨rfl, rfl, rfl, rfl, trivial⟩ ?_))))))
                exact h
              · intro b73 e72
                have h := h.2 b73 e72
                obtain ⟨g74, h⟩ := h
                refine aw_aload_nO (pc' := 5) (dt_X10_names 2 (4, .aload_n 0, 1) rfl) rfl rfl (aw_rf e72 (aw_getI (pc' := 8) (dt_X10_names 3 (5, .getfield 458, 3) rfl) fl_ReturnDesk_458 rfl rfl g74 (aw_iconst (pc' := 9) (v := 1) (dt_X10_names 4 (8, .iconst 1, 1) rfl) (by decide) rfl (aw_iload_n (pc' := 10) (dt_X10_names 5 (9, .iload_n 1, 1) rfl) rfl rfl (aw_ishl (pc' := 11) (dt_X10_names 6 (10, .ishl, 1) rfl) rfl (aw_iand (pc' := 12) (dt_X10_names 7 (11, .iand, 1) rfl) rfl (aw_if_eq (pc' := 15) (tgt := 19) (dt_X10_names 8 (12, .ifCond .eq 7, 3) rfl) (by decide) rfl ?_ ?_)))))))
                · intro q75
                  have h := h.1 q75
                  refine aw_iconst (pc' := 20) (v := 0) (dt_X10_names 11 (19, .iconst 0, 1) rfl) (by decide) rfl (aw_iret (dt_X10_names 12 (20, .ireturn, 1) rfl) rfl rfl (aw_stk (st' := [.int 0]) rfl (aw_if_eq_T (pc' := 70) (tgt := 77) (dt_X10_judge 35 (67, .ifCond .eq 10, 3) rfl) (by decide) rfl (by decide) (aw_aload_n (pc' := 78) (dt_X10_judge 39 (77, .aload_n 1, 1) rfl) rfl rfl (aw_getI (pc' := 81) (dt_X10_judge 40 (78, .getfield 478, 3) rfl) fl_ReturnDesk_478 rfl rfl g60 (aw_drop (ls' := [some (.ref 11), some (.ref a1), none, some (va_rf o6), some (va_rf o54), none, none, none, none, none, none, none, none]) ⟨rfl, rfl, rfl, rfl, trivial⟩ ?_))))))
                  exact h
                · intro q75
                  have h := h.2 q75
                  refine aw_iconst (pc' := 16) (v := 1) (dt_X10_names 9 (15, .iconst 1, 1) rfl) (by decide) rfl (aw_goto (tgt := 20) (dt_X10_names 10 (16, .goto 4, 3) rfl) (by decide) (aw_iret (dt_X10_names 12 (20, .ireturn, 1) rfl) rfl rfl (aw_stk (st' := [.int 1]) rfl (aw_if_eq_F (pc' := 70) (tgt := 77) (dt_X10_judge 35 (67, .ifCond .eq 10, 3) rfl) (by decide) rfl (by decide) (aw_drop (ls' := [some (.ref 11), some (.ref a1), none, some (va_rf o6), some (va_rf o54), none, none, none, none, none, none, none, none]) ⟨rfl, rfl, rfl, rfl, trivial⟩ ?_)))))
                  exact h
            · intro q71
              have h := h.2 q71
              refine aw_iconst (pc' := 16) (v := 1) (dt_X10_names 9 (15, .iconst 1, 1) rfl) (by decide) rfl (aw_goto (tgt := 20) (dt_X10_names 10 (16, .goto 4, 3) rfl) (by decide) (aw_iret (dt_X10_names 12 (20, .ireturn, 1) rfl) rfl rfl (aw_stk (st' := [.int 1]) rfl (aw_if_ne_T (pc' := 61) (tgt := 70) (dt_X10_judge 31 (58, .ifCond .ne 12, 3) rfl) (by decide) rfl (by decide) (aw_drop (ls' := [some (.ref 11), some (.ref a1), none, some (va_rf o6), some (va_rf o54), none, none, none, none, none, none, none, none]) ⟨rfl, rfl, rfl, rfl, trivial⟩ ?_)))))
              exact h
      · intro b57 e56
        have h := h.2 b57 e56
        refine aw_aload_n (pc' := 29) (dt_X10_judge 17 (28, .aload_n 1, 1) rfl) rfl rfl (aw_getI (pc' := 32) (dt_X10_judge 18 (29, .getfield 278, 3) rfl) fl_ReturnDesk_278 rfl rfl g55 (aw_aload_n (pc' := 33) (dt_X10_judge 19 (32, .aload_n 1, 1) rfl) rfl rfl (aw_getI (pc' := 36) (dt_X10_judge 20 (33, .getfield 268, 3) rfl) fl_ReturnDesk_268 rfl rfl g55 (aw_callV0 (pc' := 39) (nc := nc) (ns := ns) (y2 := mX10_tellSale) (As := [.ref b57, .int (zI μ52 a1 1), .int (zI μ52 a1 2)]) (rest := []) (a := 11) (dt_X10_judge 21 (36, .invokevirtual 230, 3) rfl) ok_X10_tellSale ln_ReturnDesk_230 im_X10_tellSale se_X10_tellSale pr_X10_tellSale (Or.inl ⟨by decide, rfl⟩) rfl (Nat.le_of_ble_eq_true rfl) (Nat.le_of_ble_eq_true rfl) rfl (sk_11 hS53) h ?_))))
        rintro v μ76 ⟨rfl, hS77, h⟩
        refine aw_stk (st' := []) rfl ?_
        obtain ⟨g78, h⟩ := h
        refine aw_aload_n (pc' := 40) (dt_X10_judge 22 (39, .aload_n 0, 1) rfl) rfl rfl (aw_getAs (pc' := 43) (dt_X10_judge 23 (40, .getfield 68, 3) rfl) fl_ReturnDesk_68 rfl rfl (sk_11 hS77) (sa_11_9 hS77) (aw_aload_n (pc' := 44) (dt_X10_judge 24 (43, .aload_n 1, 1) rfl) rfl rfl (aw_getA (pc' := 47) (dt_X10_judge 25 (44, .getfield 271, 3) rfl) fl_ReturnDesk_271 rfl rfl g78 ?_ ?_)))
        · intro e79
          have h := h.1 e79
          exact h.elim
        · intro b80 e79
          have h := h.2 b80 e79
          obtain ⟨g81, h⟩ := h
          refine aw_getI (pc' := 50) (dt_X10_judge 26 (47, .getfield 145, 3) rfl) fl_ReturnDesk_145 rfl rfl g81 (aw_inV (pc' := 53) (nc1 := 0) (ns1 := 0) (nc := nc) (ns := ns) (ls' := [some (.ref 29), some (.int (zI μ76 b80 9))]) (y2 := mX1_start) (As := [.int (zI μ76 b80 9)]) (rest := []) (a := 29) (dt_X10_judge 27 (50, .invokevirtual 468, 3) rfl) ok_X1_start ln_ReturnDesk_468 im_X1_start se_X1_start pr_X1_start (Or.inl ⟨by decide, rfl⟩) rfl (Nat.le_of_ble_eq_true rfl) (Nat.le_of_ble_eq_true rfl) rfl rfl (sk_29 hS77) (aw_aload_n (pc' := 1) (dt_X1_start 0 (0, .aload_n 0, 1) rfl) rfl rfl (aw_iload_n (pc' := 2) (dt_X1_start 1 (1, .iload_n 1, 1) rfl) rfl rfl (aw_putI (pc' := 5) (dt_X1_start 2 (2, .putfield 9, 3) rfl) fl_Judgement_9 rfl (by decide +kernel) rfl (sk_29 hS77) (aw_aload_n (pc' := 6) (dt_X1_start 3 (5, .aload_n 0, 1) rfl) rfl rfl (aw_iconst (pc' := 7) (v := 0) (dt_X1_start 4 (6, .iconst 0, 1) rfl) (by decide) rfl (aw_putZ (pc' := 10) (dt_X1_start 5 (7, .putfield 15, 3) rfl) fl_Judgement_15 rfl (by decide +kernel) rfl (sk_29 hS77.wI) (by decide) (aw_aload_n (pc' := 11) (dt_X1_start 6 (10, .aload_n 0, 1) rfl) rfl rfl (aw_iconst (pc' := 12) (v := 0) (dt_X1_start 7 (11, .iconst 0, 1) rfl) (by decide) rfl (aw_putI (pc' := 15) (dt_X1_start 8 (12, .putfield 19, 3) rfl) fl_Judgement_19 rfl (by decide +kernel) rfl (sk_29 hS77.wI.wI) (aw_aload_n (pc' := 16) (dt_X1_start 9 (15, .aload_n 0, 1) rfl) rfl rfl (aw_iconst (pc' := 17) (v := 0) (dt_X1_start 10 (16, .iconst 0, 1) rfl) (by decide) rfl (aw_putI (pc' := 20) (dt_X1_start 11 (17, .putfield 22, 3) rfl) fl_Judgement_22 rfl (by decide +kernel) rfl (sk_29 hS77.wI.wI.wI) (aw_aload_n (pc' := 21) (dt_X1_start 12 (20, .aload_n 0, 1) rfl) rfl rfl (aw_iconst (pc' := 22) (v := 0) (dt_X1_start 13 (21, .iconst 0, 1) rfl) (by decide) rfl (aw_putI (pc' := 25) (dt_X1_start 14 (22, .putfield 25, 3) rfl) fl_Judgement_25 rfl (by decide +kernel) rfl (sk_29 hS77.wI.wI.wI.wI) (aw_aload_n (pc' := 26) (dt_X1_start 15 (25, .aload_n 0, 1) rfl) rfl rfl (aw_iconst (pc' := 27) (v := 0) (dt_X1_start 16 (26, .iconst 0, 1) rfl) (by decide) rfl (aw_putI (pc' := 30) (dt_X1_start 17 (27, .putfield 28, 3) rfl) fl_Judgement_28 rfl (by decide +kernel) rfl (sk_29 hS77.wI.wI.wI.wI.wI) (aw_aload_n (pc' := 31) (dt_X1_start 18 (30, .aload_n 0, 1) rfl) rfl rfl (aw_iconst (pc' := 32) (v := 0) (dt_X1_start 19 (31, .iconst 0, 1) rfl) (by decide) rfl (aw_putI (pc' := 35) (dt_X1_start 20 (32, .putfield 31, 3) rfl) fl_Judgement_31 rfl (by decide +kernel) rfl (sk_29 hS77.wI.wI.wI.wI.wI.wI) (aw_ret (dt_X1_start 21 (35, .return_, 1) rfl) rfl (aw_stk (st' := []) rfl (aw_aload_nO (pc' := 54) (dt_X10_judge 28 (53, .aload_n 3, 1) rfl) rfl rfl (aw_iconst (pc' := 55) (v := 0) (dt_X10_judge 29 (54, .iconst 0, 1) rfl) (by decide) rfl (aw_inS (pc' := 58) (nc1 := 0) (ns1 := 0) (nc := nc) (ns := ns) (ls' := [some (va_rf o6), some (.int 0)]) (y2 := mX10_names) (As := [va_rf o6, .int 0]) (rest := []) (dt_X10_judge 30 (55, .invokestatic 471, 3) rfl) ok_X10_names ln_ReturnDesk_471 sm_X10_names pr_X10_names rfl ((fun o => by cases o <;> exact Nat.le_of_ble_eq_true rfl : ∀ o : Option Nat, (zaf [va_rf o, .int 0]).length ≤ mX10_names.2.2.1) o6) (Nat.le_of_ble_eq_true rfl) rfl ((fun o => by cases o <;> rfl : ∀ o : Option Nat, zargs mX10_names.2.2.1 [va_rf o, .int 0] = [some (va_rf o), some (.int 0)]) o6) (aw_aload_nO (pc' := 1) (dt_X10_names 0 (0, .aload_n 0, 1) rfl) rfl rfl (aw_ifnullO (pc' := 4) (tgt := 19) (dt_X10_names 1 (1, .ifnull 18, 3) rfl) (by decide) rfl ?_ ?_)))))))))))))))))))))))))))))
          · intro e82
            have h := h.1 e82
            refine aw_iconst (pc' := 20) (v := 0) (dt_X10_names 11 (19, .iconst 0, 1) rfl) (by decide) rfl (aw_iret (dt_X10_names 12 (20, .ireturn, 1) rfl) rfl rfl (aw_stk (st' := [.int 0]) rfl (aw_if_ne_F (pc' := 61) (tgt := 70) (dt_X10_judge 31 (58, .ifCond .ne 12, 3) rfl) (by decide) rfl (by decide) (aw_aloadO (pc' := 63) (dt_X10_judge 32 (61, .aload 4, 2) rfl) rfl rfl (aw_iconst (pc' := 64) (v := 0) (dt_X10_judge 33 (63, .iconst 0, 1) rfl) (by decide) rfl (aw_inS (pc' := 67) (nc1 := 0) (ns1 := 0) (nc := nc) (ns := ns) (ls' := [some (va_rf o54), some (.int 0)]) (y2 := mX10_names) (As := [va_rf o54, .int 0]) (rest := []) (dt_X10_judge 34 (64, .invokestatic 471, 3) rfl) ok_X10_names ln_ReturnDesk_471 sm_X10_names pr_X10_names rfl ((fun o => by cases o <;> exact Nat.le_of_ble_eq_true rfl : ∀ o : Option Nat, (zaf [va_rf o, .int 0]).length ≤ mX10_names.2.2.1) o54) (Nat.le_of_ble_eq_true rfl) rfl ((fun o => by cases o <;> rfl : ∀ o : Option Nat, zargs mX10_names.2.2.1 [va_rf o, .int 0] = [some (va_rf o), some (.int 0)]) o54) (aw_aload_nO (pc' := 1) (dt_X10_names 0 (0, .aload_n 0, 1) rfl) rfl rfl (aw_ifnullO (pc' := 4) (tgt := 19) (dt_X10_names 1 (1, .ifnull 18, 3) rfl) (by decide) rfl ?_ ?_))))))))
            · intro e84
              have h := h.1 e84
              refine aw_iconst (pc' := 20) (v := 0) (dt_X10_names 11 (19, .iconst 0, 1) rfl) (by decide) rfl (aw_iret (dt_X10_names 12 (20, .ireturn, 1) rfl) rfl rfl (aw_stk (st' := [.int 0]) rfl (aw_if_eq_T (pc' := 70) (tgt := 77) (dt_X10_judge 35 (67, .ifCond .eq 10, 3) rfl) (by decide) rfl (by decide) (aw_aload_n (pc' := 78) (dt_X10_judge 39 (77, .aload_n 1, 1) rfl) rfl rfl (aw_getI (pc' := 81) (dt_X10_judge 40 (78, .getfield 478, 3) rfl) fl_ReturnDesk_478 rfl rfl g78 (aw_drop (ls' := [some (.ref 11), some (.ref a1), none, some (va_rf o6), some (va_rf o54), none, none, none, none, none, none, none, none]) ⟨rfl, rfl, rfl, rfl, trivial⟩ ?_))))))
              exact h
            · intro b85 e84
              have h := h.2 b85 e84
              obtain ⟨g86, h⟩ := h
              refine aw_aload_nO (pc' := 5) (dt_X10_names 2 (4, .aload_n 0, 1) rfl) rfl rfl (aw_rf e84 (aw_getI (pc' := 8) (dt_X10_names 3 (5, .getfield 458, 3) rfl) fl_ReturnDesk_458 rfl rfl g86 (aw_iconst (pc' := 9) (v := 1) (dt_X10_names 4 (8, .iconst 1, 1) rfl) (by decide) rfl (aw_iload_n (pc' := 10) (dt_X10_names 5 (9, .iload_n 1, 1) rfl) rfl rfl (aw_ishl (pc' := 11) (dt_X10_names 6 (10, .ishl, 1) rfl) rfl (aw_iand (pc' := 12) (dt_X10_names 7 (11, .iand, 1) rfl) rfl (aw_if_eq (pc' := 15) (tgt := 19) (dt_X10_names 8 (12, .ifCond .eq 7, 3) rfl) (by decide) rfl ?_ ?_)))))))
              · intro q87
                have h := h.1 q87
                refine aw_iconst (pc' := 20) (v := 0) (dt_X10_names 11 (19, .iconst 0, 1) rfl) (by decide) rfl (aw_iret (dt_X10_names 12 (20, .ireturn, 1) rfl) rfl rfl (aw_stk (st' := [.int 0]) rfl (aw_if_eq_T (pc' := 70) (tgt := 77) (dt_X10_judge 35 (67, .ifCond .eq 10, 3) rfl) (by decide) rfl (by decide) (aw_aload_n (pc' := 78) (dt_X10_judge 39 (77, .aload_n 1, 1) rfl) rfl rfl (aw_getI (pc' := 81) (dt_X10_judge 40 (78, .getfield 478, 3) rfl) fl_ReturnDesk_478 rfl rfl g78 (aw_drop (ls' := [some (.ref 11), some (.ref a1), none, some (va_rf o6), some (va_rf o54), none, none, none, none, none, none, none, none]) ⟨rfl, rfl, rfl, rfl, trivial⟩ ?_))))))
                exact h
              · intro q87
                have h := h.2 q87
                refine aw_iconst (pc' := 16) (v := 1) (dt_X10_names 9 (15, .iconst 1, 1) rfl) (by decide) rfl (aw_goto (tgt := 20) (dt_X10_names 10 (16, .goto 4, 3) rfl) (by decide) (aw_iret (dt_X10_names 12 (20, .ireturn, 1) rfl) rfl rfl (aw_stk (st' := [.int 1]) rfl (aw_if_eq_F (pc' := 70) (tgt := 77) (dt_X10_judge 35 (67, .ifCond .eq 10, 3) rfl) (by decide) rfl (by decide) (aw_drop (ls' := [some (.ref 11), some (.ref a1), none, some (va_rf o6), some (va_rf o54), none, none, none, none, none, none, none, none]) ⟨rfl, rfl, rfl, rfl, trivial⟩ ?_)))))
                exact h
          · intro b83 e82
            have h := h.2 b83 e82
            obtain ⟨g88, h⟩ := h
            refine aw_aload_nO (pc' := 5) (dt_X10_names 2 (4, .aload_n 0, 1) rfl) rfl rfl (aw_rf e82 (aw_getI (pc' := 8) (dt_X10_names 3 (5, .getfield 458, 3) rfl) fl_ReturnDesk_458 rfl rfl g88 (aw_iconst (pc' := 9) (v := 1) (dt_X10_names 4 (8, .iconst 1, 1) rfl) (by decide) rfl (aw_iload_n (pc' := 10) (dt_X10_names 5 (9, .iload_n 1, 1) rfl) rfl rfl (aw_ishl (pc' := 11) (dt_X10_names 6 (10, .ishl, 1) rfl) rfl (aw_iand (pc' := 12) (dt_X10_names 7 (11, .iand, 1) rfl) rfl (aw_if_eq (pc' := 15) (tgt := 19) (dt_X10_names 8 (12, .ifCond .eq 7, 3) rfl) (by decide) rfl ?_ ?_)))))))
            · intro q89
              have h := h.1 q89
              refine aw_iconst (pc' := 20) (v := 0) (dt_X10_names 11 (19, .iconst 0, 1) rfl) (by decide) rfl (aw_iret (dt_X10_names 12 (20, .ireturn, 1) rfl) rfl rfl (aw_stk (st' := [.int 0]) rfl (aw_if_ne_F (pc' := 61) (tgt := 70) (dt_X10_judge 31 (58, .ifCond .ne 12, 3) rfl) (by decide) rfl (by decide) (aw_aloadO (pc' := 63) (dt_X10_judge 32 (61, .aload 4, 2) rfl) rfl rfl (aw_iconst (pc' := 64) (v := 0) (dt_X10_judge 33 (63, .iconst 0, 1) rfl) (by decide) rfl (aw_inS (pc' := 67) (nc1 := 0) (ns1 := 0) (nc := nc) (ns := ns) (ls' := [some (va_rf o54), some (.int 0)]) (y2 := mX10_names) (As := [va_rf o54, .int 0]) (rest := []) (dt_X10_judge 34 (64, .invokestatic 471, 3) rfl) ok_X10_names ln_ReturnDesk_471 sm_X10_names pr_X10_names rfl ((fun o => by cases o <;> exact Nat.le_of_ble_eq_true rfl : ∀ o : Option Nat, (zaf [va_rf o, .int 0]).length ≤ mX10_names.2.2.1) o54) (Nat.le_of_ble_eq_true rfl) rfl ((fun o => by cases o <;> rfl : ∀ o : Option Nat, zargs mX10_names.2.2.1 [va_rf o, .int 0] = [some (va_rf o), some (.int 0)]) o54) (aw_aload_nO (pc' := 1) (dt_X10_names 0 (0, .aload_n 0, 1) rfl) rfl rfl (aw_ifnullO (pc' := 4) (tgt := 19) (dt_X10_names 1 (1, .ifnull 18, 3) rfl) (by decide) rfl ?_ ?_))))))))
              · intro e90
                have h := h.1 e90
                refine aw_iconst (pc' := 20) (v := 0) (dt_X10_names 11 (19, .iconst 0, 1) rfl) (by decide) rfl (aw_iret (dt_X10_names 12 (20, .ireturn, 1) rfl) rfl rfl (aw_stk (st' := [.int 0]) rfl (aw_if_eq_T (pc' := 70) (tgt := 77) (dt_X10_judge 35 (67, .ifCond .eq 10, 3) rfl) (by decide) rfl (by decide) (aw_aload_n (pc' := 78) (dt_X10_judge 39 (77, .aload_n 1, 1) rfl) rfl rfl (aw_getI (pc' := 81) (dt_X10_judge 40 (78, .getfield 478, 3) rfl) fl_ReturnDesk_478 rfl rfl g78 (aw_drop (ls' := [some (.ref 11), some (.ref a1), none, some (va_rf o6), some (va_rf o54), none, none, none, none, none, none, none, none]) ⟨rfl, rfl, rfl, rfl, trivial⟩ ?_))))))
                exact h
              · intro b91 e90
                have h := h.2 b91 e90
                obtain ⟨g92, h⟩ := h
                refine aw_aload_nO (pc' := 5) (dt_X10_names 2 (4, .aload_n 0, 1) rfl) rfl rfl (aw_rf e90 (aw_getI (pc' := 8) (dt_X10_names 3 (5, .getfield 458, 3) rfl) fl_ReturnDesk_458 rfl rfl g92 (aw_iconst (pc' := 9) (v := 1) (dt_X10_names 4 (8, .iconst 1, 1) rfl) (by decide) rfl (aw_iload_n (pc' := 10) (dt_X10_names 5 (9, .iload_n 1, 1) rfl) rfl rfl (aw_ishl (pc' := 11) (dt_X10_names 6 (10, .ishl, 1) rfl) rfl (aw_iand (pc' := 12) (dt_X10_names 7 (11, .iand, 1) rfl) rfl (aw_if_eq (pc' := 15) (tgt := 19) (dt_X10_names 8 (12, .ifCond .eq 7, 3) rfl) (by decide) rfl ?_ ?_)))))))
                · intro q93
                  have h := h.1 q93
                  refine aw_iconst (pc' := 20) (v := 0) (dt_X10_names 11 (19, .iconst 0, 1) rfl) (by decide) rfl (aw_iret (dt_X10_names 12 (20, .ireturn, 1) rfl) rfl rfl (aw_stk (st' := [.int 0]) rfl (aw_if_eq_T (pc' := 70) (tgt := 77) (dt_X10_judge 35 (67, .ifCond .eq 10, 3) rfl) (by decide) rfl (by decide) (aw_aload_n (pc' := 78) (dt_X10_judge 39 (77, .aload_n 1, 1) rfl) rfl rfl (aw_getI (pc' := 81) (dt_X10_judge 40 (78, .getfield 478, 3) rfl) fl_ReturnDesk_478 rfl rfl g78 (aw_drop (ls' := [some (.ref 11), some (.ref a1), none, some (va_rf o6), some (va_rf o54), none, none, none, none, none, none, none, none]) ⟨rfl, rfl, rfl, rfl, trivial⟩ ?_))))))
                  exact h
                · intro q93
                  have h := h.2 q93
                  refine aw_iconst (pc' := 16) (v := 1) (dt_X10_names 9 (15, .iconst 1, 1) rfl) (by decide) rfl (aw_goto (tgt := 20) (dt_X10_names 10 (16, .goto 4, 3) rfl) (by decide) (aw_iret (dt_X10_names 12 (20, .ireturn, 1) rfl) rfl rfl (aw_stk (st' := [.int 1]) rfl (aw_if_eq_F (pc' := 70) (tgt := 77) (dt_X10_judge 35 (67, .ifCond .eq 10, 3) rfl) (by decide) rfl (by decide) (aw_drop (ls' := [some (.ref 11), some (.ref a1), none, some (va_rf o6), some (va_rf o54), none, none, none, none, none, none, none, none]) ⟨rfl, rfl, rfl, rfl, trivial⟩ ?_)))))
                  exact h
            · intro q89
              have h := h.2 q89
              refine aw_iconst (pc' := 16) (v := 1) (dt_X10_names 9 (15, .iconst 1, 1) rfl) (by decide) rfl (aw_goto (tgt := 20) (dt_X10_names 10 (16, .goto 4, 3) rfl) (by decide) (aw_iret (dt_X10_names 12 (20, .ireturn, 1) rfl) rfl rfl (aw_stk (st' := [.int 1]) rfl (aw_if_ne_T (pc' := 61) (tgt := 70) (dt_X10_judge 31 (58, .ifCond .ne 12, 3) rfl) (by decide) rfl (by decide) (aw_drop (ls' := [some (.ref 11), some (.ref a1), none, some (va_rf o6), some (va_rf o54), none, none, none, none, none, none, none, none]) ⟨rfl, rfl, rfl, rfl, trivial⟩ ?_)))))
              exact h
  · intro b3 e2
    have h := h.2 b3 e2
    refine aw_iload_n (pc' := 7) (dt_X10_judge 4 (6, .iload_n 2, 1) rfl) rfl rfl (aw_callV0 (pc' := 10) (nc := nc) (ns := ns) (y2 := mX10_textFor) (As := [.int 0, .ref b3, .int x2]) (rest := []) (a := 11) (dt_X10_judge 5 (7, .invokevirtual 222, 3) rfl) ok_X10_textFor ln_ReturnDesk_222 im_X10_textFor se_X10_textFor pr_X10_textFor (Or.inl ⟨by decide, rfl⟩) rfl (Nat.le_of_ble_eq_true rfl) (Nat.le_of_ble_eq_true rfl) rfl (sk_11 hS) h ?_)
    rintro v μ94 ⟨o96, rfl, hS95, h⟩
    refine aw_stk (st' := [va_rf o96]) rfl ?_
    obtain ⟨g97, h⟩ := h
    refine aw_astore_nO (pc' := 11) (ls' := [some (.ref 11), some (.ref a1), some (.int x2), some (va_rf o96), none, none, none, none, none, none, none, none, none]) (dt_X10_judge 6 (10, .astore_n 3, 1) rfl) (by decide) rfl rfl (aw_aload_n (pc' := 12) (dt_X10_judge 7 (11, .aload_n 0, 1) rfl) rfl rfl (aw_iconst (pc' := 13) (v := 1) (dt_X10_judge 8 (12, .iconst 1, 1) rfl) (by decide) rfl (aw_aload_n (pc' := 14) (dt_X10_judge 9 (13, .aload_n 1, 1) rfl) rfl rfl (aw_getA (pc' := 17) (dt_X10_judge 10 (14, .getfield 271, 3) rfl) fl_ReturnDesk_271 rfl rfl g97 ?_ ?_))))
    · intro e98
      have h := h.1 e98
      refine aw_iload_n (pc' := 18) (dt_X10_judge 11 (17, .iload_n 2, 1) rfl) rfl rfl (aw_callV0 (pc' := 21) (nc := nc) (ns := ns) (y2 := mX10_textFor) (As := [.int 1, .null, .int x2]) (rest := []) (a := 11) (dt_X10_judge 12 (18, .invokevirtual 222, 3) rfl) ok_X10_textFor ln_ReturnDesk_222 im_X10_textFor se_X10_textFor pr_X10_textFor (Or.inl ⟨by decide, rfl⟩) rfl (Nat.le_of_ble_eq_true rfl) (Nat.le_of_ble_eq_true rfl) rfl (sk_11 hS95) h ?_)
      rintro v μ100 ⟨o102, rfl, hS101, h⟩
      refine aw_stk (st' := [va_rf o102]) rfl ?_
      obtain ⟨g103, h⟩ := h
      refine aw_astoreO (pc' := 23) (ls' := [some (.ref 11), some (.ref a1), some (.int x2), some (va_rf o96), some (va_rf o102), none, none, none, none, none, none, none, none]) (dt_X10_judge 13 (21, .astore 4, 2) rfl) (by decide) (zset1_o (j := 3) rfl (zcat_rf _) rfl) rfl (aw_aload_n (pc' := 24) (dt_X10_judge 14 (23, .aload_n 0, 1) rfl) rfl rfl (aw_aload_n (pc' := 25) (dt_X10_judge 15 (24, .aload_n 1, 1) rfl) rfl rfl (aw_getA (pc' := 28) (dt_X10_judge 16 (25, .getfield 271, 3) rfl) fl_ReturnDesk_271 rfl rfl g103 ?_ ?_)))
      · intro e104
        have h := h.1 e104
        refine aw_aload_n (pc' := 29) (dt_X10_judge 17 (28, .aload_n 1, 1) rfl) rfl rfl (aw_getI (pc' := 32) (dt_X10_judge 18 (29, .getfield 278, 3) rfl) fl_ReturnDesk_278 rfl rfl g103 (aw_aload_n (pc' := 33) (dt_X10_judge 19 (32, .aload_n 1, 1) rfl) rfl rfl (aw_getI (pc' := 36) (dt_X10_judge 20 (33, .getfield 268, 3) rfl) fl_ReturnDesk_268 rfl rfl g103 (aw_callV0 (pc' := 39) (nc := nc) (ns := ns) (y2 := mX10_tellSale) (As := [.null, .int (zI μ100 a1 1), .int (zI μ100 a1 2)]) (rest := []) (a := 11) (dt_X10_judge 21 (36, .invokevirtual 230, 3) rfl) ok_X10_tellSale ln_ReturnDesk_230 im_X10_tellSale se_X10_tellSale pr_X10_tellSale (Or.inl ⟨by decide, rfl⟩) rfl (Nat.le_of_ble_eq_true rfl) (Nat.le_of_ble_eq_true rfl) rfl (sk_11 hS101) h ?_))))
        rintro v μ106 ⟨rfl, hS107, h⟩
        refine aw_stk (st' := []) rfl ?_
        obtain ⟨g108, h⟩ := h
        refine aw_aload_n (pc' := 40) (dt_X10_judge 22 (39, .aload_n 0, 1) rfl) rfl rfl (aw_getAs (pc' := 43) (dt_X10_judge 23 (40, .getfield 68, 3) rfl) fl_ReturnDesk_68 rfl rfl (sk_11 hS107) (sa_11_9 hS107) (aw_aload_n (pc' := 44) (dt_X10_judge 24 (43, .aload_n 1, 1) rfl) rfl rfl (aw_getA (pc' := 47) (dt_X10_judge 25 (44, .getfield 271, 3) rfl) fl_ReturnDesk_271 rfl rfl g108 ?_ ?_)))
        · intro e109
          have h := h.1 e109
          exact h.elim
        · intro b110 e109
          have h := h.2 b110 e109
          obtain ⟨g111, h⟩ := h
          refine aw_getI (pc' := 50) (dt_X10_judge 26 (47, .getfield 145, 3) rfl) fl_ReturnDesk_145 rfl rfl g111 (aw_inV (pc' := 53) (nc1 := 0) (ns1 := 0) (nc := nc) (ns := ns) (ls' := [some (.ref 29), some (.int (zI μ106 b110 9))]) (y2 := mX1_start) (As := [.int (zI μ106 b110 9)]) (rest := []) (a := 29) (dt_X10_judge 27 (50, .invokevirtual 468, 3) rfl) ok_X1_start ln_ReturnDesk_468 im_X1_start se_X1_start pr_X1_start (Or.inl ⟨by decide, rfl⟩) rfl (Nat.le_of_ble_eq_true rfl) (Nat.le_of_ble_eq_true rfl) rfl rfl (sk_29 hS107) (aw_aload_n (pc' := 1) (dt_X1_start 0 (0, .aload_n 0, 1) rfl) rfl rfl (aw_iload_n (pc' := 2) (dt_X1_start 1 (1, .iload_n 1, 1) rfl) rfl rfl (aw_putI (pc' := 5) (dt_X1_start 2 (2, .putfield 9, 3) rfl) fl_Judgement_9 rfl (by decide +kernel) rfl (sk_29 hS107) (aw_aload_n (pc' := 6) (dt_X1_start 3 (5, .aload_n 0, 1) rfl) rfl rfl (aw_iconst (pc' := 7) (v := 0) (dt_X1_start 4 (6, .iconst 0, 1) rfl) (by decide) rfl (aw_putZ (pc' := 10) (dt_X1_start 5 (7, .putfield 15, 3) rfl) fl_Judgement_15 rfl (by decide +kernel) rfl (sk_29 hS107.wI) (by decide) (aw_aload_n (pc' := 11) (dt_X1_start 6 (10, .aload_n 0, 1) rfl) rfl rfl (aw_iconst (pc' := 12) (v := 0) (dt_X1_start 7 (11, .iconst 0, 1) rfl) (by decide) rfl (aw_putI (pc' := 15) (dt_X1_start 8 (12, .putfield 19, 3) rfl) fl_Judgement_19 rfl (by decide +kernel) rfl (sk_29 hS107.wI.wI) (aw_aload_n (pc' := 16) (dt_X1_start 9 (15, .aload_n 0, 1) rfl) rfl rfl (aw_iconst (pc' := 17) (v := 0) (dt_X1_start 10 (16, .iconst 0, 1) rfl) (by decide) rfl (aw_putI (pc' := 20) (dt_X1_start 11 (17, .putfield 22, 3) rfl) fl_Judgement_22 rfl (by decide +kernel) rfl (sk_29 hS107.wI.wI.wI) (aw_aload_n (pc' := 21) (dt_X1_start 12 (20, .aload_n 0, 1) rfl) rfl rfl (aw_iconst (pc' := 22) (v := 0) (dt_X1_start 13 (21, .iconst 0, 1) rfl) (by decide) rfl (aw_putI (pc' := 25) (dt_X1_start 14 (22, .putfield 25, 3) rfl) fl_Judgement_25 rfl (by decide +kernel) rfl (sk_29 hS107.wI.wI.wI.wI) (aw_aload_n (pc' := 26) (dt_X1_start 15 (25, .aload_n 0, 1) rfl) rfl rfl (aw_iconst (pc' := 27) (v := 0) (dt_X1_start 16 (26, .iconst 0, 1) rfl) (by decide) rfl (aw_putI (pc' := 30) (dt_X1_start 17 (27, .putfield 28, 3) rfl) fl_Judgement_28 rfl (by decide +kernel) rfl (sk_29 hS107.wI.wI.wI.wI.wI) (aw_aload_n (pc' := 31) (dt_X1_start 18 (30, .aload_n 0, 1) rfl) rfl rfl (aw_iconst (pc' := 32) (v := 0) (dt_X1_start 19 (31, .iconst 0, 1) rfl) (by decide) rfl (aw_putI (pc' := 35) (dt_X1_start 20 (32, .putfield 31, 3) rfl) fl_Judgement_31 rfl (by decide +kernel) rfl (sk_29 hS107.wI.wI.wI.wI.wI.wI) (aw_ret (dt_X1_start 21 (35, .return_, 1) rfl) rfl (aw_stk (st' := []) rfl (aw_aload_nO (pc' := 54) (dt_X10_judge 28 (53, .aload_n 3, 1) rfl) rfl rfl (aw_iconst (pc' := 55) (v := 0) (dt_X10_judge 29 (54, .iconst 0, 1) rfl) (by decide) rfl (aw_inS (pc' := 58) (nc1 := 0) (ns1 := 0) (nc := nc) (ns := ns) (ls' := [some (va_rf o96), some (.int 0)]) (y2 := mX10_names) (As := [va_rf o96, .int 0]) (rest := []) (dt_X10_judge 30 (55, .invokestatic 471, 3) rfl) ok_X10_names ln_ReturnDesk_471 sm_X10_names pr_X10_names rfl ((fun o => by cases o <;> exact Nat.le_of_ble_eq_true rfl : ∀ o : Option Nat, (zaf [va_rf o, .int 0]).length ≤ mX10_names.2.2.1) o96) (Nat.le_of_ble_eq_true rfl) rfl ((fun o => by cases o <;> rfl : ∀ o : Option Nat, zargs mX10_names.2.2.1 [va_rf o, .int 0] = [some (va_rf o), some (.int 0)]) o96) (aw_aload_nO (pc' := 1) (dt_X10_names 0 (0, .aload_n 0, 1) rfl) rfl rfl (aw_ifnullO (pc' := 4) (tgt := 19) (dt_X10_names 1 (1, .ifnull 18, 3) rfl) (by decide) rfl ?_ ?_)))))))))))))))))))))))))))))
          · intro e112
            have h := h.1 e112
            refine aw_iconst (pc' := 20) (v := 0) (dt_X10_names 11 (19, .iconst 0, 1) rfl) (by decide) rfl (aw_iret (dt_X10_names 12 (20, .ireturn, 1) rfl) rfl rfl (aw_stk (st' := [.int 0]) rfl (aw_if_ne_F (pc' := 61) (tgt := 70) (dt_X10_judge 31 (58, .ifCond .ne 12, 3) rfl) (by decide) rfl (by decide) (aw_aloadO (pc' := 63) (dt_X10_judge 32 (61, .aload 4, 2) rfl) rfl rfl (aw_iconst (pc' := 64) (v := 0) (dt_X10_judge 33 (63, .iconst 0, 1) rfl) (by decide) rfl (aw_inS (pc' := 67) (nc1 := 0) (ns1 := 0) (nc := nc) (ns := ns) (ls' := [some (va_rf o102), some (.int 0)]) (y2 := mX10_names) (As := [va_rf o102, .int 0]) (rest := []) (dt_X10_judge 34 (64, .invokestatic 471, 3) rfl) ok_X10_names ln_ReturnDesk_471 sm_X10_names pr_X10_names rfl ((fun o => by cases o <;> exact Nat.le_of_ble_eq_true rfl : ∀ o : Option Nat, (zaf [va_rf o, .int 0]).length ≤ mX10_names.2.2.1) o102) (Nat.le_of_ble_eq_true rfl) rfl ((fun o => by cases o <;> rfl : ∀ o : Option Nat, zargs mX10_names.2.2.1 [va_rf o, .int 0] = [some (va_rf o), some (.int 0)]) o102) (aw_aload_nO (pc' := 1) (dt_X10_names 0 (0, .aload_n 0, 1) rfl) rfl rfl (aw_ifnullO (pc' := 4) (tgt := 19) (dt_X10_names 1 (1, .ifnull 18, 3) rfl) (by decide) rfl ?_ ?_))))))))
            · intro e114
              have h := h.1 e114
              refine aw_iconst (pc' := 20) (v := 0) (dt_X10_names 11 (19, .iconst 0, 1) rfl) (by decide) rfl (aw_iret (dt_X10_names 12 (20, .ireturn, 1) rfl) rfl rfl (aw_stk (st' := [.int 0]) rfl (aw_if_eq_T (pc' := 70) (tgt := 77) (dt_X10_judge 35 (67, .ifCond .eq 10, 3) rfl) (by decide) rfl (by decide) (aw_aload_n (pc' := 78) (dt_X10_judge 39 (77, .aload_n 1, 1) rfl) rfl rfl (aw_getI (pc' := 81) (dt_X10_judge 40 (78, .getfield 478, 3) rfl) fl_ReturnDesk_478 rfl rfl g108 (aw_drop (ls' := [some (.ref 11), some (.ref a1), none, some (va_rf o96), some (va_rf o102), none, none, none, none, none, none, none, none]) ⟨rfl, rfl, rfl, rfl, trivial⟩ ?_))))))
              exact h
            · intro b115 e114
              have h := h.2 b115 e114
              obtain ⟨g116, h⟩ := h
              refine aw_aload_nO (pc' := 5) (dt_X10_names 2 (4, .aload_n 0, 1) rfl) rfl rfl (aw_rf e114 (aw_getI (pc' := 8) (dt_X10_names 3 (5, .getfield 458, 3) rfl) fl_ReturnDesk_458 rfl rfl g116 (aw_iconst (pc' := 9) (v := 1) (dt_X10_names 4 (8, .iconst 1, 1) rfl) (by decide) rfl (aw_iload_n (pc' := 10) (dt_X10_names 5 (9, .iload_n 1, 1) rfl) rfl rfl (aw_ishl (pc' := 11) (dt_X10_names 6 (10, .ishl, 1) rfl) rfl (aw_iand (pc' := 12) (dt_X10_names 7 (11, .iand, 1) rfl) rfl (aw_if_eq (pc' := 15) (tgt := 19) (dt_X10_names 8 (12, .ifCond .eq 7, 3) rfl) (by decide) rfl ?_ ?_)))))))
              · intro q117
                have h := h.1 q117
                refine aw_iconst (pc' := 20) (v := 0) (dt_X10_names 11 (19, .iconst 0, 1) rfl) (by decide) rfl (aw_iret (dt_X10_names 12 (20, .ireturn, 1) rfl) rfl rfl (aw_stk (st' := [.int 0]) rfl (aw_if_eq_T (pc' := 70) (tgt := 77) (dt_X10_judge 35 (67, .ifCond .eq 10, 3) rfl) (by decide) rfl (by decide) (aw_aload_n (pc' := 78) (dt_X10_judge 39 (77, .aload_n 1, 1) rfl) rfl rfl (aw_getI (pc' := 81) (dt_X10_judge 40 (78, .getfield 478, 3) rfl) fl_ReturnDesk_478 rfl rfl g108 (aw_drop (ls' := [some (.ref 11), some (.ref a1), none, some (va_rf o96), some (va_rf o102), none, none, none, none, none, none, none, none]) ⟨rfl, rfl, rfl, rfl, trivial⟩ ?_))))))
                exact h
              · intro q117
                have h := h.2 q117
                refine aw_iconst (pc' := 16) (v := 1) (dt_X10_names 9 (15, .iconst 1, 1) rfl) (by decide) rfl (aw_goto (tgt := 20) (dt_X10_names 10 (16, .goto 4, 3) rfl) (by decide) (aw_iret (dt_X10_names 12 (20, .ireturn, 1) rfl) rfl rfl (aw_stk (st' := [.int 1]) rfl (aw_if_eq_F (pc' := 70) (tgt := 77) (dt_X10_judge 35 (67, .ifCond .eq 10, 3) rfl) (by decide) rfl (by decide) (aw_drop (ls' := [some (.ref 11), some (.ref a1), none, some (va_rf o96), some (va_rf o102), none, none, none, none, none, none, none, none]) ⟨rfl, rfl, rfl, rfl, trivial⟩ ?_)))))
                exact h
          · intro b113 e112
            have h := h.2 b113 e112
            obtain ⟨g118, h⟩ := h
            refine aw_aload_nO (pc' := 5) (dt_X10_names 2 (4, .aload_n 0, 1) rfl) rfl rfl (aw_rf e112 (aw_getI (pc' := 8) (dt_X10_names 3 (5, .getfield 458, 3) rfl) fl_ReturnDesk_458 rfl rfl g118 (aw_iconst (pc' := 9) (v := 1) (dt_X10_names 4 (8, .iconst 1, 1) rfl) (by decide) rfl (aw_iload_n (pc' := 10) (dt_X10_names 5 (9, .iload_n 1, 1) rfl) rfl rfl (aw_ishl (pc' := 11) (dt_X10_names 6 (10, .ishl, 1) rfl) rfl (aw_iand (pc' := 12) (dt_X10_names 7 (11, .iand, 1) rfl) rfl (aw_if_eq (pc' := 15) (tgt := 19) (dt_X10_names 8 (12, .ifCond .eq 7, 3) rfl) (by decide) rfl ?_ ?_)))))))
            · intro q119
              have h := h.1 q119
              refine aw_iconst (pc' := 20) (v := 0) (dt_X10_names 11 (19, .iconst 0, 1) rfl) (by decide) rfl (aw_iret (dt_X10_names 12 (20, .ireturn, 1) rfl) rfl rfl (aw_stk (st' := [.int 0]) rfl (aw_if_ne_F (pc' := 61) (tgt := 70) (dt_X10_judge 31 (58, .ifCond .ne 12, 3) rfl) (by decide) rfl (by decide) (aw_aloadO (pc' := 63) (dt_X10_judge 32 (61, .aload 4, 2) rfl) rfl rfl (aw_iconst (pc' := 64) (v := 0) (dt_X10_judge 33 (63, .iconst 0, 1) rfl) (by decide) rfl (aw_inS (pc' := 67) (nc1 := 0) (ns1 := 0) (nc := nc) (ns := ns) (ls' := [some (va_rf o102), some (.int 0)]) (y2 := mX10_names) (As := [va_rf o102, .int 0]) (rest := []) (dt_X10_judge 34 (64, .invokestatic 471, 3) rfl) ok_X10_names ln_ReturnDesk_471 sm_X10_names pr_X10_names rfl ((fun o => by cases o <;> exact Nat.le_of_ble_eq_true rfl : ∀ o : Option Nat, (zaf [va_rf o, .int 0]).length ≤ mX10_names.2.2.1) o102) (Nat.le_of_ble_eq_true rfl) rfl ((fun o => by cases o <;> rfl : ∀ o : Option Nat, zargs mX10_names.2.2.1 [va_rf o, .int 0] = [some (va_rf o), some (.int 0)]) o102) (aw_aload_nO (pc' := 1) (dt_X10_names 0 (0, .aload_n 0, 1) rfl) rfl rfl (aw_ifnullO (pc' := 4) (tgt := 19) (dt_X10_names 1 (1, .ifnull 18, 3) rfl) (by decide) rfl ?_ ?_))))))))
              · intro e120
                have h := h.1 e120
                refine aw_iconst (pc' := 20) (v := 0) (dt_X10_names 11 (19, .iconst 0, 1) rfl) (by decide) rfl (aw_iret (dt_X10_names 12 (20, .ireturn, 1) rfl) rfl rfl (aw_stk (st' := [.int 0]) rfl (aw_if_eq_T (pc' := 70) (tgt := 77) (dt_X10_judge 35 (67, .ifCond .eq 10, 3) rfl) (by decide) rfl (by decide) (aw_aload_n (pc' := 78) (dt_X10_judge 39 (77, .aload_n 1, 1) rfl) rfl rfl (aw_getI (pc' := 81) (dt_X10_judge 40 (78, .getfield 478, 3) rfl) fl_ReturnDesk_478 rfl rfl g108 (aw_drop (ls' := [some (.ref 11), some (.ref a1), none, some (va_rf o96), some (va_rf o102), none, none, none, none, none, none, none, none]) ⟨rfl, rfl, rfl, rfl, trivial⟩ ?_))))))
                exact h
              · intro b121 e120
                have h := h.2 b121 e120
                obtain ⟨g122, h⟩ := h
                refine aw_aload_nO (pc' := 5) (dt_X10_names 2 (4, .aload_n 0, 1) rfl) rfl rfl (aw_rf e120 (aw_getI (pc' := 8) (dt_X10_names 3 (5, .getfield 458, 3) rfl) fl_ReturnDesk_458 rfl rfl g122 (aw_iconst (pc' := 9) (v := 1) (dt_X10_names 4 (8, .iconst 1, 1) rfl) (by decide) rfl (aw_iload_n (pc' := 10) (dt_X10_names 5 (9, .iload_n 1, 1) rfl) rfl rfl (aw_ishl (pc' := 11) (dt_X10_names 6 (10, .ishl, 1) rfl) rfl (aw_iand (pc' := 12) (dt_X10_names 7 (11, .iand, 1) rfl) rfl (aw_if_eq (pc' := 15) (tgt := 19) (dt_X10_names 8 (12, .ifCond .eq 7, 3) rfl) (by decide) rfl ?_ ?_)))))))
                · intro q123
                  have h := h.1 q123
                  refine aw_iconst (pc' := 20) (v := 0) (dt_X10_names 11 (19, .iconst 0, 1) rfl) (by decide) rfl (aw_iret (dt_X10_names 12 (20, .ireturn, 1) rfl) rfl rfl (aw_stk (st' := [.int 0]) rfl (aw_if_eq_T (pc' := 70) (tgt := 77) (dt_X10_judge 35 (67, .ifCond .eq 10, 3) rfl) (by decide) rfl (by decide) (aw_aload_n (pc' := 78) (dt_X10_judge 39 (77, .aload_n 1, 1) rfl) rfl rfl (aw_getI (pc' := 81) (dt_X10_judge 40 (78, .getfield 478, 3) rfl) fl_ReturnDesk_478 rfl rfl g108 (aw_drop (ls' := [some (.ref 11), some (.ref a1), none, some (va_rf o96), some (va_rf o102), none, none, none, none, none, none, none, none]) ⟨rfl, rfl, rfl, rfl, trivial⟩ ?_))))))
                  exact h
                · intro q123
                  have h := h.2 q123
                  refine aw_iconst (pc' := 16) (v := 1) (dt_X10_names 9 (15, .iconst 1, 1) rfl) (by decide) rfl (aw_goto (tgt := 20) (dt_X10_names 10 (16, .goto 4, 3) rfl) (by decide) (aw_iret (dt_X10_names 12 (20, .ireturn, 1) rfl) rfl rfl (aw_stk (st' := [.int 1]) rfl (aw_if_eq_F (pc' := 70) (tgt := 77) (dt_X10_judge 35 (67, .ifCond .eq 10, 3) rfl) (by decide) rfl (by decide) (aw_drop (ls' := [some (.ref 11), some (.ref a1), none, some (va_rf o96), some (va_rf o102), none, none, none, none, none, none, none, none]) ⟨rfl, rfl, rfl, rfl, trivial⟩ ?_)))))
                  exact h
            · intro q119
              have h := h.2 q119
              refine aw_iconst (pc' := 16) (v := 1) (dt_X10_names 9 (15, .iconst 1, 1) rfl) (by decide) rfl (aw_goto (tgt := 20) (dt_X10_names 10 (16, .goto 4, 3) rfl) (by decide) (aw_iret (dt_X10_names 12 (20, .ireturn, 1) rfl) rfl rfl (aw_stk (st' := [.int 1]) rfl (aw_if_ne_T (pc' := 61) (tgt := 70) (dt_X10_judge 31 (58, .ifCond .ne 12, 3) rfl) (by decide) rfl (by decide) (aw_drop (ls' := [some (.ref 11), some (.ref a1), none, some (va_rf o96), some (va_rf o102), none, none, none, none, none, none, none, none]) ⟨rfl, rfl, rfl, rfl, trivial⟩ ?_)))))
              exact h
      · intro b105 e104
        have h := h.2 b105 e104
        refine aw_aload_n (pc' := 29) (dt_X10_judge 17 (28, .aload_n 1, 1) rfl) rfl rfl (aw_getI (pc' := 32) (dt_X10_judge 18 (29, .getfield 278, 3) rfl) fl_ReturnDesk_278 rfl rfl g103 (aw_aload_n (pc' := 33) (dt_X10_judge 19 (32, .aload_n 1, 1) rfl) rfl rfl (aw_getI (pc' := 36) (dt_X10_judge 20 (33, .getfield 268, 3) rfl) fl_ReturnDesk_268 rfl rfl g103 (aw_callV0 (pc' := 39) (nc := nc) (ns := ns) (y2 := mX10_tellSale) (As := [.ref b105, .int (zI μ100 a1 1), .int (zI μ100 a1 2)]) (rest := []) (a := 11) (dt_X10_judge 21 (36, .invokevirtual 230, 3) rfl) ok_X10_tellSale ln_ReturnDesk_230 im_X10_tellSale se_X10_tellSale pr_X10_tellSale (Or.inl ⟨by decide, rfl⟩) rfl (Nat.le_of_ble_eq_true rfl) (Nat.le_of_ble_eq_true rfl) rfl (sk_11 hS101) h ?_))))
        rintro v μ124 ⟨rfl, hS125, h⟩
        refine aw_stk (st' := []) rfl ?_
        obtain ⟨g126, h⟩ := h
        refine aw_aload_n (pc' := 40) (dt_X10_judge 22 (39, .aload_n 0, 1) rfl) rfl rfl (aw_getAs (pc' := 43) (dt_X10_judge 23 (40, .getfield 68, 3) rfl) fl_ReturnDesk_68 rfl rfl (sk_11 hS125) (sa_11_9 hS125) (aw_aload_n (pc' := 44) (dt_X10_judge 24 (43, .aload_n 1, 1) rfl) rfl rfl (aw_getA (pc' := 47) (dt_X10_judge 25 (44, .getfield 271, 3) rfl) fl_ReturnDesk_271 rfl rfl g126 ?_ ?_)))
        · intro e127
          have h := h.1 e127
          exact h.elim
        · intro b128 e127
          have h := h.2 b128 e127
          obtain ⟨g129, h⟩ := h
          refine aw_getI (pc' := 50) (dt_X10_judge 26 (47, .getfield 145, 3) rfl) fl_ReturnDesk_145 rfl rfl g129 (aw_inV (pc' := 53) (nc1 := 0) (ns1 := 0) (nc := nc) (ns := ns) (ls' := [some (.ref 29), some (.int (zI μ124 b128 9))]) (y2 := mX1_start) (As := [.int (zI μ124 b128 9)]) (rest := []) (a := 29) (dt_X10_judge 27 (50, .invokevirtual 468, 3) rfl) ok_X1_start ln_ReturnDesk_468 im_X1_start se_X1_start pr_X1_start (Or.inl ⟨by decide, rfl⟩) rfl (Nat.le_of_ble_eq_true rfl) (Nat.le_of_ble_eq_true rfl) rfl rfl (sk_29 hS125) (aw_aload_n (pc' := 1) (dt_X1_start 0 (0, .aload_n 0, 1) rfl) rfl rfl (aw_iload_n (pc' := 2) (dt_X1_start 1 (1, .iload_n 1, 1) rfl) rfl rfl (aw_putI (pc' := 5) (dt_X1_start 2 (2, .putfield 9, 3) rfl) fl_Judgement_9 rfl (by decide +kernel) rfl (sk_29 hS125) (aw_aload_n (pc' := 6) (dt_X1_start 3 (5, .aload_n 0, 1) rfl) rfl rfl (aw_iconst (pc' := 7) (v := 0) (dt_X1_start 4 (6, .iconst 0, 1) rfl) (by decide) rfl (aw_putZ (pc' := 10) (dt_X1_start 5 (7, .putfield 15, 3) rfl) fl_Judgement_15 rfl (by decide +kernel) rfl (sk_29 hS125.wI) (by decide) (aw_aload_n (pc' := 11) (dt_X1_start 6 (10, .aload_n 0, 1) rfl) rfl rfl (aw_iconst (pc' := 12) (v := 0) (dt_X1_start 7 (11, .iconst 0, 1) rfl) (by decide) rfl (aw_putI (pc' := 15) (dt_X1_start 8 (12, .putfield 19, 3) rfl) fl_Judgement_19 rfl (by decide +kernel) rfl (sk_29 hS125.wI.wI) (aw_aload_n (pc' := 16) (dt_X1_start 9 (15, .aload_n 0, 1) rfl) rfl rfl (aw_iconst (pc' := 17) (v := 0) (dt_X1_start 10 (16, .iconst 0, 1) rfl) (by decide) rfl (aw_putI (pc' := 20) (dt_X1_start 11 (17, .putfield 22, 3) rfl) fl_Judgement_22 rfl (by decide +kernel) rfl (sk_29 hS125.wI.wI.wI) (aw_aload_n (pc' := 21) (dt_X1_start 12 (20, .aload_n 0, 1) rfl) rfl rfl (aw_iconst (pc' := 22) (v := 0) (dt_X1_start 13 (21, .iconst 0, 1) rfl) (by decide) rfl (aw_putI (pc' := 25) (dt_X1_start 14 (22, .putfield 25, 3) rfl) fl_Judgement_25 rfl (by decide +kernel) rfl (sk_29 hS125.wI.wI.wI.wI) (aw_aload_n (pc' := 26) (dt_X1_start 15 (25, .aload_n 0, 1) rfl) rfl rfl (aw_iconst (pc' := 27) (v := 0) (dt_X1_start 16 (26, .iconst 0, 1) rfl) (by decide) rfl (aw_putI (pc' := 30) (dt_X1_start 17 (27, .putfield 28, 3) rfl) fl_Judgement_28 rfl (by decide +kernel) rfl (sk_29 hS125.wI.wI.wI.wI.wI) (aw_aload_n (pc' := 31) (dt_X1_start 18 (30, .aload_n 0, 1) rfl) rfl rfl (aw_iconst (pc' := 32) (v := 0) (dt_X1_start 19 (31, .iconst 0, 1) rfl) (by decide) rfl (aw_putI (pc' := 35) (dt_X1_start 20 (32, .putfield 31, 3) rfl) fl_Judgement_31 rfl (by decide +kernel) rfl (sk_29 hS125.wI.wI.wI.wI.wI.wI) (aw_ret (dt_X1_start 21 (35, .return_, 1) rfl) rfl (aw_stk (st' := []) rfl (aw_aload_nO (pc' := 54) (dt_X10_judge 28 (53, .aload_n 3, 1) rfl) rfl rfl (aw_iconst (pc' := 55) (v := 0) (dt_X10_judge 29 (54, .iconst 0, 1) rfl) (by decide) rfl (aw_inS (pc' := 58) (nc1 := 0) (ns1 := 0) (nc := nc) (ns := ns) (ls' := [some (va_rf o96), some (.int 0)]) (y2 := mX10_names) (As := [va_rf o96, .int 0]) (rest := []) (dt_X10_judge 30 (55, .invokestatic 471, 3) rfl) ok_X10_names ln_ReturnDesk_471 sm_X10_names pr_X10_names rfl ((fun o => by cases o <;> exact Nat.le_of_ble_eq_true rfl : ∀ o : Option Nat, (zaf [va_rf o, .int 0]).length ≤ mX10_names.2.2.1) o96) (Nat.le_of_ble_eq_true rfl) rfl ((fun o => by cases o <;> rfl : ∀ o : Option Nat, zargs mX10_names.2.2.1 [va_rf o, .int 0] = [some (va_rf o), some (.int 0)]) o96) (aw_aload_nO (pc' := 1) (dt_X10_names 0 (0, .aload_n 0, 1) rfl) rfl rfl (aw_ifnullO (pc' := 4) (tgt := 19) (dt_X10_names 1 (1, .ifnull 18, 3) rfl) (by decide) rfl ?_ ?_)))))))))))))))))))))))))))))
          · intro e130
            have h := h.1 e130
            refine aw_iconst (pc' := 20) (v := 0) (dt_X10_names 11 (19, .iconst 0, 1) rfl) (by decide) rfl (aw_iret (dt_X10_names 12 (20, .ireturn, 1) rfl) rfl rfl (aw_stk (st' := [.int 0]) rfl (aw_if_ne_F (pc' := 61) (tgt := 70) (dt_X10_judge 31 (58, .ifCond .ne 12, 3) rfl) (by decide) rfl (by decide) (aw_aloadO (pc' := 63) (dt_X10_judge 32 (61, .aload 4, 2) rfl) rfl rfl (aw_iconst (pc' := 64) (v := 0) (dt_X10_judge 33 (63, .iconst 0, 1) rfl) (by decide) rfl (aw_inS (pc' := 67) (nc1 := 0) (ns1 := 0) (nc := nc) (ns := ns) (ls' := [some (va_rf o102), some (.int 0)]) (y2 := mX10_names) (As := [va_rf o102, .int 0]) (rest := []) (dt_X10_judge 34 (64, .invokestatic 471, 3) rfl) ok_X10_names ln_ReturnDesk_471 sm_X10_names pr_X10_names rfl ((fun o => by cases o <;> exact Nat.le_of_ble_eq_true rfl : ∀ o : Option Nat, (zaf [va_rf o, .int 0]).length ≤ mX10_names.2.2.1) o102) (Nat.le_of_ble_eq_true rfl) rfl ((fun o => by cases o <;> rfl : ∀ o : Option Nat, zargs mX10_names.2.2.1 [va_rf o, .int 0] = [some (va_rf o), some (.int 0)]) o102) (aw_aload_nO (pc' := 1) (dt_X10_names 0 (0, .aload_n 0, 1) rfl) rfl rfl (aw_ifnullO (pc' := 4) (tgt := 19) (dt_X10_names 1 (1, .ifnull 18, 3) rfl) (by decide) rfl ?_ ?_))))))))
            · intro e132
              have h := h.1 e132
              refine aw_iconst (pc' := 20) (v := 0) (dt_X10_names 11 (19, .iconst 0, 1) rfl) (by decide) rfl (aw_iret (dt_X10_names 12 (20, .ireturn, 1) rfl) rfl rfl (aw_stk (st' := [.int 0]) rfl (aw_if_eq_T (pc' := 70) (tgt := 77) (dt_X10_judge 35 (67, .ifCond .eq 10, 3) rfl) (by decide) rfl (by decide) (aw_aload_n (pc' := 78) (dt_X10_judge 39 (77, .aload_n 1, 1) rfl) rfl rfl (aw_getI (pc' := 81) (dt_X10_judge 40 (78, .getfield 478, 3) rfl) fl_ReturnDesk_478 rfl rfl g126 (aw_drop (ls' := [some (.ref 11), some (.ref a1), none, some (va_rf o96), some (va_rf o102), none, none, none, none, none, none, none, none]) ⟨rfl, rfl, rfl, rfl, trivial⟩ ?_))))))
              exact h
            · intro b133 e132
              have h := h.2 b133 e132
              obtain ⟨g134, h⟩ := h
              refine aw_aload_nO (pc' := 5) (dt_X10_names 2 (4, .aload_n 0, 1) rfl) rfl rfl (aw_rf e132 (aw_getI (pc' := 8) (dt_X10_names 3 (5, .getfield 458, 3) rfl) fl_ReturnDesk_458 rfl rfl g134 (aw_iconst (pc' := 9) (v := 1) (dt_X10_names 4 (8, .iconst 1, 1) rfl) (by decide) rfl (aw_iload_n (pc' := 10) (dt_X10_names 5 (9, .iload_n 1, 1) rfl) rfl rfl (aw_ishl (pc' := 11) (dt_X10_names 6 (10, .ishl, 1) rfl) rfl (aw_iand (pc' := 12) (dt_X10_names 7 (11, .iand, 1) rfl) rfl (aw_if_eq (pc' := 15) (tgt := 19) (dt_X10_names 8 (12, .ifCond .eq 7, 3) rfl) (by decide) rfl ?_ ?_)))))))
              · intro q135
                have h := h.1 q135
                refine aw_iconst (pc' := 20) (v := 0) (dt_X10_names 11 (19, .iconst 0, 1) rfl) (by decide) rfl (aw_iret (dt_X10_names 12 (20, .ireturn, 1) rfl) rfl rfl (aw_stk (st' := [.int 0]) rfl (aw_if_eq_T (pc' := 70) (tgt := 77) (dt_X10_judge 35 (67, .ifCond .eq 10, 3) rfl) (by decide) rfl (by decide) (aw_aload_n (pc' := 78) (dt_X10_judge 39 (77, .aload_n 1, 1) rfl) rfl rfl (aw_getI (pc' := 81) (dt_X10_judge 40 (78, .getfield 478, 3) rfl) fl_ReturnDesk_478 rfl rfl g126 (aw_drop (ls' := [some (.ref 11), some (.ref a1), none, some (va_rf o96), some (va_rf o102), none, none, none, none, none, none, none, none]) ⟨rfl, rfl, rfl, rfl, trivial⟩ ?_))))))
                exact h
              · intro q135
                have h := h.2 q135
                refine aw_iconst (pc' := 16) (v := 1) (dt_X10_names 9 (15, .iconst 1, 1) rfl) (by decide) rfl (aw_goto (tgt := 20) (dt_X10_names 10 (16, .goto 4, 3) rfl) (by decide) (aw_iret (dt_X10_names 12 (20, .ireturn, 1) rfl) rfl rfl (aw_stk (st' := [.int 1]) rfl (aw_if_eq_F (pc' := 70) (tgt := 77) (dt_X10_judge 35 (67, .ifCond .eq 10, 3) rfl) (by decide) rfl (by decide) (aw_drop (ls' := [some (.ref 11), some (.ref a1), none, some (va_rf o96), some (va_rf o102), none, none, none, none, none, none, none, none]) ⟨rfl, rfl, rfl, rfl, trivial⟩ ?_)))))
                exact h
          · intro b131 e130
            have h := h.2 b131 e130
            obtain ⟨g136, h⟩ := h
            refine aw_aload_nO (pc' := 5) (dt_X10_names 2 (4, .aload_n 0, 1) rfl) rfl rfl (aw_rf e130 (aw_getI (pc' := 8) (dt_X10_names 3 (5, .getfield 458, 3) rfl) fl_ReturnDesk_458 rfl rfl g136 (aw_iconst (pc' := 9) (v := 1) (dt_X10_names 4 (8, .iconst 1, 1) rfl) (by decide) rfl (aw_iload_n (pc' := 10) (dt_X10_names 5 (9, .iload_n 1, 1) rfl) rfl rfl (aw_ishl (pc' := 11) (dt_X10_names 6 (10, .ishl, 1) rfl) rfl (aw_iand (pc' := 12) (dt_X10_names 7 (11, .iand, 1) rfl) rfl (aw_if_eq (pc' := 15) (tgt := 19) (dt_X10_names 8 (12, .ifCond .eq 7, 3) rfl) (by decide) rfl ?_ ?_)))))))
            · intro q137
              have h := h.1 q137
              refine aw_iconst (pc' := 20) (v := 0) (dt_X10_names 11 (19, .iconst 0, 1) rfl) (by decide) rfl (aw_iret (dt_X10_names 12 (20, .ireturn, 1) rfl) rfl rfl (aw_stk (st' := [.int 0]) rfl (aw_if_ne_F (pc' := 61) (tgt := 70) (dt_X10_judge 31 (58, .ifCond .ne 12, 3) rfl) (by decide) rfl (by decide) (aw_aloadO (pc' := 63) (dt_X10_judge 32 (61, .aload 4, 2) rfl) rfl rfl (aw_iconst (pc' := 64) (v := 0) (dt_X10_judge 33 (63, .iconst 0, 1) rfl) (by decide) rfl (aw_inS (pc' := 67) (nc1 := 0) (ns1 := 0) (nc := nc) (ns := ns) (ls' := [some (va_rf o102), some (.int 0)]) (y2 := mX10_names) (As := [va_rf o102, .int 0]) (rest := []) (dt_X10_judge 34 (64, .invokestatic 471, 3) rfl) ok_X10_names ln_ReturnDesk_471 sm_X10_names pr_X10_names rfl ((fun o => by cases o <;> exact Nat.le_of_ble_eq_true rfl : ∀ o : Option Nat, (zaf [va_rf o, .int 0]).length ≤ mX10_names.2.2.1) o102) (Nat.le_of_ble_eq_true rfl) rfl ((fun o => by cases o <;> rfl : ∀ o : Option Nat, zargs mX10_names.2.2.1 [va_rf o, .int 0] = [some (va_rf o), some (.int 0)]) o102) (aw_aload_nO (pc' := 1) (dt_X10_names 0 (0, .aload_n 0, 1) rfl) rfl rfl (aw_ifnullO (pc' := 4) (tgt := 19) (dt_X10_names 1 (1, .ifnull 18, 3) rfl) (by decide) rfl ?_ ?_))))))))
              · intro e138
                have h := h.1 e138
                refine aw_iconst (pc' := 20) (v := 0) (dt_X10_names 11 (19, .iconst 0, 1) rfl) (by decide) rfl (aw_iret (dt_X10_names 12 (20, .ireturn, 1) rfl) rfl rfl (aw_stk (st' := [.int 0]) rfl (aw_if_eq_T (pc' := 70) (tgt := 77) (dt_X10_judge 35 (67, .ifCond .eq 10, 3) rfl) (by decide) rfl (by decide) (aw_aload_n (pc' := 78) (dt_X10_judge 39 (77, .aload_n 1, 1) rfl) rfl rfl (aw_getI (pc' := 81) (dt_X10_judge 40 (78, .getfield 478, 3) rfl) fl_ReturnDesk_478 rfl rfl g126 (aw_drop (ls' := [some (.ref 11), some (.ref a1), none, some (va_rf o96), some (va_rf o102), none, none, none, none, none, none, none, none]) ⟨rfl, rfl, rfl, rfl, trivial⟩ ?_))))))
                exact h
              · intro b139 e138
                have h := h.2 b139 e138
                obtain ⟨g140, h⟩ := h
                refine aw_aload_nO (pc' := 5) (dt_X10_names 2 (4, .aload_n 0, 1) rfl) rfl rfl (aw_rf e138 (aw_getI (pc' := 8) (dt_X10_names 3 (5, .getfield 458, 3) rfl) fl_ReturnDesk_458 rfl rfl g140 (aw_iconst (pc' := 9) (v := 1) (dt_X10_names 4 (8, .iconst 1, 1) rfl) (by decide) rfl (aw_iload_n (pc' := 10) (dt_X10_names 5 (9, .iload_n 1, 1) rfl) rfl rfl (aw_ishl (pc' := 11) (dt_X10_names 6 (10, .ishl, 1) rfl) rfl (aw_iand (pc' := 12) (dt_X10_names 7 (11, .iand, 1) rfl) rfl (aw_if_eq (pc' := 15) (tgt := 19) (dt_X10_names 8 (12, .ifCond .eq 7, 3) rfl) (by decide) rfl ?_ ?_)))))))
                · intro q141
                  have h := h.1 q141
                  refine aw_iconst (pc' := 20) (v := 0) (dt_X10_names 11 (19, .iconst 0, 1) rfl) (by decide) rfl (aw_iret (dt_X10_names 12 (20, .ireturn, 1) rfl) rfl rfl (aw_stk (st' := [.int 0]) rfl (aw_if_eq_T (pc' := 70) (tgt := 77) (dt_X10_judge 35 (67, .ifCond .eq 10, 3) rfl) (by decide) rfl (by decide) (aw_aload_n (pc' := 78) (dt_X10_judge 39 (77, .aload_n 1, 1) rfl) rfl rfl (aw_getI (pc' := 81) (dt_X10_judge 40 (78, .getfield 478, 3) rfl) fl_ReturnDesk_478 rfl rfl g126 (aw_drop (ls' := [some (.ref 11), some (.ref a1), none, some (va_rf o96), some (va_rf o102), none, none, none, none, none, none, none, none]) ⟨rfl, rfl, rfl, rfl, trivial⟩ ?_))))))
                  exact h
                · intro q141
                  have h := h.2 q141
                  refine aw_iconst (pc' := 16) (v := 1) (dt_X10_names 9 (15, .iconst 1, 1) rfl) (by decide) rfl (aw_goto (tgt := 20) (dt_X10_names 10 (16, .goto 4, 3) rfl) (by decide) (aw_iret (dt_X10_names 12 (20, .ireturn, 1) rfl) rfl rfl (aw_stk (st' := [.int 1]) rfl (aw_if_eq_F (pc' := 70) (tgt := 77) (dt_X10_judge 35 (67, .ifCond .eq 10, 3) rfl) (by decide) rfl (by decide) (aw_drop (ls' := [some (.ref 11), some (.ref a1), none, some (va_rf o96), some (va_rf o102), none, none, none, none, none, none, none, none]) ⟨rfl, rfl, rfl, rfl, trivial⟩ ?_)))))
                  exact h
            · intro q137
              have h := h.2 q137
              refine aw_iconst (pc' := 16) (v := 1) (dt_X10_names 9 (15, .iconst 1, 1) rfl) (by decide) rfl (aw_goto (tgt := 20) (dt_X10_names 10 (16, .goto 4, 3) rfl) (by decide) (aw_iret (dt_X10_names 12 (20, .ireturn, 1) rfl) rfl rfl (aw_stk (st' := [.int 1]) rfl (aw_if_ne_T (pc' := 61) (tgt := 70) (dt_X10_judge 31 (58, .ifCond .ne 12, 3) rfl) (by decide) rfl (by decide) (aw_drop (ls' := [some (.ref 11), some (.ref a1), none, some (va_rf o96), some (va_rf o102), none, none, none, none, none, none, none, none]) ⟨rfl, rfl, rfl, rfl, trivial⟩ ?_)))))
              exact h
    · intro b99 e98
      have h := h.2 b99 e98
      refine aw_iload_n (pc' := 18) (dt_X10_judge 11 (17, .iload_n 2, 1) rfl) rfl rfl (aw_callV0 (pc' := 21) (nc := nc) (ns := ns) (y2 := mX10_textFor) (As := [.int 1, .ref b99, .int x2]) (rest := []) (a := 11) (dt_X10_judge 12 (18, .invokevirtual 222, 3) rfl) ok_X10_textFor ln_ReturnDesk_222 im_X10_textFor se_X10_textFor pr_X10_textFor (Or.inl ⟨by decide, rfl⟩) rfl (Nat.le_of_ble_eq_true rfl) (Nat.le_of_ble_eq_true rfl) rfl (sk_11 hS95) h ?_)
      rintro v μ142 ⟨o144, rfl, hS143, h⟩
      refine aw_stk (st' := [va_rf o144]) rfl ?_
      obtain ⟨g145, h⟩ := h
      refine aw_astoreO (pc' := 23) (ls' := [some (.ref 11), some (.ref a1), some (.int x2), some (va_rf o96), some (va_rf o144), none, none, none, none, none, none, none, none]) (dt_X10_judge 13 (21, .astore 4, 2) rfl) (by decide) (zset1_o (j := 3) rfl (zcat_rf _) rfl) rfl (aw_aload_n (pc' := 24) (dt_X10_judge 14 (23, .aload_n 0, 1) rfl) rfl rfl (aw_aload_n (pc' := 25) (dt_X10_judge 15 (24, .aload_n 1, 1) rfl) rfl rfl (aw_getA (pc' := 28) (dt_X10_judge 16 (25, .getfield 271, 3) rfl) fl_ReturnDesk_271 rfl rfl g145 ?_ ?_)))
      · intro e146
        have h := h.1 e146
        refine aw_aload_n (pc' := 29) (dt_X10_judge 17 (28, .aload_n 1, 1) rfl) rfl rfl (aw_getI (pc' := 32) (dt_X10_judge 18 (29, .getfield 278, 3) rfl) fl_ReturnDesk_278 rfl rfl g145 (aw_aload_n (pc' := 33) (dt_X10_judge 19 (32, .aload_n 1, 1) rfl) rfl rfl (aw_getI (pc' := 36) (dt_X10_judge 20 (33, .getfield 268, 3) rfl) fl_ReturnDesk_268 rfl rfl g145 (aw_callV0 (pc' := 39) (nc := nc) (ns := ns) (y2 := mX10_tellSale) (As := [.null, .int (zI μ142 a1 1), .int (zI μ142 a1 2)]) (rest := []) (a := 11) (dt_X10_judge 21 (36, .invokevirtual 230, 3) rfl) ok_X10_tellSale ln_ReturnDesk_230 im_X10_tellSale se_X10_tellSale pr_X10_tellSale (Or.inl ⟨by decide, rfl⟩) rfl (Nat.le_of_ble_eq_true rfl) (Nat.le_of_ble_eq_true rfl) rfl (sk_11 hS143) h ?_))))
        rintro v μ148 ⟨rfl, hS149, h⟩
        refine aw_stk (st' := []) rfl ?_
        obtain ⟨g150, h⟩ := h
        refine aw_aload_n (pc' := 40) (dt_X10_judge 22 (39, .aload_n 0, 1) rfl) rfl rfl (aw_getAs (pc' := 43) (dt_X10_judge 23 (40, .getfield 68, 3) rfl) fl_ReturnDesk_68 rfl rfl (sk_11 hS149) (sa_11_9 hS149) (aw_aload_n (pc' := 44) (dt_X10_judge 24 (43, .aload_n 1, 1) rfl) rfl rfl (aw_getA (pc' := 47) (dt_X10_judge 25 (44, .getfield 271, 3) rfl) fl_ReturnDesk_271 rfl rfl g150 ?_ ?_)))
        · intro e151
          have h := h.1 e151
          exact h.elim
        · intro b152 e151
          have h := h.2 b152 e151
          obtain ⟨g153, h⟩ := h
          refine aw_getI (pc' := 50) (dt_X10_judge 26 (47, .getfield 145, 3) rfl) fl_ReturnDesk_145 rfl rfl g153 (aw_inV (pc' := 53) (nc1 := 0) (ns1 := 0) (nc := nc) (ns := ns) (ls' := [some (.ref 29), some (.int (zI μ148 b152 9))]) (y2 := mX1_start) (As := [.int (zI μ148 b152 9)]) (rest := []) (a := 29) (dt_X10_judge 27 (50, .invokevirtual 468, 3) rfl) ok_X1_start ln_ReturnDesk_468 im_X1_start se_X1_start pr_X1_start (Or.inl ⟨by decide, rfl⟩) rfl (Nat.le_of_ble_eq_true rfl) (Nat.le_of_ble_eq_true rfl) rfl rfl (sk_29 hS149) (aw_aload_n (pc' := 1) (dt_X1_start 0 (0, .aload_n 0, 1) rfl) rfl rfl (aw_iload_n (pc' := 2) (dt_X1_start 1 (1, .iload_n 1, 1) rfl) rfl rfl (aw_putI (pc' := 5) (dt_X1_start 2 (2, .putfield 9, 3) rfl) fl_Judgement_9 rfl (by decide +kernel) rfl (sk_29 hS149) (aw_aload_n (pc' := 6) (dt_X1_start 3 (5, .aload_n 0, 1) rfl) rfl rfl (aw_iconst (pc' := 7) (v := 0) (dt_X1_start 4 (6, .iconst 0, 1) rfl) (by decide) rfl (aw_putZ (pc' := 10) (dt_X1_start 5 (7, .putfield 15, 3) rfl) fl_Judgement_15 rfl (by decide +kernel) rfl (sk_29 hS149.wI) (by decide) (aw_aload_n (pc' := 11) (dt_X1_start 6 (10, .aload_n 0, 1) rfl) rfl rfl (aw_iconst (pc' := 12) (v := 0) (dt_X1_start 7 (11, .iconst 0, 1) rfl) (by decide) rfl (aw_putI (pc' := 15) (dt_X1_start 8 (12, .putfield 19, 3) rfl) fl_Judgement_19 rfl (by decide +kernel) rfl (sk_29 hS149.wI.wI) (aw_aload_n (pc' := 16) (dt_X1_start 9 (15, .aload_n 0, 1) rfl) rfl rfl (aw_iconst (pc' := 17) (v := 0) (dt_X1_start 10 (16, .iconst 0, 1) rfl) (by decide) rfl (aw_putI (pc' := 20) (dt_X1_start 11 (17, .putfield 22, 3) rfl) fl_Judgement_22 rfl (by decide +kernel) rfl (sk_29 hS149.wI.wI.wI) (aw_aload_n (pc' := 21) (dt_X1_start 12 (20, .aload_n 0, 1) rfl) rfl rfl (aw_iconst (pc' := 22) (v := 0) (dt_X1_start 13 (21, .iconst 0, 1) rfl) (by decide) rfl (aw_putI (pc' := 25) (dt_X1_start 14 (22, .putfield 25, 3) rfl) fl_Judgement_25 rfl (by decide +kernel) rfl (sk_29 hS149.wI.wI.wI.wI) (aw_aload_n (pc' := 26) (dt_X1_start 15 (25, .aload_n 0, 1) rfl) rfl rfl (aw_iconst (pc' := 27) (v := 0) (dt_X1_start 16 (26, .iconst 0, 1) rfl) (by decide) rfl (aw_putI (pc' := 30) (dt_X1_start 17 (27, .putfield 28, 3) rfl) fl_Judgement_28 rfl (by decide +kernel) rfl (sk_29 hS149.wI.wI.wI.wI.wI) (aw_aload_n (pc' := 31) (dt_X1_start 18 (30, .aload_n 0, 1) rfl) rfl rfl (aw_iconst (pc' := 32) (v := 0) (dt_X1_start 19 (31, .iconst 0, 1) rfl) (by decide) rfl (aw_putI (pc' := 35) (dt_X1_start 20 (32, .putfield 31, 3) rfl) fl_Judgement_31 rfl (by decide +kernel) rfl (sk_29 hS149.wI.wI.wI.wI.wI.wI) (aw_ret (dt_X1_start 21 (35, .return_, 1) rfl) rfl (aw_stk (st' := []) rfl (aw_aload_nO (pc' := 54) (dt_X10_judge 28 (53, .aload_n 3, 1) rfl) rfl rfl (aw_iconst (pc' := 55) (v := 0) (dt_X10_judge 29 (54, .iconst 0, 1) rfl) (by decide) rfl (aw_inS (pc' := 58) (nc1 := 0) (ns1 := 0) (nc := nc) (ns := ns) (ls' := [some (va_rf o96), some (.int 0)]) (y2 := mX10_names) (As := [va_rf o96, .int 0]) (rest := []) (dt_X10_judge 30 (55, .invokestatic 471, 3) rfl) ok_X10_names ln_ReturnDesk_471 sm_X10_names pr_X10_names rfl ((fun o => by cases o <;> exact Nat.le_of_ble_eq_true rfl : ∀ o : Option Nat, (zaf [va_rf o, .int 0]).length ≤ mX10_names.2.2.1) o96) (Nat.le_of_ble_eq_true rfl) rfl ((fun o => by cases o <;> rfl : ∀ o : Option Nat, zargs mX10_names.2.2.1 [va_rf o, .int 0] = [some (va_rf o), some (.int 0)]) o96) (aw_aload_nO (pc' := 1) (dt_X10_names 0 (0, .aload_n 0, 1) rfl) rfl rfl (aw_ifnullO (pc' := 4) (tgt := 19) (dt_X10_names 1 (1, .ifnull 18, 3) rfl) (by decide) rfl ?_ ?_)))))))))))))))))))))))))))))
          · intro e154
            have h := h.1 e154
            refine aw_iconst (pc' := 20) (v := 0) (dt_X10_names 11 (19, .iconst 0, 1) rfl) (by decide) rfl (aw_iret (dt_X10_names 12 (20, .ireturn, 1) rfl) rfl rfl (aw_stk (st' := [.int 0]) rfl (aw_if_ne_F (pc' := 61) (tgt := 70) (dt_X10_judge 31 (58, .ifCond .ne 12, 3) rfl) (by decide) rfl (by decide) (aw_aloadO (pc' := 63) (dt_X10_judge 32 (61, .aload 4, 2) rfl) rfl rfl (aw_iconst (pc' := 64) (v := 0) (dt_X10_judge 33 (63, .iconst 0, 1) rfl) (by decide) rfl (aw_inS (pc' := 67) (nc1 := 0) (ns1 := 0) (nc := nc) (ns := ns) (ls' := [some (va_rf o144), some (.int 0)]) (y2 := mX10_names) (As := [va_rf o144, .int 0]) (rest := []) (dt_X10_judge 34 (64, .invokestatic 471, 3) rfl) ok_X10_names ln_ReturnDesk_471 sm_X10_names pr_X10_names rfl ((fun o => by cases o <;> exact Nat.le_of_ble_eq_true rfl : ∀ o : Option Nat, (zaf [va_rf o, .int 0]).length ≤ mX10_names.2.2.1) o144) (Nat.le_of_ble_eq_true rfl) rfl ((fun o => by cases o <;> rfl : ∀ o : Option Nat, zargs mX10_names.2.2.1 [va_rf o, .int 0] = [some (va_rf o), some (.int 0)]) o144) (aw_aload_nO (pc' := 1) (dt_X10_names 0 (0, .aload_n 0, 1) rfl) rfl rfl (aw_ifnullO (pc' := 4) (tgt := 19) (dt_X10_names 1 (1, .ifnull 18, 3) rfl) (by decide) rfl ?_ ?_))))))))
            · intro e156
              have h := h.1 e156
              refine aw_iconst (pc' := 20) (v := 0) (dt_X10_names 11 (19, .iconst 0, 1) rfl) (by decide) rfl (aw_iret (dt_X10_names 12 (20, .ireturn, 1) rfl) rfl rfl (aw_stk (st' := [.int 0]) rfl (aw_if_eq_T (pc' := 70) (tgt := 77) (dt_X10_judge 35 (67, .ifCond .eq 10, 3) rfl) (by decide) rfl (by decide) (aw_aload_n (pc' := 78) (dt_X10_judge 39 (77, .aload_n 1, 1) rfl) rfl rfl (aw_getI (pc' := 81) (dt_X10_judge 40 (78, .getfield 478, 3) rfl) fl_ReturnDesk_478 rfl rfl g150 (aw_drop (ls' := [some (.ref 11), some (.ref a1), none, some (va_rf o96), some (va_rf o144), none, none, none, none, none, none, none, none]) ⟨rfl, rfl, rfl, rfl, trivial⟩ ?_))))))
              exact h
            · intro b157 e156
              have h := h.2 b157 e156
              obtain ⟨g158, h⟩ := h
              refine aw_aload_nO (pc' := 5) (dt_X10_names 2 (4, .aload_n 0, 1) rfl) rfl rfl (aw_rf e156 (aw_getI (pc' := 8) (dt_X10_names 3 (5, .getfield 458, 3) rfl) fl_ReturnDesk_458 rfl rfl g158 (aw_iconst (pc' := 9) (v := 1) (dt_X10_names 4 (8, .iconst 1, 1) rfl) (by decide) rfl (aw_iload_n (pc' := 10) (dt_X10_names 5 (9, .iload_n 1, 1) rfl) rfl rfl (aw_ishl (pc' := 11) (dt_X10_names 6 (10, .ishl, 1) rfl) rfl (aw_iand (pc' := 12) (dt_X10_names 7 (11, .iand, 1) rfl) rfl (aw_if_eq (pc' := 15) (tgt := 19) (dt_X10_names 8 (12, .ifCond .eq 7, 3) rfl) (by decide) rfl ?_ ?_)))))))
              · intro q159
                have h := h.1 q159
                refine aw_iconst (pc' := 20) (v := 0) (dt_X10_names 11 (19, .iconst 0, 1) rfl) (by decide) rfl (aw_iret (dt_X10_names 12 (20, .ireturn, 1) rfl) rfl rfl (aw_stk (st' := [.int 0]) rfl (aw_if_eq_T (pc' := 70) (tgt := 77) (dt_X10_judge 35 (67, .ifCond .eq 10, 3) rfl) (by decide) rfl (by decide) (aw_aload_n (pc' := 78) (dt_X10_judge 39 (77, .aload_n 1, 1) rfl) rfl rfl (aw_getI (pc' := 81) (dt_X10_judge 40 (78, .getfield 478, 3) rfl) fl_ReturnDesk_478 rfl rfl g150 (aw_drop (ls' := [some (.ref 11), some (.ref a1), none, some (va_rf o96), some (va_rf o144), none, none, none, none, none, none, none, none]) ⟨rfl, rfl, rfl, rfl, trivial⟩ ?_))))))
                exact h
              · intro q159
                have h := h.2 q159
                refine aw_iconst (pc' := 16) (v := 1) (dt_X10_names 9 (15, .iconst 1, 1) rfl) (by decide) rfl (aw_goto (tgt := 20) (dt_X10_names 10 (16, .goto 4, 3) rfl) (by decide) (aw_iret (dt_X10_names 12 (20, .ireturn, 1) rfl) rfl rfl (aw_stk (st' := [.int 1]) rfl (aw_if_eq_F (pc' := 70) (tgt := 77) (dt_X10_judge 35 (67, .ifCond .eq 10, 3) rfl) (by decide) rfl (by decide) (aw_drop (ls' := [some (.ref 11), some (.ref a1), none, some (va_rf o96), some (va_rf o144), none, none, none, none, none, none, none, none]) ⟨rfl, rfl, rfl, rfl, trivial⟩ ?_)))))
                exact h
          · intro b155 e154
            have h := h.2 b155 e154
            obtain ⟨g160, h⟩ := h
            refine aw_aload_nO (pc' := 5) (dt_X10_names 2 (4, .aload_n 0, 1) rfl) rfl rfl (aw_rf e154 (aw_getI (pc' := 8) (dt_X10_names 3 (5, .getfield 458, 3) rfl) fl_ReturnDesk_458 rfl rfl g160 (aw_iconst (pc' := 9) (v := 1) (dt_X10_names 4 (8, .iconst 1, 1) rfl) (by decide) rfl (aw_iload_n (pc' := 10) (dt_X10_names 5 (9, .iload_n 1, 1) rfl) rfl rfl (aw_ishl (pc' := 11) (dt_X10_names 6 (10, .ishl, 1) rfl) rfl (aw_iand (pc' := 12) (dt_X10_names 7 (11, .iand, 1) rfl) rfl (aw_if_eq (pc' := 15) (tgt := 19) (dt_X10_names 8 (12, .ifCond .eq 7, 3) rfl) (by decide) rfl ?_ ?_)))))))
            · intro q161
              have h := h.1 q161
              refine aw_iconst (pc' := 20) (v := 0) (dt_X10_names 11 (19, .iconst 0, 1) rfl) (by decide) rfl (aw_iret (dt_X10_names 12 (20, .ireturn, 1) rfl) rfl rfl (aw_stk (st' := [.int 0]) rfl (aw_if_ne_F (pc' := 61) (tgt := 70) (dt_X10_judge 31 (58, .ifCond .ne 12, 3) rfl) (by decide) rfl (by decide) (aw_aloadO (pc' := 63) (dt_X10_judge 32 (61, .aload 4, 2) rfl) rfl rfl (aw_iconst (pc' := 64) (v := 0) (dt_X10_judge 33 (63, .iconst 0, 1) rfl) (by decide) rfl (aw_inS (pc' := 67) (nc1 := 0) (ns1 := 0) (nc := nc) (ns := ns) (ls' := [some (va_rf o144), some (.int 0)]) (y2 := mX10_names) (As := [va_rf o144, .int 0]) (rest := []) (dt_X10_judge 34 (64, .invokestatic 471, 3) rfl) ok_X10_names ln_ReturnDesk_471 sm_X10_names pr_X10_names rfl ((fun o => by cases o <;> exact Nat.le_of_ble_eq_true rfl : ∀ o : Option Nat, (zaf [va_rf o, .int 0]).length ≤ mX10_names.2.2.1) o144) (Nat.le_of_ble_eq_true rfl) rfl ((fun o => by cases o <;> rfl : ∀ o : Option Nat, zargs mX10_names.2.2.1 [va_rf o, .int 0] = [some (va_rf o), some (.int 0)]) o144) (aw_aload_nO (pc' := 1) (dt_X10_names 0 (0, .aload_n 0, 1) rfl) rfl rfl (aw_ifnullO (pc' := 4) (tgt := 19) (dt_X10_names 1 (1, .ifnull 18, 3) rfl) (by decide) rfl ?_ ?_))))))))
              · intro e162
                have h := h.1 e162
                refine aw_iconst (pc' := 20) (v := 0) (dt_X10_names 11 (19, .iconst 0, 1) rfl) (by decide) rfl (aw_iret (dt_X10_names 12 (20, .ireturn, 1) rfl) rfl rfl (aw_stk (st' := [.int 0]) rfl (aw_if_eq_T (pc' := 70) (tgt := 77) (dt_X10_judge 35 (67, .ifCond .eq 10, 3) rfl) (by decide) rfl (by decide) (aw_aload_n (pc' := 78) (dt_X10_judge 39 (77, .aload_n 1, 1) rfl) rfl rfl (aw_getI (pc' := 81) (dt_X10_judge 40 (78, .getfield 478, 3) rfl) fl_ReturnDesk_478 rfl rfl g150 (aw_drop (ls' := [some (.ref 11), some (.ref a1), none, some (va_rf o96), some (va_rf o144), none, none, none, none, none, none, none, none]) ⟨rfl, rfl, rfl, rfl, trivial⟩ ?_))))))
                exact h
              · intro b163 e162
                have h := h.2 b163 e162
                obtain ⟨g164, h⟩ := h
                refine aw_aload_nO (pc' := 5) (dt_X10_names 2 (4, .aload_n 0, 1) rfl) rfl rfl (aw_rf e162 (aw_getI (pc' := 8) (dt_X10_names 3 (5, .getfield 458, 3) rfl) fl_ReturnDesk_458 rfl rfl g164 (aw_iconst (pc' := 9) (v := 1) (dt_X10_names 4 (8, .iconst 1, 1) rfl) (by decide) rfl (aw_iload_n (pc' := 10) (dt_X10_names 5 (9, .iload_n 1, 1) rfl) rfl rfl (aw_ishl (pc' := 11) (dt_X10_names 6 (10, .ishl, 1) rfl) rfl (aw_iand (pc' := 12) (dt_X10_names 7 (11, .iand, 1) rfl) rfl (aw_if_eq (pc' := 15) (tgt := 19) (dt_X10_names 8 (12, .ifCond .eq 7, 3) rfl) (by decide) rfl ?_ ?_)))))))
                · intro q165
                  have h := h.1 q165
                  refine aw_iconst (pc' := 20) (v := 0) (dt_X10_names 11 (19, .iconst 0, 1) rfl) (by decide) rfl (aw_iret (dt_X10_names 12 (20, .ireturn, 1) rfl) rfl rfl (aw_stk (st' := [.int 0]) rfl (aw_if_eq_T (pc' := 70) (tgt := 77) (dt_X10_judge 35 (67, .ifCond .eq 10, 3) rfl) (by decide) rfl (by decide) (aw_aload_n (pc' := 78) (dt_X10_judge 39 (77, .aload_n 1, 1) rfl) rfl rfl (aw_getI (pc' := 81) (dt_X10_judge 40 (78, .getfield 478, 3) rfl) fl_ReturnDesk_478 rfl rfl g150 (aw_drop (ls' := [some (.ref 11), some (.ref a1), none, some (va_rf o96), some (va_rf o144), none, none, none, none, none, none, none, none]) ⟨rfl, rfl, rfl, rfl, trivial⟩ ?_))))))
                  exact h
                · intro q165
                  have h := h.2 q165
                  refine aw_iconst (pc' := 16) (v := 1) (dt_X10_names 9 (15, .iconst 1, 1) rfl) (by decide) rfl (aw_goto (tgt := 20) (dt_X10_names 10 (16, .goto 4, 3) rfl) (by decide) (aw_iret (dt_X10_names 12 (20, .ireturn, 1) rfl) rfl rfl (aw_stk (st' := [.int 1]) rfl (aw_if_eq_F (pc' := 70) (tgt := 77) (dt_X10_judge 35 (67, .ifCond .eq 10, 3) rfl) (by decide) rfl (by decide) (aw_drop (ls' := [some (.ref 11), some (.ref a1), none, some (va_rf o96), some (va_rf o144), none, none, none, none, none, none, none, none]) ⟨rfl, rfl, rfl, rfl, trivial⟩ ?_)))))
                  exact h
            · intro q161
              have h := h.2 q161
              refine aw_iconst (pc' := 16) (v := 1) (dt_X10_names 9 (15, .iconst 1, 1) rfl) (by decide) rfl (aw_goto (tgt := 20) (dt_X10_names 10 (16, .goto 4, 3) rfl) (by decide) (aw_iret (dt_X10_names 12 (20, .ireturn, 1) rfl) rfl rfl (aw_stk (st' := [.int 1]) rfl (aw_if_ne_T (pc' := 61) (tgt := 70) (dt_X10_judge 31 (58, .ifCond .ne 12, 3) rfl) (by decide) rfl (by decide) (aw_drop (ls' := [some (.ref 11), some (.ref a1), none, some (va_rf o96), some (va_rf o144), none, none, none, none, none, none, none, none]) ⟨rfl, rfl, rfl, rfl, trivial⟩ ?_)))))
              exact h
      · intro b147 e146
        have h := h.2 b147 e146
        refine aw_aload_n (pc' := 29) (dt_X10_judge 17 (28, .aload_n 1, 1) rfl) rfl rfl (aw_getI (pc' := 32) (dt_X10_judge 18 (29, .getfield 278, 3) rfl) fl_ReturnDesk_278 rfl rfl g145 (aw_aload_n (pc' := 33) (dt_X10_judge 19 (32, .aload_n 1, 1) rfl) rfl rfl (aw_getI (pc' := 36) (dt_X10_judge 20 (33, .getfield 268, 3) rfl) fl_ReturnDesk_268 rfl rfl g145 (aw_callV0 (pc' := 39) (nc := nc) (ns := ns) (y2 := mX10_tellSale) (As := [.ref b147, .int (zI μ142 a1 1), .int (zI μ142 a1 2)]) (rest := []) (a := 11) (dt_X10_judge 21 (36, .invokevirtual 230, 3) rfl) ok_X10_tellSale ln_ReturnDesk_230 im_X10_tellSale se_X10_tellSale pr_X10_tellSale (Or.inl ⟨by decide, rfl⟩) rfl (Nat.le_of_ble_eq_true rfl) (Nat.le_of_ble_eq_true rfl) rfl (sk_11 hS143) h ?_))))
        rintro v μ166 ⟨rfl, hS167, h⟩
        refine aw_stk (st' := []) rfl ?_
        obtain ⟨g168, h⟩ := h
        refine aw_aload_n (pc' := 40) (dt_X10_judge 22 (39, .aload_n 0, 1) rfl) rfl rfl (aw_getAs (pc' := 43) (dt_X10_judge 23 (40, .getfield 68, 3) rfl) fl_ReturnDesk_68 rfl rfl (sk_11 hS167) (sa_11_9 hS167) (aw_aload_n (pc' := 44) (dt_X10_judge 24 (43, .aload_n 1, 1) rfl) rfl rfl (aw_getA (pc' := 47) (dt_X10_judge 25 (44, .getfield 271, 3) rfl) fl_ReturnDesk_271 rfl rfl g168 ?_ ?_)))
        · intro e169
          have h := h.1 e169
          exact h.elim
        · intro b170 e169
          have h := h.2 b170 e169
          obtain ⟨g171, h⟩ := h
          refine aw_getI (pc' := 50) (dt_X10_judge 26 (47, .getfield 145, 3) rfl) fl_ReturnDesk_145 rfl rfl g171 (aw_inV (pc' := 53) (nc1 := 0) (ns1 := 0) (nc := nc) (ns := ns) (ls' := [some (.ref 29), some (.int (zI μ166 b170 9))]) (y2 := mX1_start) (As := [.int (zI μ166 b170 9)]) (rest := []) (a := 29) (dt_X10_judge 27 (50, .invokevirtual 468, 3) rfl) ok_X1_start ln_ReturnDesk_468 im_X1_start se_X1_start pr_X1_start (Or.inl ⟨by decide, rfl⟩) rfl (Nat.le_of_ble_eq_true rfl) (Nat.le_of_ble_eq_true rfl) rfl rfl (sk_29 hS167) (aw_aload_n (pc' := 1) (dt_X1_start 0 (0, .aload_n 0, 1) rfl) rfl rfl (aw_iload_n (pc' := 2) (dt_X1_start 1 (1, .iload_n 1, 1) rfl) rfl rfl (aw_putI (pc' := 5) (dt_X1_start 2 (2, .putfield 9, 3) rfl) fl_Judgement_9 rfl (by decide +kernel) rfl (sk_29 hS167) (aw_aload_n (pc' := 6) (dt_X1_start 3 (5, .aload_n 0, 1) rfl) rfl rfl (aw_iconst (pc' := 7) (v := 0) (dt_X1_start 4 (6, .iconst 0, 1) rfl) (by decide) rfl (aw_putZ (pc' := 10) (dt_X1_start 5 (7, .putfield 15, 3) rfl) fl_Judgement_15 rfl (by decide +kernel) rfl (sk_29 hS167.wI) (by decide) (aw_aload_n (pc' := 11) (dt_X1_start 6 (10, .aload_n 0, 1) rfl) rfl rfl (aw_iconst (pc' := 12) (v := 0) (dt_X1_start 7 (11, .iconst 0, 1) rfl) (by decide) rfl (aw_putI (pc' := 15) (dt_X1_start 8 (12, .putfield 19, 3) rfl) fl_Judgement_19 rfl (by decide +kernel) rfl (sk_29 hS167.wI.wI) (aw_aload_n (pc' := 16) (dt_X1_start 9 (15, .aload_n 0, 1) rfl) rfl rfl (aw_iconst (pc' := 17) (v := 0) (dt_X1_start 10 (16, .iconst 0, 1) rfl) (by decide) rfl (aw_putI (pc' := 20) (dt_X1_start 11 (17, .putfield 22, 3) rfl) fl_Judgement_22 rfl (by decide +kernel) rfl (sk_29 hS167.wI.wI.wI) (aw_aload_n (pc' := 21) (dt_X1_start 12 (20, .aload_n 0, 1) rfl) rfl rfl (aw_iconst (pc' := 22) (v := 0) (dt_X1_start 13 (21, .iconst 0, 1) rfl) (by decide) rfl (aw_putI (pc' := 25) (dt_X1_start 14 (22, .putfield 25, 3) rfl) fl_Judgement_25 rfl (by decide +kernel) rfl (sk_29 hS167.wI.wI.wI.wI) (aw_aload_n (pc' := 26) (dt_X1_start 15 (25, .aload_n 0, 1) rfl) rfl rfl (aw_iconst (pc' := 27) (v := 0) (dt_X1_start 16 (26, .iconst 0, 1) rfl) (by decide) rfl (aw_putI (pc' := 30) (dt_X1_start 17 (27, .putfield 28, 3) rfl) fl_Judgement_28 rfl (by decide +kernel) rfl (sk_29 hS167.wI.wI.wI.wI.wI) (aw_aload_n (pc' := 31) (dt_X1_start 18 (30, .aload_n 0, 1) rfl) rfl rfl (aw_iconst (pc' := 32) (v := 0) (dt_X1_start 19 (31, .iconst 0, 1) rfl) (by decide) rfl (aw_putI (pc' := 35) (dt_X1_start 20 (32, .putfield 31, 3) rfl) fl_Judgement_31 rfl (by decide +kernel) rfl (sk_29 hS167.wI.wI.wI.wI.wI.wI) (aw_ret (dt_X1_start 21 (35, .return_, 1) rfl) rfl (aw_stk (st' := []) rfl (aw_aload_nO (pc' := 54) (dt_X10_judge 28 (53, .aload_n 3, 1) rfl) rfl rfl (aw_iconst (pc' := 55) (v := 0) (dt_X10_judge 29 (54, .iconst 0, 1) rfl) (by decide) rfl (aw_inS (pc' := 58) (nc1 := 0) (ns1 := 0) (nc := nc) (ns := ns) (ls' := [some (va_rf o96), some (.int 0)]) (y2 := mX10_names) (As := [va_rf o96, .int 0]) (rest := []) (dt_X10_judge 30 (55, .invokestatic 471, 3) rfl) ok_X10_names ln_ReturnDesk_471 sm_X10_names pr_X10_names rfl ((fun o => by cases o <;> exact Nat.le_of_ble_eq_true rfl : ∀ o : Option Nat, (zaf [va_rf o, .int 0]).length ≤ mX10_names.2.2.1) o96) (Nat.le_of_ble_eq_true rfl) rfl ((fun o => by cases o <;> rfl : ∀ o : Option Nat, zargs mX10_names.2.2.1 [va_rf o, .int 0] = [some (va_rf o), some (.int 0)]) o96) (aw_aload_nO (pc' := 1) (dt_X10_names 0 (0, .aload_n 0, 1) rfl) rfl rfl (aw_ifnullO (pc' := 4) (tgt := 19) (dt_X10_names 1 (1, .ifnull 18, 3) rfl) (by decide) rfl ?_ ?_)))))))))))))))))))))))))))))
          · intro e172
            have h := h.1 e172
            refine aw_iconst (pc' := 20) (v := 0) (dt_X10_names 11 (19, .iconst 0, 1) rfl) (by decide) rfl (aw_iret (dt_X10_names 12 (20, .ireturn, 1) rfl) rfl rfl (aw_stk (st' := [.int 0]) rfl (aw_if_ne_F (pc' := 61) (tgt := 70) (dt_X10_judge 31 (58, .ifCond .ne 12, 3) rfl) (by decide) rfl (by decide) (aw_aloadO (pc' := 63) (dt_X10_judge 32 (61, .aload 4, 2) rfl) rfl rfl (aw_iconst (pc' := 64) (v := 0) (dt_X10_judge 33 (63, .iconst 0, 1) rfl) (by decide) rfl (aw_inS (pc' := 67) (nc1 := 0) (ns1 := 0) (nc := nc) (ns := ns) (ls' := [some (va_rf o144), some (.int 0)]) (y2 := mX10_names) (As := [va_rf o144, .int 0]) (rest := []) (dt_X10_judge 34 (64, .invokestatic 471, 3) rfl) ok_X10_names ln_ReturnDesk_471 sm_X10_names pr_X10_names rfl ((fun o => by cases o <;> exact Nat.le_of_ble_eq_true rfl : ∀ o : Option Nat, (zaf [va_rf o, .int 0]).length ≤ mX10_names.2.2.1) o144) (Nat.le_of_ble_eq_true rfl) rfl ((fun o => by cases o <;> rfl : ∀ o : Option Nat, zargs mX10_names.2.2.1 [va_rf o, .int 0] = [some (va_rf o), some (.int 0)]) o144) (aw_aload_nO (pc' := 1) (dt_X10_names 0 (0, .aload_n 0, 1) rfl) rfl rfl (aw_ifnullO (pc' := 4) (tgt := 19) (dt_X10_names 1 (1, .ifnull 18, 3) rfl) (by decide) rfl ?_ ?_))))))))
            · intro e174
              have h := h.1 e174
              refine aw_iconst (pc' := 20) (v := 0) (dt_X10_names 11 (19, .iconst 0, 1) rfl) (by decide) rfl (aw_iret (dt_X10_names 12 (20, .ireturn, 1) rfl) rfl rfl (aw_stk (st' := [.int 0]) rfl (aw_if_eq_T (pc' := 70) (tgt := 77) (dt_X10_judge 35 (67, .ifCond .eq 10, 3) rfl) (by decide) rfl (by decide) (aw_aload_n (pc' := 78) (dt_X10_judge 39 (77, .aload_n 1, 1) rfl) rfl rfl (aw_getI (pc' := 81) (dt_X10_judge 40 (78, .getfield 478, 3) rfl) fl_ReturnDesk_478 rfl rfl g168 (aw_drop (ls' := [some (.ref 11), some (.ref a1), none, some (va_rf o96), some (va_rf o144), none, none, none, none, none, none, none, none]) ⟨rfl, rfl, rfl, rfl, trivial⟩ ?_))))))
              exact h
            · intro b175 e174
              have h := h.2 b175 e174
              obtain ⟨g176, h⟩ := h
              refine aw_aload_nO (pc' := 5) (dt_X10_names 2 (4, .aload_n 0, 1) rfl) rfl rfl (aw_rf e174 (aw_getI (pc' := 8) (dt_X10_names 3 (5, .getfield 458, 3) rfl) fl_ReturnDesk_458 rfl rfl g176 (aw_iconst (pc' := 9) (v := 1) (dt_X10_names 4 (8, .iconst 1, 1) rfl) (by decide) rfl (aw_iload_n (pc' := 10) (dt_X10_names 5 (9, .iload_n 1, 1) rfl) rfl rfl (aw_ishl (pc' := 11) (dt_X10_names 6 (10, .ishl, 1) rfl) rfl (aw_iand (pc' := 12) (dt_X10_names 7 (11, .iand, 1) rfl) rfl (aw_if_eq (pc' := 15) (tgt := 19) (dt_X10_names 8 (12, .ifCond .eq 7, 3) rfl) (by decide) rfl ?_ ?_)))))))
              · intro q177
                have h := h.1 q177
                refine aw_iconst (pc' := 20) (v := 0) (dt_X10_names 11 (19, .iconst 0, 1) rfl) (by decide) rfl (aw_iret (dt_X10_names 12 (20, .ireturn, 1) rfl) rfl rfl (aw_stk (st' := [.int 0]) rfl (aw_if_eq_T (pc' := 70) (tgt := 77) (dt_X10_judge 35 (67, .ifCond .eq 10, 3) rfl) (by decide) rfl (by decide) (aw_aload_n (pc' := 78) (dt_X10_judge 39 (77, .aload_n 1, 1) rfl) rfl rfl (aw_getI (pc' := 81) (dt_X10_judge 40 (78, .getfield 478, 3) rfl) fl_ReturnDesk_478 rfl rfl g168 (aw_drop (ls' := [some (.ref 11), some (.ref a1), none, some (va_rf o96), some (va_rf o144), none, none, none, none, none, none, none, none]) ⟨rfl, rfl, rfl, rfl, trivial⟩ ?_))))))
                exact h
              · intro q177
                have h := h.2 q177
                refine aw_iconst (pc' := 16) (v := 1) (dt_X10_names 9 (15, .iconst 1, 1) rfl) (by decide) rfl (aw_goto (tgt := 20) (dt_X10_names 10 (16, .goto 4, 3) rfl) (by decide) (aw_iret (dt_X10_names 12 (20, .ireturn, 1) rfl) rfl rfl (aw_stk (st' := [.int 1]) rfl (aw_if_eq_F (pc' := 70) (tgt := 77) (dt_X10_judge 35 (67, .ifCond .eq 10, 3) rfl) (by decide) rfl (by decide) (aw_drop (ls' := [some (.ref 11), some (.ref a1), none, some (va_rf o96), some (va_rf o144), none, none, none, none, none, none, none, none]) ⟨rfl, rfl, rfl, rfl, trivial⟩ ?_)))))
                exact h
          · intro b173 e172
            have h := h.2 b173 e172
            obtain ⟨g178, h⟩ := h
            refine aw_aload_nO (pc' := 5) (dt_X10_names 2 (4, .aload_n 0, 1) rfl) rfl rfl (aw_rf e172 (aw_getI (pc' := 8) (dt_X10_names 3 (5, .getfield 458, 3) rfl) fl_ReturnDesk_458 rfl rfl g178 (aw_iconst (pc' := 9) (v := 1) (dt_X10_names 4 (8, .iconst 1, 1) rfl) (by decide) rfl (aw_iload_n (pc' := 10) (dt_X10_names 5 (9, .iload_n 1, 1) rfl) rfl rfl (aw_ishl (pc' := 11) (dt_X10_names 6 (10, .ishl, 1) rfl) rfl (aw_iand (pc' := 12) (dt_X10_names 7 (11, .iand, 1) rfl) rfl (aw_if_eq (pc' := 15) (tgt := 19) (dt_X10_names 8 (12, .ifCond .eq 7, 3) rfl) (by decide) rfl ?_ ?_)))))))
            · intro q179
              have h := h.1 q179
              refine aw_iconst (pc' := 20) (v := 0) (dt_X10_names 11 (19, .iconst 0, 1) rfl) (by decide) rfl (aw_iret (dt_X10_names 12 (20, .ireturn, 1) rfl) rfl rfl (aw_stk (st' := [.int 0]) rfl (aw_if_ne_F (pc' := 61) (tgt := 70) (dt_X10_judge 31 (58, .ifCond .ne 12, 3) rfl) (by decide) rfl (by decide) (aw_aloadO (pc' := 63) (dt_X10_judge 32 (61, .aload 4, 2) rfl) rfl rfl (aw_iconst (pc' := 64) (v := 0) (dt_X10_judge 33 (63, .iconst 0, 1) rfl) (by decide) rfl (aw_inS (pc' := 67) (nc1 := 0) (ns1 := 0) (nc := nc) (ns := ns) (ls' := [some (va_rf o144), some (.int 0)]) (y2 := mX10_names) (As := [va_rf o144, .int 0]) (rest := []) (dt_X10_judge 34 (64, .invokestatic 471, 3) rfl) ok_X10_names ln_ReturnDesk_471 sm_X10_names pr_X10_names rfl ((fun o => by cases o <;> exact Nat.le_of_ble_eq_true rfl : ∀ o : Option Nat, (zaf [va_rf o, .int 0]).length ≤ mX10_names.2.2.1) o144) (Nat.le_of_ble_eq_true rfl) rfl ((fun o => by cases o <;> rfl : ∀ o : Option Nat, zargs mX10_names.2.2.1 [va_rf o, .int 0] = [some (va_rf o), some (.int 0)]) o144) (aw_aload_nO (pc' := 1) (dt_X10_names 0 (0, .aload_n 0, 1) rfl) rfl rfl (aw_ifnullO (pc' := 4) (tgt := 19) (dt_X10_names 1 (1, .ifnull 18, 3) rfl) (by decide) rfl ?_ ?_))))))))
              · intro e180
                have h := h.1 e180
                refine aw_iconst (pc' := 20) (v := 0) (dt_X10_names 11 (19, .iconst 0, 1) rfl) (by decide) rfl (aw_iret (dt_X10_names 12 (20, .ireturn, 1) rfl) rfl rfl (aw_stk (st' := [.int 0]) rfl (aw_if_eq_T (pc' := 70) (tgt := 77) (dt_X10_judge 35 (67, .ifCond .eq 10, 3) rfl) (by decide) rfl (by decide) (aw_aload_n (pc' := 78) (dt_X10_judge 39 (77, .aload_n 1, 1) rfl) rfl rfl (aw_getI (pc' := 81) (dt_X10_judge 40 (78, .getfield 478, 3) rfl) fl_ReturnDesk_478 rfl rfl g168 (aw_drop (ls' := [some (.ref 11), some (.ref a1), none, some (va_rf o96), some (va_rf o144), none, none, none, none, none, none, none, none]) ⟨rfl, rfl, rfl, rfl, trivial⟩ ?_))))))
                exact h
              · intro b181 e180
                have h := h.2 b181 e180
                obtain ⟨g182, h⟩ := h
                refine aw_aload_nO (pc' := 5) (dt_X10_names 2 (4, .aload_n 0, 1) rfl) rfl rfl (aw_rf e180 (aw_getI (pc' := 8) (dt_X10_names 3 (5, .getfield 458, 3) rfl) fl_ReturnDesk_458 rfl rfl g182 (aw_iconst (pc' := 9) (v := 1) (dt_X10_names 4 (8, .iconst 1, 1) rfl) (by decide) rfl (aw_iload_n (pc' := 10) (dt_X10_names 5 (9, .iload_n 1, 1) rfl) rfl rfl (aw_ishl (pc' := 11) (dt_X10_names 6 (10, .ishl, 1) rfl) rfl (aw_iand (pc' := 12) (dt_X10_names 7 (11, .iand, 1) rfl) rfl (aw_if_eq (pc' := 15) (tgt := 19) (dt_X10_names 8 (12, .ifCond .eq 7, 3) rfl) (by decide) rfl ?_ ?_)))))))
                · intro q183
                  have h := h.1 q183
                  refine aw_iconst (pc' := 20) (v := 0) (dt_X10_names 11 (19, .iconst 0, 1) rfl) (by decide) rfl (aw_iret (dt_X10_names 12 (20, .ireturn, 1) rfl) rfl rfl (aw_stk (st' := [.int 0]) rfl (aw_if_eq_T (pc' := 70) (tgt := 77) (dt_X10_judge 35 (67, .ifCond .eq 10, 3) rfl) (by decide) rfl (by decide) (aw_aload_n (pc' := 78) (dt_X10_judge 39 (77, .aload_n 1, 1) rfl) rfl rfl (aw_getI (pc' := 81) (dt_X10_judge 40 (78, .getfield 478, 3) rfl) fl_ReturnDesk_478 rfl rfl g168 (aw_drop (ls' := [some (.ref 11), some (.ref a1), none, some (va_rf o96), some (va_rf o144), none, none, none, none, none, none, none, none]) ⟨rfl, rfl, rfl, rfl, trivial⟩ ?_))))))
                  exact h
                · intro q183
                  have h := h.2 q183
                  refine aw_iconst (pc' := 16) (v := 1) (dt_X10_names 9 (15, .iconst 1, 1) rfl) (by decide) rfl (aw_goto (tgt := 20) (dt_X10_names 10 (16, .goto 4, 3) rfl) (by decide) (aw_iret (dt_X10_names 12 (20, .ireturn, 1) rfl) rfl rfl (aw_stk (st' := [.int 1]) rfl (aw_if_eq_F (pc' := 70) (tgt := 77) (dt_X10_judge 35 (67, .ifCond .eq 10, 3) rfl) (by decide) rfl (by decide) (aw_drop (ls' := [some (.ref 11), some (.ref a1), none, some (va_rf o96), some (va_rf o144), none, none, none, none, none, none, none, none]) ⟨rfl, rfl, rfl, rfl, trivial⟩ ?_)))))
                  exact h
            · intro q179
              have h := h.2 q179
              refine aw_iconst (pc' := 16) (v := 1) (dt_X10_names 9 (15, .iconst 1, 1) rfl) (by decide) rfl (aw_goto (tgt := 20) (dt_X10_names 10 (16, .goto 4, 3) rfl) (by decide) (aw_iret (dt_X10_names 12 (20, .ireturn, 1) rfl) rfl rfl (aw_stk (st' := [.int 1]) rfl (aw_if_ne_T (pc' := 61) (tgt := 70) (dt_X10_judge 31 (58, .ifCond .ne 12, 3) rfl) (by decide) rfl (by decide) (aw_drop (ls' := [some (.ref 11), some (.ref a1), none, some (va_rf o96), some (va_rf o144), none, none, none, none, none, none, none, none]) ⟨rfl, rfl, rfl, rfl, trivial⟩ ?_)))))
              exact h

theorem t_X10_judge_81 {E : ZE} {l : Launch} {d nc ns : Nat} {a1 : Nat} {o3 : Option Nat} {o4 : Option Nat} {y0 : Int32} {μ : ZM} {K : Option Value → ZM → Prop} (hS : Stat μ) (h :
  (o3 = none →
    (o4 = none →
      (zK μ a1 = 0) ∧
      AW E l (d + 5) nc ns mX10_judge 111 [some (.ref 11), some (.ref a1), none, some (va_rf o3), some (va_rf o4), some (.int y0), none, none, none, none, none, none, none] [.int (zI μ a1 5)] μ K) ∧
    (∀ b4, o4 = some b4 →
      (zK μ b4 = 9) ∧
      (((zI μ b4 5) &&& ((1 : Int32) <<< ((1 : Int32) &&& 31))) = 0 →
        (zK μ a1 = 0) ∧
        AW E l (d + 5) nc ns mX10_judge 111 [some (.ref 11), some (.ref a1), none, some (va_rf o3), some (va_rf o4), some (.int y0), none, none, none, none, none, none, none] [.int (zI μ a1 5)] μ K) ∧
      (¬ ((zI μ b4 5) &&& ((1 : Int32) <<< ((1 : Int32) &&& 31))) = 0 →
        AW E l (d + 5) nc ns mX10_judge 100 [some (.ref 11), some (.ref a1), none, some (va_rf o3), some (va_rf o4), some (.int y0), none, none, none, none, none, none, none] [] μ K))) ∧
  (∀ b2, o3 = some b2 →
    (zK μ b2 = 9) ∧
    (((zI μ b2 5) &&& ((1 : Int32) <<< ((1 : Int32) &&& 31))) = 0 →
      (o4 = none →
        (zK μ a1 = 0) ∧
        AW E l (d + 5) nc ns mX10_judge 111 [some (.ref 11), some (.ref a1), none, some (va_rf o3), some (va_rf o4), some (.int y0), none, none, none, none, none, none, none] [.int (zI μ a1 5)] μ K) ∧
      (∀ b12, o4 = some b12 →
        (zK μ b12 = 9) ∧
        (((zI μ b12 5) &&& ((1 : Int32) <<< ((1 : Int32) &&& 31))) = 0 →
          (zK μ a1 = 0) ∧
          AW E l (d + 5) nc ns mX10_judge 111 [some (.ref 11), some (.ref a1), none, some (va_rf o3), some (va_rf o4), some (.int y0), none, none, none, none, none, none, none] [.int (zI μ a1 5)] μ K) ∧
        (¬ ((zI μ b12 5) &&& ((1 : Int32) <<< ((1 : Int32) &&& 31))) = 0 →
          AW E l (d + 5) nc ns mX10_judge 100 [some (.ref 11), some (.ref a1), none, some (va_rf o3), some (va_rf o4), some (.int y0), none, none, none, none, none, none, none] [] μ K))) ∧
    (¬ ((zI μ b2 5) &&& ((1 : Int32) <<< ((1 : Int32) &&& 31))) = 0 →
      AW E l (d + 5) nc ns mX10_judge 100 [some (.ref 11), some (.ref a1), none, some (va_rf o3), some (va_rf o4), some (.int y0), none, none, none, none, none, none, none] [] μ K))) : AW E l (d + 5) nc ns mX10_judge 81 [some (.ref 11), some (.ref a1), none, some (va_rf o3), some (va_rf o4), none, none, none, none, none, none, none, none] [.int y0] μ K := by
  refine aw_istore (pc' := 83) (ls' := [some (.ref 11), some (.ref a1), none, some (va_rf o3), some (va_rf o4), some (.int y0), none, none, none, none, none, none, none]) (dt_X10_judge 41 (81, .istore 5, 2) rfl) (by decide) (zset1_o (j := 4) rfl (zcat_rf _) rfl) rfl (aw_aload_nO (pc' := 84) (dt_X10_judge 42 (83, .aload_n 3, 1) rfl) rfl rfl (aw_iconst (pc' := 85) (v := 1) (dt_X10_judge 43 (84, .iconst 1, 1) rfl) (by decide) rfl (aw_inS (pc' := 88) (nc1 := 0) (ns1 := 0) (nc := nc) (ns := ns) (ls' := [some (va_rf o3), some (.int 1)]) (y2 := mX10_names) (As := [va_rf o3, .int 1]) (rest := []) (dt_X10_judge 44 (85, .invokestatic 471, 3) rfl) ok_X10_names ln_ReturnDesk_471 sm_X10_names pr_X10_names rfl ((fun o => by cases o <;> exact Nat.le_of_ble_eq_true rfl : ∀ o : Option Nat, (zaf [va_rf o, .int 1]).length ≤ mX10_names.2.2.1) o3) (Nat.le_of_ble_eq_true rfl) rfl ((fun o => by cases o <;> rfl : ∀ o : Option Nat, zargs mX10_names.2.2.1 [va_rf o, .int 1] = [some (va_rf o), some (.int 1)]) o3) (aw_aload_nO (pc' := 1) (dt_X10_names 0 (0, .aload_n 0, 1) rfl) rfl rfl (aw_ifnullO (pc' := 4) (tgt := 19) (dt_X10_names 1 (1, .ifnull 18, 3) rfl) (by decide) rfl ?_ ?_)))))
  · intro e1
    have h := h.1 e1
    refine aw_iconst (pc' := 20) (v := 0) (dt_X10_names 11 (19, .iconst 0, 1) rfl) (by decide) rfl (aw_iret (dt_X10_names 12 (20, .ireturn, 1) rfl) rfl rfl (aw_stk (st' := [.int 0]) rfl (aw_if_ne_F (pc' := 91) (tgt := 100) (dt_X10_judge 45 (88, .ifCond .ne 12, 3) rfl) (by decide) rfl (by decide) (aw_aloadO (pc' := 93) (dt_X10_judge 46 (91, .aload 4, 2) rfl) rfl rfl (aw_iconst (pc' := 94) (v := 1) (dt_X10_judge 47 (93, .iconst 1, 1) rfl) (by decide) rfl (aw_inS (pc' := 97) (nc1 := 0) (ns1 := 0) (nc := nc) (ns := ns) (ls' := [some (va_rf o4), some (.int 1)]) (y2 := mX10_names) (As := [va_rf o4, .int 1]) (rest := []) (dt_X10_judge 48 (94, .invokestatic 471, 3) rfl) ok_X10_names ln_ReturnDesk_471 sm_X10_names pr_X10_names rfl ((fun o => by cases o <;> exact Nat.le_of_ble_eq_true rfl : ∀ o : Option Nat, (zaf [va_rf o, .int 1]).length ≤ mX10_names.2.2.1) o4) (Nat.le_of_ble_eq_true rfl) rfl ((fun o => by cases o <;> rfl : ∀ o : Option Nat, zargs mX10_names.2.2.1 [va_rf o, .int 1] = [some (va_rf o), some (.int 1)]) o4) (aw_aload_nO (pc' := 1) (dt_X10_names 0 (0, .aload_n 0, 1) rfl) rfl rfl (aw_ifnullO (pc' := 4) (tgt := 19) (dt_X10_names 1 (1, .ifnull 18, 3) rfl) (by decide) rfl ?_ ?_))))))))
    · intro e3
      have h := h.1 e3
      obtain ⟨g5, h⟩ := h
      refine aw_iconst (pc' := 20) (v := 0) (dt_X10_names 11 (19, .iconst 0, 1) rfl) (by decide) rfl (aw_iret (dt_X10_names 12 (20, .ireturn, 1) rfl) rfl rfl (aw_stk (st' := [.int 0]) rfl (aw_if_eq_T (pc' := 100) (tgt := 107) (dt_X10_judge 49 (97, .ifCond .eq 10, 3) rfl) (by decide) rfl (by decide) (aw_aload_n (pc' := 108) (dt_X10_judge 53 (107, .aload_n 1, 1) rfl) rfl rfl (aw_getI (pc' := 111) (dt_X10_judge 54 (108, .getfield 312, 3) rfl) fl_ReturnDesk_312 rfl rfl g5 ?_)))))
      exact h
    · intro b4 e3
      have h := h.2 b4 e3
      obtain ⟨g6, h⟩ := h
      refine aw_aload_nO (pc' := 5) (dt_X10_names 2 (4, .aload_n 0, 1) rfl) rfl rfl (aw_rf e3 (aw_getI (pc' := 8) (dt_X10_names 3 (5, .getfield 458, 3) rfl) fl_ReturnDesk_458 rfl rfl g6 (aw_iconst (pc' := 9) (v := 1) (dt_X10_names 4 (8, .iconst 1, 1) rfl) (by decide) rfl (aw_iload_n (pc' := 10) (dt_X10_names 5 (9, .iload_n 1, 1) rfl) rfl rfl (aw_ishl (pc' := 11) (dt_X10_names 6 (10, .ishl, 1) rfl) rfl (aw_iand (pc' := 12) (dt_X10_names 7 (11, .iand, 1) rfl) rfl (aw_if_eq (pc' := 15) (tgt := 19) (dt_X10_names 8 (12, .ifCond .eq 7, 3) rfl) (by decide) rfl ?_ ?_)))))))
      · intro q7
        have h := h.1 q7
        obtain ⟨g8, h⟩ := h
        refine aw_iconst (pc' := 20) (v := 0) (dt_X10_names 11 (19, .iconst 0, 1) rfl) (by decide) rfl (aw_iret (dt_X10_names 12 (20, .ireturn, 1) rfl) rfl rfl (aw_stk (st' := [.int 0]) rfl (aw_if_eq_T (pc' := 100) (tgt := 107) (dt_X10_judge 49 (97, .ifCond .eq 10, 3) rfl) (by decide) rfl (by decide) (aw_aload_n (pc' := 108) (dt_X10_judge 53 (107, .aload_n 1, 1) rfl) rfl rfl (aw_getI (pc' := 111) (dt_X10_judge 54 (108, .getfield 312, 3) rfl) fl_ReturnDesk_312 rfl rfl g8 ?_)))))
        exact h
      · intro q7
        have h := h.2 q7
        refine aw_iconst (pc' := 16) (v := 1) (dt_X10_names 9 (15, .iconst 1, 1) rfl) (by decide) rfl (aw_goto (tgt := 20) (dt_X10_names 10 (16, .goto 4, 3) rfl) (by decide) (aw_iret (dt_X10_names 12 (20, .ireturn, 1) rfl) rfl rfl (aw_stk (st' := [.int 1]) rfl (aw_if_eq_F (pc' := 100) (tgt := 107) (dt_X10_judge 49 (97, .ifCond .eq 10, 3) rfl) (by decide) rfl (by decide) ?_))))
        exact h
  · intro b2 e1
    have h := h.2 b2 e1
    obtain ⟨g9, h⟩ := h
    refine aw_aload_nO (pc' := 5) (dt_X10_names 2 (4, .aload_n 0, 1) rfl) rfl rfl (aw_rf e1 (aw_getI (pc' := 8) (dt_X10_names 3 (5, .getfield 458, 3) rfl) fl_ReturnDesk_458 rfl rfl g9 (aw_iconst (pc' := 9) (v := 1) (dt_X10_names 4 (8, .iconst 1, 1) rfl) (by decide) rfl (aw_iload_n (pc' := 10) (dt_X10_names 5 (9, .iload_n 1, 1) rfl) rfl rfl (aw_ishl (pc' := 11) (dt_X10_names 6 (10, .ishl, 1) rfl) rfl (aw_iand (pc' := 12) (dt_X10_names 7 (11, .iand, 1) rfl) rfl (aw_if_eq (pc' := 15) (tgt := 19) (dt_X10_names 8 (12, .ifCond .eq 7, 3) rfl) (by decide) rfl ?_ ?_)))))))
    · intro q10
      have h := h.1 q10
      refine aw_iconst (pc' := 20) (v := 0) (dt_X10_names 11 (19, .iconst 0, 1) rfl) (by decide) rfl (aw_iret (dt_X10_names 12 (20, .ireturn, 1) rfl) rfl rfl (aw_stk (st' := [.int 0]) rfl (aw_if_ne_F (pc' := 91) (tgt := 100) (dt_X10_judge 45 (88, .ifCond .ne 12, 3) rfl) (by decide) rfl (by decide) (aw_aloadO (pc' := 93) (dt_X10_judge 46 (91, .aload 4, 2) rfl) rfl rfl (aw_iconst (pc' := 94) (v := 1) (dt_X10_judge 47 (93, .iconst 1, 1) rfl) (by decide) rfl (aw_inS (pc' := 97) (nc1 := 0) (ns1 := 0) (nc := nc) (ns := ns) (ls' := [some (va_rf o4), some (.int 1)]) (y2 := mX10_names) (As := [va_rf o4, .int 1]) (rest := []) (dt_X10_judge 48 (94, .invokestatic 471, 3) rfl) ok_X10_names ln_ReturnDesk_471 sm_X10_names pr_X10_names rfl ((fun o => by cases o <;> exact Nat.le_of_ble_eq_true rfl : ∀ o : Option Nat, (zaf [va_rf o, .int 1]).length ≤ mX10_names.2.2.1) o4) (Nat.le_of_ble_eq_true rfl) rfl ((fun o => by cases o <;> rfl : ∀ o : Option Nat, zargs mX10_names.2.2.1 [va_rf o, .int 1] = [some (va_rf o), some (.int 1)]) o4) (aw_aload_nO (pc' := 1) (dt_X10_names 0 (0, .aload_n 0, 1) rfl) rfl rfl (aw_ifnullO (pc' := 4) (tgt := 19) (dt_X10_names 1 (1, .ifnull 18, 3) rfl) (by decide) rfl ?_ ?_))))))))
      · intro e11
        have h := h.1 e11
        obtain ⟨g13, h⟩ := h
        refine aw_iconst (pc' := 20) (v := 0) (dt_X10_names 11 (19, .iconst 0, 1) rfl) (by decide) rfl (aw_iret (dt_X10_names 12 (20, .ireturn, 1) rfl) rfl rfl (aw_stk (st' := [.int 0]) rfl (aw_if_eq_T (pc' := 100) (tgt := 107) (dt_X10_judge 49 (97, .ifCond .eq 10, 3) rfl) (by decide) rfl (by decide) (aw_aload_n (pc' := 108) (dt_X10_judge 53 (107, .aload_n 1, 1) rfl) rfl rfl (aw_getI (pc' := 111) (dt_X10_judge 54 (108, .getfield 312, 3) rfl) fl_ReturnDesk_312 rfl rfl g13 ?_)))))
        exact h
      · intro b12 e11
        have h := h.2 b12 e11
        obtain ⟨g14, h⟩ := h
        refine aw_aload_nO (pc' := 5) (dt_X10_names 2 (4, .aload_n 0, 1) rfl) rfl rfl (aw_rf e11 (aw_getI (pc' := 8) (dt_X10_names 3 (5, .getfield 458, 3) rfl) fl_ReturnDesk_458 rfl rfl g14 (aw_iconst (pc' := 9) (v := 1) (dt_X10_names 4 (8, .iconst 1, 1) rfl) (by decide) rfl (aw_iload_n (pc' := 10) (dt_X10_names 5 (9, .iload_n 1, 1) rfl) rfl rfl (aw_ishl (pc' := 11) (dt_X10_names 6 (10, .ishl, 1) rfl) rfl (aw_iand (pc' := 12) (dt_X10_names 7 (11, .iand, 1) rfl) rfl (aw_if_eq (pc' := 15) (tgt := 19) (dt_X10_names 8 (12, .ifCond .eq 7, 3) rfl) (by decide) rfl ?_ ?_)))))))
        · intro q15
          have h := h.1 q15
          obtain ⟨g16, h⟩ := h
          refine aw_iconst (pc' := 20) (v := 0) (dt_X10_names 11 (19, .iconst 0, 1) rfl) (by decide) rfl (aw_iret (dt_X10_names 12 (20, .ireturn, 1) rfl) rfl rfl (aw_stk (st' := [.int 0]) rfl (aw_if_eq_T (pc' := 100) (tgt := 107) (dt_X10_judge 49 (97, .ifCond .eq 10, 3) rfl) (by decide) rfl (by decide) (aw_aload_n (pc' := 108) (dt_X10_judge 53 (107, .aload_n 1, 1) rfl) rfl rfl (aw_getI (pc' := 111) (dt_X10_judge 54 (108, .getfield 312, 3) rfl) fl_ReturnDesk_312 rfl rfl g16 ?_)))))
          exact h
        · intro q15
          have h := h.2 q15
          refine aw_iconst (pc' := 16) (v := 1) (dt_X10_names 9 (15, .iconst 1, 1) rfl) (by decide) rfl (aw_goto (tgt := 20) (dt_X10_names 10 (16, .goto 4, 3) rfl) (by decide) (aw_iret (dt_X10_names 12 (20, .ireturn, 1) rfl) rfl rfl (aw_stk (st' := [.int 1]) rfl (aw_if_eq_F (pc' := 100) (tgt := 107) (dt_X10_judge 49 (97, .ifCond .eq 10, 3) rfl) (by decide) rfl (by decide) ?_))))
          exact h
    · intro q10
      have h := h.2 q10
      refine aw_iconst (pc' := 16) (v := 1) (dt_X10_names 9 (15, .iconst 1, 1) rfl) (by decide) rfl (aw_goto (tgt := 20) (dt_X10_names 10 (16, .goto 4, 3) rfl) (by decide) (aw_iret (dt_X10_names 12 (20, .ireturn, 1) rfl) rfl rfl (aw_stk (st' := [.int 1]) rfl (aw_if_ne_T (pc' := 91) (tgt := 100) (dt_X10_judge 45 (88, .ifCond .ne 12, 3) rfl) (by decide) rfl (by decide) ?_))))
      exact h

theorem t_X10_judge_70 {E : ZE} {l : Launch} {d nc ns : Nat} {a1 : Nat} {o3 : Option Nat} {o4 : Option Nat} {μ : ZM} {K : Option Value → ZM → Prop} (hS : Stat μ) (h :
  (zK μ a1 = 0) ∧
  AW E l (d + 5) nc ns mX10_judge 81 [some (.ref 11), some (.ref a1), none, some (va_rf o3), some (va_rf o4), none, none, none, none, none, none, none, none] [.int (zI μ a1 4)] μ K) : AW E l (d + 5) nc ns mX10_judge 70 [some (.ref 11), some (.ref a1), none, some (va_rf o3), some (va_rf o4), none, none, none, none, none, none, none, none] [] μ K := by
  obtain ⟨g1, h⟩ := h
  refine aw_aload_n (pc' := 71) (dt_X10_judge 36 (70, .aload_n 1, 1) rfl) rfl rfl (aw_getI (pc' := 74) (dt_X10_judge 37 (71, .getfield 475, 3) rfl) fl_ReturnDesk_475 rfl rfl g1 (aw_goto (tgt := 81) (dt_X10_judge 38 (74, .goto 7, 3) rfl) (by decide) ?_))
  exact h

theorem t_X10_judge_111 {E : ZE} {l : Launch} {d nc ns : Nat} {a1 : Nat} {o3 : Option Nat} {o4 : Option Nat} {x5 : Int32} {y0 : Int32} {μ : ZM} {K : Option Value → ZM → Prop} (hS : Stat μ) (h :
  (o3 = none →
    (o4 = none →
      (zK μ a1 = 0) ∧
      AW E l (d + 5) nc ns mX10_judge 141 [some (.ref 11), some (.ref a1), none, some (va_rf o3), some (va_rf o4), some (.int x5), some (.int y0), none, none, none, none, none, none] [.int (zI μ a1 7)] μ K) ∧
    (∀ b4, o4 = some b4 →
      (zK μ b4 = 9) ∧
      (((zI μ b4 5) &&& ((1 : Int32) <<< ((2 : Int32) &&& 31))) = 0 →
        (zK μ a1 = 0) ∧
        AW E l (d + 5) nc ns mX10_judge 141 [some (.ref 11), some (.ref a1), none, some (va_rf o3), some (va_rf o4), some (.int x5), some (.int y0), none, none, none, none, none, none] [.int (zI μ a1 7)] μ K) ∧
      (¬ ((zI μ b4 5) &&& ((1 : Int32) <<< ((2 : Int32) &&& 31))) = 0 →
        AW E l (d + 5) nc ns mX10_judge 130 [some (.ref 11), some (.ref a1), none, some (va_rf o3), some (va_rf o4), some (.int x5), some (.int y0), none, none, none, none, none, none] [] μ K))) ∧
  (∀ b2, o3 = some b2 →
    (zK μ b2 = 9) ∧
    (((zI μ b2 5) &&& ((1 : Int32) <<< ((2 : Int32) &&& 31))) = 0 →
      (o4 = none →
        (zK μ a1 = 0) ∧
        AW E l (d + 5) nc ns mX10_judge 141 [some (.ref 11), some (.ref a1), none, some (va_rf o3), some (va_rf o4), some (.int x5), some (.int y0), none, none, none, none, none, none] [.int (zI μ a1 7)] μ K) ∧
      (∀ b12, o4 = some b12 →
        (zK μ b12 = 9) ∧
        (((zI μ b12 5) &&& ((1 : Int32) <<< ((2 : Int32) &&& 31))) = 0 →
          (zK μ a1 = 0) ∧
          AW E l (d + 5) nc ns mX10_judge 141 [some (.ref 11), some (.ref a1), none, some (va_rf o3), some (va_rf o4), some (.int x5), some (.int y0), none, none, none, none, none, none] [.int (zI μ a1 7)] μ K) ∧
        (¬ ((zI μ b12 5) &&& ((1 : Int32) <<< ((2 : Int32) &&& 31))) = 0 →
          AW E l (d + 5) nc ns mX10_judge 130 [some (.ref 11), some (.ref a1), none, some (va_rf o3), some (va_rf o4), some (.int x5), some (.int y0), none, none, none, none, none, none] [] μ K))) ∧
    (¬ ((zI μ b2 5) &&& ((1 : Int32) <<< ((2 : Int32) &&& 31))) = 0 →
      AW E l (d + 5) nc ns mX10_judge 130 [some (.ref 11), some (.ref a1), none, some (va_rf o3), some (va_rf o4), some (.int x5), some (.int y0), none, none, none, none, none, none] [] μ K))) : AW E l (d + 5) nc ns mX10_judge 111 [some (.ref 11), some (.ref a1), none, some (va_rf o3), some (va_rf o4), some (.int x5), none, none, none, none, none, none, none] [.int y0] μ K := by
  refine aw_istore (pc' := 113) (ls' := [some (.ref 11), some (.ref a1), none, some (va_rf o3), some (va_rf o4), some (.int x5), some (.int y0), none, none, none, none, none, none]) (dt_X10_judge 55 (111, .istore 6, 2) rfl) (by decide) rfl rfl (aw_aload_nO (pc' := 114) (dt_X10_judge 56 (113, .aload_n 3, 1) rfl) rfl rfl (aw_iconst (pc' := 115) (v := 2) (dt_X10_judge 57 (114, .iconst 2, 1) rfl) (by decide) rfl (aw_inS (pc' := 118) (nc1 := 0) (ns1 := 0) (nc := nc) (ns := ns) (ls' := [some (va_rf o3), some (.int 2)]) (y2 := mX10_names) (As := [va_rf o3, .int 2]) (rest := []) (dt_X10_judge 58 (115, .invokestatic 471, 3) rfl) ok_X10_names ln_ReturnDesk_471 sm_X10_names pr_X10_names rfl ((fun o => by cases o <;> exact Nat.le_of_ble_eq_true rfl : ∀ o : Option Nat, (zaf [va_rf o, .int 2]).length ≤ mX10_names.2.2.1) o3) (Nat.le_of_ble_eq_true rfl) rfl ((fun o => by cases o <;> rfl : ∀ o : Option Nat, zargs mX10_names.2.2.1 [va_rf o, .int 2] = [some (va_rf o), some (.int 2)]) o3) (aw_aload_nO (pc' := 1) (dt_X10_names 0 (0, .aload_n 0, 1) rfl) rfl rfl (aw_ifnullO (pc' := 4) (tgt := 19) (dt_X10_names 1 (1, .ifnull 18, 3) rfl) (by decide) rfl ?_ ?_)))))
  · intro e1
    have h := h.1 e1
    refine aw_iconst (pc' := 20) (v := 0) (dt_X10_names 11 (19, .iconst 0, 1) rfl) (by decide) rfl (aw_iret (dt_X10_names 12 (20, .ireturn, 1) rfl) rfl rfl (aw_stk (st' := [.int 0]) rfl (aw_if_ne_F (pc' := 121) (tgt := 130) (dt_X10_judge 59 (118, .ifCond .ne 12, 3) rfl) (by decide) rfl (by decide) (aw_aloadO (pc' := 123) (dt_X10_judge 60 (121, .aload 4, 2) rfl) rfl rfl (aw_iconst (pc' := 124) (v := 2) (dt_X10_judge 61 (123, .iconst 2, 1) rfl) (by decide) rfl (aw_inS (pc' := 127) (nc1 := 0) (ns1 := 0) (nc := nc) (ns := ns) (ls' := [some (va_rf o4), some (.int 2)]) (y2 := mX10_names) (As := [va_rf o4, .int 2]) (rest := []) (dt_X10_judge 62 (124, .invokestatic 471, 3) rfl) ok_X10_names ln_ReturnDesk_471 sm_X10_names pr_X10_names rfl ((fun o => by cases o <;> exact Nat.le_of_ble_eq_true rfl : ∀ o : Option Nat, (zaf [va_rf o, .int 2]).length ≤ mX10_names.2.2.1) o4) (Nat.le_of_ble_eq_true rfl) rfl ((fun o => by cases o <;> rfl : ∀ o : Option Nat, zargs mX10_names.2.2.1 [va_rf o, .int 2] = [some (va_rf o), some (.int 2)]) o4) (aw_aload_nO (pc' := 1) (dt_X10_names 0 (0, .aload_n 0, 1) rfl) rfl rfl (aw_ifnullO (pc' := 4) (tgt := 19) (dt_X10_names 1 (1, .ifnull 18, 3) rfl) (by decide) rfl ?_ ?_))))))))
    · intro e3
      have h := h.1 e3
      obtain ⟨g5, h⟩ := h
      refine aw_iconst (pc' := 20) (v := 0) (dt_X10_names 11 (19, .iconst 0, 1) rfl) (by decide) rfl (aw_iret (dt_X10_names 12 (20, .ireturn, 1) rfl) rfl rfl (aw_stk (st' := [.int 0]) rfl (aw_if_eq_T (pc' := 130) (tgt := 137) (dt_X10_judge 63 (127, .ifCond .eq 10, 3) rfl) (by decide) rfl (by decide) (aw_aload_n (pc' := 138) (dt_X10_judge 67 (137, .aload_n 1, 1) rfl) rfl rfl (aw_getI (pc' := 141) (dt_X10_judge 68 (138, .getfield 487, 3) rfl) fl_ReturnDesk_487 rfl rfl g5 ?_)))))
      exact h
    · intro b4 e3
      have h := h.2 b4 e3
      obtain ⟨g6, h⟩ := h
      refine aw_aload_nO (pc' := 5) (dt_X10_names 2 (4, .aload_n 0, 1) rfl) rfl rfl (aw_rf e3 (aw_getI (pc' := 8) (dt_X10_names 3 (5, .getfield 458, 3) rfl) fl_ReturnDesk_458 rfl rfl g6 (aw_iconst (pc' := 9) (v := 1) (dt_X10_names 4 (8, .iconst 1, 1) rfl) (by decide) rfl (aw_iload_n (pc' := 10) (dt_X10_names 5 (9, .iload_n 1, 1) rfl) rfl rfl (aw_ishl (pc' := 11) (dt_X10_names 6 (10, .ishl, 1) rfl) rfl (aw_iand (pc' := 12) (dt_X10_names 7 (11, .iand, 1) rfl) rfl (aw_if_eq (pc' := 15) (tgt := 19) (dt_X10_names 8 (12, .ifCond .eq 7, 3) rfl) (by decide) rfl ?_ ?_)))))))
      · intro q7
        have h := h.1 q7
        obtain ⟨g8, h⟩ := h
        refine aw_iconst (pc' := 20) (v := 0) (dt_X10_names 11 (19, .iconst 0, 1) rfl) (by decide) rfl (aw_iret (dt_X10_names 12 (20, .ireturn, 1) rfl) rfl rfl (aw_stk (st' := [.int 0]) rfl (aw_if_eq_T (pc' := 130) (tgt := 137) (dt_X10_judge 63 (127, .ifCond .eq 10, 3) rfl) (by decide) rfl (by decide) (aw_aload_n (pc' := 138) (dt_X10_judge 67 (137, .aload_n 1, 1) rfl) rfl rfl (aw_getI (pc' := 141) (dt_X10_judge 68 (138, .getfield 487, 3) rfl) fl_ReturnDesk_487 rfl rfl g8 ?_)))))
        exact h
      · intro q7
        have h := h.2 q7
        refine aw_iconst (pc' := 16) (v := 1) (dt_X10_names 9 (15, .iconst 1, 1) rfl) (by decide) rfl (aw_goto (tgt := 20) (dt_X10_names 10 (16, .goto 4, 3) rfl) (by decide) (aw_iret (dt_X10_names 12 (20, .ireturn, 1) rfl) rfl rfl (aw_stk (st' := [.int 1]) rfl (aw_if_eq_F (pc' := 130) (tgt := 137) (dt_X10_judge 63 (127, .ifCond .eq 10, 3) rfl) (by decide) rfl (by decide) ?_))))
        exact h
  · intro b2 e1
    have h := h.2 b2 e1
    obtain ⟨g9, h⟩ := h
    refine aw_aload_nO (pc' := 5) (dt_X10_names 2 (4, .aload_n 0, 1) rfl) rfl rfl (aw_rf e1 (aw_getI (pc' := 8) (dt_X10_names 3 (5, .getfield 458, 3) rfl) fl_ReturnDesk_458 rfl rfl g9 (aw_iconst (pc' := 9) (v := 1) (dt_X10_names 4 (8, .iconst 1, 1) rfl) (by decide) rfl (aw_iload_n (pc' := 10) (dt_X10_names 5 (9, .iload_n 1, 1) rfl) rfl rfl (aw_ishl (pc' := 11) (dt_X10_names 6 (10, .ishl, 1) rfl) rfl (aw_iand (pc' := 12) (dt_X10_names 7 (11, .iand, 1) rfl) rfl (aw_if_eq (pc' := 15) (tgt := 19) (dt_X10_names 8 (12, .ifCond .eq 7, 3) rfl) (by decide) rfl ?_ ?_)))))))
    · intro q10
      have h := h.1 q10
      refine aw_iconst (pc' := 20) (v := 0) (dt_X10_names 11 (19, .iconst 0, 1) rfl) (by decide) rfl (aw_iret (dt_X10_names 12 (20, .ireturn, 1) rfl) rfl rfl (aw_stk (st' := [.int 0]) rfl (aw_if_ne_F (pc' := 121) (tgt := 130) (dt_X10_judge 59 (118, .ifCond .ne 12, 3) rfl) (by decide) rfl (by decide) (aw_aloadO (pc' := 123) (dt_X10_judge 60 (121, .aload 4, 2) rfl) rfl rfl (aw_iconst (pc' := 124) (v := 2) (dt_X10_judge 61 (123, .iconst 2, 1) rfl) (by decide) rfl (aw_inS (pc' := 127) (nc1 := 0) (ns1 := 0) (nc := nc) (ns := ns) (ls' := [some (va_rf o4), some (.int 2)]) (y2 := mX10_names) (As := [va_rf o4, .int 2]) (rest := []) (dt_X10_judge 62 (124, .invokestatic 471, 3) rfl) ok_X10_names ln_ReturnDesk_471 sm_X10_names pr_X10_names rfl ((fun o => by cases o <;> exact Nat.le_of_ble_eq_true rfl : ∀ o : Option Nat, (zaf [va_rf o, .int 2]).length ≤ mX10_names.2.2.1) o4) (Nat.le_of_ble_eq_true rfl) rfl ((fun o => by cases o <;> rfl : ∀ o : Option Nat, zargs mX10_names.2.2.1 [va_rf o, .int 2] = [some (va_rf o), some (.int 2)]) o4) (aw_aload_nO (pc' := 1) (dt_X10_names 0 (0, .aload_n 0, 1) rfl) rfl rfl (aw_ifnullO (pc' := 4) (tgt := 19) (dt_X10_names 1 (1, .ifnull 18, 3) rfl) (by decide) rfl ?_ ?_))))))))
      · intro e11
        have h := h.1 e11
        obtain ⟨g13, h⟩ := h
        refine aw_iconst (pc' := 20) (v := 0) (dt_X10_names 11 (19, .iconst 0, 1) rfl) (by decide) rfl (aw_iret (dt_X10_names 12 (20, .ireturn, 1) rfl) rfl rfl (aw_stk (st' := [.int 0]) rfl (aw_if_eq_T (pc' := 130) (tgt := 137) (dt_X10_judge 63 (127, .ifCond .eq 10, 3) rfl) (by decide) rfl (by decide) (aw_aload_n (pc' := 138) (dt_X10_judge 67 (137, .aload_n 1, 1) rfl) rfl rfl (aw_getI (pc' := 141) (dt_X10_judge 68 (138, .getfield 487, 3) rfl) fl_ReturnDesk_487 rfl rfl g13 ?_)))))
        exact h
      · intro b12 e11
        have h := h.2 b12 e11
        obtain ⟨g14, h⟩ := h
        refine aw_aload_nO (pc' := 5) (dt_X10_names 2 (4, .aload_n 0, 1) rfl) rfl rfl (aw_rf e11 (aw_getI (pc' := 8) (dt_X10_names 3 (5, .getfield 458, 3) rfl) fl_ReturnDesk_458 rfl rfl g14 (aw_iconst (pc' := 9) (v := 1) (dt_X10_names 4 (8, .iconst 1, 1) rfl) (by decide) rfl (aw_iload_n (pc' := 10) (dt_X10_names 5 (9, .iload_n 1, 1) rfl) rfl rfl (aw_ishl (pc' := 11) (dt_X10_names 6 (10, .ishl, 1) rfl) rfl (aw_iand (pc' := 12) (dt_X10_names 7 (11, .iand, 1) rfl) rfl (aw_if_eq (pc' := 15) (tgt := 19) (dt_X10_names 8 (12, .ifCond .eq 7, 3) rfl) (by decide) rfl ?_ ?_)))))))
        · intro q15
          have h := h.1 q15
          obtain ⟨g16, h⟩ := h
          refine aw_iconst (pc' := 20) (v := 0) (dt_X10_names 11 (19, .iconst 0, 1) rfl) (by decide) rfl (aw_iret (dt_X10_names 12 (20, .ireturn, 1) rfl) rfl rfl (aw_stk (st' := [.int 0]) rfl (aw_if_eq_T (pc' := 130) (tgt := 137) (dt_X10_judge 63 (127, .ifCond .eq 10, 3) rfl) (by decide) rfl (by decide) (aw_aload_n (pc' := 138) (dt_X10_judge 67 (137, .aload_n 1, 1) rfl) rfl rfl (aw_getI (pc' := 141) (dt_X10_judge 68 (138, .getfield 487, 3) rfl) fl_ReturnDesk_487 rfl rfl g16 ?_)))))
          exact h
        · intro q15
          have h := h.2 q15
          refine aw_iconst (pc' := 16) (v := 1) (dt_X10_names 9 (15, .iconst 1, 1) rfl) (by decide) rfl (aw_goto (tgt := 20) (dt_X10_names 10 (16, .goto 4, 3) rfl) (by decide) (aw_iret (dt_X10_names 12 (20, .ireturn, 1) rfl) rfl rfl (aw_stk (st' := [.int 1]) rfl (aw_if_eq_F (pc' := 130) (tgt := 137) (dt_X10_judge 63 (127, .ifCond .eq 10, 3) rfl) (by decide) rfl (by decide) ?_))))
          exact h
    · intro q10
      have h := h.2 q10
      refine aw_iconst (pc' := 16) (v := 1) (dt_X10_names 9 (15, .iconst 1, 1) rfl) (by decide) rfl (aw_goto (tgt := 20) (dt_X10_names 10 (16, .goto 4, 3) rfl) (by decide) (aw_iret (dt_X10_names 12 (20, .ireturn, 1) rfl) rfl rfl (aw_stk (st' := [.int 1]) rfl (aw_if_ne_T (pc' := 121) (tgt := 130) (dt_X10_judge 59 (118, .ifCond .ne 12, 3) rfl) (by decide) rfl (by decide) ?_))))
      exact h

theorem t_X10_judge_100 {E : ZE} {l : Launch} {d nc ns : Nat} {a1 : Nat} {o3 : Option Nat} {o4 : Option Nat} {x5 : Int32} {μ : ZM} {K : Option Value → ZM → Prop} (hS : Stat μ) (h :
  (zK μ a1 = 0) ∧
  AW E l (d + 5) nc ns mX10_judge 111 [some (.ref 11), some (.ref a1), none, some (va_rf o3), some (va_rf o4), some (.int x5), none, none, none, none, none, none, none] [.int (zI μ a1 6)] μ K) : AW E l (d + 5) nc ns mX10_judge 100 [some (.ref 11), some (.ref a1), none, some (va_rf o3), some (va_rf o4), some (.int x5), none, none, none, none, none, none, none] [] μ K := by
  obtain ⟨g1, h⟩ := h
  refine aw_aload_n (pc' := 101) (dt_X10_judge 50 (100, .aload_n 1, 1) rfl) rfl rfl (aw_getI (pc' := 104) (dt_X10_judge 51 (101, .getfield 481, 3) rfl) fl_ReturnDesk_481 rfl rfl g1 (aw_goto (tgt := 111) (dt_X10_judge 52 (104, .goto 7, 3) rfl) (by decide) ?_))
  exact h

theorem t_X10_judge_141 {E : ZE} {l : Launch} {d nc ns : Nat} {a1 : Nat} {o3 : Option Nat} {o4 : Option Nat} {x5 : Int32} {x6 : Int32} {y0 : Int32} {μ : ZM} {K : Option Value → ZM → Prop} (hS : Stat μ) (h :
  (o3 = none →
    (o4 = none →
      (zK μ a1 = 0) ∧
      AW E l (d + 5) nc ns mX10_judge 171 [some (.ref 11), some (.ref a1), none, some (va_rf o3), some (va_rf o4), some (.int x5), some (.int x6), some (.int y0), none, none, none, none, none] [.int (zI μ a1 9)] μ K) ∧
    (∀ b4, o4 = some b4 →
      (zK μ b4 = 9) ∧
      (((zI μ b4 5) &&& ((1 : Int32) <<< ((3 : Int32) &&& 31))) = 0 →
        (zK μ a1 = 0) ∧
        AW E l (d + 5) nc ns mX10_judge 171 [some (.ref 11), some (.ref a1), none, some (va_rf o3), some (va_rf o4), some (.int x5), some (.int x6), some (.int y0), none, none, none, none, none] [.int (zI μ a1 9)] μ K) ∧
      (¬ ((zI μ b4 5) &&& ((1 : Int32) <<< ((3 : Int32) &&& 31))) = 0 →
        AW E l (d + 5) nc ns mX10_judge 160 [some (.ref 11), some (.ref a1), none, some (va_rf o3), some (va_rf o4), some (.int x5), some (.int x6), some (.int y0), none, none, none, none, none] [] μ K))) ∧
  (∀ b2, o3 = some b2 →
    (zK μ b2 = 9) ∧
    (((zI μ b2 5) &&& ((1 : Int32) <<< ((3 : Int32) &&& 31))) = 0 →
      (o4 = none →
        (zK μ a1 = 0) ∧
        AW E l (d + 5) nc ns mX10_judge 171 [some (.ref 11), some (.ref a1), none, some (va_rf o3), some (va_rf o4), some (.int x5), some (.int x6), some (.int y0), none, none, none, none, none] [.int (zI μ a1 9)] μ K) ∧
      (∀ b12, o4 = some b12 →
        (zK μ b12 = 9) ∧
        (((zI μ b12 5) &&& ((1 : Int32) <<< ((3 : Int32) &&& 31))) = 0 →
          (zK μ a1 = 0) ∧
          AW E l (d + 5) nc ns mX10_judge 171 [some (.ref 11), some (.ref a1), none, some (va_rf o3), some (va_rf o4), some (.int x5), some (.int x6), some (.int y0), none, none, none, none, none] [.int (zI μ a1 9)] μ K) ∧
        (¬ ((zI μ b12 5) &&& ((1 : Int32) <<< ((3 : Int32) &&& 31))) = 0 →
          AW E l (d + 5) nc ns mX10_judge 160 [some (.ref 11), some (.ref a1), none, some (va_rf o3), some (va_rf o4), some (.int x5), some (.int x6), some (.int y0), none, none, none, none, none] [] μ K))) ∧
    (¬ ((zI μ b2 5) &&& ((1 : Int32) <<< ((3 : Int32) &&& 31))) = 0 →
      AW E l (d + 5) nc ns mX10_judge 160 [some (.ref 11), some (.ref a1), none, some (va_rf o3), some (va_rf o4), some (.int x5), some (.int x6), some (.int y0), none, none, none, none, none] [] μ K))) : AW E l (d + 5) nc ns mX10_judge 141 [some (.ref 11), some (.ref a1), none, some (va_rf o3), some (va_rf o4), some (.int x5), some (.int x6), none, none, none, none, none, none] [.int y0] μ K := by
  refine aw_istore (pc' := 143) (ls' := [some (.ref 11), some (.ref a1), none, some (va_rf o3), some (va_rf o4), some (.int x5), some (.int x6), some (.int y0), none, none, none, none, none]) (dt_X10_judge 69 (141, .istore 7, 2) rfl) (by decide) rfl rfl (aw_aload_nO (pc' := 144) (dt_X10_judge 70 (143, .aload_n 3, 1) rfl) rfl rfl (aw_iconst (pc' := 145) (v := 3) (dt_X10_judge 71 (144, .iconst 3, 1) rfl) (by decide) rfl (aw_inS (pc' := 148) (nc1 := 0) (ns1 := 0) (nc := nc) (ns := ns) (ls' := [some (va_rf o3), some (.int 3)]) (y2 := mX10_names) (As := [va_rf o3, .int 3]) (rest := []) (dt_X10_judge 72 (145, .invokestatic 471, 3) rfl) ok_X10_names ln_ReturnDesk_471 sm_X10_names pr_X10_names rfl ((fun o => by cases o <;> exact Nat.le_of_ble_eq_true rfl : ∀ o : Option Nat, (zaf [va_rf o, .int 3]).length ≤ mX10_names.2.2.1) o3) (Nat.le_of_ble_eq_true rfl) rfl ((fun o => by cases o <;> rfl : ∀ o : Option Nat, zargs mX10_names.2.2.1 [va_rf o, .int 3] = [some (va_rf o), some (.int 3)]) o3) (aw_aload_nO (pc' := 1) (dt_X10_names 0 (0, .aload_n 0, 1) rfl) rfl rfl (aw_ifnullO (pc' := 4) (tgt := 19) (dt_X10_names 1 (1, .ifnull 18, 3) rfl) (by decide) rfl ?_ ?_)))))
  · intro e1
    have h := h.1 e1
    refine aw_iconst (pc' := 20) (v := 0) (dt_X10_names 11 (19, .iconst 0, 1) rfl) (by decide) rfl (aw_iret (dt_X10_names 12 (20, .ireturn, 1) rfl) rfl rfl (aw_stk (st' := [.int 0]) rfl (aw_if_ne_F (pc' := 151) (tgt := 160) (dt_X10_judge 73 (148, .ifCond .ne 12, 3) rfl) (by decide) rfl (by decide) (aw_aloadO (pc' := 153) (dt_X10_judge 74 (151, .aload 4, 2) rfl) rfl rfl (aw_iconst (pc' := 154) (v := 3) (dt_X10_judge 75 (153, .iconst 3, 1) rfl) (by decide) rfl (aw_inS (pc' := 157) (nc1 := 0) (ns1 := 0) (nc := nc) (ns := ns) (ls' := [some (va_rf o4), some (.int 3)]) (y2 := mX10_names) (As := [va_rf o4, .int 3]) (rest := []) (dt_X10_judge 76 (154, .invokestatic 471, 3) rfl) ok_X10_names ln_ReturnDesk_471 sm_X10_names pr_X10_names rfl ((fun o => by cases o <;> exact Nat.le_of_ble_eq_true rfl : ∀ o : Option Nat, (zaf [va_rf o, .int 3]).length ≤ mX10_names.2.2.1) o4) (Nat.le_of_ble_eq_true rfl) rfl ((fun o => by cases o <;> rfl : ∀ o : Option Nat, zargs mX10_names.2.2.1 [va_rf o, .int 3] = [some (va_rf o), some (.int 3)]) o4) (aw_aload_nO (pc' := 1) (dt_X10_names 0 (0, .aload_n 0, 1) rfl) rfl rfl (aw_ifnullO (pc' := 4) (tgt := 19) (dt_X10_names 1 (1, .ifnull 18, 3) rfl) (by decide) rfl ?_ ?_))))))))
    · intro e3
      have h := h.1 e3
      obtain ⟨g5, h⟩ := h
      refine aw_iconst (pc' := 20) (v := 0) (dt_X10_names 11 (19, .iconst 0, 1) rfl) (by decide) rfl (aw_iret (dt_X10_names 12 (20, .ireturn, 1) rfl) rfl rfl (aw_stk (st' := [.int 0]) rfl (aw_if_eq_T (pc' := 160) (tgt := 167) (dt_X10_judge 77 (157, .ifCond .eq 10, 3) rfl) (by decide) rfl (by decide) (aw_aload_n (pc' := 168) (dt_X10_judge 81 (167, .aload_n 1, 1) rfl) rfl rfl (aw_getI (pc' := 171) (dt_X10_judge 82 (168, .getfield 493, 3) rfl) fl_ReturnDesk_493 rfl rfl g5 ?_)))))
      exact h
    · intro b4 e3
      have h := h.2 b4 e3
      obtain ⟨g6, h⟩ := h
      refine aw_aload_nO (pc' := 5) (dt_X10_names 2 (4, .aload_n 0, 1) rfl) rfl rfl (aw_rf e3 (aw_getI (pc' := 8) (dt_X10_names 3 (5, .getfield 458, 3) rfl) fl_ReturnDesk_458 rfl rfl g6 (aw_iconst (pc' := 9) (v := 1) (dt_X10_names 4 (8, .iconst 1, 1) rfl) (by decide) rfl (aw_iload_n (pc' := 10) (dt_X10_names 5 (9, .iload_n 1, 1) rfl) rfl rfl (aw_ishl (pc' := 11) (dt_X10_names 6 (10, .ishl, 1) rfl) rfl (aw_iand (pc' := 12) (dt_X10_names 7 (11, .iand, 1) rfl) rfl (aw_if_eq (pc' := 15) (tgt := 19) (dt_X10_names 8 (12, .ifCond .eq 7, 3) rfl) (by decide) rfl ?_ ?_)))))))
      · intro q7
        have h := h.1 q7
        obtain ⟨g8, h⟩ := h
        refine aw_iconst (pc' := 20) (v := 0) (dt_X10_names 11 (19, .iconst 0, 1) rfl) (by decide) rfl (aw_iret (dt_X10_names 12 (20, .ireturn, 1) rfl) rfl rfl (aw_stk (st' := [.int 0]) rfl (aw_if_eq_T (pc' := 160) (tgt := 167) (dt_X10_judge 77 (157, .ifCond .eq 10, 3) rfl) (by decide) rfl (by decide) (aw_aload_n (pc' := 168) (dt_X10_judge 81 (167, .aload_n 1, 1) rfl) rfl rfl (aw_getI (pc' := 171) (dt_X10_judge 82 (168, .getfield 493, 3) rfl) fl_ReturnDesk_493 rfl rfl g8 ?_)))))
        exact h
      · intro q7
        have h := h.2 q7
        refine aw_iconst (pc' := 16) (v := 1) (dt_X10_names 9 (15, .iconst 1, 1) rfl) (by decide) rfl (aw_goto (tgt := 20) (dt_X10_names 10 (16, .goto 4, 3) rfl) (by decide) (aw_iret (dt_X10_names 12 (20, .ireturn, 1) rfl) rfl rfl (aw_stk (st' := [.int 1]) rfl (aw_if_eq_F (pc' := 160) (tgt := 167) (dt_X10_judge 77 (157, .ifCond .eq 10, 3) rfl) (by decide) rfl (by decide) ?_))))
        exact h
  · intro b2 e1
    have h := h.2 b2 e1
    obtain ⟨g9, h⟩ := h
    refine aw_aload_nO (pc' := 5) (dt_X10_names 2 (4, .aload_n 0, 1) rfl) rfl rfl (aw_rf e1 (aw_getI (pc' := 8) (dt_X10_names 3 (5, .getfield 458, 3) rfl) fl_ReturnDesk_458 rfl rfl g9 (aw_iconst (pc' := 9) (v := 1) (dt_X10_names 4 (8, .iconst 1, 1) rfl) (by decide) rfl (aw_iload_n (pc' := 10) (dt_X10_names 5 (9, .iload_n 1, 1) rfl) rfl rfl (aw_ishl (pc' := 11) (dt_X10_names 6 (10, .ishl, 1) rfl) rfl (aw_iand (pc' := 12) (dt_X10_names 7 (11, .iand, 1) rfl) rfl (aw_if_eq (pc' := 15) (tgt := 19) (dt_X10_names 8 (12, .ifCond .eq 7, 3) rfl) (by decide) rfl ?_ ?_)))))))
    · intro q10
      have h := h.1 q10
      refine aw_iconst (pc' := 20) (v := 0) (dt_X10_names 11 (19, .iconst 0, 1) rfl) (by decide) rfl (aw_iret (dt_X10_names 12 (20, .ireturn, 1) rfl) rfl rfl (aw_stk (st' := [.int 0]) rfl (aw_if_ne_F (pc' := 151) (tgt := 160) (dt_X10_judge 73 (148, .ifCond .ne 12, 3) rfl) (by decide) rfl (by decide) (aw_aloadO (pc' := 153) (dt_X10_judge 74 (151, .aload 4, 2) rfl) rfl rfl (aw_iconst (pc' := 154) (v := 3) (dt_X10_judge 75 (153, .iconst 3, 1) rfl) (by decide) rfl (aw_inS (pc' := 157) (nc1 := 0) (ns1 := 0) (nc := nc) (ns := ns) (ls' := [some (va_rf o4), some (.int 3)]) (y2 := mX10_names) (As := [va_rf o4, .int 3]) (rest := []) (dt_X10_judge 76 (154, .invokestatic 471, 3) rfl) ok_X10_names ln_ReturnDesk_471 sm_X10_names pr_X10_names rfl ((fun o => by cases o <;> exact Nat.le_of_ble_eq_true rfl : ∀ o : Option Nat, (zaf [va_rf o, .int 3]).length ≤ mX10_names.2.2.1) o4) (Nat.le_of_ble_eq_true rfl) rfl ((fun o => by cases o <;> rfl : ∀ o : Option Nat, zargs mX10_names.2.2.1 [va_rf o, .int 3] = [some (va_rf o), some (.int 3)]) o4) (aw_aload_nO (pc' := 1) (dt_X10_names 0 (0, .aload_n 0, 1) rfl) rfl rfl (aw_ifnullO (pc' := 4) (tgt := 19) (dt_X10_names 1 (1, .ifnull 18, 3) rfl) (by decide) rfl ?_ ?_))))))))
      · intro e11
        have h := h.1 e11
        obtain ⟨g13, h⟩ := h
        refine aw_iconst (pc' := 20) (v := 0) (dt_X10_names 11 (19, .iconst 0, 1) rfl) (by decide) rfl (aw_iret (dt_X10_names 12 (20, .ireturn, 1) rfl) rfl rfl (aw_stk (st' := [.int 0]) rfl (aw_if_eq_T (pc' := 160) (tgt := 167) (dt_X10_judge 77 (157, .ifCond .eq 10, 3) rfl) (by decide) rfl (by decide) (aw_aload_n (pc' := 168) (dt_X10_judge 81 (167, .aload_n 1, 1) rfl) rfl rfl (aw_getI (pc' := 171) (dt_X10_judge 82 (168, .getfield 493, 3) rfl) fl_ReturnDesk_493 rfl rfl g13 ?_)))))
        exact h
      · intro b12 e11
        have h := h.2 b12 e11
        obtain ⟨g14, h⟩ := h
        refine aw_aload_nO (pc' := 5) (dt_X10_names 2 (4, .aload_n 0, 1) rfl) rfl rfl (aw_rf e11 (aw_getI (pc' := 8) (dt_X10_names 3 (5, .getfield 458, 3) rfl) fl_ReturnDesk_458 rfl rfl g14 (aw_iconst (pc' := 9) (v := 1) (dt_X10_names 4 (8, .iconst 1, 1) rfl) (by decide) rfl (aw_iload_n (pc' := 10) (dt_X10_names 5 (9, .iload_n 1, 1) rfl) rfl rfl (aw_ishl (pc' := 11) (dt_X10_names 6 (10, .ishl, 1) rfl) rfl (aw_iand (pc' := 12) (dt_X10_names 7 (11, .iand, 1) rfl) rfl (aw_if_eq (pc' := 15) (tgt := 19) (dt_X10_names 8 (12, .ifCond .eq 7, 3) rfl) (by decide) rfl ?_ ?_)))))))
        · intro q15
          have h := h.1 q15
          obtain ⟨g16, h⟩ := h
          refine aw_iconst (pc' := 20) (v := 0) (dt_X10_names 11 (19, .iconst 0, 1) rfl) (by decide) rfl (aw_iret (dt_X10_names 12 (20, .ireturn, 1) rfl) rfl rfl (aw_stk (st' := [.int 0]) rfl (aw_if_eq_T (pc' := 160) (tgt := 167) (dt_X10_judge 77 (157, .ifCond .eq 10, 3) rfl) (by decide) rfl (by decide) (aw_aload_n (pc' := 168) (dt_X10_judge 81 (167, .aload_n 1, 1) rfl) rfl rfl (aw_getI (pc' := 171) (dt_X10_judge 82 (168, .getfield 493, 3) rfl) fl_ReturnDesk_493 rfl rfl g16 ?_)))))
          exact h
        · intro q15
          have h := h.2 q15
          refine aw_iconst (pc' := 16) (v := 1) (dt_X10_names 9 (15, .iconst 1, 1) rfl) (by decide) rfl (aw_goto (tgt := 20) (dt_X10_names 10 (16, .goto 4, 3) rfl) (by decide) (aw_iret (dt_X10_names 12 (20, .ireturn, 1) rfl) rfl rfl (aw_stk (st' := [.int 1]) rfl (aw_if_eq_F (pc' := 160) (tgt := 167) (dt_X10_judge 77 (157, .ifCond .eq 10, 3) rfl) (by decide) rfl (by decide) ?_))))
          exact h
    · intro q10
      have h := h.2 q10
      refine aw_iconst (pc' := 16) (v := 1) (dt_X10_names 9 (15, .iconst 1, 1) rfl) (by decide) rfl (aw_goto (tgt := 20) (dt_X10_names 10 (16, .goto 4, 3) rfl) (by decide) (aw_iret (dt_X10_names 12 (20, .ireturn, 1) rfl) rfl rfl (aw_stk (st' := [.int 1]) rfl (aw_if_ne_T (pc' := 151) (tgt := 160) (dt_X10_judge 73 (148, .ifCond .ne 12, 3) rfl) (by decide) rfl (by decide) ?_))))
      exact h

theorem t_X10_judge_130 {E : ZE} {l : Launch} {d nc ns : Nat} {a1 : Nat} {o3 : Option Nat} {o4 : Option Nat} {x5 : Int32} {x6 : Int32} {μ : ZM} {K : Option Value → ZM → Prop} (hS : Stat μ) (h :
  (zK μ a1 = 0) ∧
  AW E l (d + 5) nc ns mX10_judge 141 [some (.ref 11), some (.ref a1), none, some (va_rf o3), some (va_rf o4), some (.int x5), some (.int x6), none, none, none, none, none, none] [.int (zI μ a1 8)] μ K) : AW E l (d + 5) nc ns mX10_judge 130 [some (.ref 11), some (.ref a1), none, some (va_rf o3), some (va_rf o4), some (.int x5), some (.int x6), none, none, none, none, none, none] [] μ K := by
  obtain ⟨g1, h⟩ := h
  refine aw_aload_n (pc' := 131) (dt_X10_judge 64 (130, .aload_n 1, 1) rfl) rfl rfl (aw_getI (pc' := 134) (dt_X10_judge 65 (131, .getfield 484, 3) rfl) fl_ReturnDesk_484 rfl rfl g1 (aw_goto (tgt := 141) (dt_X10_judge 66 (134, .goto 7, 3) rfl) (by decide) ?_))
  exact h

theorem t_X10_judge_171 {E : ZE} {l : Launch} {d nc ns : Nat} {a1 : Nat} {o3 : Option Nat} {o4 : Option Nat} {x5 : Int32} {x6 : Int32} {x7 : Int32} {y0 : Int32} {μ : ZM} {K : Option Value → ZM → Prop} (hS : Stat μ) (h :
  (zK μ a1 = 0) ∧
  AW E l (d + 5) nc ns mX10_judge 179 [some (.ref 11), some (.ref a1), none, some (va_rf o3), some (va_rf o4), some (.int x5), some (.int x6), some (.int x7), some (.int y0), some (.int (zI μ a1 3)), none, none, none] [] μ K) : AW E l (d + 5) nc ns mX10_judge 171 [some (.ref 11), some (.ref a1), none, some (va_rf o3), some (va_rf o4), some (.int x5), some (.int x6), some (.int x7), none, none, none, none, none] [.int y0] μ K := by
  obtain ⟨g1, h⟩ := h
  refine aw_istore (pc' := 173) (ls' := [some (.ref 11), some (.ref a1), none, some (va_rf o3), some (va_rf o4), some (.int x5), some (.int x6), some (.int x7), some (.int y0), none, none, none, none]) (dt_X10_judge 83 (171, .istore 8, 2) rfl) (by decide) rfl rfl (aw_aload_n (pc' := 174) (dt_X10_judge 84 (173, .aload_n 1, 1) rfl) rfl rfl (aw_getI (pc' := 177) (dt_X10_judge 85 (174, .getfield 478, 3) rfl) fl_ReturnDesk_478 rfl rfl g1 (aw_istore (pc' := 179) (ls' := [some (.ref 11), some (.ref a1), none, some (va_rf o3), some (va_rf o4), some (.int x5), some (.int x6), some (.int x7), some (.int y0), some (.int (zI μ a1 3)), none, none, none]) (dt_X10_judge 86 (177, .istore 9, 2) rfl) (by decide) rfl rfl ?_)))
  exact h

theorem t_X10_judge_160 {E : ZE} {l : Launch} {d nc ns : Nat} {a1 : Nat} {o3 : Option Nat} {o4 : Option Nat} {x5 : Int32} {x6 : Int32} {x7 : Int32} {μ : ZM} {K : Option Value → ZM → Prop} (hS : Stat μ) (h :
  (zK μ a1 = 0) ∧
  AW E l (d + 5) nc ns mX10_judge 171 [some (.ref 11), some (.ref a1), none, some (va_rf o3), some (va_rf o4), some (.int x5), some (.int x6), some (.int x7), none, none, none, none, none] [.int (zI μ a1 10)] μ K) : AW E l (d + 5) nc ns mX10_judge 160 [some (.ref 11), some (.ref a1), none, some (va_rf o3), some (va_rf o4), some (.int x5), some (.int x6), some (.int x7), none, none, none, none, none] [] μ K := by
  obtain ⟨g1, h⟩ := h
  refine aw_aload_n (pc' := 161) (dt_X10_judge 78 (160, .aload_n 1, 1) rfl) rfl rfl (aw_getI (pc' := 164) (dt_X10_judge 79 (161, .getfield 490, 3) rfl) fl_ReturnDesk_490 rfl rfl g1 (aw_goto (tgt := 171) (dt_X10_judge 80 (164, .goto 7, 3) rfl) (by decide) ?_))
  exact h

theorem t_X10_judge_179 {E : ZE} {l : Launch} {d nc ns : Nat} {a1 : Nat} {o3 : Option Nat} {o4 : Option Nat} {x5 : Int32} {x6 : Int32} {x7 : Int32} {x8 : Int32} {x9 : Int32} {μ : ZM} {K : Option Value → ZM → Prop} (hS : Stat μ) (h :
  (x5 < x9 →
    K none μ) ∧
  (¬ x5 < x9 →
    (zK μ a1 = 0) ∧
    AW E l (d + 5) nc ns mX10_judge 192 [some (.ref 11), some (.ref a1), none, some (va_rf o3), some (va_rf o4), some (.int x5), some (.int x6), some (.int x7), some (.int x8), some (.int x9), some (.int (zI μ a1 5)), none, none] [] μ K)) : AW E l (d + 5) nc ns mX10_judge 179 [some (.ref 11), some (.ref a1), none, some (va_rf o3), some (va_rf o4), some (.int x5), some (.int x6), some (.int x7), some (.int x8), some (.int x9), none, none, none] [] μ K := by
  refine aw_iload (pc' := 181) (dt_X10_judge 87 (179, .iload 9, 2) rfl) rfl rfl (aw_iload (pc' := 183) (dt_X10_judge 88 (181, .iload 5, 2) rfl) rfl rfl (aw_icmp_gt (pc' := 186) (tgt := 279) (dt_X10_judge 89 (183, .if_icmp .gt 96, 3) rfl) (by decide) rfl ?_ ?_))
  · intro q1
    have h := h.1 q1
    refine aw_ret (dt_X10_judge 131 (279, .return_, 1) rfl) rfl ?_
    exact h
  · intro q1
    have h := h.2 q1
    obtain ⟨g2, h⟩ := h
    refine aw_aload_n (pc' := 187) (dt_X10_judge 90 (186, .aload_n 1, 1) rfl) rfl rfl (aw_getI (pc' := 190) (dt_X10_judge 91 (187, .getfield 312, 3) rfl) fl_ReturnDesk_312 rfl rfl g2 (aw_istore (pc' := 192) (ls' := [some (.ref 11), some (.ref a1), none, some (va_rf o3), some (va_rf o4), some (.int x5), some (.int x6), some (.int x7), some (.int x8), some (.int x9), some (.int (zI μ a1 5)), none, none]) (dt_X10_judge 92 (190, .istore 10, 2) rfl) (by decide) rfl rfl ?_))
    exact h

theorem t_X10_judge_192 {E : ZE} {l : Launch} {d nc ns : Nat} {a1 : Nat} {o3 : Option Nat} {o4 : Option Nat} {x5 : Int32} {x6 : Int32} {x7 : Int32} {x8 : Int32} {x9 : Int32} {x10 : Int32} {μ : ZM} {K : Option Value → ZM → Prop} (hS : Stat μ) (h :
  (x6 < x10 →
    AW E l (d + 5) nc ns mX10_judge 179 [some (.ref 11), some (.ref a1), none, some (va_rf o3), some (va_rf o4), some (.int x5), some (.int x6), some (.int x7), some (.int x8), some (.int (x9 + 1)), none, none, none] [] μ K) ∧
  (¬ x6 < x10 →
    (zK μ a1 = 0) ∧
    AW E l (d + 5) nc ns mX10_judge 205 [some (.ref 11), some (.ref a1), none, some (va_rf o3), some (va_rf o4), some (.int x5), some (.int x6), some (.int x7), some (.int x8), some (.int x9), some (.int x10), some (.int (zI μ a1 7)), none] [] μ K)) : AW E l (d + 5) nc ns mX10_judge 192 [some (.ref 11), some (.ref a1), none, some (va_rf o3), some (va_rf o4), some (.int x5), some (.int x6), some (.int x7), some (.int x8), some (.int x9), some (.int x10), none, none] [] μ K := by
  refine aw_iload (pc' := 194) (dt_X10_judge 93 (192, .iload 10, 2) rfl) rfl rfl (aw_iload (pc' := 196) (dt_X10_judge 94 (194, .iload 6, 2) rfl) rfl rfl (aw_icmp_gt (pc' := 199) (tgt := 273) (dt_X10_judge 95 (196, .if_icmp .gt 77, 3) rfl) (by decide) rfl ?_ ?_))
  · intro q1
    have h := h.1 q1
    refine aw_iinc (pc' := 276) (v := 1) (ls' := [some (.ref 11), some (.ref a1), none, some (va_rf o3), some (va_rf o4), some (.int x5), some (.int x6), some (.int x7), some (.int x8), some (.int (x9 + 1)), some (.int x10), none, none]) (dt_X10_judge 129 (273, .iinc 9 1, 3) rfl) rfl (by decide) (by decide) rfl rfl (aw_goto (tgt := 179) (dt_X10_judge 130 (276, .goto (-97), 3) rfl) (by decide) (aw_drop (ls' := [some (.ref 11), some (.ref a1), none, some (va_rf o3), some (va_rf o4), some (.int x5), some (.int x6), some (.int x7), some (.int x8), some (.int (x9 + 1)), none, none, none]) ⟨rfl, rfl, rfl, rfl, rfl, rfl, rfl, rfl, rfl, trivial⟩ ?_))
    exact h
  · intro q1
    have h := h.2 q1
    obtain ⟨g2, h⟩ := h
    refine aw_aload_n (pc' := 200) (dt_X10_judge 96 (199, .aload_n 1, 1) rfl) rfl rfl (aw_getI (pc' := 203) (dt_X10_judge 97 (200, .getfield 487, 3) rfl) fl_ReturnDesk_487 rfl rfl g2 (aw_istore (pc' := 205) (ls' := [some (.ref 11), some (.ref a1), none, some (va_rf o3), some (va_rf o4), some (.int x5), some (.int x6), some (.int x7), some (.int x8), some (.int x9), some (.int x10), some (.int (zI μ a1 7)), none]) (dt_X10_judge 98 (203, .istore 11, 2) rfl) (by decide) rfl rfl ?_))
    exact h

theorem t_X10_judge_205 {E : ZE} {l : Launch} {d nc ns : Nat} {a1 : Nat} {o3 : Option Nat} {o4 : Option Nat} {x5 : Int32} {x6 : Int32} {x7 : Int32} {x8 : Int32} {x9 : Int32} {x10 : Int32} {x11 : Int32} {μ : ZM} {K : Option Value → ZM → Prop} (hS : Stat μ) (h :
  (x7 < x11 →
    AW E l (d + 5) nc ns mX10_judge 192 [some (.ref 11), some (.ref a1), none, some (va_rf o3), some (va_rf o4), some (.int x5), some (.int x6), some (.int x7), some (.int x8), some (.int x9), some (.int (x10 + 1)), none, none] [] μ K) ∧
  (¬ x7 < x11 →
    (zK μ a1 = 0) ∧
    AW E l (d + 5) nc ns mX10_judge 218 [some (.ref 11), some (.ref a1), none, some (va_rf o3), some (va_rf o4), some (.int x5), some (.int x6), some (.int x7), some (.int x8), some (.int x9), some (.int x10), some (.int x11), some (.int (zI μ a1 9))] [] μ K)) : AW E l (d + 5) nc ns mX10_judge 205 [some (.ref 11), some (.ref a1), none, some (va_rf o3), some (va_rf o4), some (.int x5), some (.int x6), some (.int x7), some (.int x8), some (.int x9), some (.int x10), some (.int x11), none] [] μ K := by
  refine aw_iload (pc' := 207) (dt_X10_judge 99 (205, .iload 11, 2) rfl) rfl rfl (aw_iload (pc' := 209) (dt_X10_judge 100 (207, .iload 7, 2) rfl) rfl rfl (aw_icmp_gt (pc' := 212) (tgt := 267) (dt_X10_judge 101 (209, .if_icmp .gt 58, 3) rfl) (by decide) rfl ?_ ?_))
  · intro q1
    have h := h.1 q1
    refine aw_iinc (pc' := 270) (v := 1) (ls' := [some (.ref 11), some (.ref a1), none, some (va_rf o3), some (va_rf o4), some (.int x5), some (.int x6), some (.int x7), some (.int x8), some (.int x9), some (.int (x10 + 1)), some (.int x11), none]) (dt_X10_judge 127 (267, .iinc 10 1, 3) rfl) rfl (by decide) (by decide) rfl rfl (aw_goto (tgt := 192) (dt_X10_judge 128 (270, .goto (-78), 3) rfl) (by decide) (aw_drop (ls' := [some (.ref 11), some (.ref a1), none, some (va_rf o3), some (va_rf o4), some (.int x5), some (.int x6), some (.int x7), some (.int x8), some (.int x9), some (.int (x10 + 1)), none, none]) ⟨rfl, rfl, rfl, rfl, rfl, rfl, rfl, rfl, rfl, rfl, trivial⟩ ?_))
    exact h
  · intro q1
    have h := h.2 q1
    obtain ⟨g2, h⟩ := h
    refine aw_aload_n (pc' := 213) (dt_X10_judge 102 (212, .aload_n 1, 1) rfl) rfl rfl (aw_getI (pc' := 216) (dt_X10_judge 103 (213, .getfield 493, 3) rfl) fl_ReturnDesk_493 rfl rfl g2 (aw_istore (pc' := 218) (ls' := [some (.ref 11), some (.ref a1), none, some (va_rf o3), some (va_rf o4), some (.int x5), some (.int x6), some (.int x7), some (.int x8), some (.int x9), some (.int x10), some (.int x11), some (.int (zI μ a1 9))]) (dt_X10_judge 104 (216, .istore 12, 2) rfl) (by decide) rfl rfl ?_))
    exact h

theorem t_X10_judge_218 {E : ZE} {l : Launch} {d nc ns : Nat} {a1 : Nat} {o3 : Option Nat} {o4 : Option Nat} {x5 : Int32} {x6 : Int32} {x7 : Int32} {x8 : Int32} {x9 : Int32} {x10 : Int32} {x11 : Int32} {x12 : Int32} {μ : ZM} {K : Option Value → ZM → Prop} (hS : Stat μ) (h :
  (x8 < x12 →
    AW E l (d + 5) nc ns mX10_judge 205 [some (.ref 11), some (.ref a1), none, some (va_rf o3), some (va_rf o4), some (.int x5), some (.int x6), some (.int x7), some (.int x8), some (.int x9), some (.int x10), some (.int (x11 + 1)), none] [] μ K) ∧
  (¬ x8 < x12 →
    (o3 = none →
      (o4 = none →
        AW E l (d + 4) 0 0 mX1_hear 0 (zargs 8 [.ref 29, .int 0, .int 0]) [] (sI (sI (sI (sI μ 27 0 x9) 27 1 x10) 27 2 x11) 27 3 x12) (fun v μ6 => v = none ∧ Stat μ6 ∧ 
          AW E l (d + 5) nc ns mX10_judge 218 [some (.ref 11), some (.ref a1), none, some (va_rf o3), some (va_rf o4), some (.int x5), some (.int x6), some (.int x7), some (.int x8), some (.int x9), some (.int x10), some (.int x11), some (.int (x12 + 1))] [] μ6 K)) ∧
      (∀ b5, o4 = some b5 →
        (zK (sI (sI (sI (sI μ 27 0 x9) 27 1 x10) 27 2 x11) 27 3 x12) b5 = 9) ∧
        (zA (sI (sI (sI (sI μ 27 0 x9) 27 1 x10) 27 2 x11) 27 3 x12) b5 4 = none →
          AW E l (d + 3) 0 0 mX3_run 0 (zargs 5 [.ref 26, .null]) [] (sI (sI (sI (sI μ 27 0 x9) 27 1 x10) 27 2 x11) 27 3 x12) (fun v μ11 => ∃ r13 : Int32, v = some (.int r13) ∧ Stat μ11 ∧ 
            AW E l (d + 4) 0 0 mX1_hear 0 (zargs 8 [.ref 29, .int 0, .int r13]) [] μ11 (fun v μ14 => v = none ∧ Stat μ14 ∧ 
              AW E l (d + 5) nc ns mX10_judge 218 [some (.ref 11), some (.ref a1), none, some (va_rf o3), some (va_rf o4), some (.int x5), some (.int x6), some (.int x7), some (.int x8), some (.int x9), some (.int x10), some (.int x11), some (.int (x12 + 1))] [] μ14 K))) ∧
        (∀ b10, zA (sI (sI (sI (sI μ 27 0 x9) 27 1 x10) 27 2 x11) 27 3 x12) b5 4 = some b10 →
          AW E l (d + 3) 0 0 mX3_run 0 (zargs 5 [.ref 26, .ref b10]) [] (sI (sI (sI (sI μ 27 0 x9) 27 1 x10) 27 2 x11) 27 3 x12) (fun v μ16 => ∃ r18 : Int32, v = some (.int r18) ∧ Stat μ16 ∧ 
            AW E l (d + 4) 0 0 mX1_hear 0 (zargs 8 [.ref 29, .int 0, .int r18]) [] μ16 (fun v μ19 => v = none ∧ Stat μ19 ∧ 
              AW E l (d + 5) nc ns mX10_judge 218 [some (.ref 11), some (.ref a1), none, some (va_rf o3), some (va_rf o4), some (.int x5), some (.int x6), some (.int x7), some (.int x8), some (.int x9), some (.int x10), some (.int x11), some (.int (x12 + 1))] [] μ19 K))))) ∧
    (∀ b3, o3 = some b3 →
      (zK (sI (sI (sI (sI μ 27 0 x9) 27 1 x10) 27 2 x11) 27 3 x12) b3 = 9) ∧
      (zA (sI (sI (sI (sI μ 27 0 x9) 27 1 x10) 27 2 x11) 27 3 x12) b3 4 = none →
        AW E l (d + 3) 0 0 mX3_run 0 (zargs 5 [.ref 26, .null]) [] (sI (sI (sI (sI μ 27 0 x9) 27 1 x10) 27 2 x11) 27 3 x12) (fun v μ24 => ∃ r26 : Int32, v = some (.int r26) ∧ Stat μ24 ∧ 
          (o4 = none →
            AW E l (d + 4) 0 0 mX1_hear 0 (zargs 8 [.ref 29, .int r26, .int 0]) [] μ24 (fun v μ29 => v = none ∧ Stat μ29 ∧ 
              AW E l (d + 5) nc ns mX10_judge 218 [some (.ref 11), some (.ref a1), none, some (va_rf o3), some (va_rf o4), some (.int x5), some (.int x6), some (.int x7), some (.int x8), some (.int x9), some (.int x10), some (.int x11), some (.int (x12 + 1))] [] μ29 K)) ∧
          (∀ b28, o4 = some b28 →
            (zK μ24 b28 = 9) ∧
            (zA μ24 b28 4 = none →
              AW E l (d + 3) 0 0 mX3_run 0 (zargs 5 [.ref 26, .null]) [] μ24 (fun v μ34 => ∃ r36 : Int32, v = some (.int r36) ∧ Stat μ34 ∧ 
                AW E l (d + 4) 0 0 mX1_hear 0 (zargs 8 [.ref 29, .int r26, .int r36]) [] μ34 (fun v μ37 => v = none ∧ Stat μ37 ∧ 
                  AW E l (d + 5) nc ns mX10_judge 218 [some (.ref 11), some (.ref a1), none, some (va_rf o3), some (va_rf o4), some (.int x5), some (.int x6), some (.int x7), some (.int x8), some (.int x9), some (.int x10), some (.int x11), some (.int (x12 + 1))] [] μ37 K))) ∧
            (∀ b33, zA μ24 b28 4 = some b33 →
              AW E l (d + 3) 0 0 mX3_run 0 (zargs 5 [.ref 26, .ref b33]) [] μ24 (fun v μ39 => ∃ r41 : Int32, v = some (.int r41) ∧ Stat μ39 ∧ 
                AW E l (d + 4) 0 0 mX1_hear 0 (zargs 8 [.ref 29, .int r26, .int r41]) [] μ39 (fun v μ42 => v = none ∧ Stat μ42 ∧ 
                  AW E l (d + 5) nc ns mX10_judge 218 [some (.ref 11), some (.ref a1), none, some (va_rf o3), some (va_rf o4), some (.int x5), some (.int x6), some (.int x7), some (.int x8), some (.int x9), some (.int x10), some (.int x11), some (.int (x12 + 1))] [] μ42 K)))))) ∧
      (∀ b23, zA (sI (sI (sI (sI μ 27 0 x9) 27 1 x10) 27 2 x11) 27 3 x12) b3 4 = some b23 →
        AW E l (d + 3) 0 0 mX3_run 0 (zargs 5 [.ref 26, .ref b23]) [] (sI (sI (sI (sI μ 27 0 x9) 27 1 x10) 27 2 x11) 27 3 x12) (fun v μ44 => ∃ r46 : Int32, v = some (.int r46) ∧ Stat μ44 ∧ 
          (o4 = none →
            AW E l (d + 4) 0 0 mX1_hear 0 (zargs 8 [.ref 29, .int r46, .int 0]) [] μ44 (fun v μ49 => v = none ∧ Stat μ49 ∧ 
              AW E l (d + 5) nc ns mX10_judge 218 [some (.ref 11), some (.ref a1), none, some (va_rf o3), some (va_rf o4), some (.int x5), some (.int x6), some (.int x7), some (.int x8), some (.int x9), some (.int x10), some (.int x11), some (.int (x12 + 1))] [] μ49 K)) ∧
          (∀ b48, o4 = some b48 →
            (zK μ44 b48 = 9) ∧
            (zA μ44 b48 4 = none →
              AW E l (d + 3) 0 0 mX3_run 0 (zargs 5 [.ref 26, .null]) [] μ44 (fun v μ54 => ∃ r56 : Int32, v = some (.int r56) ∧ Stat μ54 ∧ 
                AW E l (d + 4) 0 0 mX1_hear 0 (zargs 8 [.ref 29, .int r46, .int r56]) [] μ54 (fun v μ57 => v = none ∧ Stat μ57 ∧ 
                  AW E l (d + 5) nc ns mX10_judge 218 [some (.ref 11), some (.ref a1), none, some (va_rf o3), some (va_rf o4), some (.int x5), some (.int x6), some (.int x7), some (.int x8), some (.int x9), some (.int x10), some (.int x11), some (.int (x12 + 1))] [] μ57 K))) ∧
            (∀ b53, zA μ44 b48 4 = some b53 →
              AW E l (d + 3) 0 0 mX3_run 0 (zargs 5 [.ref 26, .ref b53]) [] μ44 (fun v μ59 => ∃ r61 : Int32, v = some (.int r61) ∧ Stat μ59 ∧ 
                AW E l (d + 4) 0 0 mX1_hear 0 (zargs 8 [.ref 29, .int r46, .int r61]) [] μ59 (fun v μ62 => v = none ∧ Stat μ62 ∧ 
                  AW E l (d + 5) nc ns mX10_judge 218 [some (.ref 11), some (.ref a1), none, some (va_rf o3), some (va_rf o4), some (.int x5), some (.int x6), some (.int x7), some (.int x8), some (.int x9), some (.int x10), some (.int x11), some (.int (x12 + 1))] [] μ62 K))))))))) : AW E l (d + 5) nc ns mX10_judge 218 [some (.ref 11), some (.ref a1), none, some (va_rf o3), some (va_rf o4), some (.int x5), some (.int x6), some (.int x7), some (.int x8), some (.int x9), some (.int x10), some (.int x11), some (.int x12)] [] μ K := by
  refine aw_iload (pc' := 220) (dt_X10_judge 105 (218, .iload 12, 2) rfl) rfl rfl (aw_iload (pc' := 222) (dt_X10_judge 106 (220, .iload 8, 2) rfl) rfl rfl (aw_icmp_gt (pc' := 225) (tgt := 261) (dt_X10_judge 107 (222, .if_icmp .gt 39, 3) rfl) (by decide) rfl ?_ ?_))
  · intro q1
    have h := h.1 q1
    refine aw_iinc (pc' := 264) (v := 1) (ls' := [some (.ref 11), some (.ref a1), none, some (va_rf o3), some (va_rf o4), some (.int x5), some (.int x6), some (.int x7), some (.int x8), some (.int x9), some (.int x10), some (.int (x11 + 1)), some (.int x12)]) (dt_X10_judge 125 (261, .iinc 11 1, 3) rfl) rfl (by decide) (by decide) rfl rfl (aw_goto (tgt := 205) (dt_X10_judge 126 (264, .goto (-59), 3) rfl) (by decide) (aw_drop (ls' := [some (.ref 11), some (.ref a1), none, some (va_rf o3), some (va_rf o4), some (.int x5), some (.int x6), some (.int x7), some (.int x8), some (.int x9), some (.int x10), some (.int (x11 + 1)), none]) ⟨rfl, rfl, rfl, rfl, rfl, rfl, rfl, rfl, rfl, rfl, rfl, trivial⟩ ?_))
    exact h
  · intro q1
    have h := h.2 q1
    refine aw_aload_n (pc' := 226) (dt_X10_judge 108 (225, .aload_n 0, 1) rfl) rfl rfl (aw_iload (pc' := 228) (dt_X10_judge 109 (226, .iload 9, 2) rfl) rfl rfl (aw_iload (pc' := 230) (dt_X10_judge 110 (228, .iload 10, 2) rfl) rfl rfl (aw_iload (pc' := 232) (dt_X10_judge 111 (230, .iload 11, 2) rfl) rfl rfl (aw_iload (pc' := 234) (dt_X10_judge 112 (232, .iload 12, 2) rfl) rfl rfl (aw_inV (pc' := 237) (nc1 := 0) (ns1 := 0) (nc := nc) (ns := ns) (ls' := [some (.ref 11), some (.int x9), some (.int x10), some (.int x11), some (.int x12)]) (y2 := mX10_tellFacts) (As := [.int x9, .int x10, .int x11, .int x12]) (rest := []) (a := 11) (dt_X10_judge 113 (234, .invokevirtual 234, 3) rfl) ok_X10_tellFacts ln_ReturnDesk_234 im_X10_tellFacts se_X10_tellFacts pr_X10_tellFacts (Or.inl ⟨by decide, rfl⟩) rfl (Nat.le_of_ble_eq_true rfl) (Nat.le_of_ble_eq_true rfl) rfl rfl (sk_11 hS) (aw_aload_n (pc' := 1) (dt_X10_tellFacts 0 (0, .aload_n 0, 1) rfl) rfl rfl (aw_getAs (pc' := 4) (dt_X10_tellFacts 1 (1, .getfield 61, 3) rfl) fl_ReturnDesk_61 rfl rfl (sk_11 hS) (sa_11_8 hS) (aw_iconst (pc' := 5) (v := 0) (dt_X10_tellFacts 2 (4, .iconst 0, 1) rfl) (by decide) rfl (aw_iload_n (pc' := 6) (dt_X10_tellFacts 3 (5, .iload_n 1, 1) rfl) rfl rfl (aw_inV (pc' := 9) (nc1 := 0) (ns1 := 0) (nc := 0) (ns := 0) (ls' := [some (.ref 26), some (.int 0), some (.int x9)]) (y2 := mX3_tell) (As := [.int 0, .int x9]) (rest := []) (a := 26) (dt_X10_tellFacts 4 (6, .invokevirtual 448, 3) rfl) ok_X3_tell ln_ReturnDesk_448 im_X3_tell se_X3_tell pr_X3_tell (Or.inl ⟨by decide, rfl⟩) rfl (Nat.le_of_ble_eq_true rfl) (Nat.le_of_ble_eq_true rfl) rfl rfl (sk_26 hS) (aw_iload_n (pc' := 1) (dt_X3_tell 0 (0, .iload_n 1, 1) rfl) rfl rfl (aw_if_lt_F (pc' := 4) (tgt := 20) (dt_X3_tell 1 (1, .ifCond .lt 19, 3) rfl) (by decide) rfl (by decide) (aw_iload_n (pc' := 5) (dt_X3_tell 2 (4, .iload_n 1, 1) rfl) rfl rfl (aw_aload_n (pc' := 6) (dt_X3_tell 3 (5, .aload_n 0, 1) rfl) rfl rfl (aw_getAs (pc' := 9) (dt_X3_tell 4 (6, .getfield 9, 3) rfl) fl_Machine_9 rfl rfl (sk_26 hS) (sa_26_0 hS) (aw_alens (pc' := 10) (n := 12) (v := 12) (dt_X3_tell 5 (9, .arraylength, 1) rfl) (by decide) (by decide) rfl (sk_27 hS) (sl_27 hS) (by decide) (aw_icmp_ge_F (pc' := 13) (tgt := 20) (dt_X3_tell 6 (10, .if_icmp .ge 10, 3) rfl) (by decide) rfl (by decide) (aw_aload_n (pc' := 14) (dt_X3_tell 7 (13, .aload_n 0, 1) rfl) rfl rfl (aw_getAs (pc' := 17) (dt_X3_tell 8 (14, .getfield 9, 3) rfl) fl_Machine_9 rfl rfl (sk_26 hS) (sa_26_0 hS) (aw_iload_n (pc' := 18) (dt_X3_tell 9 (17, .iload_n 1, 1) rfl) rfl rfl (aw_iload_n (pc' := 19) (dt_X3_tell 10 (18, .iload_n 2, 1) rfl) rfl rfl (aw_iast (pc' := 20) (dt_X3_tell 11 (19, .iastore, 1) rfl) rfl (sk_27 hS) (by decide) (vin_eq (sl_27 hS) (vlit (by decide))) (aw_ret (dt_X3_tell 12 (20, .return_, 1) rfl) rfl (aw_stk (st' := []) rfl (aw_aload_n (pc' := 10) (dt_X10_tellFacts 5 (9, .aload_n 0, 1) rfl) rfl rfl (aw_getAs (pc' := 13) (dt_X10_tellFacts 6 (10, .getfield 61, 3) rfl) fl_ReturnDesk_61 rfl rfl (sk_11 hS.wI) (sa_11_8 hS.wI) (aw_iconst (pc' := 14) (v := 1) (dt_X10_tellFacts 7 (13, .iconst 1, 1) rfl) (by decide) rfl (aw_iload_n (pc' := 15) (dt_X10_tellFacts 8 (14, .iload_n 2, 1) rfl) rfl rfl (aw_inV (pc' := 18) (nc1 := 0) (ns1 := 0) (nc := 0) (ns := 0) (ls' := [some (.ref 26), some (.int 1), some (.int x10)]) (y2 := mX3_tell) (As := [.int 1, .int x10]) (rest := []) (a := 26) (dt_X10_tellFacts 9 (15, .invokevirtual 448, 3) rfl) ok_X3_tell ln_ReturnDesk_448 im_X3_tell se_X3_tell pr_X3_tell (Or.inl ⟨by decide, rfl⟩) rfl (Nat.le_of_ble_eq_true rfl) (Nat.le_of_ble_eq_true rfl) rfl rfl (sk_26 hS.wI) (aw_iload_n (pc' := 1) (dt_X3_tell 0 (0, .iload_n 1, 1) rfl) rfl rfl (aw_if_lt_F (pc' := 4) (tgt := 20) (dt_X3_tell 1 (1, .ifCond .lt 19, 3) rfl) (by decide) rfl (by decide) (aw_iload_n (pc' := 5) (dt_X3_tell 2 (4, .iload_n 1, 1) rfl) rfl rfl (aw_aload_n (pc' := 6) (dt_X3_tell 3 (5, .aload_n 0, 1) rfl) rfl rfl (aw_getAs (pc' := 9) (dt_X3_tell 4 (6, .getfield 9, 3) rfl) fl_Machine_9 rfl rfl (sk_26 hS.wI) (sa_26_0 hS.wI) (aw_alens (pc' := 10) (n := 12) (v := 12) (dt_X3_tell 5 (9, .arraylength, 1) rfl) (by decide) (by decide) rfl (sk_27 hS.wI) (sl_27 hS.wI) (by decide) (aw_icmp_ge_F (pc' := 13) (tgt := 20) (dt_X3_tell 6 (10, .if_icmp .ge 10, 3) rfl) (by decide) rfl (by decide) (aw_aload_n (pc' := 14) (dt_X3_tell 7 (13, .aload_n 0, 1) rfl) rfl rfl (aw_getAs (pc' := 17) (dt_X3_tell 8 (14, .getfield 9, 3) rfl) fl_Machine_9 rfl rfl (sk_26 hS.wI) (sa_26_0 hS.wI) (aw_iload_n (pc' := 18) (dt_X3_tell 9 (17, .iload_n 1, 1) rfl) rfl rfl (aw_iload_n (pc' := 19) (dt_X3_tell 10 (18, .iload_n 2, 1) rfl) rfl rfl (aw_iast (pc' := 20) (dt_X3_tell 11 (19, .iastore, 1) rfl) rfl (sk_27 hS.wI) (by decide) (vin_eq (sl_27 hS.wI) (vlit (by decide))) (aw_ret (dt_X3_tell 12 (20, .return_, 1) rfl) rfl (aw_stk (st' := []) rfl (aw_aload_n (pc' := 19) (dt_X10_tellFacts 10 (18, .aload_n 0, 1) rfl) rfl rfl (aw_getAs (pc' := 22) (dt_X10_tellFacts 11 (19, .getfield 61, 3) rfl) fl_ReturnDesk_61 rfl rfl (sk_11 hS.wI.wI) (sa_11_8 hS.wI.wI) (aw_iconst (pc' := 23) (v := 2) (dt_X10_tellFacts 12 (22, .iconst 2, 1) rfl) (by decide) rfl (aw_iload_n (pc' := 24) (dt_X10_tellFacts 13 (23, .iload_n 3, 1) rfl) rfl rfl (aw_inV (pc' := 27) (nc1 := 0) (ns1 := 0) (nc := 0) (ns := 0) (ls' := [some (.ref 26), some (.int 2), some (.int x11)]) (y2 := mX3_tell) (As := [.int 2, .int x11]) (rest := []) (a := 26) (dt_X10_tellFacts 14 (24, .invokevirtual 448, 3) rfl) ok_X3_tell ln_ReturnDesk_448 im_X3_tell se_X3_tell pr_X3_tell (Or.inl ⟨by decide, rfl⟩) rfl (Nat.le_of_ble_eq_true rfl) (Nat.le_of_ble_eq_true rfl) rfl rfl (sk_26 hS.wI.wI) (aw_iload_n (pc' := 1) (dt_X3_tell 0 (0, .iload_n 1, 1) rfl) rfl rfl (aw_if_lt_F (pc' := 4) (tgt := 20) (dt_X3_tell 1 (1, .ifCond .lt 19, 3) rfl) (by decide) rfl (by decide) (aw_iload_n (pc' := 5) (dt_X3_tell 2 (4, .iload_n 1, 1) rfl) rfl rfl (aw_aload_n (pc' := 6) (dt_X3_tell 3 (5, .aload_n 0, 1) rfl) rfl rfl (aw_getAs (pc' := 9) (dt_X3_tell 4 (6, .getfield 9, 3) rfl) fl_Machine_9 rfl rfl (sk_26 hS.wI.wI) (sa_26_0 hS.wI.wI) (aw_alens (pc' := 10) (n := 12) (v := 12) (dt_X3_tell 5 (9, .arraylength, 1) rfl) (by decide) (by decide) rfl (sk_27 hS.wI.wI) (sl_27 hS.wI.wI) (by decide) (aw_icmp_ge_F (pc' := 13) (tgt := 20) (dt_X3_tell 6 (10, .if_icmp .ge 10, 3) rfl) (by decide) rfl (by decide) (aw_aload_n (pc' := 14) (dt_X3_tell 7 (13, .aload_n 0, 1) rfl) rfl rfl (aw_getAs (pc' := 17) (dt_X3_tell 8 (14, .getfield 9, 3) rfl) fl_Machine_9 rfl rfl (sk_26 hS.wI.wI) (sa_26_0 hS.wI.wI) (aw_iload_n (pc' := 18) (dt_X3_tell 9 (17, .iload_n 1, 1) rfl) rfl rfl (aw_iload_n (pc' := 19) (dt_X3_tell 10 (18, .iload_n 2, 1) rfl) rfl rfl (aw_iast (pc' := 20) (dt_X3_tell 11 (19, .iastore, 1) rfl) rfl (sk_27 hS.wI.wI) (by decide) (vin_eq (sl_27 hS.wI.wI) (vlit (by decide))) (aw_ret (dt_X3_tell 12 (20, .return_, 1) rfl) rfl (aw_stk (st' := []) rfl (aw_aload_n (pc' := 28) (dt_X10_tellFacts 15 (27, .aload_n 0, 1) rfl) rfl rfl (aw_getAs (pc' := 31) (dt_X10_tellFacts 16 (28, .getfield 61, 3) rfl) fl_ReturnDesk_61 rfl rfl (sk_11 hS.wI.wI.wI) (sa_11_8 hS.wI.wI.wI) (aw_iconst (pc' := 32) (v := 3) (dt_X10_tellFacts 17 (31, .iconst 3, 1) rfl) (by decide) rfl (aw_iload (pc' := 34) (dt_X10_tellFacts 18 (32, .iload 4, 2) rfl) rfl rfl (aw_inV (pc' := 37) (nc1 := 0) (ns1 := 0) (nc := 0) (ns := 0) (ls' := [some (.ref 26), some (.int 3), some (.int x12)]) (y2 := mX3_tell) (As := [.int 3, .int x12]) (rest := []) (a := 26) (dt_X10_tellFacts 19 (34, .invokevirtual 448, 3) rfl) ok_X3_tell ln_ReturnDesk_448 im_X3_tell se_X3_tell pr_X3_tell (Or.inl ⟨by decide, rfl⟩) rfl (Nat.le_of_ble_eq_true rfl) (Nat.le_of_ble_eq_true rfl) rfl rfl (sk_26 hS.wI.wI.wI) (aw_iload_n (pc' := 1) (dt_X3_tell 0 (0, .iload_n 1, 1) rfl) rfl rfl (aw_if_lt_F (pc' := 4) (tgt := 20) (dt_X3_tell 1 (1, .ifCond .lt 19, 3) rfl) (by decide) rfl (by decide) (aw_iload_n (pc' := 5) (dt_X3_tell 2 (4, .iload_n 1, 1) rfl) rfl rfl (aw_aload_n (pc' := 6) (dt_X3_tell 3 (5, .aload_n 0, 1) rfl) rfl rfl (aw_getAs (pc' := 9) (dt_X3_tell 4 (6, .getfield 9, 3) rfl) fl_Machine_9 rfl rfl (sk_26 hS.wI.wI.wI) (sa_26_0 hS.wI.wI.wI) (aw_alens (pc' := 10) (n := 12) (v := 12) (dt_X3_tell 5 (9, .arraylength, 1) rfl) (by decide) (by decide) rfl (sk_27 hS.wI.wI.wI) (sl_27 hS.wI.wI.wI) (by decide) (aw_icmp_ge_F (pc' := 13) (tgt := 20) (dt_X3_tell 6 (10, .if_icmp .ge 10, 3) rfl) (by decide) rfl (by decide) (aw_aload_n (pc' := 14) (dt_X3_tell 7 (13, .aload_n 0, 1) rfl) rfl rfl (aw_getAs (pc' := 17) (dt_X3_tell 8 (14, .getfield 9, 3) rfl) fl_Machine_9 rfl rfl (sk_26 hS.wI.wI.wI) (sa_26_0 hS.wI.wI.wI) (aw_iload_n (pc' := 18) (dt_X3_tell 9 (17, .iload_n 1, 1) rfl) rfl rfl (aw_iload_n (pc' := 19) (dt_X3_tell 10 (18, .iload_n 2, 1) rfl) rfl rfl (aw_iast (pc' := 20) (dt_X3_tell 11 (19, .iastore, 1) rfl) rfl (sk_27 hS.wI.wI.wI) (by decide) (vin_eq (sl_27 hS.wI.wI.wI) (vlit (by decide))) (aw_ret (dt_X3_tell 12 (20, .return_, 1) rfl) rfl (aw_stk (st' := []) rfl (aw_ret (dt_X10_tellFacts 20 (37, .return_, 1) rfl) rfl (aw_stk (st' := []) rfl (aw_aload_n (pc' := 238) (dt_X10_judge 114 (237, .aload_n 0, 1) rfl) rfl rfl (aw_getAs (pc' := 241) (dt_X10_judge 115 (238, .getfield 68, 3) rfl) fl_ReturnDesk_68 rfl rfl (sk_11 hS.wI.wI.wI.wI) (sa_11_9 hS.wI.wI.wI.wI) (aw_aload_n (pc' := 242) (dt_X10_judge 116 (241, .aload_n 0, 1) rfl) rfl rfl (aw_aload_nO (pc' := 243) (dt_X10_judge 117 (242, .aload_n 3, 1) rfl) rfl rfl (aw_inV (pc' := 246) (nc1 := 0) (ns1 := 0) (nc := nc) (ns := ns) (ls' := [some (.ref 11), some (va_rf o3)]) (y2 := mX10_outOf) (As := [va_rf o3]) (rest := [.ref 29]) (a := 11) (dt_X10_judge 118 (243, .invokevirtual 237, 3) rfl) ok_X10_outOf ln_ReturnDesk_237 im_X10_outOf se_X10_outOf pr_X10_outOf (Or.inl ⟨by decide, rfl⟩) rfl ((fun o => by cases o <;> exact Nat.le_of_ble_eq_true rfl : ∀ o : Option Nat, (zaf [.ref 11, va_rf o]).length ≤ mX10_outOf.2.2.1) o3) (Nat.le_of_ble_eq_true rfl) rfl ((fun o => by cases o <;> rfl : ∀ o : Option Nat, zargs mX10_outOf.2.2.1 [.ref 11, va_rf o] = [some (.ref 11), some (va_rf o)]) o3) (sk_11 hS.wI.wI.wI.wI) (aw_aload_nO (pc' := 1) (dt_X10_outOf 0 (0, .aload_n 1, 1) rfl) rfl rfl (aw_ifnonnullO (pc' := 4) (tgt := 8) (dt_X10_outOf 1 (1, .ifnonnull 7, 3) rfl) (by decide) rfl ?_ ?_))))))))))))))))))))))))))))))))))))))))))))))))))))))))))))))))))))))))))))))))))))))))))
    · intro e2
      have h := h.1 e2
      refine aw_iconst (pc' := 5) (v := 0) (dt_X10_outOf 2 (4, .iconst 0, 1) rfl) (by decide) rfl (aw_goto (tgt := 19) (dt_X10_outOf 3 (5, .goto 14, 3) rfl) (by decide) (aw_iret (dt_X10_outOf 9 (19, .ireturn, 1) rfl) rfl rfl (aw_stk (st' := [.int 0, .ref 29]) rfl (aw_aload_n (pc' := 247) (dt_X10_judge 119 (246, .aload_n 0, 1) rfl) rfl rfl (aw_aloadO (pc' := 249) (dt_X10_judge 120 (247, .aload 4, 2) rfl) rfl rfl (aw_inV (pc' := 252) (nc1 := 0) (ns1 := 0) (nc := nc) (ns := ns) (ls' := [some (.ref 11), some (va_rf o4)]) (y2 := mX10_outOf) (As := [va_rf o4]) (rest := [.int 0, .ref 29]) (a := 11) (dt_X10_judge 121 (249, .invokevirtual 237, 3) rfl) ok_X10_outOf ln_ReturnDesk_237 im_X10_outOf se_X10_outOf pr_X10_outOf (Or.inl ⟨by decide, rfl⟩) rfl ((fun o => by cases o <;> exact Nat.le_of_ble_eq_true rfl : ∀ o : Option Nat, (zaf [.ref 11, va_rf o]).length ≤ mX10_outOf.2.2.1) o4) (Nat.le_of_ble_eq_true rfl) rfl ((fun o => by cases o <;> rfl : ∀ o : Option Nat, zargs mX10_outOf.2.2.1 [.ref 11, va_rf o] = [some (.ref 11), some (va_rf o)]) o4) (sk_11 hS.wI.wI.wI.wI) (aw_aload_nO (pc' := 1) (dt_X10_outOf 0 (0, .aload_n 1, 1) rfl) rfl rfl (aw_ifnonnullO (pc' := 4) (tgt := 8) (dt_X10_outOf 1 (1, .ifnonnull 7, 3) rfl) (by decide) rfl ?_ ?_))))))))
      · intro e4
        have h := h.1 e4
        refine aw_iconst (pc' := 5) (v := 0) (dt_X10_outOf 2 (4, .iconst 0, 1) rfl) (by decide) rfl (aw_goto (tgt := 19) (dt_X10_outOf 3 (5, .goto 14, 3) rfl) (by decide) (aw_iret (dt_X10_outOf 9 (19, .ireturn, 1) rfl) rfl rfl (aw_stk (st' := [.int 0, .int 0, .ref 29]) rfl (aw_callV0 (pc' := 255) (nc := nc) (ns := ns) (y2 := mX1_hear) (As := [.int 0, .int 0]) (rest := []) (a := 29) (dt_X10_judge 122 (252, .invokevirtual 496, 3) rfl) ok_X1_hear ln_ReturnDesk_496 im_X1_hear se_X1_hear pr_X1_hear (Or.inl ⟨by decide, rfl⟩) rfl (Nat.le_of_ble_eq_true rfl) (Nat.le_of_ble_eq_true rfl) rfl (sk_29 hS.wI.wI.wI.wI) h ?_))))
        rintro v μ6 ⟨rfl, hS7, h⟩
        refine aw_stk (st' := []) rfl ?_
        refine aw_iinc (pc' := 258) (v := 1) (ls' := [some (.ref 11), some (.ref a1), none, some (va_rf o3), some (va_rf o4), some (.int x5), some (.int x6), some (.int x7), some (.int x8), some (.int x9), some (.int x10), some (.int x11), some (.int (x12 + 1))]) (dt_X10_judge 123 (255, .iinc 12 1, 3) rfl) rfl (by decide) (by decide) rfl rfl (aw_goto (tgt := 218) (dt_X10_judge 124 (258, .goto (-40), 3) rfl) (by decide) ?_)
        exact h
      · intro b5 e4
        have h := h.2 b5 e4
        obtain ⟨g8, h⟩ := h
        refine aw_aload_n (pc' := 9) (dt_X10_outOf 4 (8, .aload_n 0, 1) rfl) rfl rfl (aw_getAs (pc' := 12) (dt_X10_outOf 5 (9, .getfield 61, 3) rfl) fl_ReturnDesk_61 rfl rfl (sk_11 hS.wI.wI.wI.wI) (sa_11_8 hS.wI.wI.wI.wI) (aw_aload_nO (pc' := 13) (dt_X10_outOf 6 (12, .aload_n 1, 1) rfl) rfl rfl (aw_rf e4 (aw_getA (pc' := 16) (dt_X10_outOf 7 (13, .getfield 461, 3) rfl) fl_ReturnDesk_461 rfl rfl g8 ?_ ?_))))
        · intro e9
          have h := h.1 e9
          refine aw_callV0 (pc' := 19) (nc := 0) (ns := 0) (y2 := mX3_run) (As := [.null]) (rest := []) (a := 26) (dt_X10_outOf 8 (16, .invokevirtual 464, 3) rfl) ok_X3_run ln_ReturnDesk_464 im_X3_run se_X3_run pr_X3_run (Or.inl ⟨by decide, rfl⟩) rfl (Nat.le_of_ble_eq_true rfl) (Nat.le_of_ble_eq_true rfl) rfl (sk_26 hS.wI.wI.wI.wI) h ?_
          rintro v μ11 ⟨r13, rfl, hS12, h⟩
          refine aw_stk (st' := [.int r13]) rfl ?_
          refine aw_iret (dt_X10_outOf 9 (19, .ireturn, 1) rfl) rfl rfl (aw_stk (st' := [.int r13, .int 0, .ref 29]) rfl (aw_callV0 (pc' := 255) (nc := nc) (ns := ns) (y2 := mX1_hear) (As := [.int 0, .int r13]) (rest := []) (a := 29) (dt_X10_judge 122 (252, .invokevirtual 496, 3) rfl) ok_X1_hear ln_ReturnDesk_496 im_X1_hear se_X1_hear pr_X1_hear (Or.inl ⟨by decide, rfl⟩) rfl (Nat.le_of_ble_eq_true rfl) (Nat.le_of_ble_eq_true rfl) rfl (sk_29 hS12) h ?_))
          rintro v μ14 ⟨rfl, hS15, h⟩
          refine aw_stk (st' := []) rfl ?_
          refine aw_iinc (pc' := 258) (v := 1) (ls' := [some (.ref 11), some (.ref a1), none, some (va_rf o3), some (va_rf o4), some (.int x5), some (.int x6), some (.int x7), some (.int x8), some (.int x9), some (.int x10), some (.int x11), some (.int (x12 + 1))]) (dt_X10_judge 123 (255, .iinc 12 1, 3) rfl) rfl (by decide) (by decide) rfl rfl (aw_goto (tgt := 218) (dt_X10_judge 124 (258, .goto (-40), 3) rfl) (by decide) ?_)
          exact h
        · intro b10 e9
          have h := h.2 b10 e9
          refine aw_callV0 (pc' := 19) (nc := 0) (ns := 0) (y2 := mX3_run) (As := [.ref b10]) (rest := []) (a := 26) (dt_X10_outOf 8 (16, .invokevirtual 464, 3) rfl) ok_X3_run ln_ReturnDesk_464 im_X3_run se_X3_run pr_X3_run (Or.inl ⟨by decide, rfl⟩) rfl (Nat.le_of_ble_eq_true rfl) (Nat.le_of_ble_eq_true rfl) rfl (sk_26 hS.wI.wI.wI.wI) h ?_
          rintro v μ16 ⟨r18, rfl, hS17, h⟩
          refine aw_stk (st' := [.int r18]) rfl ?_
          refine aw_iret (dt_X10_outOf 9 (19, .ireturn, 1) rfl) rfl rfl (aw_stk (st' := [.int r18, .int 0, .ref 29]) rfl (aw_callV0 (pc' := 255) (nc := nc) (ns := ns) (y2 := mX1_hear) (As := [.int 0, .int r18]) (rest := []) (a := 29) (dt_X10_judge 122 (252, .invokevirtual 496, 3) rfl) ok_X1_hear ln_ReturnDesk_496 im_X1_hear se_X1_hear pr_X1_hear (Or.inl ⟨by decide, rfl⟩) rfl (Nat.le_of_ble_eq_true rfl) (Nat.le_of_ble_eq_true rfl) rfl (sk_29 hS17) h ?_))
          rintro v μ19 ⟨rfl, hS20, h⟩
          refine aw_stk (st' := []) rfl ?_
          refine aw_iinc (pc' := 258) (v := 1) (ls' := [some (.ref 11), some (.ref a1), none, some (va_rf o3), some (va_rf o4), some (.int x5), some (.int x6), some (.int x7), some (.int x8), some (.int x9), some (.int x10), some (.int x11), some (.int (x12 + 1))]) (dt_X10_judge 123 (255, .iinc 12 1, 3) rfl) rfl (by decide) (by decide) rfl rfl (aw_goto (tgt := 218) (dt_X10_judge 124 (258, .goto (-40), 3) rfl) (by decide) ?_)
          exact h
    · intro b3 e2
      have h := h.2 b3 e2
      obtain ⟨g21, h⟩ := h
      refine aw_aload_n (pc' := 9) (dt_X10_outOf 4 (8, .aload_n 0, 1) rfl) rfl rfl (aw_getAs (pc' := 12) (dt_X10_outOf 5 (9, .getfield 61, 3) rfl) fl_ReturnDesk_61 rfl rfl (sk_11 hS.wI.wI.wI.wI) (sa_11_8 hS.wI.wI.wI.wI) (aw_aload_nO (pc' := 13) (dt_X10_outOf 6 (12, .aload_n 1, 1) rfl) rfl rfl (aw_rf e2 (aw_getA (pc' := 16) (dt_X10_outOf 7 (13, .getfield 461, 3) rfl) fl_ReturnDesk_461 rfl rfl g21 ?_ ?_))))
      · intro e22
        have h := h.1 e22
        refine aw_callV0 (pc' := 19) (nc := 0) (ns := 0) (y2 := mX3_run) (As := [.null]) (rest := []) (a := 26) (dt_X10_outOf 8 (16, .invokevirtual 464, 3) rfl) ok_X3_run ln_ReturnDesk_464 im_X3_run se_X3_run pr_X3_run (Or.inl ⟨by decide, rfl⟩) rfl (Nat.le_of_ble_eq_true rfl) (Nat.le_of_ble_eq_true rfl) rfl (sk_26 hS.wI.wI.wI.wI) h ?_
        rintro v μ24 ⟨r26, rfl, hS25, h⟩
        refine aw_stk (st' := [.int r26]) rfl ?_
        refine aw_iret (dt_X10_outOf 9 (19, .ireturn, 1) rfl) rfl rfl (aw_stk (st' := [.int r26, .ref 29]) rfl (aw_aload_n (pc' := 247) (dt_X10_judge 119 (246, .aload_n 0, 1) rfl) rfl rfl (aw_aloadO (pc' := 249) (dt_X10_judge 120 (247, .aload 4, 2) rfl) rfl rfl (aw_inV (pc' := 252) (nc1 := 0) (ns1 := 0) (nc := nc) (ns := ns) (ls' := [some (.ref 11), some (va_rf o4)]) (y2 := mX10_outOf) (As := [va_rf o4]) (rest := [.int r26, .ref 29]) (a := 11) (dt_X10_judge 121 (249, .invokevirtual 237, 3) rfl) ok_X10_outOf ln_ReturnDesk_237 im_X10_outOf se_X10_outOf pr_X10_outOf (Or.inl ⟨by decide, rfl⟩) rfl ((fun o => by cases o <;> exact Nat.le_of_ble_eq_true rfl : ∀ o : Option Nat, (zaf [.ref 11, va_rf o]).length ≤ mX10_outOf.2.2.1) o4) (Nat.le_of_ble_eq_true rfl) rfl ((fun o => by cases o <;> rfl : ∀ o : Option Nat, zargs mX10_outOf.2.2.1 [.ref 11, va_rf o] = [some (.ref 11), some (va_rf o)]) o4) (sk_11 hS25) (aw_aload_nO (pc' := 1) (dt_X10_outOf 0 (0, .aload_n 1, 1) rfl) rfl rfl (aw_ifnonnullO (pc' := 4) (tgt := 8) (dt_X10_outOf 1 (1, .ifnonnull 7, 3) rfl) (by decide) rfl ?_ ?_))))))
        · intro e27
          have h := h.1 e27
          refine aw_iconst (pc' := 5) (v := 0) (dt_X10_outOf 2 (4, .iconst 0, 1) rfl) (by decide) rfl (aw_goto (tgt := 19) (dt_X10_outOf 3 (5, .goto 14, 3) rfl) (by decide) (aw_iret (dt_X10_outOf 9 (19, .ireturn, 1) rfl) rfl rfl (aw_stk (st' := [.int 0, .int r26, .ref 29]) rfl (aw_callV0 (pc' := 255) (nc := nc) (ns := ns) (y2 := mX1_hear) (As := [.int r26, .int 0]) (rest := []) (a := 29) (dt_X10_judge 122 (252, .invokevirtual 496, 3) rfl) ok_X1_hear ln_ReturnDesk_496 im_X1_hear se_X1_hear pr_X1_hear (Or.inl ⟨by decide, rfl⟩) rfl (Nat.le_of_ble_eq_true rfl) (Nat.le_of_ble_eq_true rfl) rfl (sk_29 hS25) h ?_))))
          rintro v μ29 ⟨rfl, hS30, h⟩
          refine aw_stk (st' := []) rfl ?_
          refine aw_iinc (pc' := 258) (v := 1) (ls' := [some (.ref 11), some (.ref a1), none, some (va_rf o3), some (va_rf o4), some (.int x5), some (.int x6), some (.int x7), some (.int x8), some (.int x9), some (.int x10), some (.int x11), some (.int (x12 + 1))]) (dt_X10_judge 123 (255, .iinc 12 1, 3) rfl) rfl (by decide) (by decide) rfl rfl (aw_goto (tgt := 218) (dt_X10_judge 124 (258, .goto (-40), 3) rfl) (by decide) ?_)
          exact h
        · intro b28 e27
          have h := h.2 b28 e27
          obtain ⟨g31, h⟩ := h
          refine aw_aload_n (pc' := 9) (dt_X10_outOf 4 (8, .aload_n 0, 1) rfl) rfl rfl (aw_getAs (pc' := 12) (dt_X10_outOf 5 (9, .getfield 61, 3) rfl) fl_ReturnDesk_61 rfl rfl (sk_11 hS25) (sa_11_8 hS25) (aw_aload_nO (pc' := 13) (dt_X10_outOf 6 (12, .aload_n 1, 1) rfl) rfl rfl (aw_rf e27 (aw_getA (pc' := 16) (dt_X10_outOf 7 (13, .getfield 461, 3) rfl) fl_ReturnDesk_461 rfl rfl g31 ?_ ?_))))
          · intro e32
            have h := h.1 e32
            refine aw_callV0 (pc' := 19) (nc := 0) (ns := 0) (y2 := mX3_run) (As := [.null]) (rest := []) (a := 26) (dt_X10_outOf 8 (16, .invokevirtual 464, 3) rfl) ok_X3_run ln_ReturnDesk_464 im_X3_run se_X3_run pr_X3_run (Or.inl ⟨by decide, rfl⟩) rfl (Nat.le_of_ble_eq_true rfl) (Nat.le_of_ble_eq_true rfl) rfl (sk_26 hS25) h ?_
            rintro v μ34 ⟨r36, rfl, hS35, h⟩
            refine aw_stk (st' := [.int r36]) rfl ?_
            refine aw_iret (dt_X10_outOf 9 (19, .ireturn, 1) rfl) rfl rfl (aw_stk (st' := [.int r36, .int r26, .ref 29]) rfl (aw_callV0 (pc' := 255) (nc := nc) (ns := ns) (y2 := mX1_hear) (As := [.int r26, .int r36]) (rest := []) (a := 29) (dt_X10_judge 122 (252, .invokevirtual 496, 3) rfl) ok_X1_hear ln_ReturnDesk_496 im_X1_hear se_X1_hear pr_X1_hear (Or.inl ⟨by decide, rfl⟩) rfl (Nat.le_of_ble_eq_true rfl) (Nat.le_of_ble_eq_true rfl) rfl (sk_29 hS35) h ?_))
            rintro v μ37 ⟨rfl, hS38, h⟩
            refine aw_stk (st' := []) rfl ?_
            refine aw_iinc (pc' := 258) (v := 1) (ls' := [some (.ref 11), some (.ref a1), none, some (va_rf o3), some (va_rf o4), some (.int x5), some (.int x6), some (.int x7), some (.int x8), some (.int x9), some (.int x10), some (.int x11), some (.int (x12 + 1))]) (dt_X10_judge 123 (255, .iinc 12 1, 3) rfl) rfl (by decide) (by decide) rfl rfl (aw_goto (tgt := 218) (dt_X10_judge 124 (258, .goto (-40), 3) rfl) (by decide) ?_)
            exact h
          · intro b33 e32
            have h := h.2 b33 e32
            refine aw_callV0 (pc' := 19) (nc := 0) (ns := 0) (y2 := mX3_run) (As := [.ref b33]) (rest := []) (a := 26) (dt_X10_outOf 8 (16, .invokevirtual 464, 3) rfl) ok_X3_run ln_ReturnDesk_464 im_X3_run se_X3_run pr_X3_run (Or.inl ⟨by decide, rfl⟩) rfl (Nat.le_of_ble_eq_true rfl) (Nat.le_of_ble_eq_true rfl) rfl (sk_26 hS25) h ?_
            rintro v μ39 ⟨r41, rfl, hS40, h⟩
            refine aw_stk (st' := [.int r41]) rfl ?_
            refine aw_iret (dt_X10_outOf 9 (19, .ireturn, 1) rfl) rfl rfl (aw_stk (st' := [.int r41, .int r26, .ref 29]) rfl (aw_callV0 (pc' := 255) (nc := nc) (ns := ns) (y2 := mX1_hear) (As := [.int r26, .int r41]) (rest := []) (a := 29) (dt_X10_judge 122 (252, .invokevirtual 496, 3) rfl) ok_X1_hear ln_ReturnDesk_496 im_X1_hear se_X1_hear pr_X1_hear (Or.inl ⟨by decide, rfl⟩) rfl (Nat.le_of_ble_eq_true rfl) (Nat.le_of_ble_eq_true rfl) rfl (sk_29 hS40) h ?_))
            rintro v μ42 ⟨rfl, hS43, h⟩
            refine aw_stk (st' := []) rfl ?_
            refine aw_iinc (pc' := 258) (v := 1) (ls' := [some (.ref 11), some (.ref a1), none, some (va_rf o3), some (va_rf o4), some (.int x5), some (.int x6), some (.int x7), some (.int x8), some (.int x9), some (.int x10), some (.int x11), some (.int (x12 + 1))]) (dt_X10_judge 123 (255, .iinc 12 1, 3) rfl) rfl (by decide) (by decide) rfl rfl (aw_goto (tgt := 218) (dt_X10_judge 124 (258, .goto (-40), 3) rfl) (by decide) ?_)
            exact h
      · intro b23 e22
        have h := h.2 b23 e22
        refine aw_callV0 (pc' := 19) (nc := 0) (ns := 0) (y2 := mX3_run) (As := [.ref b23]) (rest := []) (a := 26) (dt_X10_outOf 8 (16, .invokevirtual 464, 3) rfl) ok_X3_run ln_ReturnDesk_464 im_X3_run se_X3_run pr_X3_run (Or.inl ⟨by decide, rfl⟩) rfl (Nat.le_of_ble_eq_true rfl) (Nat.le_of_ble_eq_true rfl) rfl (sk_26 hS.wI.wI.wI.wI) h ?_
        rintro v μ44 ⟨r46, rfl, hS45, h⟩
        refine aw_stk (st' := [.int r46]) rfl ?_
        refine aw_iret (dt_X10_outOf 9 (19, .ireturn, 1) rfl) rfl rfl (aw_stk (st' := [.int r46, .ref 29]) rfl (aw_aload_n (pc' := 247) (dt_X10_judge 119 (246, .aload_n 0, 1) rfl) rfl rfl (aw_aloadO (pc' := 249) (dt_X10_judge 120 (247, .aload 4, 2) rfl) rfl rfl (aw_inV (pc' := 252) (nc1 := 0) (ns1 := 0) (nc := nc) (ns := ns) (ls' := [some (.ref 11), some (va_rf o4)]) (y2 := mX10_outOf) (As := [va_rf o4]) (rest := [.int r46, .ref 29]) (a := 11) (dt_X10_judge 121 (249, .invokevirtual 237, 3) rfl) ok_X10_outOf ln_ReturnDesk_237 im_X10_outOf se_X10_outOf pr_X10_outOf (Or.inl ⟨by decide, rfl⟩) rfl ((fun o => by cases o <;> exact Nat.le_of_ble_eq_true rfl : ∀ o : Option Nat, (zaf [.ref 11, va_rf o]).length ≤ mX10_outOf.2.2.1) o4) (Nat.le_of_ble_eq_true rfl) rfl ((fun o => by cases o <;> rfl : ∀ o : Option Nat, zargs mX10_outOf.2.2.1 [.ref 11, va_rf o] = [some (.ref 11), some (va_rf o)]) o4) (sk_11 hS45) (aw_aload_nO (pc' := 1) (dt_X10_outOf 0 (0, .aload_n 1, 1) rfl) rfl rfl (aw_ifnonnullO (pc' := 4) (tgt := 8) (dt_X10_outOf 1 (1, .ifnonnull 7, 3) rfl) (by decide) rfl ?_ ?_))))))
        · intro e47
          have h := h.1 e47
          refine aw_iconst (pc' := 5) (v := 0) (dt_X10_outOf 2 (4, .iconst 0, 1) rfl) (by decide) rfl (aw_goto (tgt := 19) (dt_X10_outOf 3 (5, .goto 14, 3) rfl) (by decide) (aw_iret (dt_X10_outOf 9 (19, .ireturn, 1) rfl) rfl rfl (aw_stk (st' := [.int 0, .int r46, .ref 29]) rfl (aw_callV0 (pc' := 255) (nc := nc) (ns := ns) (y2 := mX1_hear) (As := [.int r46, .int 0]) (rest := []) (a := 29) (dt_X10_judge 122 (252, .invokevirtual 496, 3) rfl) ok_X1_hear ln_ReturnDesk_496 im_X1_hear se_X1_hear pr_X1_hear (Or.inl ⟨by decide, rfl⟩) rfl (Nat.le_of_ble_eq_true rfl) (Nat.le_of_ble_eq_true rfl) rfl (sk_29 hS45) h ?_))))
          rintro v μ49 ⟨rfl, hS50, h⟩
          refine aw_stk (st' := []) rfl ?_
          refine aw_iinc (pc' := 258) (v := 1) (ls' := [some (.ref 11), some (.ref a1), none, some (va_rf o3), some (va_rf o4), some (.int x5), some (.int x6), some (.int x7), some (.int x8), some (.int x9), some (.int x10), some (.int x11), some (.int (x12 + 1))]) (dt_X10_judge 123 (255, .iinc 12 1, 3) rfl) rfl (by decide) (by decide) rfl rfl (aw_goto (tgt := 218) (dt_X10_judge 124 (258, .goto (-40), 3) rfl) (by decide) ?_)
          exact h
        · intro b48 e47
          have h := h.2 b48 e47
          obtain ⟨g51, h⟩ := h
          refine aw_aload_n (pc' := 9) (dt_X10_outOf 4 (8, .aload_n 0, 1) rfl) rfl rfl (aw_getAs (pc' := 12) (dt_X10_outOf 5 (9, .getfield 61, 3) rfl) fl_ReturnDesk_61 rfl rfl (sk_11 hS45) (sa_11_8 hS45) (aw_aload_nO (pc' := 13) (dt_X10_outOf 6 (12, .aload_n 1, 1) rfl) rfl rfl (aw_rf e47 (aw_getA (pc' := 16) (dt_X10_outOf 7 (13, .getfield 461, 3) rfl) fl_ReturnDesk_461 rfl rfl g51 ?_ ?_))))
          · intro e52
            have h := h.1 e52
            refine aw_callV0 (pc' := 19) (nc := 0) (ns := 0) (y2 := mX3_run) (As := [.null]) (rest := []) (a := 26) (dt_X10_outOf 8 (16, .invokevirtual 464, 3) rfl) ok_X3_run ln_ReturnDesk_464 im_X3_run se_X3_run pr_X3_run (Or.inl ⟨by decide, rfl⟩) rfl (Nat.le_of_ble_eq_true rfl) (Nat.le_of_ble_eq_true rfl) rfl (sk_26 hS45) h ?_
            rintro v μ54 ⟨r56, rfl, hS55, h⟩
            refine aw_stk (st' := [.int r56]) rfl ?_
            refine aw_iret (dt_X10_outOf 9 (19, .ireturn, 1) rfl) rfl rfl (aw_stk (st' := [.int r56, .int r46, .ref 29]) rfl (aw_callV0 (pc' := 255) (nc := nc) (ns := ns) (y2 := mX1_hear) (As := [.int r46, .int r56]) (rest := []) (a := 29) (dt_X10_judge 122 (252, .invokevirtual 496, 3) rfl) ok_X1_hear ln_ReturnDesk_496 im_X1_hear se_X1_hear pr_X1_hear (Or.inl ⟨by decide, rfl⟩) rfl (Nat.le_of_ble_eq_true rfl) (Nat.le_of_ble_eq_true rfl) rfl (sk_29 hS55) h ?_))
            rintro v μ57 ⟨rfl, hS58, h⟩
            refine aw_stk (st' := []) rfl ?_
            refine aw_iinc (pc' := 258) (v := 1) (ls' := [some (.ref 11), some (.ref a1), none, some (va_rf o3), some (va_rf o4), some (.int x5), some (.int x6), some (.int x7), some (.int x8), some (.int x9), some (.int x10), some (.int x11), some (.int (x12 + 1))]) (dt_X10_judge 123 (255, .iinc 12 1, 3) rfl) rfl (by decide) (by decide) rfl rfl (aw_goto (tgt := 218) (dt_X10_judge 124 (258, .goto (-40), 3) rfl) (by decide) ?_)
            exact h
          · intro b53 e52
            have h := h.2 b53 e52
            refine aw_callV0 (pc' := 19) (nc := 0) (ns := 0) (y2 := mX3_run) (As := [.ref b53]) (rest := []) (a := 26) (dt_X10_outOf 8 (16, .invokevirtual 464, 3) rfl) ok_X3_run ln_ReturnDesk_464 im_X3_run se_X3_run pr_X3_run (Or.inl ⟨by decide, rfl⟩) rfl (Nat.le_of_ble_eq_true rfl) (Nat.le_of_ble_eq_true rfl) rfl (sk_26 hS45) h ?_
            rintro v μ59 ⟨r61, rfl, hS60, h⟩
            refine aw_stk (st' := [.int r61]) rfl ?_
            refine aw_iret (dt_X10_outOf 9 (19, .ireturn, 1) rfl) rfl rfl (aw_stk (st' := [.int r61, .int r46, .ref 29]) rfl (aw_callV0 (pc' := 255) (nc := nc) (ns := ns) (y2 := mX1_hear) (As := [.int r46, .int r61]) (rest := []) (a := 29) (dt_X10_judge 122 (252, .invokevirtual 496, 3) rfl) ok_X1_hear ln_ReturnDesk_496 im_X1_hear se_X1_hear pr_X1_hear (Or.inl ⟨by decide, rfl⟩) rfl (Nat.le_of_ble_eq_true rfl) (Nat.le_of_ble_eq_true rfl) rfl (sk_29 hS60) h ?_))
            rintro v μ62 ⟨rfl, hS63, h⟩
            refine aw_stk (st' := []) rfl ?_
            refine aw_iinc (pc' := 258) (v := 1) (ls' := [some (.ref 11), some (.ref a1), none, some (va_rf o3), some (va_rf o4), some (.int x5), some (.int x6), some (.int x7), some (.int x8), some (.int x9), some (.int x10), some (.int x11), some (.int (x12 + 1))]) (dt_X10_judge 123 (255, .iinc 12 1, 3) rfl) rfl (by decide) (by decide) rfl rfl (aw_goto (tgt := 218) (dt_X10_judge 124 (258, .goto (-40), 3) rfl) (by decide) ?_)
            exact h

theorem t_X10_carryOut {E : ZE} {l : Launch} {d nc ns : Nat} {a1 : Nat} {x2 : Int32} {x3 : Int32} {μ : ZM} {K : Option Value → ZM → Prop} (hS : Stat μ) (h :
  (zK μ a1 = 0) ∧
  (zA μ a1 0 = none →
    False) ∧
  (∀ b3, zA μ a1 0 = some b3 →
    (zK μ b3 = 7) ∧
    ((zI μ a1 1) = 0 →
      (x2 = 1 →
        AW E l (d + 2) 0 0 mX10_mendForBuyer 0 (zargs 2 [.ref 11, .ref b3]) [] μ (fun v μ7 => ∃ r9 : Int32, v = some (.int r9) ∧ Stat μ7 ∧ 
          K (some (.int r9)) μ7)) ∧
      (x2 = 2 →
        AW E l (d + 2) 0 0 mX10_giveNewPiece 0 (zargs 2 [.ref 11, .ref a1]) [] μ (fun v μ11 => ∃ r13 : Int32, v = some (.int r13) ∧ Stat μ11 ∧ 
          K (some (.int r13)) μ11)) ∧
      (x2 = 3 →
        AW E l (d + 2) 0 0 mX10_giveNote 0 (zargs 4 [.ref 11, .ref a1, .int (((zI μ b3 9) * x3) / 100)]) [] μ (fun v μ15 => ∃ r17 : Int32, v = some (.int r17) ∧ Stat μ15 ∧ 
          K (some (.int r17)) μ15)) ∧
      (x2 = 4 →
        AW E l (d + 2) 0 0 mX10_giveNote 0 (zargs 4 [.ref 11, .ref a1, .int (((zI μ b3 9) * x3) / 100)]) [] μ (fun v μ19 => ∃ r21 : Int32, v = some (.int r21) ∧ Stat μ19 ∧ 
          K (some (.int r21)) μ19)) ∧
      ((¬ x2 = 1 ∧ ¬ x2 = 2 ∧ ¬ x2 = 3 ∧ ¬ x2 = 4) →
      K (some (.int (-2))) μ)) ∧
    (¬ (zI μ a1 1) = 0 →
      (¬ (zI μ b3 10) = 1 →
        (x2 = 1 →
          AW E l (d + 2) 0 0 mX10_mendForBuyer 0 (zargs 2 [.ref 11, .ref b3]) [] μ (fun v μ24 => ∃ r26 : Int32, v = some (.int r26) ∧ Stat μ24 ∧ 
            K (some (.int r26)) μ24)) ∧
        (x2 = 2 →
          AW E l (d + 2) 0 0 mX10_giveNewPiece 0 (zargs 2 [.ref 11, .ref a1]) [] μ (fun v μ28 => ∃ r30 : Int32, v = some (.int r30) ∧ Stat μ28 ∧ 
            K (some (.int r30)) μ28)) ∧
        (x2 = 3 →
          AW E l (d + 2) 0 0 mX10_giveNote 0 (zargs 4 [.ref 11, .ref a1, .int (((zI μ b3 9) * x3) / 100)]) [] μ (fun v μ32 => ∃ r34 : Int32, v = some (.int r34) ∧ Stat μ32 ∧ 
            K (some (.int r34)) μ32)) ∧
        (x2 = 4 →
          AW E l (d + 2) 0 0 mX10_giveCoins 0 (zargs 3 [.ref 11, .ref a1, .int (((zI μ b3 9) * x3) / 100)]) [] μ (fun v μ36 => ∃ r38 : Int32, v = some (.int r38) ∧ Stat μ36 ∧ 
            K (some (.int r38)) μ36)) ∧
        ((¬ x2 = 1 ∧ ¬ x2 = 2 ∧ ¬ x2 = 3 ∧ ¬ x2 = 4) →
        K (some (.int (-2))) μ)) ∧
      ((zI μ b3 10) = 1 →
        (x2 = 1 →
          AW E l (d + 2) 0 0 mX10_mendForBuyer 0 (zargs 2 [.ref 11, .ref b3]) [] μ (fun v μ40 => ∃ r42 : Int32, v = some (.int r42) ∧ Stat μ40 ∧ 
            K (some (.int r42)) μ40)) ∧
        (x2 = 2 →
          AW E l (d + 2) 0 0 mX10_giveNewPiece 0 (zargs 2 [.ref 11, .ref a1]) [] μ (fun v μ44 => ∃ r46 : Int32, v = some (.int r46) ∧ Stat μ44 ∧ 
            K (some (.int r46)) μ44)) ∧
        (x2 = 3 →
          AW E l (d + 2) 0 0 mX10_giveNote 0 (zargs 4 [.ref 11, .ref a1, .int (((zI μ b3 9) * x3) / 100)]) [] μ (fun v μ48 => ∃ r50 : Int32, v = some (.int r50) ∧ Stat μ48 ∧ 
            K (some (.int r50)) μ48)) ∧
        (x2 = 4 →
          AW E l (d + 2) 0 0 mX10_giveNote 0 (zargs 4 [.ref 11, .ref a1, .int (((zI μ b3 9) * x3) / 100)]) [] μ (fun v μ52 => ∃ r54 : Int32, v = some (.int r54) ∧ Stat μ52 ∧ 
            K (some (.int r54)) μ52)) ∧
        ((¬ x2 = 1 ∧ ¬ x2 = 2 ∧ ¬ x2 = 3 ∧ ¬ x2 = 4) →
        K (some (.int (-2))) μ))))) : AW E l (d + 3) nc ns mX10_carryOut 0 [some (.ref 11), some (.ref a1), some (.int x2), some (.int x3), none, none] [] μ K := by
  obtain ⟨g1, h⟩ := h
  refine aw_aload_n (pc' := 1) (dt_X10_carryOut 0 (0, .aload_n 1, 1) rfl) rfl rfl (aw_getA (pc' := 4) (dt_X10_carryOut 1 (1, .getfield 271, 3) rfl) fl_ReturnDesk_271 rfl rfl g1 ?_ ?_)
  · intro e2
    have h := h.1 e2
    exact h.elim
  · intro b3 e2
    have h := h.2 b3 e2
    obtain ⟨g4, h⟩ := h
    refine aw_getI (pc' := 7) (dt_X10_carryOut 2 (4, .getfield 145, 3) rfl) fl_ReturnDesk_145 rfl rfl g4 (aw_iload_n (pc' := 8) (dt_X10_carryOut 3 (7, .iload_n 3, 1) rfl) rfl rfl (aw_imul (pc' := 9) (dt_X10_carryOut 4 (8, .imul, 1) rfl) rfl (aw_bipush (pc' := 11) (v := 100) (dt_X10_carryOut 5 (9, .bipush 100, 2) rfl) (by decide) rfl (aw_idiv (pc' := 12) (dt_X10_carryOut 6 (11, .idiv, 1) rfl) (by decide) rfl (aw_istore (pc' := 14) (ls' := [some (.ref 11), some (.ref a1), some (.int x2), some (.int x3), some (.int (((zI μ b3 9) * x3) / 100)), none]) (dt_X10_carryOut 7 (12, .istore 4, 2) rfl) (by decide) rfl rfl (aw_aload_n (pc' := 15) (dt_X10_carryOut 8 (14, .aload_n 1, 1) rfl) rfl rfl (aw_getI (pc' := 18) (dt_X10_carryOut 9 (15, .getfield 278, 3) rfl) fl_ReturnDesk_278 rfl rfl g1 (aw_if_eq (pc' := 21) (tgt := 32) (dt_X10_carryOut 10 (18, .ifCond .eq 14, 3) rfl) (by decide) rfl ?_ ?_))))))))
    · intro q5
      have h := h.1 q5
      refine aw_iconst (pc' := 33) (v := 1) (dt_X10_carryOut 16 (32, .iconst 1, 1) rfl) (by decide) rfl (aw_goto (tgt := 37) (dt_X10_carryOut 17 (33, .goto 4, 3) rfl) (by decide) (aw_istore (pc' := 39) (ls' := [some (.ref 11), some (.ref a1), some (.int x2), some (.int x3), some (.int (((zI μ b3 9) * x3) / 100)), some (.int 1)]) (dt_X10_carryOut 19 (37, .istore 5, 2) rfl) (by decide) rfl rfl (aw_iload_n (pc' := 40) (dt_X10_carryOut 20 (39, .iload_n 2, 1) rfl) rfl rfl ?_)))
      by_cases q6 : x2 = 1
      · have h := h.1 q6
        refine aw_tableE (tgt := 109) (off := 69) (dt_X10_carryOut 21 (40, .tableswitch 78 1 4 #[69, 63, 55, 32], 32) rfl) q6 (by decide) (by decide) (by decide) (by decide) ?_
        refine aw_aload_n (pc' := 110) (dt_X10_carryOut 43 (109, .aload_n 0, 1) rfl) rfl rfl (aw_aload_n (pc' := 111) (dt_X10_carryOut 44 (110, .aload_n 1, 1) rfl) rfl rfl (aw_getAs (pc' := 114) (dt_X10_carryOut 45 (111, .getfield 271, 3) rfl) fl_ReturnDesk_271 rfl rfl g1 e2 (aw_callV0 (pc' := 117) (nc := nc) (ns := ns) (y2 := mX10_mendForBuyer) (As := [.ref b3]) (rest := []) (a := 11) (dt_X10_carryOut 46 (114, .invokevirtual 510, 3) rfl) ok_X10_mendForBuyer ln_ReturnDesk_510 im_X10_mendForBuyer se_X10_mendForBuyer pr_X10_mendForBuyer (Or.inl ⟨by decide, rfl⟩) rfl (Nat.le_of_ble_eq_true rfl) (Nat.le_of_ble_eq_true rfl) rfl (sk_11 hS) h ?_)))
        rintro v μ7 ⟨r9, rfl, hS8, h⟩
        refine aw_stk (st' := [.int r9]) rfl ?_
        refine aw_iret (dt_X10_carryOut 47 (117, .ireturn, 1) rfl) rfl rfl ?_
        exact h
      by_cases q10 : x2 = 2
      · have h := h.2.1 q10
        refine aw_tableE (tgt := 103) (off := 63) (dt_X10_carryOut 21 (40, .tableswitch 78 1 4 #[69, 63, 55, 32], 32) rfl) q10 (by decide) (by decide) (by decide) (by decide) ?_
        refine aw_aload_n (pc' := 104) (dt_X10_carryOut 39 (103, .aload_n 0, 1) rfl) rfl rfl (aw_aload_n (pc' := 105) (dt_X10_carryOut 40 (104, .aload_n 1, 1) rfl) rfl rfl (aw_callV0 (pc' := 108) (nc := nc) (ns := ns) (y2 := mX10_giveNewPiece) (As := [.ref a1]) (rest := []) (a := 11) (dt_X10_carryOut 41 (105, .invokevirtual 506, 3) rfl) ok_X10_giveNewPiece ln_ReturnDesk_506 im_X10_giveNewPiece se_X10_giveNewPiece pr_X10_giveNewPiece (Or.inl ⟨by decide, rfl⟩) rfl (Nat.le_of_ble_eq_true rfl) (Nat.le_of_ble_eq_true rfl) rfl (sk_11 hS) h ?_))
        rintro v μ11 ⟨r13, rfl, hS12, h⟩
        refine aw_stk (st' := [.int r13]) rfl ?_
        refine aw_iret (dt_X10_carryOut 42 (108, .ireturn, 1) rfl) rfl rfl ?_
        exact h
      by_cases q14 : x2 = 3
      · have h := h.2.2.1 q14
        refine aw_tableE (tgt := 95) (off := 55) (dt_X10_carryOut 21 (40, .tableswitch 78 1 4 #[69, 63, 55, 32], 32) rfl) q14 (by decide) (by decide) (by decide) (by decide) ?_
        refine aw_aload_n (pc' := 96) (dt_X10_carryOut 34 (95, .aload_n 0, 1) rfl) rfl rfl (aw_aload_n (pc' := 97) (dt_X10_carryOut 35 (96, .aload_n 1, 1) rfl) rfl rfl (aw_iload (pc' := 99) (dt_X10_carryOut 36 (97, .iload 4, 2) rfl) rfl rfl (aw_callV0 (pc' := 102) (nc := nc) (ns := ns) (y2 := mX10_giveNote) (As := [.ref a1, .int (((zI μ b3 9) * x3) / 100)]) (rest := []) (a := 11) (dt_X10_carryOut 37 (99, .invokevirtual 499, 3) rfl) ok_X10_giveNote ln_ReturnDesk_499 im_X10_giveNote se_X10_giveNote pr_X10_giveNote (Or.inl ⟨by decide, rfl⟩) rfl (Nat.le_of_ble_eq_true rfl) (Nat.le_of_ble_eq_true rfl) rfl (sk_11 hS) h ?_)))
        rintro v μ15 ⟨r17, rfl, hS16, h⟩
        refine aw_stk (st' := [.int r17]) rfl ?_
        refine aw_iret (dt_X10_carryOut 38 (102, .ireturn, 1) rfl) rfl rfl ?_
        exact h
      by_cases q18 : x2 = 4
      · have h := h.2.2.2.1 q18
        refine aw_tableE (tgt := 72) (off := 32) (dt_X10_carryOut 21 (40, .tableswitch 78 1 4 #[69, 63, 55, 32], 32) rfl) q18 (by decide) (by decide) (by decide) (by decide) ?_
        refine aw_iload (pc' := 74) (dt_X10_carryOut 22 (72, .iload 5, 2) rfl) rfl rfl (aw_if_eq_F (pc' := 77) (tgt := 87) (dt_X10_carryOut 23 (74, .ifCond .eq 13, 3) rfl) (by decide) rfl (by decide) (aw_aload_n (pc' := 78) (dt_X10_carryOut 24 (77, .aload_n 0, 1) rfl) rfl rfl (aw_aload_n (pc' := 79) (dt_X10_carryOut 25 (78, .aload_n 1, 1) rfl) rfl rfl (aw_iload (pc' := 81) (dt_X10_carryOut 26 (79, .iload 4, 2) rfl) rfl rfl (aw_callV0 (pc' := 84) (nc := nc) (ns := ns) (y2 := mX10_giveNote) (As := [.ref a1, .int (((zI μ b3 9) * x3) / 100)]) (rest := []) (a := 11) (dt_X10_carryOut 27 (81, .invokevirtual 499, 3) rfl) ok_X10_giveNote ln_ReturnDesk_499 im_X10_giveNote se_X10_giveNote pr_X10_giveNote (Or.inl ⟨by decide, rfl⟩) rfl (Nat.le_of_ble_eq_true rfl) (Nat.le_of_ble_eq_true rfl) rfl (sk_11 hS) h ?_)))))
        rintro v μ19 ⟨r21, rfl, hS20, h⟩
        refine aw_stk (st' := [.int r21]) rfl ?_
        refine aw_goto (tgt := 94) (dt_X10_carryOut 28 (84, .goto 10, 3) rfl) (by decide) (aw_iret (dt_X10_carryOut 33 (94, .ireturn, 1) rfl) rfl rfl ?_)
        exact h
      have h := h.2.2.2.2 ⟨q6, q10, q14, q18⟩
      refine aw_tableOut (tgt := 118) (dt_X10_carryOut 21 (40, .tableswitch 78 1 4 #[69, 63, 55, 32], 32) rfl) (tab_out (lo := 1) (n := 4) (by decide) (by decide) (by decide) (by
          intro k hk
          match k, hk with
          | 0, _ => exact q6
          | 1, _ => exact q10
          | 2, _ => exact q14
          | 3, _ => exact q18
          | k + 4, hk => omega)) (by decide) ?_
      refine aw_bipush (pc' := 120) (v := (-2)) (dt_X10_carryOut 48 (118, .bipush (-2), 2) rfl) (by decide) rfl (aw_iret (dt_X10_carryOut 49 (120, .ireturn, 1) rfl) rfl rfl ?_)
      exact h
    · intro q5
      have h := h.2 q5
      refine aw_aload_n (pc' := 22) (dt_X10_carryOut 11 (21, .aload_n 1, 1) rfl) rfl rfl (aw_getAs (pc' := 25) (dt_X10_carryOut 12 (22, .getfield 271, 3) rfl) fl_ReturnDesk_271 rfl rfl g1 e2 (aw_getI (pc' := 28) (dt_X10_carryOut 13 (25, .getfield 156, 3) rfl) fl_ReturnDesk_156 rfl rfl g4 (aw_iconst (pc' := 29) (v := 1) (dt_X10_carryOut 14 (28, .iconst 1, 1) rfl) (by decide) rfl (aw_icmp_ne (pc' := 32) (tgt := 36) (dt_X10_carryOut 15 (29, .if_icmp .ne 7, 3) rfl) (by decide) rfl ?_ ?_))))
      · intro q22
        have h := h.1 q22
        refine aw_iconst (pc' := 37) (v := 0) (dt_X10_carryOut 18 (36, .iconst 0, 1) rfl) (by decide) rfl (aw_istore (pc' := 39) (ls' := [some (.ref 11), some (.ref a1), some (.int x2), some (.int x3), some (.int (((zI μ b3 9) * x3) / 100)), some (.int 0)]) (dt_X10_carryOut 19 (37, .istore 5, 2) rfl) (by decide) rfl rfl (aw_iload_n (pc' := 40) (dt_X10_carryOut 20 (39, .iload_n 2, 1) rfl) rfl rfl ?_))
        by_cases q23 : x2 = 1
        · have h := h.1 q23
          refine aw_tableE (tgt := 109) (off := 69) (dt_X10_carryOut 21 (40, .tableswitch 78 1 4 #[69, 63, 55, 32], 32) rfl) q23 (by decide) (by decide) (by decide) (by decide) ?_
          refine aw_aload_n (pc' := 110) (dt_X10_carryOut 43 (109, .aload_n 0, 1) rfl) rfl rfl (aw_aload_n (pc' := 111) (dt_X10_carryOut 44 (110, .aload_n 1, 1) rfl) rfl rfl (aw_getAs (pc' := 114) (dt_X10_carryOut 45 (111, .getfield 271, 3) rfl) fl_ReturnDesk_271 rfl rfl g1 e2 (aw_callV0 (pc' := 117) (nc := nc) (ns := ns) (y2 := mX10_mendForBuyer) (As := [.ref b3]) (rest := []) (a := 11) (dt_X10_carryOut 46 (114, .invokevirtual 510, 3) rfl) ok_X10_mendForBuyer ln_ReturnDesk_510 im_X10_mendForBuyer se_X10_mendForBuyer pr_X10_mendForBuyer (Or.inl ⟨by decide, rfl⟩) rfl (Nat.le_of_ble_eq_true rfl) (Nat.le_of_ble_eq_true rfl) rfl (sk_11 hS) h ?_)))
          rintro v μ24 ⟨r26, rfl, hS25, h⟩
          refine aw_stk (st' := [.int r26]) rfl ?_
          refine aw_iret (dt_X10_carryOut 47 (117, .ireturn, 1) rfl) rfl rfl ?_
          exact h
        by_cases q27 : x2 = 2
        · have h := h.2.1 q27
          refine aw_tableE (tgt := 103) (off := 63) (dt_X10_carryOut 21 (40, .tableswitch 78 1 4 #[69, 63, 55, 32], 32) rfl) q27 (by decide) (by decide) (by decide) (by decide) ?_
          refine aw_aload_n (pc' := 104) (dt_X10_carryOut 39 (103, .aload_n 0, 1) rfl) rfl rfl (aw_aload_n (pc' := 105) (dt_X10_carryOut 40 (104, .aload_n 1, 1) rfl) rfl rfl (aw_callV0 (pc' := 108) (nc := nc) (ns := ns) (y2 := mX10_giveNewPiece) (As := [.ref a1]) (rest := []) (a := 11) (dt_X10_carryOut 41 (105, .invokevirtual 506, 3) rfl) ok_X10_giveNewPiece ln_ReturnDesk_506 im_X10_giveNewPiece se_X10_giveNewPiece pr_X10_giveNewPiece (Or.inl ⟨by decide, rfl⟩) rfl (Nat.le_of_ble_eq_true rfl) (Nat.le_of_ble_eq_true rfl) rfl (sk_11 hS) h ?_))
          rintro v μ28 ⟨r30, rfl, hS29, h⟩
          refine aw_stk (st' := [.int r30]) rfl ?_
          refine aw_iret (dt_X10_carryOut 42 (108, .ireturn, 1) rfl) rfl rfl ?_
          exact h
        by_cases q31 : x2 = 3
        · have h := h.2.2.1 q31
          refine aw_tableE (tgt := 95) (off := 55) (dt_X10_carryOut 21 (40, .tableswitch 78 1 4 #[69, 63, 55, 32], 32) rfl) q31 (by decide) (by decide) (by decide) (by decide) ?_
          refine aw_aload_n (pc' := 96) (dt_X10_carryOut 34 (95, .aload_n 0, 1) rfl) rfl rfl (aw_aload_n (pc' := 97) (dt_X10_carryOut 35 (96, .aload_n 1, 1) rfl) rfl rfl (aw_iload (pc' := 99) (dt_X10_carryOut 36 (97, .iload 4, 2) rfl) rfl rfl (aw_callV0 (pc' := 102) (nc := nc) (ns := ns) (y2 := mX10_giveNote) (As := [.ref a1, .int (((zI μ b3 9) * x3) / 100)]) (rest := []) (a := 11) (dt_X10_carryOut 37 (99, .invokevirtual 499, 3) rfl) ok_X10_giveNote ln_ReturnDesk_499 im_X10_giveNote se_X10_giveNote pr_X10_giveNote (Or.inl ⟨by decide, rfl⟩) rfl (Nat.le_of_ble_eq_true rfl) (Nat.le_of_ble_eq_true rfl) rfl (sk_11 hS) h ?_)))
          rintro v μ32 ⟨r34, rfl, hS33, h⟩
          refine aw_stk (st' := [.int r34]) rfl ?_
          refine aw_iret (dt_X10_carryOut 38 (102, .ireturn, 1) rfl) rfl rfl ?_
          exact h
        by_cases q35 : x2 = 4
        · have h := h.2.2.2.1 q35
          refine aw_tableE (tgt := 72) (off := 32) (dt_X10_carryOut 21 (40, .tableswitch 78 1 4 #[69, 63, 55, 32], 32) rfl) q35 (by decide) (by decide) (by decide) (by decide) ?_
          refine aw_iload (pc' := 74) (dt_X10_carryOut 22 (72, .iload 5, 2) rfl) rfl rfl (aw_if_eq_T (pc' := 77) (tgt := 87) (dt_X10_carryOut 23 (74, .ifCond .eq 13, 3) rfl) (by decide) rfl (by decide) (aw_aload_n (pc' := 88) (dt_X10_carryOut 29 (87, .aload_n 0, 1) rfl) rfl rfl (aw_aload_n (pc' := 89) (dt_X10_carryOut 30 (88, .aload_n 1, 1) rfl) rfl rfl (aw_iload (pc' := 91) (dt_X10_carryOut 31 (89, .iload 4, 2) rfl) rfl rfl (aw_callV0 (pc' := 94) (nc := nc) (ns := ns) (y2 := mX10_giveCoins) (As := [.ref a1, .int (((zI μ b3 9) * x3) / 100)]) (rest := []) (a := 11) (dt_X10_carryOut 32 (91, .invokevirtual 503, 3) rfl) ok_X10_giveCoins ln_ReturnDesk_503 im_X10_giveCoins se_X10_giveCoins pr_X10_giveCoins (Or.inl ⟨by decide, rfl⟩) rfl (Nat.le_of_ble_eq_true rfl) (Nat.le_of_ble_eq_true rfl) rfl (sk_11 hS) h ?_)))))
          rintro v μ36 ⟨r38, rfl, hS37, h⟩
          refine aw_stk (st' := [.int r38]) rfl ?_
          refine aw_iret (dt_X10_carryOut 33 (94, .ireturn, 1) rfl) rfl rfl ?_
          exact h
        have h := h.2.2.2.2 ⟨q23, q27, q31, q35⟩
        refine aw_tableOut (tgt := 118) (dt_X10_carryOut 21 (40, .tableswitch 78 1 4 #[69, 63, 55, 32], 32) rfl) (tab_out (lo := 1) (n := 4) (by decide) (by decide) (by decide) (by
            intro k hk
            match k, hk with
            | 0, _ => exact q23
            | 1, _ => exact q27
            | 2, _ => exact q31
            | 3, _ => exact q35
            | k + 4, hk => omega)) (by decide) ?_
        refine aw_bipush (pc' := 120) (v := (-2)) (dt_X10_carryOut 48 (118, .bipush (-2), 2) rfl) (by decide) rfl (aw_iret (dt_X10_carryOut 49 (120, .ireturn, 1) rfl) rfl rfl ?_)
        exact h
      · intro q22
        have h := h.2 q22
        refine aw_iconst (pc' := 33) (v := 1) (dt_X10_carryOut 16 (32, .iconst 1, 1) rfl) (by decide) rfl (aw_goto (tgt := 37) (dt_X10_carryOut 17 (33, .goto 4, 3) rfl) (by decide) (aw_istore (pc' := 39) (ls' := [some (.ref 11), some (.ref a1), some (.int x2), some (.int x3), some (.int (((zI μ b3 9) * x3) / 100)), some (.int 1)]) (dt_X10_carryOut 19 (37, .istore 5, 2) rfl) (by decide) rfl rfl (aw_iload_n (pc' := 40) (dt_X10_carryOut 20 (39, .iload_n 2, 1) rfl) rfl rfl ?_)))
        by_cases q39 : x2 = 1
        · have h := h.1 q39
          refine aw_tableE (tgt := 109) (off := 69) (dt_X10_carryOut 21 (40, .tableswitch 78 1 4 #[69, 63, 55, 32], 32) rfl) q39 (by decide) (by decide) (by decide) (by decide) ?_
          refine aw_aload_n (pc' := 110) (dt_X10_carryOut 43 (109, .aload_n 0, 1) rfl) rfl rfl (aw_aload_n (pc' := 111) (dt_X10_carryOut 44 (110, .aload_n 1, 1) rfl) rfl rfl (aw_getAs (pc' := 114) (dt_X10_carryOut 45 (111, .getfield 271, 3) rfl) fl_ReturnDesk_271 rfl rfl g1 e2 (aw_callV0 (pc' := 117) (nc := nc) (ns := ns) (y2 := mX10_mendForBuyer) (As := [.ref b3]) (rest := []) (a := 11) (dt_X10_carryOut 46 (114, .invokevirtual 510, 3) rfl) ok_X10_mendForBuyer ln_ReturnDesk_510 im_X10_mendForBuyer se_X10_mendForBuyer pr_X10_mendForBuyer (Or.inl ⟨by decide, rfl⟩) rfl (Nat.le_of_ble_eq_true rfl) (Nat.le_of_ble_eq_true rfl) rfl (sk_11 hS) h ?_)))
          rintro v μ40 ⟨r42, rfl, hS41, h⟩
          refine aw_stk (st' := [.int r42]) rfl ?_
          refine aw_iret (dt_X10_carryOut 47 (117, .ireturn, 1) rfl) rfl rfl ?_
          exact h
        by_cases q43 : x2 = 2
        · have h := h.2.1 q43
          refine aw_tableE (tgt := 103) (off := 63) (dt_X10_carryOut 21 (40, .tableswitch 78 1 4 #[69, 63, 55, 32], 32) rfl) q43 (by decide) (by decide) (by decide) (by decide) ?_
          refine aw_aload_n (pc' := 104) (dt_X10_carryOut 39 (103, .aload_n 0, 1) rfl) rfl rfl (aw_aload_n (pc' := 105) (dt_X10_carryOut 40 (104, .aload_n 1, 1) rfl) rfl rfl (aw_callV0 (pc' := 108) (nc := nc) (ns := ns) (y2 := mX10_giveNewPiece) (As := [.ref a1]) (rest := []) (a := 11) (dt_X10_carryOut 41 (105, .invokevirtual 506, 3) rfl) ok_X10_giveNewPiece ln_ReturnDesk_506 im_X10_giveNewPiece se_X10_giveNewPiece pr_X10_giveNewPiece (Or.inl ⟨by decide, rfl⟩) rfl (Nat.le_of_ble_eq_true rfl) (Nat.le_of_ble_eq_true rfl) rfl (sk_11 hS) h ?_))
          rintro v μ44 ⟨r46, rfl, hS45, h⟩
          refine aw_stk (st' := [.int r46]) rfl ?_
          refine aw_iret (dt_X10_carryOut 42 (108, .ireturn, 1) rfl) rfl rfl ?_
          exact h
        by_cases q47 : x2 = 3
        · have h := h.2.2.1 q47
          refine aw_tableE (tgt := 95) (off := 55) (dt_X10_carryOut 21 (40, .tableswitch 78 1 4 #[69, 63, 55, 32], 32) rfl) q47 (by decide) (by decide) (by decide) (by decide) ?_
          refine aw_aload_n (pc' := 96) (dt_X10_carryOut 34 (95, .aload_n 0, 1) rfl) rfl rfl (aw_aload_n (pc' := 97) (dt_X10_carryOut 35 (96, .aload_n 1, 1) rfl) rfl rfl (aw_iload (pc' := 99) (dt_X10_carryOut 36 (97, .iload 4, 2) rfl) rfl rfl (aw_callV0 (pc' := 102) (nc := nc) (ns := ns) (y2 := mX10_giveNote) (As := [.ref a1, .int (((zI μ b3 9) * x3) / 100)]) (rest := []) (a := 11) (dt_X10_carryOut 37 (99, .invokevirtual 499, 3) rfl) ok_X10_giveNote ln_ReturnDesk_499 im_X10_giveNote se_X10_giveNote pr_X10_giveNote (Or.inl ⟨by decide, rfl⟩) rfl (Nat.le_of_ble_eq_true rfl) (Nat.le_of_ble_eq_true rfl) rfl (sk_11 hS) h ?_)))
          rintro v μ48 ⟨r50, rfl, hS49, h⟩
          refine aw_stk (st' := [.int r50]) rfl ?_
          refine aw_iret (dt_X10_carryOut 38 (102, .ireturn, 1) rfl) rfl rfl ?_
          exact h
        by_cases q51 : x2 = 4
        · have h := h.2.2.2.1 q51
          refine aw_tableE (tgt := 72) (off := 32) (dt_X10_carryOut 21 (40, .tableswitch 78 1 4 #[69, 63, 55, 32], 32) rfl) q51 (by decide) (by decide) (by decide) (by decide) ?_
          refine aw_iload (pc' := 74) (dt_X10_carryOut 22 (72, .iload 5, 2) rfl) rfl rfl (aw_if_eq_F (pc' := 77) (tgt := 87) (dt_X10_carryOut 23 (74, .ifCond .eq 13, 3) rfl) (by decide) rfl (by decide) (aw_aload_n (pc' := 78) (dt_X10_carryOut 24 (77, .aload_n 0, 1) rfl) rfl rfl (aw_aload_n (pc' := 79) (dt_X10_carryOut 25 (78, .aload_n 1, 1) rfl) rfl rfl (aw_iload (pc' := 81) (dt_X10_carryOut 26 (79, .iload 4, 2) rfl) rfl rfl (aw_callV0 (pc' := 84) (nc := nc) (ns := ns) (y2 := mX10_giveNote) (As := [.ref a1, .int (((zI μ b3 9) * x3) / 100)]) (rest := []) (a := 11) (dt_X10_carryOut 27 (81, .invokevirtual 499, 3) rfl) ok_X10_giveNote ln_ReturnDesk_499 im_X10_giveNote se_X10_giveNote pr_X10_giveNote (Or.inl ⟨by decide, rfl⟩) rfl (Nat.le_of_ble_eq_true rfl) (Nat.le_of_ble_eq_true rfl) rfl (sk_11 hS) h ?_)))))
          rintro v μ52 ⟨r54, rfl, hS53, h⟩
          refine aw_stk (st' := [.int r54]) rfl ?_
          refine aw_goto (tgt := 94) (dt_X10_carryOut 28 (84, .goto 10, 3) rfl) (by decide) (aw_iret (dt_X10_carryOut 33 (94, .ireturn, 1) rfl) rfl rfl ?_)
          exact h
        have h := h.2.2.2.2 ⟨q39, q43, q47, q51⟩
        refine aw_tableOut (tgt := 118) (dt_X10_carryOut 21 (40, .tableswitch 78 1 4 #[69, 63, 55, 32], 32) rfl) (tab_out (lo := 1) (n := 4) (by decide) (by decide) (by decide) (by
            intro k hk
            match k, hk with
            | 0, _ => exact q39
            | 1, _ => exact q43
            | 2, _ => exact q47
            | 3, _ => exact q51
            | k + 4, hk => omega)) (by decide) ?_
        refine aw_bipush (pc' := 120) (v := (-2)) (dt_X10_carryOut 48 (118, .bipush (-2), 2) rfl) (by decide) rfl (aw_iret (dt_X10_carryOut 49 (120, .ireturn, 1) rfl) rfl rfl ?_)
        exact h

theorem t_X10_giveCoins {E : ZE} {l : Launch} {d nc ns : Nat} {a1 : Nat} {x2 : Int32} {μ : ZM} {K : Option Value → ZM → Prop} (hS : Stat μ) (h :
  (x2 ≤ (zI μ 17 2) →
    (zK (sI (sI μ 17 2 ((zI μ 17 2) - x2)) 17 3 ((zI (sI μ 17 2 ((zI μ 17 2) - x2)) 17 3) + x2)) a1 = 0) ∧
    (zA (sI (sI (sI μ 17 2 ((zI μ 17 2) - x2)) 17 3 ((zI (sI μ 17 2 ((zI μ 17 2) - x2)) 17 3) + x2)) a1 14 x2) a1 0 = none →
      False) ∧
    (∀ b4, zA (sI (sI (sI μ 17 2 ((zI μ 17 2) - x2)) 17 3 ((zI (sI μ 17 2 ((zI μ 17 2) - x2)) 17 3) + x2)) a1 14 x2) a1 0 = some b4 →
      (zK (sI (sI (sI μ 17 2 ((zI μ 17 2) - x2)) 17 3 ((zI (sI μ 17 2 ((zI μ 17 2) - x2)) 17 3) + x2)) a1 14 x2) b4 = 7) ∧
      ∀ μ6, μ6 = (sA (sI (sI (sI (sI (sI μ 17 2 ((zI μ 17 2) - x2)) 17 3 ((zI (sI μ 17 2 ((zI μ 17 2) - x2)) 17 3) + x2)) a1 14 x2) b4 11 2) b4 12 ((zI (sI (sI (sI μ 17 2 ((zI μ 17 2) - x2)) 17 3 ((zI (sI μ 17 2 ((zI μ 17 2) - x2)) 17 3) + x2)) a1 14 x2) 11 17) / 24)) b4 18 (some a1)) →
      K (some (.int 1)) (sI μ6 b4 17 1))) ∧
  (¬ x2 ≤ (zI μ 17 2) →
    K (some (.int (-2))) μ)) : AW E l (d + 1) nc ns mX10_giveCoins 0 [some (.ref 11), some (.ref a1), some (.int x2)] [] μ K := by
  refine aw_aload_n (pc' := 1) (dt_X10_giveCoins 0 (0, .aload_n 0, 1) rfl) rfl rfl (aw_getAs (pc' := 4) (dt_X10_giveCoins 1 (1, .getfield 42, 3) rfl) fl_ReturnDesk_42 rfl rfl (sk_11 hS) (sa_11_5 hS) (aw_iload_n (pc' := 5) (dt_X10_giveCoins 2 (4, .iload_n 2, 1) rfl) rfl rfl (aw_inV (pc' := 8) (nc1 := 0) (ns1 := 0) (nc := nc) (ns := ns) (ls' := [some (.ref 17), some (.int x2)]) (y2 := mX5_pay) (As := [.int x2]) (rest := []) (a := 17) (dt_X10_giveCoins 3 (5, .invokevirtual 513, 3) rfl) ok_X5_pay ln_ReturnDesk_513 im_X5_pay se_X5_pay pr_X5_pay (Or.inl ⟨by decide, rfl⟩) rfl (Nat.le_of_ble_eq_true rfl) (Nat.le_of_ble_eq_true rfl) rfl rfl (sk_17 hS) (aw_aload_n (pc' := 1) (dt_X5_pay 0 (0, .aload_n 0, 1) rfl) rfl rfl (aw_getI (pc' := 4) (dt_X5_pay 1 (1, .getfield 29, 3) rfl) fl_Purse_29 rfl rfl (sk_17 hS) (aw_iload_n (pc' := 5) (dt_X5_pay 2 (4, .iload_n 1, 1) rfl) rfl rfl (aw_icmp_ge (pc' := 8) (tgt := 10) (dt_X5_pay 3 (5, .if_icmp .ge 5, 3) rfl) (by decide) rfl ?_ ?_)))))))
  · intro q1
    have h := h.1 q1
    obtain ⟨g2, h⟩ := h
    refine aw_aload_n (pc' := 11) (dt_X5_pay 6 (10, .aload_n 0, 1) rfl) rfl rfl (aw_dup (pc' := 12) (dt_X5_pay 7 (11, .dup, 1) rfl) rfl rfl (aw_getI (pc' := 15) (dt_X5_pay 8 (12, .getfield 29, 3) rfl) fl_Purse_29 rfl rfl (sk_17 hS) (aw_iload_n (pc' := 16) (dt_X5_pay 9 (15, .iload_n 1, 1) rfl) rfl rfl (aw_isub (pc' := 17) (dt_X5_pay 10 (16, .isub, 1) rfl) rfl (aw_putI (pc' := 20) (dt_X5_pay 11 (17, .putfield 29, 3) rfl) fl_Purse_29 rfl (by decide +kernel) rfl (sk_17 hS) (aw_aload_n (pc' := 21) (dt_X5_pay 12 (20, .aload_n 0, 1) rfl) rfl rfl (aw_dup (pc' := 22) (dt_X5_pay 13 (21, .dup, 1) rfl) rfl rfl (aw_getI (pc' := 25) (dt_X5_pay 14 (22, .getfield 32, 3) rfl) fl_Purse_32 rfl rfl (sk_17 hS.wI) (aw_iload_n (pc' := 26) (dt_X5_pay 15 (25, .iload_n 1, 1) rfl) rfl rfl (aw_iadd (pc' := 27) (dt_X5_pay 16 (26, .iadd, 1) rfl) rfl (aw_putI (pc' := 30) (dt_X5_pay 17 (27, .putfield 32, 3) rfl) fl_Purse_32 rfl (by decide +kernel) rfl (sk_17 hS.wI) (aw_iconst (pc' := 31) (v := 1) (dt_X5_pay 18 (30, .iconst 1, 1) rfl) (by decide) rfl (aw_iret (dt_X5_pay 19 (31, .ireturn, 1) rfl) rfl rfl (aw_stk (st' := [.int 1]) rfl (aw_if_ne_T (pc' := 11) (tgt := 14) (dt_X10_giveCoins 4 (8, .ifCond .ne 6, 3) rfl) (by decide) rfl (by decide) (aw_aload_n (pc' := 15) (dt_X10_giveCoins 7 (14, .aload_n 1, 1) rfl) rfl rfl (aw_iload_n (pc' := 16) (dt_X10_giveCoins 8 (15, .iload_n 2, 1) rfl) rfl rfl (aw_putI (pc' := 19) (dt_X10_giveCoins 9 (16, .putfield 299, 3) rfl) fl_ReturnDesk_299 rfl (by decide +kernel) rfl g2 (aw_aload_n (pc' := 20) (dt_X10_giveCoins 10 (19, .aload_n 1, 1) rfl) rfl rfl (aw_getA (pc' := 23) (dt_X10_giveCoins 11 (20, .getfield 271, 3) rfl) fl_ReturnDesk_271 rfl rfl g2 ?_ ?_))))))))))))))))))))
    · intro e3
      have h := h.1 e3
      refine aw_aload_n (pc' := 24) (dt_X10_giveCoins 12 (23, .aload_n 1, 1) rfl) rfl rfl (aw_aload_n (pc' := 25) (dt_X10_giveCoins 13 (24, .aload_n 0, 1) rfl) rfl rfl (aw_inV (pc' := 28) (nc1 := 0) (ns1 := 0) (nc := nc) (ns := ns) (ls' := [some (.ref 11)]) (y2 := mX10_today) (As := []) (rest := [.ref a1, .null]) (a := 11) (dt_X10_giveCoins 14 (25, .invokevirtual 138, 3) rfl) ok_X10_today ln_ReturnDesk_138 im_X10_today se_X10_today pr_X10_today (Or.inl ⟨by decide, rfl⟩) rfl (Nat.le_of_ble_eq_true rfl) (Nat.le_of_ble_eq_true rfl) rfl rfl (sk_11 hS.wI.wI.wI) (aw_aload_n (pc' := 1) (dt_X10_today 0 (0, .aload_n 0, 1) rfl) rfl rfl (aw_getI (pc' := 4) (dt_X10_today 1 (1, .getfield 114, 3) rfl) fl_ReturnDesk_114 rfl rfl (sk_11 hS.wI.wI.wI) (aw_bipush (pc' := 6) (v := 24) (dt_X10_today 2 (4, .bipush 24, 2) rfl) (by decide) rfl (aw_idiv (pc' := 7) (dt_X10_today 3 (6, .idiv, 1) rfl) (by decide) rfl (aw_iret (dt_X10_today 4 (7, .ireturn, 1) rfl) rfl rfl (aw_stk (st' := [.int ((zI (sI (sI (sI μ 17 2 ((zI μ 17 2) - x2)) 17 3 ((zI (sI μ 17 2 ((zI μ 17 2) - x2)) 17 3) + x2)) a1 14 x2) 11 17) / 24), .ref a1, .null]) rfl ?_))))))))
      exact h.elim
    · intro b4 e3
      have h := h.2 b4 e3
      obtain ⟨g5, h⟩ := h
      refine aw_aload_n (pc' := 24) (dt_X10_giveCoins 12 (23, .aload_n 1, 1) rfl) rfl rfl (aw_aload_n (pc' := 25) (dt_X10_giveCoins 13 (24, .aload_n 0, 1) rfl) rfl rfl (aw_inV (pc' := 28) (nc1 := 0) (ns1 := 0) (nc := nc) (ns := ns) (ls' := [some (.ref 11)]) (y2 := mX10_today) (As := []) (rest := [.ref a1, .ref b4]) (a := 11) (dt_X10_giveCoins 14 (25, .invokevirtual 138, 3) rfl) ok_X10_today ln_ReturnDesk_138 im_X10_today se_X10_today pr_X10_today (Or.inl ⟨by decide, rfl⟩) rfl (Nat.le_of_ble_eq_true rfl) (Nat.le_of_ble_eq_true rfl) rfl rfl (sk_11 hS.wI.wI.wI) (aw_aload_n (pc' := 1) (dt_X10_today 0 (0, .aload_n 0, 1) rfl) rfl rfl (aw_getI (pc' := 4) (dt_X10_today 1 (1, .getfield 114, 3) rfl) fl_ReturnDesk_114 rfl rfl (sk_11 hS.wI.wI.wI) (aw_bipush (pc' := 6) (v := 24) (dt_X10_today 2 (4, .bipush 24, 2) rfl) (by decide) rfl (aw_idiv (pc' := 7) (dt_X10_today 3 (6, .idiv, 1) rfl) (by decide) rfl (aw_iret (dt_X10_today 4 (7, .ireturn, 1) rfl) rfl rfl (aw_stk (st' := [.int ((zI (sI (sI (sI μ 17 2 ((zI μ 17 2) - x2)) 17 3 ((zI (sI μ 17 2 ((zI μ 17 2) - x2)) 17 3) + x2)) a1 14 x2) 11 17) / 24), .ref a1, .ref b4]) rfl (aw_inV (pc' := 31) (nc1 := 0) (ns1 := 0) (nc := nc) (ns := ns) (ls' := [some (.ref b4), some (.ref a1), some (.int ((zI (sI (sI (sI μ 17 2 ((zI μ 17 2) - x2)) 17 3 ((zI (sI μ 17 2 ((zI μ 17 2) - x2)) 17 3) + x2)) a1 14 x2) 11 17) / 24))]) (y2 := mX7_comeBack) (As := [.ref a1, .int ((zI (sI (sI (sI μ 17 2 ((zI μ 17 2) - x2)) 17 3 ((zI (sI μ 17 2 ((zI μ 17 2) - x2)) 17 3) + x2)) a1 14 x2) 11 17) / 24)]) (rest := []) (a := b4) (dt_X10_giveCoins 15 (28, .invokevirtual 516, 3) rfl) ok_X7_comeBack ln_ReturnDesk_516 im_X7_comeBack se_X7_comeBack pr_X7_comeBack (Or.inl ⟨by decide, rfl⟩) rfl (Nat.le_of_ble_eq_true rfl) (Nat.le_of_ble_eq_true rfl) rfl rfl g5 (aw_aload_n (pc' := 1) (dt_X7_comeBack 0 (0, .aload_n 0, 1) rfl) rfl rfl (aw_iconst (pc' := 2) (v := 2) (dt_X7_comeBack 1 (1, .iconst 2, 1) rfl) (by decide) rfl (aw_putI (pc' := 5) (dt_X7_comeBack 2 (2, .putfield 9, 3) rfl) fl_Sale_9 rfl (by decide +kernel) rfl g5 (aw_aload_n (pc' := 6) (dt_X7_comeBack 3 (5, .aload_n 0, 1) rfl) rfl rfl (aw_iload_n (pc' := 7) (dt_X7_comeBack 4 (6, .iload_n 2, 1) rfl) rfl rfl (aw_putI (pc' := 10) (dt_X7_comeBack 5 (7, .putfield 15, 3) rfl) fl_Sale_15 rfl (by decide +kernel) rfl g5 (aw_aload_n (pc' := 11) (dt_X7_comeBack 6 (10, .aload_n 0, 1) rfl) rfl rfl (aw_aload_n (pc' := 12) (dt_X7_comeBack 7 (11, .aload_n 1, 1) rfl) rfl rfl (aw_putA (pc' := 15) (dt_X7_comeBack 8 (12, .putfield 62, 3) rfl) fl_Sale_62 rfl (by decide +kernel) rfl g5 ?_))))))))))))))))))
      refine aw_mem (fun μ6 eμ7 => ?_)
      have h := h μ6 eμ7
      have hS8 : Stat μ6 := by rw [eμ7]; exact (hS.wI.wI.wI.wI.wI.wAd g5 (by decide))
      have k9 : zK μ6 a1 = 0 := by rw [eμ7]; exact g2
      have k10 : zK μ6 b4 = 7 := by rw [eμ7]; exact g5
      refine aw_aload_n (pc' := 16) (dt_X7_comeBack 9 (15, .aload_n 0, 1) rfl) rfl rfl (aw_iconst (pc' := 17) (v := 1) (dt_X7_comeBack 10 (16, .iconst 1, 1) rfl) (by decide) rfl (aw_putZ (pc' := 20) (dt_X7_comeBack 11 (17, .putfield 66, 3) rfl) fl_Sale_66 rfl (by decide +kernel) rfl k10 (by decide) (aw_ret (dt_X7_comeBack 12 (20, .return_, 1) rfl) rfl (aw_stk (st' := []) rfl (aw_iconst (pc' := 32) (v := 1) (dt_X10_giveCoins 16 (31, .iconst 1, 1) rfl) (by decide) rfl (aw_iret (dt_X10_giveCoins 17 (32, .ireturn, 1) rfl) rfl rfl ?_))))))
      exact h
  · intro q1
    have h := h.2 q1
    refine aw_iconst (pc' := 9) (v := 0) (dt_X5_pay 4 (8, .iconst 0, 1) rfl) (by decide) rfl (aw_iret (dt_X5_pay 5 (9, .ireturn, 1) rfl) rfl rfl (aw_stk (st' := [.int 0]) rfl (aw_if_ne_F (pc' := 11) (tgt := 14) (dt_X10_giveCoins 4 (8, .ifCond .ne 6, 3) rfl) (by decide) rfl (by decide) (aw_bipush (pc' := 13) (v := (-2)) (dt_X10_giveCoins 5 (11, .bipush (-2), 2) rfl) (by decide) rfl (aw_iret (dt_X10_giveCoins 6 (13, .ireturn, 1) rfl) rfl rfl ?_)))))
    exact h

theorem t_X10_giveNote {E : ZE} {l : Launch} {d nc ns : Nat} {a1 : Nat} {x2 : Int32} {μ : ZM} {K : Option Value → ZM → Prop} (hS : Stat μ) (h :
  ((zI μ 17 1) < 200 →
    (vp_in (zI μ 17 1) 200) ∧
    (0 ≤ ((zI (sI (sI μ 18 (zI μ 17 1).toNatClampNeg x2) 17 1 ((zI (sI μ 18 (zI μ 17 1).toNatClampNeg x2) 17 1) + 1)) 17 1) - 1) →
      (zK (sI (sI μ 18 (zI μ 17 1).toNatClampNeg x2) 17 1 ((zI (sI μ 18 (zI μ 17 1).toNatClampNeg x2) 17 1) + 1)) a1 = 0) ∧
      (zA (sI (sI (sI (sI μ 18 (zI μ 17 1).toNatClampNeg x2) 17 1 ((zI (sI μ 18 (zI μ 17 1).toNatClampNeg x2) 17 1) + 1)) a1 15 ((zI (sI (sI μ 18 (zI μ 17 1).toNatClampNeg x2) 17 1 ((zI (sI μ 18 (zI μ 17 1).toNatClampNeg x2) 17 1) + 1)) 17 1) - 1)) a1 14 x2) a1 0 = none →
        False) ∧
      (∀ b6, zA (sI (sI (sI (sI μ 18 (zI μ 17 1).toNatClampNeg x2) 17 1 ((zI (sI μ 18 (zI μ 17 1).toNatClampNeg x2) 17 1) + 1)) a1 15 ((zI (sI (sI μ 18 (zI μ 17 1).toNatClampNeg x2) 17 1 ((zI (sI μ 18 (zI μ 17 1).toNatClampNeg x2) 17 1) + 1)) 17 1) - 1)) a1 14 x2) a1 0 = some b6 →
        (zK (sI (sI (sI (sI μ 18 (zI μ 17 1).toNatClampNeg x2) 17 1 ((zI (sI μ 18 (zI μ 17 1).toNatClampNeg x2) 17 1) + 1)) a1 15 ((zI (sI (sI μ 18 (zI μ 17 1).toNatClampNeg x2) 17 1 ((zI (sI μ 18 (zI μ 17 1).toNatClampNeg x2) 17 1) + 1)) 17 1) - 1)) a1 14 x2) b6 = 7) ∧
        ∀ μ8, μ8 = (sI (sI (sI (sI (sI μ 18 (zI μ 17 1).toNatClampNeg x2) 17 1 ((zI (sI μ 18 (zI μ 17 1).toNatClampNeg x2) 17 1) + 1)) a1 15 ((zI (sI (sI μ 18 (zI μ 17 1).toNatClampNeg x2) 17 1 ((zI (sI μ 18 (zI μ 17 1).toNatClampNeg x2) 17 1) + 1)) 17 1) - 1)) a1 14 x2) b6 11 2) →
        ∀ μ14, μ14 = (sI μ8 b6 12 ((zI (sI (sI (sI (sI μ 18 (zI μ 17 1).toNatClampNeg x2) 17 1 ((zI (sI μ 18 (zI μ 17 1).toNatClampNeg x2) 17 1) + 1)) a1 15 ((zI (sI (sI μ 18 (zI μ 17 1).toNatClampNeg x2) 17 1 ((zI (sI μ 18 (zI μ 17 1).toNatClampNeg x2) 17 1) + 1)) 17 1) - 1)) a1 14 x2) 11 17) / 24)) →
        K (some (.int 1)) (sI (sA μ14 b6 18 (some a1)) b6 17 1))) ∧
    (¬ 0 ≤ ((zI (sI (sI μ 18 (zI μ 17 1).toNatClampNeg x2) 17 1 ((zI (sI μ 18 (zI μ 17 1).toNatClampNeg x2) 17 1) + 1)) 17 1) - 1) →
      K (some (.int (-3))) (sI (sI μ 18 (zI μ 17 1).toNatClampNeg x2) 17 1 ((zI (sI μ 18 (zI μ 17 1).toNatClampNeg x2) 17 1) + 1)))) ∧
  (¬ (zI μ 17 1) < 200 →
    K (some (.int (-3))) μ)) : AW E l (d + 1) nc ns mX10_giveNote 0 [some (.ref 11), some (.ref a1), some (.int x2), none] [] μ K := by
  refine aw_aload_n (pc' := 1) (dt_X10_giveNote 0 (0, .aload_n 0, 1) rfl) rfl rfl (aw_getAs (pc' := 4) (dt_X10_giveNote 1 (1, .getfield 42, 3) rfl) fl_ReturnDesk_42 rfl rfl (sk_11 hS) (sa_11_5 hS) (aw_iload_n (pc' := 5) (dt_X10_giveNote 2 (4, .iload_n 2, 1) rfl) rfl rfl (aw_inV (pc' := 8) (nc1 := 0) (ns1 := 0) (nc := nc) (ns := ns) (ls' := [some (.ref 17), some (.int x2)]) (y2 := mX5_makeNote) (As := [.int x2]) (rest := []) (a := 17) (dt_X10_giveNote 3 (5, .invokevirtual 519, 3) rfl) ok_X5_makeNote ln_ReturnDesk_519 im_X5_makeNote se_X5_makeNote pr_X5_makeNote (Or.inl ⟨by decide, rfl⟩) rfl (Nat.le_of_ble_eq_true rfl) (Nat.le_of_ble_eq_true rfl) rfl rfl (sk_17 hS) (aw_aload_n (pc' := 1) (dt_X5_makeNote 0 (0, .aload_n 0, 1) rfl) rfl rfl (aw_getI (pc' := 4) (dt_X5_makeNote 1 (1, .getfield 15, 3) rfl) fl_Purse_15 rfl rfl (sk_17 hS) (aw_aload_n (pc' := 5) (dt_X5_makeNote 2 (4, .aload_n 0, 1) rfl) rfl rfl (aw_getAs (pc' := 8) (dt_X5_makeNote 3 (5, .getfield 9, 3) rfl) fl_Purse_9 rfl rfl (sk_17 hS) (sa_17_0 hS) (aw_alens (pc' := 9) (n := 200) (v := 200) (dt_X5_makeNote 4 (8, .arraylength, 1) rfl) (by decide) (by decide) rfl (sk_18 hS) (sl_18 hS) (by decide) (aw_icmp_lt (pc' := 12) (tgt := 14) (dt_X5_makeNote 5 (9, .if_icmp .lt 5, 3) rfl) (by decide) rfl ?_ ?_)))))))))
  · intro q1
    have h := h.1 q1
    obtain ⟨g2, h⟩ := h
    refine aw_aload_n (pc' := 15) (dt_X5_makeNote 8 (14, .aload_n 0, 1) rfl) rfl rfl (aw_getAs (pc' := 18) (dt_X5_makeNote 9 (15, .getfield 9, 3) rfl) fl_Purse_9 rfl rfl (sk_17 hS) (sa_17_0 hS) (aw_aload_n (pc' := 19) (dt_X5_makeNote 10 (18, .aload_n 0, 1) rfl) rfl rfl (aw_getI (pc' := 22) (dt_X5_makeNote 11 (19, .getfield 15, 3) rfl) fl_Purse_15 rfl rfl (sk_17 hS) (aw_iload_n (pc' := 23) (dt_X5_makeNote 12 (22, .iload_n 1, 1) rfl) rfl rfl (aw_iast (pc' := 24) (dt_X5_makeNote 13 (23, .iastore, 1) rfl) rfl (sk_18 hS) (by decide) (vin_eq (sl_18 hS) g2) (aw_aload_n (pc' := 25) (dt_X5_makeNote 14 (24, .aload_n 0, 1) rfl) rfl rfl (aw_dup (pc' := 26) (dt_X5_makeNote 15 (25, .dup, 1) rfl) rfl rfl (aw_getI (pc' := 29) (dt_X5_makeNote 16 (26, .getfield 15, 3) rfl) fl_Purse_15 rfl rfl (sk_17 hS.wI) (aw_iconst (pc' := 30) (v := 1) (dt_X5_makeNote 17 (29, .iconst 1, 1) rfl) (by decide) rfl (aw_iadd (pc' := 31) (dt_X5_makeNote 18 (30, .iadd, 1) rfl) rfl (aw_putI (pc' := 34) (dt_X5_makeNote 19 (31, .putfield 15, 3) rfl) fl_Purse_15 rfl (by decide +kernel) rfl (sk_17 hS.wI) (aw_aload_n (pc' := 35) (dt_X5_makeNote 20 (34, .aload_n 0, 1) rfl) rfl rfl (aw_getI (pc' := 38) (dt_X5_makeNote 21 (35, .getfield 15, 3) rfl) fl_Purse_15 rfl rfl (sk_17 hS.wI.wI) (aw_iconst (pc' := 39) (v := 1) (dt_X5_makeNote 22 (38, .iconst 1, 1) rfl) (by decide) rfl (aw_isub (pc' := 40) (dt_X5_makeNote 23 (39, .isub, 1) rfl) rfl (aw_iret (dt_X5_makeNote 24 (40, .ireturn, 1) rfl) rfl rfl (aw_stk (st' := [.int ((zI (sI (sI μ 18 (zI μ 17 1).toNatClampNeg x2) 17 1 ((zI (sI μ 18 (zI μ 17 1).toNatClampNeg x2) 17 1) + 1)) 17 1) - 1)]) rfl (aw_istore_n (pc' := 9) (ls' := [some (.ref 11), some (.ref a1), some (.int x2), some (.int ((zI (sI (sI μ 18 (zI μ 17 1).toNatClampNeg x2) 17 1 ((zI (sI μ 18 (zI μ 17 1).toNatClampNeg x2) 17 1) + 1)) 17 1) - 1))]) (dt_X10_giveNote 4 (8, .istore_n 3, 1) rfl) (by decide) rfl rfl (aw_iload_n (pc' := 10) (dt_X10_giveNote 5 (9, .iload_n 3, 1) rfl) rfl rfl (aw_if_ge (pc' := 13) (tgt := 16) (dt_X10_giveNote 6 (10, .ifCond .ge 6, 3) rfl) (by decide) rfl ?_ ?_))))))))))))))))))))
    · intro q3
      have h := h.1 q3
      obtain ⟨g4, h⟩ := h
      refine aw_aload_n (pc' := 17) (dt_X10_giveNote 9 (16, .aload_n 1, 1) rfl) rfl rfl (aw_iload_n (pc' := 18) (dt_X10_giveNote 10 (17, .iload_n 3, 1) rfl) rfl rfl (aw_putI (pc' := 21) (dt_X10_giveNote 11 (18, .putfield 302, 3) rfl) fl_ReturnDesk_302 rfl (by decide +kernel) rfl g4 (aw_aload_n (pc' := 22) (dt_X10_giveNote 12 (21, .aload_n 1, 1) rfl) rfl rfl (aw_iload_n (pc' := 23) (dt_X10_giveNote 13 (22, .iload_n 2, 1) rfl) rfl rfl (aw_putI (pc' := 26) (dt_X10_giveNote 14 (23, .putfield 299, 3) rfl) fl_ReturnDesk_299 rfl (by decide +kernel) rfl g4 (aw_aload_n (pc' := 27) (dt_X10_giveNote 15 (26, .aload_n 1, 1) rfl) rfl rfl (aw_getA (pc' := 30) (dt_X10_giveNote 16 (27, .getfield 271, 3) rfl) fl_ReturnDesk_271 rfl rfl g4 ?_ ?_)))))))
      · intro e5
        have h := h.1 e5
        refine aw_aload_n (pc' := 31) (dt_X10_giveNote 17 (30, .aload_n 1, 1) rfl) rfl rfl (aw_aload_n (pc' := 32) (dt_X10_giveNote 18 (31, .aload_n 0, 1) rfl) rfl rfl (aw_inV (pc' := 35) (nc1 := 0) (ns1 := 0) (nc := nc) (ns := ns) (ls' := [some (.ref 11)]) (y2 := mX10_today) (As := []) (rest := [.ref a1, .null]) (a := 11) (dt_X10_giveNote 19 (32, .invokevirtual 138, 3) rfl) ok_X10_today ln_ReturnDesk_138 im_X10_today se_X10_today pr_X10_today (Or.inl ⟨by decide, rfl⟩) rfl (Nat.le_of_ble_eq_true rfl) (Nat.le_of_ble_eq_true rfl) rfl rfl (sk_11 hS.wI.wI.wI.wI) (aw_aload_n (pc' := 1) (dt_X10_today 0 (0, .aload_n 0, 1) rfl) rfl rfl (aw_getI (pc' := 4) (dt_X10_today 1 (1, .getfield 114, 3) rfl) fl_ReturnDesk_114 rfl rfl (sk_11 hS.wI.wI.wI.wI) (aw_bipush (pc' := 6) (v := 24) (dt_X10_today 2 (4, .bipush 24, 2) rfl) (by decide) rfl (aw_idiv (pc' := 7) (dt_X10_today 3 (6, .idiv, 1) rfl) (by decide) rfl (aw_iret (dt_X10_today 4 (7, .ireturn, 1) rfl) rfl rfl (aw_stk (st' := [.int ((zI (sI (sI (sI (sI μ 18 (zI μ 17 1).toNatClampNeg x2) 17 1 ((zI (sI μ 18 (zI μ 17 1).toNatClampNeg x2) 17 1) + 1)) a1 15 ((zI (sI (sI μ 18 (zI μ 17 1).toNatClampNeg x2) 17 1 ((zI (sI μ 18 (zI μ 17 1).toNatClampNeg x2) 17 1) + 1)) 17 1) - 1)) a1 14 x2) 11 17) / 24), .ref a1, .null]) rfl ?_))))))))
        exact h.elim
      · intro b6 e5
        have h := h.2 b6 e5
        obtain ⟨g7, h⟩ := h
        refine aw_aload_n (pc' := 31) (dt_X10_giveNote 17 (30, .aload_n 1, 1) rfl) rfl rfl (aw_aload_n (pc' := 32) (dt_X10_giveNote 18 (31, .aload_n 0, 1) rfl) rfl rfl (aw_inV (pc' := 35) (nc1 := 0) (ns1 := 0) (nc := nc) (ns := ns) (ls' := [some (.ref 11)]) (y2 := mX10_today) (As := []) (rest := [.ref a1, .ref b6]) (a := 11) (dt_X10_giveNote 19 (32, .invokevirtual 138, 3) rfl) ok_X10_today ln_ReturnDesk_138 im_X10_today se_X10_today pr_X10_today (Or.inl ⟨by decide, rfl⟩) rfl (Nat.le_of_ble_eq_true rfl) (Nat.le_of_ble_eq_true rfl) rfl rfl (sk_11 hS.wI.wI.wI.wI) (aw_aload_n (pc' := 1) (dt_X10_today 0 (0, .aload_n 0, 1) rfl) rfl rfl (aw_getI (pc' := 4) (dt_X10_today 1 (1, .getfield 114, 3) rfl) fl_ReturnDesk_114 rfl rfl (sk_11 hS.wI.wI.wI.wI) (aw_bipush (pc' := 6) (v := 24) (dt_X10_today 2 (4, .bipush 24, 2) rfl) (by decide) rfl (aw_idiv (pc' := 7) (dt_X10_today 3 (6, .idiv, 1) rfl) (by decide) rfl (aw_iret (dt_X10_today 4 (7, .ireturn, 1) rfl) rfl rfl (aw_stk (st' := [.int ((zI (sI (sI (sI (sI μ 18 (zI μ 17 1).toNatClampNeg x2) 17 1 ((zI (sI μ 18 (zI μ 17 1).toNatClampNeg x2) 17 1) + 1)) a1 15 ((zI (sI (sI μ 18 (zI μ 17 1).toNatClampNeg x2) 17 1 ((zI (sI μ 18 (zI μ 17 1).toNatClampNeg x2) 17 1) + 1)) 17 1) - 1)) a1 14 x2) 11 17) / 24), .ref a1, .ref b6]) rfl (aw_inV (pc' := 38) (nc1 := 0) (ns1 := 0) (nc := nc) (ns := ns) (ls' := [some (.ref b6), some (.ref a1), some (.int ((zI (sI (sI (sI (sI μ 18 (zI μ 17 1).toNatClampNeg x2) 17 1 ((zI (sI μ 18 (zI μ 17 1).toNatClampNeg x2) 17 1) + 1)) a1 15 ((zI (sI (sI μ 18 (zI μ 17 1).toNatClampNeg x2) 17 1 ((zI (sI μ 18 (zI μ 17 1).toNatClampNeg x2) 17 1) + 1)) 17 1) - 1)) a1 14 x2) 11 17) / 24))]) (y2 := mX7_comeBack) (As := [.ref a1, .int ((zI (sI (sI (sI (sI μ 18 (zI μ 17 1).toNatClampNeg x2) 17 1 ((zI (sI μ 18 (zI μ 17 1).toNatClampNeg x2) 17 1) + 1)) a1 15 ((zI (sI (sI μ 18 (zI μ 17 1).toNatClampNeg x2) 17 1 ((zI (sI μ 18 (zI μ 17 1).toNatClampNeg x2) 17 1) + 1)) 17 1) - 1)) a1 14 x2) 11 17) / 24)]) (rest := []) (a := b6) (dt_X10_giveNote 20 (35, .invokevirtual 516, 3) rfl) ok_X7_comeBack ln_ReturnDesk_516 im_X7_comeBack se_X7_comeBack pr_X7_comeBack (Or.inl ⟨by decide, rfl⟩) rfl (Nat.le_of_ble_eq_true rfl) (Nat.le_of_ble_eq_true rfl) rfl rfl g7 (aw_aload_n (pc' := 1) (dt_X7_comeBack 0 (0, .aload_n 0, 1) rfl) rfl rfl (aw_iconst (pc' := 2) (v := 2) (dt_X7_comeBack 1 (1, .iconst 2, 1) rfl) (by decide) rfl (aw_putI (pc' := 5) (dt_X7_comeBack 2 (2, .putfield 9, 3) rfl) fl_Sale_9 rfl (by decide +kernel) rfl g7 ?_))))))))))))
        refine aw_mem (fun μ8 eμ9 => ?_)
        have h := h μ8 eμ9
        have hS10 : Stat μ8 := by rw [eμ9]; exact hS.wI.wI.wI.wI.wI
        have k11 : zK μ8 a1 = 0 := by rw [eμ9]; exact g4
        have k12 : zK μ8 b6 = 7 := by rw [eμ9]; exact g7
        have e13 : zA μ8 a1 0 = some b6 := by rw [eμ9]; exact e5
        refine aw_aload_n (pc' := 6) (dt_X7_comeBack 3 (5, .aload_n 0, 1) rfl) rfl rfl (aw_iload_n (pc' := 7) (dt_X7_comeBack 4 (6, .iload_n 2, 1) rfl) rfl rfl (aw_putI (pc' := 10) (dt_X7_comeBack 5 (7, .putfield 15, 3) rfl) fl_Sale_15 rfl (by decide +kernel) rfl k12 ?_))
        refine aw_mem (fun μ14 eμ15 => ?_)
        have h := h μ14 eμ15
        have hS16 : Stat μ14 := by rw [eμ15]; exact hS10.wI
        have k17 : zK μ14 a1 = 0 := by rw [eμ15]; exact k11
        have k18 : zK μ14 b6 = 7 := by rw [eμ15]; exact k12
        have e19 : zA μ14 a1 0 = some b6 := by rw [eμ15]; exact e13
        refine aw_aload_n (pc' := 11) (dt_X7_comeBack 6 (10, .aload_n 0, 1) rfl) rfl rfl (aw_aload_n (pc' := 12) (dt_X7_comeBack 7 (11, .aload_n 1, 1) rfl) rfl rfl (aw_putA (pc' := 15) (dt_X7_comeBack 8 (12, .putfield 62, 3) rfl) fl_Sale_62 rfl (by decide +kernel) rfl k18 (aw_aload_n (pc' := 16) (dt_X7_comeBack 9 (15, .aload_n 0, 1) rfl) rfl rfl (aw_iconst (pc' := 17) (v := 1) (dt_X7_comeBack 10 (16, .iconst 1, 1) rfl) (by decide) rfl (aw_putZ (pc' := 20) (dt_X7_comeBack 11 (17, .putfield 66, 3) rfl) fl_Sale_66 rfl (by decide +kernel) rfl k18 (by decide) (aw_ret (dt_X7_comeBack 12 (20, .return_, 1) rfl) rfl (aw_stk (st' := []) rfl (aw_iconst (pc' := 39) (v := 1) (dt_X10_giveNote 21 (38, .iconst 1, 1) rfl) (by decide) rfl (aw_iret (dt_X10_giveNote 22 (39, .ireturn, 1) rfl) rfl rfl ?_)))))))))
        exact h
    · intro q3
      have h := h.2 q3
      refine aw_bipush (pc' := 15) (v := (-3)) (dt_X10_giveNote 7 (13, .bipush (-3), 2) rfl) (by decide) rfl (aw_iret (dt_X10_giveNote 8 (15, .ireturn, 1) rfl) rfl rfl ?_)
      exact h
  · intro q1
    have h := h.2 q1
    refine aw_iconst (pc' := 13) (v := (-1)) (dt_X5_makeNote 6 (12, .iconst (-1), 1) rfl) (by decide) rfl (aw_iret (dt_X5_makeNote 7 (13, .ireturn, 1) rfl) rfl rfl (aw_stk (st' := [.int (-1)]) rfl (aw_istore_n (pc' := 9) (ls' := [some (.ref 11), some (.ref a1), some (.int x2), some (.int (-1))]) (dt_X10_giveNote 4 (8, .istore_n 3, 1) rfl) (by decide) rfl rfl (aw_iload_n (pc' := 10) (dt_X10_giveNote 5 (9, .iload_n 3, 1) rfl) rfl rfl (aw_if_ge_F (pc' := 13) (tgt := 16) (dt_X10_giveNote 6 (10, .ifCond .ge 6, 3) rfl) (by decide) rfl (by decide) (aw_bipush (pc' := 15) (v := (-3)) (dt_X10_giveNote 7 (13, .bipush (-3), 2) rfl) (by decide) rfl (aw_iret (dt_X10_giveNote 8 (15, .ireturn, 1) rfl) rfl rfl ?_)))))))
    exact h

theorem t_X10_giveNewPiece {E : ZE} {l : Launch} {d nc ns : Nat} {a1 : Nat} {μ : ZM} {K : Option Value → ZM → Prop} (hS : Stat μ) (h :
  (zK μ a1 = 0) ∧
  (zA μ a1 0 = none →
    False) ∧
  (∀ b3, zA μ a1 0 = some b3 →
    (zK μ b3 = 7) ∧
    (zA μ b3 1 = none →
      AW E l (d + 1) 0 0 mX10_takeNewPiece 0 (zargs 3 [.ref 11, .null]) [] μ (fun v μ7 => ∃ r9 : Int32, v = some (.int r9) ∧ Stat μ7 ∧ 
        (¬ r9 = 0 →
          (zK μ7 a1 = 0) ∧
          (zA μ7 a1 0 = none →
            False) ∧
          (∀ b13, zA μ7 a1 0 = some b13 →
            (zK μ7 b13 = 7) ∧
            K (some (.int 1)) (sI (sA (sI (sI μ7 b13 11 2) b13 12 ((zI μ7 11 17) / 24)) b13 18 (some a1)) b13 17 1))) ∧
        (r9 = 0 →
          (zK μ7 a1 = 0) ∧
          (zA μ7 a1 0 = none →
            False) ∧
          (∀ b17, zA μ7 a1 0 = some b17 →
            (zK μ7 b17 = 7) ∧
            AW E l (d + 1) 0 0 mX10_giveNote 0 (zargs 4 [.ref 11, .ref a1, .int (zI μ7 b17 9)]) [] μ7 (fun v μ19 => ∃ r21 : Int32, v = some (.int r21) ∧ Stat μ19 ∧ 
              K (some (.int r21)) μ19))))) ∧
    (∀ b6, zA μ b3 1 = some b6 →
      AW E l (d + 1) 0 0 mX10_takeNewPiece 0 (zargs 3 [.ref 11, .ref b6]) [] μ (fun v μ22 => ∃ r24 : Int32, v = some (.int r24) ∧ Stat μ22 ∧ 
        (¬ r24 = 0 →
          (zK μ22 a1 = 0) ∧
          (zA μ22 a1 0 = none →
            False) ∧
          (∀ b28, zA μ22 a1 0 = some b28 →
            (zK μ22 b28 = 7) ∧
            K (some (.int 1)) (sI (sA (sI (sI μ22 b28 11 2) b28 12 ((zI μ22 11 17) / 24)) b28 18 (some a1)) b28 17 1))) ∧
        (r24 = 0 →
          (zK μ22 a1 = 0) ∧
          (zA μ22 a1 0 = none →
            False) ∧
          (∀ b32, zA μ22 a1 0 = some b32 →
            (zK μ22 b32 = 7) ∧
            AW E l (d + 1) 0 0 mX10_giveNote 0 (zargs 4 [.ref 11, .ref a1, .int (zI μ22 b32 9)]) [] μ22 (fun v μ34 => ∃ r36 : Int32, v = some (.int r36) ∧ Stat μ34 ∧ 
              K (some (.int r36)) μ34))))))) : AW E l (d + 2) nc ns mX10_giveNewPiece 0 [some (.ref 11), some (.ref a1)] [] μ K := by
  obtain ⟨g1, h⟩ := h
  refine aw_aload_n (pc' := 1) (dt_X10_giveNewPiece 0 (0, .aload_n 0, 1) rfl) rfl rfl (aw_aload_n (pc' := 2) (dt_X10_giveNewPiece 1 (1, .aload_n 1, 1) rfl) rfl rfl (aw_getA (pc' := 5) (dt_X10_giveNewPiece 2 (2, .getfield 271, 3) rfl) fl_ReturnDesk_271 rfl rfl g1 ?_ ?_))
  · intro e2
    have h := h.1 e2
    exact h.elim
  · intro b3 e2
    have h := h.2 b3 e2
    obtain ⟨g4, h⟩ := h
    refine aw_getA (pc' := 8) (dt_X10_giveNewPiece 3 (5, .getfield 163, 3) rfl) fl_ReturnDesk_163 rfl rfl g4 ?_ ?_
    · intro e5
      have h := h.1 e5
      refine aw_callV0 (pc' := 11) (nc := nc) (ns := ns) (y2 := mX10_takeNewPiece) (As := [.null]) (rest := []) (a := 11) (dt_X10_giveNewPiece 4 (8, .invokevirtual 522, 3) rfl) ok_X10_takeNewPiece ln_ReturnDesk_522 im_X10_takeNewPiece se_X10_takeNewPiece pr_X10_takeNewPiece (Or.inl ⟨by decide, rfl⟩) rfl (Nat.le_of_ble_eq_true rfl) (Nat.le_of_ble_eq_true rfl) rfl (sk_11 hS) h ?_
      rintro v μ7 ⟨r9, rfl, hS8, h⟩
      refine aw_stk (st' := [.int r9]) rfl ?_
      refine aw_if_ne (pc' := 14) (tgt := 27) (dt_X10_giveNewPiece 5 (11, .ifCond .ne 16, 3) rfl) (by decide) rfl ?_ ?_
      · intro q10
        have h := h.1 q10
        obtain ⟨g11, h⟩ := h
        refine aw_aload_n (pc' := 28) (dt_X10_giveNewPiece 13 (27, .aload_n 1, 1) rfl) rfl rfl (aw_getA (pc' := 31) (dt_X10_giveNewPiece 14 (28, .getfield 271, 3) rfl) fl_ReturnDesk_271 rfl rfl g11 ?_ ?_)
        · intro e12
          have h := h.1 e12
          refine aw_aload_n (pc' := 32) (dt_X10_giveNewPiece 15 (31, .aload_n 1, 1) rfl) rfl rfl (aw_aload_n (pc' := 33) (dt_X10_giveNewPiece 16 (32, .aload_n 0, 1) rfl) rfl rfl (aw_inV (pc' := 36) (nc1 := 0) (ns1 := 0) (nc := nc) (ns := ns) (ls' := [some (.ref 11)]) (y2 := mX10_today) (As := []) (rest := [.ref a1, .null]) (a := 11) (dt_X10_giveNewPiece 17 (33, .invokevirtual 138, 3) rfl) ok_X10_today ln_ReturnDesk_138 im_X10_today se_X10_today pr_X10_today (Or.inl ⟨by decide, rfl⟩) rfl (Nat.le_of_ble_eq_true rfl) (Nat.le_of_ble_eq_true rfl) rfl rfl (sk_11 hS8) (aw_aload_n (pc' := 1) (dt_X10_today 0 (0, .aload_n 0, 1) rfl) rfl rfl (aw_getI (pc' := 4) (dt_X10_today 1 (1, .getfield 114, 3) rfl) fl_ReturnDesk_114 rfl rfl (sk_11 hS8) (aw_bipush (pc' := 6) (v := 24) (dt_X10_today 2 (4, .bipush 24, 2) rfl) (by decide) rfl (aw_idiv (pc' := 7) (dt_X10_today 3 (6, .idiv, 1) rfl) (by decide) rfl (aw_iret (dt_X10_today 4 (7, .ireturn, 1) rfl) rfl rfl (aw_stk (st' := [.int ((zI μ7 11 17) / 24), .ref a1, .null]) rfl ?_))))))))
          exact h.elim
        · intro b13 e12
          have h := h.2 b13 e12
          obtain ⟨g14, h⟩ := h
          refine aw_aload_n (pc' := 32) (dt_X10_giveNewPiece 15 (31, .aload_n 1, 1) rfl) rfl rfl (aw_aload_n (pc' := 33) (dt_X10_giveNewPiece 16 (32, .aload_n 0, 1) rfl) rfl rfl (aw_inV (pc' := 36) (nc1 := 0) (ns1 := 0) (nc := nc) (ns := ns) (ls' := [some (.ref 11)]) (y2 := mX10_today) (As := []) (rest := [.ref a1, .ref b13]) (a := 11) (dt_X10_giveNewPiece 17 (33, .invokevirtual 138, 3) rfl) ok_X10_today ln_ReturnDesk_138 im_X10_today se_X10_today pr_X10_today (Or.inl ⟨by decide, rfl⟩) rfl (Nat.le_of_ble_eq_true rfl) (Nat.le_of_ble_eq_true rfl) rfl rfl (sk_11 hS8) (aw_aload_n (pc' := 1) (dt_X10_today 0 (0, .aload_n 0, 1) rfl) rfl rfl (aw_getI (pc' := 4) (dt_X10_today 1 (1, .getfield 114, 3) rfl) fl_ReturnDesk_114 rfl rfl (sk_11 hS8) (aw_bipush (pc' := 6) (v := 24) (dt_X10_today 2 (4, .bipush 24, 2) rfl) (by decide) rfl (aw_idiv (pc' := 7) (dt_X10_today 3 (6, .idiv, 1) rfl) (by decide) rfl (aw_iret (dt_X10_today 4 (7, .ireturn, 1) rfl) rfl rfl (aw_stk (st' := [.int ((zI μ7 11 17) / 24), .ref a1, .ref b13]) rfl (aw_inV (pc' := 39) (nc1 := 0) (ns1 := 0) (nc := nc) (ns := ns) (ls' := [some (.ref b13), some (.ref a1), some (.int ((zI μ7 11 17) / 24))]) (y2 := mX7_comeBack) (As := [.ref a1, .int ((zI μ7 11 17) / 24)]) (rest := []) (a := b13) (dt_X10_giveNewPiece 18 (36, .invokevirtual 516, 3) rfl) ok_X7_comeBack ln_ReturnDesk_516 im_X7_comeBack se_X7_comeBack pr_X7_comeBack (Or.inl ⟨by decide, rfl⟩) rfl (Nat.le_of_ble_eq_true rfl) (Nat.le_of_ble_eq_true rfl) rfl rfl g14 (aw_aload_n (pc' := 1) (dt_X7_comeBack 0 (0, .aload_n 0, 1) rfl) rfl rfl (aw_iconst (pc' := 2) (v := 2) (dt_X7_comeBack 1 (1, .iconst 2, 1) rfl) (by decide) rfl (aw_putI (pc' := 5) (dt_X7_comeBack 2 (2, .putfield 9, 3) rfl) fl_Sale_9 rfl (by decide +kernel) rfl g14 (aw_aload_n (pc' := 6) (dt_X7_comeBack 3 (5, .aload_n 0, 1) rfl) rfl rfl (aw_iload_n (pc' := 7) (dt_X7_comeBack 4 (6, .iload_n 2, 1) rfl) rfl rfl (aw_putI (pc' := 10) (dt_X7_comeBack 5 (7, .putfield 15, 3) rfl) fl_Sale_15 rfl (by decide +kernel) rfl g14 (aw_aload_n (pc' := 11) (dt_X7_comeBack 6 (10, .aload_n 0, 1) rfl) rfl rfl (aw_aload_n (pc' := 12) (dt_X7_comeBack 7 (11, .aload_n 1, 1) rfl) rfl rfl (aw_putA (pc' := 15) (dt_X7_comeBack 8 (12, .putfield 62, 3) rfl) fl_Sale_62 rfl (by decide +kernel) rfl g14 (aw_aload_n (pc' := 16) (dt_X7_comeBack 9 (15, .aload_n 0, 1) rfl) rfl rfl (aw_iconst (pc' := 17) (v := 1) (dt_X7_comeBack 10 (16, .iconst 1, 1) rfl) (by decide) rfl (aw_putZ (pc' := 20) (dt_X7_comeBack 11 (17, .putfield 66, 3) rfl) fl_Sale_66 rfl (by decide +kernel) rfl g14 (by decide) (aw_ret (dt_X7_comeBack 12 (20, .return_, 1) rfl) rfl (aw_stk (st' := []) rfl (aw_iconst (pc' := 40) (v := 1) (dt_X10_giveNewPiece 19 (39, .iconst 1, 1) rfl) (by decide) rfl (aw_iret (dt_X10_giveNewPiece 20 (40, .ireturn, 1) rfl) rfl rfl ?_)))))))))))))))))))))))))
          exact h
      · intro q10
        have h := h.2 q10
        obtain ⟨g15, h⟩ := h
        refine aw_aload_n (pc' := 15) (dt_X10_giveNewPiece 6 (14, .aload_n 0, 1) rfl) rfl rfl (aw_aload_n (pc' := 16) (dt_X10_giveNewPiece 7 (15, .aload_n 1, 1) rfl) rfl rfl (aw_aload_n (pc' := 17) (dt_X10_giveNewPiece 8 (16, .aload_n 1, 1) rfl) rfl rfl (aw_getA (pc' := 20) (dt_X10_giveNewPiece 9 (17, .getfield 271, 3) rfl) fl_ReturnDesk_271 rfl rfl g15 ?_ ?_)))
        · intro e16
          have h := h.1 e16
          exact h.elim
        · intro b17 e16
          have h := h.2 b17 e16
          obtain ⟨g18, h⟩ := h
          refine aw_getI (pc' := 23) (dt_X10_giveNewPiece 10 (20, .getfield 145, 3) rfl) fl_ReturnDesk_145 rfl rfl g18 (aw_callV0 (pc' := 26) (nc := nc) (ns := ns) (y2 := mX10_giveNote) (As := [.ref a1, .int (zI μ7 b17 9)]) (rest := []) (a := 11) (dt_X10_giveNewPiece 11 (23, .invokevirtual 499, 3) rfl) ok_X10_giveNote ln_ReturnDesk_499 im_X10_giveNote se_X10_giveNote pr_X10_giveNote (Or.inl ⟨by decide, rfl⟩) rfl (Nat.le_of_ble_eq_true rfl) (Nat.le_of_ble_eq_true rfl) rfl (sk_11 hS8) h ?_)
          rintro v μ19 ⟨r21, rfl, hS20, h⟩
          refine aw_stk (st' := [.int r21]) rfl ?_
          refine aw_iret (dt_X10_giveNewPiece 12 (26, .ireturn, 1) rfl) rfl rfl ?_
          exact h
    · intro b6 e5
      have h := h.2 b6 e5
      refine aw_callV0 (pc' := 11) (nc := nc) (ns := ns) (y2 := mX10_takeNewPiece) (As := [.ref b6]) (rest := []) (a := 11) (dt_X10_giveNewPiece 4 (8, .invokevirtual 522, 3) rfl) ok_X10_takeNewPiece ln_ReturnDesk_522 im_X10_takeNewPiece se_X10_takeNewPiece pr_X10_takeNewPiece (Or.inl ⟨by decide, rfl⟩) rfl (Nat.le_of_ble_eq_true rfl) (Nat.le_of_ble_eq_true rfl) rfl (sk_11 hS) h ?_
      rintro v μ22 ⟨r24, rfl, hS23, h⟩
      refine aw_stk (st' := [.int r24]) rfl ?_
      refine aw_if_ne (pc' := 14) (tgt := 27) (dt_X10_giveNewPiece 5 (11, .ifCond .ne 16, 3) rfl) (by decide) rfl ?_ ?_
      · intro q25
        have h := h.1 q25
        obtain ⟨g26, h⟩ := h
        refine aw_aload_n (pc' := 28) (dt_X10_giveNewPiece 13 (27, .aload_n 1, 1) rfl) rfl rfl (aw_getA (pc' := 31) (dt_X10_giveNewPiece 14 (28, .getfield 271, 3) rfl) fl_ReturnDesk_271 rfl rfl g26 ?_ ?_)
        · intro e27
          have h := h.1 e27
          refine aw_aload_n (pc' := 32) (dt_X10_giveNewPiece 15 (31, .aload_n 1, 1) rfl) rfl rfl (aw_aload_n (pc' := 33) (dt_X10_giveNewPiece 16 (32, .aload_n 0, 1) rfl) rfl rfl (aw_inV (pc' := 36) (nc1 := 0) (ns1 := 0) (nc := nc) (ns := ns) (ls' := [some (.ref 11)]) (y2 := mX10_today) (As := []) (rest := [.ref a1, .null]) (a := 11) (dt_X10_giveNewPiece 17 (33, .invokevirtual 138, 3) rfl) ok_X10_today ln_ReturnDesk_138 im_X10_today se_X10_today pr_X10_today (Or.inl ⟨by decide, rfl⟩) rfl (Nat.le_of_ble_eq_true rfl) (Nat.le_of_ble_eq_true rfl) rfl rfl (sk_11 hS23) (aw_aload_n (pc' := 1) (dt_X10_today 0 (0, .aload_n 0, 1) rfl) rfl rfl (aw_getI (pc' := 4) (dt_X10_today 1 (1, .getfield 114, 3) rfl) fl_ReturnDesk_114 rfl rfl (sk_11 hS23) (aw_bipush (pc' := 6) (v := 24) (dt_X10_today 2 (4, .bipush 24, 2) rfl) (by decide) rfl (aw_idiv (pc' := 7) (dt_X10_today 3 (6, .idiv, 1) rfl) (by decide) rfl (aw_iret (dt_X10_today 4 (7, .ireturn, 1) rfl) rfl rfl (aw_stk (st' := [.int ((zI μ22 11 17) / 24), .ref a1, .null]) rfl ?_))))))))
          exact h.elim
        · intro b28 e27
          have h := h.2 b28 e27
          obtain ⟨g29, h⟩ := h
          refine aw_aload_n (pc' := 32) (dt_X10_giveNewPiece 15 (31, .aload_n 1, 1) rfl) rfl rfl (aw_aload_n (pc' := 33) (dt_X10_giveNewPiece 16 (32, .aload_n 0, 1) rfl) rfl rfl (aw_inV (pc' := 36) (nc1 := 0) (ns1 := 0) (nc := nc) (ns := ns) (ls' := [some (.ref 11)]) (y2 := mX10_today) (As := []) (rest := [.ref a1, .ref b28]) (a := 11) (dt_X10_giveNewPiece 17 (33, .invokevirtual 138, 3) rfl) ok_X10_today ln_ReturnDesk_138 im_X10_today se_X10_today pr_X10_today (Or.inl ⟨by decide, rfl⟩) rfl (Nat.le_of_ble_eq_true rfl) (Nat.le_of_ble_eq_true rfl) rfl rfl (sk_11 hS23) (aw_aload_n (pc' := 1) (dt_X10_today 0 (0, .aload_n 0, 1) rfl) rfl rfl (aw_getI (pc' := 4) (dt_X10_today 1 (1, .getfield 114, 3) rfl) fl_ReturnDesk_114 rfl rfl (sk_11 hS23) (aw_bipush (pc' := 6) (v := 24) (dt_X10_today 2 (4, .bipush 24, 2) rfl) (by decide) rfl (aw_idiv (pc' := 7) (dt_X10_today 3 (6, .idiv, 1) rfl) (by decide) rfl (aw_iret (dt_X10_today 4 (7, .ireturn, 1) rfl) rfl rfl (aw_stk (st' := [.int ((zI μ22 11 17) / 24), .ref a1, .ref b28]) rfl (aw_inV (pc' := 39) (nc1 := 0) (ns1 := 0) (nc := nc) (ns := ns) (ls' := [some (.ref b28), some (.ref a1), some (.int ((zI μ22 11 17) / 24))]) (y2 := mX7_comeBack) (As := [.ref a1, .int ((zI μ22 11 17) / 24)]) (rest := []) (a := b28) (dt_X10_giveNewPiece 18 (36, .invokevirtual 516, 3) rfl) ok_X7_comeBack ln_ReturnDesk_516 im_X7_comeBack se_X7_comeBack pr_X7_comeBack (Or.inl ⟨by decide, rfl⟩) rfl (Nat.le_of_ble_eq_true rfl) (Nat.le_of_ble_eq_true rfl) rfl rfl g29 (aw_aload_n (pc' := 1) (dt_X7_comeBack 0 (0, .aload_n 0, 1) rfl) rfl rfl (aw_iconst (pc' := 2) (v := 2) (dt_X7_comeBack 1 (1, .iconst 2, 1) rfl) (by decide) rfl (aw_putI (pc' := 5) (dt_X7_comeBack 2 (2, .putfield 9, 3) rfl) fl_Sale_9 rfl (by decide +kernel) rfl g29 (aw_aload_n (pc' := 6) (dt_X7_comeBack 3 (5, .aload_n 0, 1) rfl) rfl rfl (aw_iload_n (pc' := 7) (dt_X7_comeBack 4 (6, .iload_n 2, 1) rfl) rfl rfl (aw_putI (pc' := 10) (dt_X7_comeBack 5 (7, .putfield 15, 3) rfl) fl_Sale_15 rfl (by decide +kernel) rfl g29 (aw_aload_n (pc' := 11) (dt_X7_comeBack 6 (10, .aload_n 0, 1) rfl) rfl rfl (aw_aload_n (pc' := 12) (dt_X7_comeBack 7 (11, .aload_n 1, 1) rfl) rfl rfl (aw_putA (pc' := 15) (dt_X7_comeBack 8 (12, .putfield 62, 3) rfl) fl_Sale_62 rfl (by decide +kernel) rfl g29 (aw_aload_n (pc' := 16) (dt_X7_comeBack 9 (15, .aload_n 0, 1) rfl) rfl rfl (aw_iconst (pc' := 17) (v := 1) (dt_X7_comeBack 10 (16, .iconst 1, 1) rfl) (by decide) rfl (aw_putZ (pc' := 20) (dt_X7_comeBack 11 (17, .putfield 66, 3) rfl) fl_Sale_66 rfl (by decide +kernel) rfl g29 (by decide) (aw_ret (dt_X7_comeBack 12 (20, .return_, 1) rfl) rfl (aw_stk (st' := []) rfl (aw_iconst (pc' := 40) (v := 1) (dt_X10_giveNewPiece 19 (39, .iconst 1, 1) rfl) (by decide) rfl (aw_iret (dt_X10_giveNewPiece 20 (40, .ireturn, 1) rfl) rfl rfl ?_)))))))))))))))))))))))))
          exact h
      · intro q25
        have h := h.2 q25
        obtain ⟨g30, h⟩ := h
        refine aw_aload_n (pc' := 15) (dt_X10_giveNewPiece 6 (14, .aload_n 0, 1) rfl) rfl rfl (aw_aload_n (pc' := 16) (dt_X10_giveNewPiece 7 (15, .aload_n 1, 1) rfl) rfl rfl (aw_aload_n (pc' := 17) (dt_X10_giveNewPiece 8 (16, .aload_n 1, 1) rfl) rfl rfl (aw_getA (pc' := 20) (dt_X10_giveNewPiece 9 (17, .getfield 271, 3) rfl) fl_ReturnDesk_271 rfl rfl g30 ?_ ?_)))
        · intro e31
          have h := h.1 e31
          exact h.elim
        · intro b32 e31
          have h := h.2 b32 e31
          obtain ⟨g33, h⟩ := h
          refine aw_getI (pc' := 23) (dt_X10_giveNewPiece 10 (20, .getfield 145, 3) rfl) fl_ReturnDesk_145 rfl rfl g33 (aw_callV0 (pc' := 26) (nc := nc) (ns := ns) (y2 := mX10_giveNote) (As := [.ref a1, .int (zI μ22 b32 9)]) (rest := []) (a := 11) (dt_X10_giveNewPiece 11 (23, .invokevirtual 499, 3) rfl) ok_X10_giveNote ln_ReturnDesk_499 im_X10_giveNote se_X10_giveNote pr_X10_giveNote (Or.inl ⟨by decide, rfl⟩) rfl (Nat.le_of_ble_eq_true rfl) (Nat.le_of_ble_eq_true rfl) rfl (sk_11 hS23) h ?_)
          rintro v μ34 ⟨r36, rfl, hS35, h⟩
          refine aw_stk (st' := [.int r36]) rfl ?_
          refine aw_iret (dt_X10_giveNewPiece 12 (26, .ireturn, 1) rfl) rfl rfl ?_
          exact h

theorem t_X10_takeNewPiece {E : ZE} {l : Launch} {d nc ns : Nat} {a1 : Nat} {μ : ZM} {K : Option Value → ZM → Prop} (hS : Stat μ) (h :
  AW E l d nc ns mX10_takeNewPiece 2 [some (.ref 11), some (.ref a1), some (.int 0)] [] μ K) : AW E l d nc ns mX10_takeNewPiece 0 [some (.ref 11), some (.ref a1), none] [] μ K := by
  refine aw_iconst (pc' := 1) (v := 0) (dt_X10_takeNewPiece 0 (0, .iconst 0, 1) rfl) (by decide) rfl (aw_istore_n (pc' := 2) (ls' := [some (.ref 11), some (.ref a1), some (.int 0)]) (dt_X10_takeNewPiece 1 (1, .istore_n 2, 1) rfl) (by decide) rfl rfl ?_)
  exact h

theorem t_X10_takeNewPiece_2 {E : ZE} {l : Launch} {d nc ns : Nat} {a1 : Nat} {x2 : Int32} {μ : ZM} {K : Option Value → ZM → Prop} (hS : Stat μ) (h :
  ((zI μ 11 13) ≤ x2 →
    (zK μ a1 = 4) ∧
    (0 < (zI μ a1 7) →
      K (some (.int 1)) (sI μ a1 7 ((zI μ a1 7) - 1))) ∧
    (¬ 0 < (zI μ a1 7) →
      K (some (.int 0)) μ)) ∧
  (¬ (zI μ 11 13) ≤ x2 →
    (vp_in x2 60) ∧
    (zA μ 13 x2.toNatClampNeg = none →
      False) ∧
    (∀ b6, zA μ 13 x2.toNatClampNeg = some b6 →
      (zK μ b6 = 2) ∧
      (zA μ b6 1 = none →
        False) ∧
      (∀ b9, zA μ b6 1 = some b9 →
        (11 ≤ b9) ∧
        (11 ≤ a1) ∧
        (¬ b9 = a1 →
          AW E l d nc ns mX10_takeNewPiece 2 [some (.ref 11), some (.ref a1), some (.int (x2 + 1))] [] μ K) ∧
        (b9 = a1 →
          (vp_in x2 60) ∧
          ((zI μ b6 2) ≤ 0 →
            AW E l d nc ns mX10_takeNewPiece 2 [some (.ref 11), some (.ref a1), some (.int (x2 + 1))] [] μ K) ∧
          (¬ (zI μ b6 2) ≤ 0 →
            (vp_in x2 60) ∧
            K (some (.int 1)) (sI μ b6 2 ((zI μ b6 2) - 1)))))))) : AW E l d nc ns mX10_takeNewPiece 2 [some (.ref 11), some (.ref a1), some (.int x2)] [] μ K := by
  refine aw_iload_n (pc' := 3) (dt_X10_takeNewPiece 2 (2, .iload_n 2, 1) rfl) rfl rfl (aw_aload_n (pc' := 4) (dt_X10_takeNewPiece 3 (3, .aload_n 0, 1) rfl) rfl rfl (aw_getI (pc' := 7) (dt_X10_takeNewPiece 4 (4, .getfield 107, 3) rfl) fl_ReturnDesk_107 rfl rfl (sk_11 hS) (aw_icmp_ge (pc' := 10) (tgt := 58) (dt_X10_takeNewPiece 5 (7, .if_icmp .ge 51, 3) rfl) (by decide) rfl ?_ ?_)))
  · intro q1
    have h := h.1 q1
    obtain ⟨g2, h⟩ := h
    refine aw_aload_n (pc' := 59) (dt_X10_takeNewPiece 32 (58, .aload_n 1, 1) rfl) rfl rfl (aw_getI (pc' := 62) (dt_X10_takeNewPiece 33 (59, .getfield 326, 3) rfl) fl_ReturnDesk_326 rfl rfl g2 (aw_if_gt (pc' := 65) (tgt := 67) (dt_X10_takeNewPiece 34 (62, .ifCond .gt 5, 3) rfl) (by decide) rfl ?_ ?_))
    · intro q3
      have h := h.1 q3
      refine aw_aload_n (pc' := 68) (dt_X10_takeNewPiece 37 (67, .aload_n 1, 1) rfl) rfl rfl (aw_dup (pc' := 69) (dt_X10_takeNewPiece 38 (68, .dup, 1) rfl) rfl rfl (aw_getI (pc' := 72) (dt_X10_takeNewPiece 39 (69, .getfield 326, 3) rfl) fl_ReturnDesk_326 rfl rfl g2 (aw_iconst (pc' := 73) (v := 1) (dt_X10_takeNewPiece 40 (72, .iconst 1, 1) rfl) (by decide) rfl (aw_isub (pc' := 74) (dt_X10_takeNewPiece 41 (73, .isub, 1) rfl) rfl (aw_putI (pc' := 77) (dt_X10_takeNewPiece 42 (74, .putfield 326, 3) rfl) fl_ReturnDesk_326 rfl (by decide +kernel) rfl g2 (aw_iconst (pc' := 78) (v := 1) (dt_X10_takeNewPiece 43 (77, .iconst 1, 1) rfl) (by decide) rfl (aw_iret (dt_X10_takeNewPiece 44 (78, .ireturn, 1) rfl) rfl rfl ?_)))))))
      exact h
    · intro q3
      have h := h.2 q3
      refine aw_iconst (pc' := 66) (v := 0) (dt_X10_takeNewPiece 35 (65, .iconst 0, 1) rfl) (by decide) rfl (aw_iret (dt_X10_takeNewPiece 36 (66, .ireturn, 1) rfl) rfl rfl ?_)
      exact h
  · intro q1
    have h := h.2 q1
    obtain ⟨g4, h⟩ := h
    refine aw_aload_n (pc' := 11) (dt_X10_takeNewPiece 6 (10, .aload_n 0, 1) rfl) rfl rfl (aw_getAs (pc' := 14) (dt_X10_takeNewPiece 7 (11, .getfield 17, 3) rfl) fl_ReturnDesk_17 rfl rfl (sk_11 hS) (sa_11_1 hS) (aw_iload_n (pc' := 15) (dt_X10_takeNewPiece 8 (14, .iload_n 2, 1) rfl) rfl rfl (aw_aald (pc' := 16) (dt_X10_takeNewPiece 9 (15, .aaload, 1) rfl) (by decide) (by decide) rfl (sk_13 hS) (vin_eq (sl_13 hS) g4) ?_ ?_)))
    · intro e5
      have h := h.1 e5
      exact h.elim
    · intro b6 e5
      have h := h.2 b6 e5
      obtain ⟨g7, h⟩ := h
      refine aw_getA (pc' := 19) (dt_X10_takeNewPiece 10 (16, .getfield 134, 3) rfl) fl_ReturnDesk_134 rfl rfl g7 ?_ ?_
      · intro e8
        have h := h.1 e8
        refine aw_aload_n (pc' := 20) (dt_X10_takeNewPiece 11 (19, .aload_n 1, 1) rfl) rfl rfl ?_
        exact h.elim
      · intro b9 e8
        have h := h.2 b9 e8
        obtain ⟨g10, h⟩ := h
        obtain ⟨g11, h⟩ := h
        refine aw_aload_n (pc' := 20) (dt_X10_takeNewPiece 11 (19, .aload_n 1, 1) rfl) rfl rfl (aw_acmp_ne (pc' := 23) (tgt := 52) (dt_X10_takeNewPiece 12 (20, .if_acmp .ne 32, 3) rfl) (by decide) rfl g10 g11 ?_ ?_)
        · intro q12
          have h := h.1 q12
          refine aw_iinc (pc' := 55) (v := 1) (ls' := [some (.ref 11), some (.ref a1), some (.int (x2 + 1))]) (dt_X10_takeNewPiece 30 (52, .iinc 2 1, 3) rfl) rfl (by decide) (by decide) rfl rfl (aw_goto (tgt := 2) (dt_X10_takeNewPiece 31 (55, .goto (-53), 3) rfl) (by decide) ?_)
          exact h
        · intro q12
          have h := h.2 q12
          obtain ⟨g13, h⟩ := h
          refine aw_aload_n (pc' := 24) (dt_X10_takeNewPiece 13 (23, .aload_n 0, 1) rfl) rfl rfl (aw_getAs (pc' := 27) (dt_X10_takeNewPiece 14 (24, .getfield 17, 3) rfl) fl_ReturnDesk_17 rfl rfl (sk_11 hS) (sa_11_1 hS) (aw_iload_n (pc' := 28) (dt_X10_takeNewPiece 15 (27, .iload_n 2, 1) rfl) rfl rfl (aw_aalds (pc' := 29) (dt_X10_takeNewPiece 16 (28, .aaload, 1) rfl) (by decide) (by decide) rfl (sk_13 hS) (vin_eq (sl_13 hS) g13) e5 (aw_getI (pc' := 32) (dt_X10_takeNewPiece 17 (29, .getfield 128, 3) rfl) fl_ReturnDesk_128 rfl rfl g7 (aw_if_le (pc' := 35) (tgt := 52) (dt_X10_takeNewPiece 18 (32, .ifCond .le 20, 3) rfl) (by decide) rfl ?_ ?_)))))
          · intro q14
            have h := h.1 q14
            refine aw_iinc (pc' := 55) (v := 1) (ls' := [some (.ref 11), some (.ref a1), some (.int (x2 + 1))]) (dt_X10_takeNewPiece 30 (52, .iinc 2 1, 3) rfl) rfl (by decide) (by decide) rfl rfl (aw_goto (tgt := 2) (dt_X10_takeNewPiece 31 (55, .goto (-53), 3) rfl) (by decide) ?_)
            exact h
          · intro q14
            have h := h.2 q14
            obtain ⟨g15, h⟩ := h
            refine aw_aload_n (pc' := 36) (dt_X10_takeNewPiece 19 (35, .aload_n 0, 1) rfl) rfl rfl (aw_getAs (pc' := 39) (dt_X10_takeNewPiece 20 (36, .getfield 17, 3) rfl) fl_ReturnDesk_17 rfl rfl (sk_11 hS) (sa_11_1 hS) (aw_iload_n (pc' := 40) (dt_X10_takeNewPiece 21 (39, .iload_n 2, 1) rfl) rfl rfl (aw_aalds (pc' := 41) (dt_X10_takeNewPiece 22 (40, .aaload, 1) rfl) (by decide) (by decide) rfl (sk_13 hS) (vin_eq (sl_13 hS) g15) e5 (aw_dup (pc' := 42) (dt_X10_takeNewPiece 23 (41, .dup, 1) rfl) rfl rfl (aw_getI (pc' := 45) (dt_X10_takeNewPiece 24 (42, .getfield 128, 3) rfl) fl_ReturnDesk_128 rfl rfl g7 (aw_iconst (pc' := 46) (v := 1) (dt_X10_takeNewPiece 25 (45, .iconst 1, 1) rfl) (by decide) rfl (aw_isub (pc' := 47) (dt_X10_takeNewPiece 26 (46, .isub, 1) rfl) rfl (aw_putI (pc' := 50) (dt_X10_takeNewPiece 27 (47, .putfield 128, 3) rfl) fl_ReturnDesk_128 rfl (by decide +kernel) rfl g7 (aw_iconst (pc' := 51) (v := 1) (dt_X10_takeNewPiece 28 (50, .iconst 1, 1) rfl) (by decide) rfl (aw_iret (dt_X10_takeNewPiece 29 (51, .ireturn, 1) rfl) rfl rfl ?_))))))))))
            exact h

theorem t_X10_mendForBuyer {E : ZE} {l : Launch} {d nc ns : Nat} {a1 : Nat} {μ : ZM} {K : Option Value → ZM → Prop} (hS : Stat μ) (h :
  (zK μ a1 = 7) ∧
  (zA μ a1 1 = none →
    False) ∧
  (∀ b3, zA μ a1 1 = some b3 →
    (zK μ b3 = 4) ∧
    ((zI μ b3 3) ≤ (zI μ 17 2) →
      ∀ μ6, μ6 = (sI (sI (sI μ 17 2 ((zI μ 17 2) - (zI μ b3 3))) 17 4 ((zI (sI μ 17 2 ((zI μ 17 2) - (zI μ b3 3))) 17 4) + (zI μ b3 3))) b3 10 ((zI (sI (sI μ 17 2 ((zI μ 17 2) - (zI μ b3 3))) 17 4 ((zI (sI μ 17 2 ((zI μ 17 2) - (zI μ b3 3))) 17 4) + (zI μ b3 3))) b3 10) + 1)) →
      K (some (.int 1)) (sI μ6 a1 11 0)) ∧
    (¬ (zI μ b3 3) ≤ (zI μ 17 2) →
      K (some (.int (-2))) μ))) : AW E l (d + 1) nc ns mX10_mendForBuyer 0 [some (.ref 11), some (.ref a1)] [] μ K := by
  obtain ⟨g1, h⟩ := h
  refine aw_aload_n (pc' := 1) (dt_X10_mendForBuyer 0 (0, .aload_n 0, 1) rfl) rfl rfl (aw_getAs (pc' := 4) (dt_X10_mendForBuyer 1 (1, .getfield 42, 3) rfl) fl_ReturnDesk_42 rfl rfl (sk_11 hS) (sa_11_5 hS) (aw_aload_n (pc' := 5) (dt_X10_mendForBuyer 2 (4, .aload_n 1, 1) rfl) rfl rfl (aw_getA (pc' := 8) (dt_X10_mendForBuyer 3 (5, .getfield 163, 3) rfl) fl_ReturnDesk_163 rfl rfl g1 ?_ ?_)))
  · intro e2
    have h := h.1 e2
    exact h.elim
  · intro b3 e2
    have h := h.2 b3 e2
    obtain ⟨g4, h⟩ := h
    refine aw_getI (pc' := 11) (dt_X10_mendForBuyer 4 (8, .getfield 356, 3) rfl) fl_ReturnDesk_356 rfl rfl g4 (aw_inV (pc' := 14) (nc1 := 0) (ns1 := 0) (nc := nc) (ns := ns) (ls' := [some (.ref 17), some (.int (zI μ b3 3))]) (y2 := mX5_spendOnMending) (As := [.int (zI μ b3 3)]) (rest := []) (a := 17) (dt_X10_mendForBuyer 5 (11, .invokevirtual 359, 3) rfl) ok_X5_spendOnMending ln_ReturnDesk_359 im_X5_spendOnMending se_X5_spendOnMending pr_X5_spendOnMending (Or.inl ⟨by decide, rfl⟩) rfl (Nat.le_of_ble_eq_true rfl) (Nat.le_of_ble_eq_true rfl) rfl rfl (sk_17 hS) (aw_aload_n (pc' := 1) (dt_X5_spendOnMending 0 (0, .aload_n 0, 1) rfl) rfl rfl (aw_getI (pc' := 4) (dt_X5_spendOnMending 1 (1, .getfield 29, 3) rfl) fl_Purse_29 rfl rfl (sk_17 hS) (aw_iload_n (pc' := 5) (dt_X5_spendOnMending 2 (4, .iload_n 1, 1) rfl) rfl rfl (aw_icmp_ge (pc' := 8) (tgt := 10) (dt_X5_spendOnMending 3 (5, .if_icmp .ge 5, 3) rfl) (by decide) rfl ?_ ?_)))))
    · intro q5
      have h := h.1 q5
      refine aw_aload_n (pc' := 11) (dt_X5_spendOnMending 6 (10, .aload_n 0, 1) rfl) rfl rfl (aw_dup (pc' := 12) (dt_X5_spendOnMending 7 (11, .dup, 1) rfl) rfl rfl (aw_getI (pc' := 15) (dt_X5_spendOnMending 8 (12, .getfield 29, 3) rfl) fl_Purse_29 rfl rfl (sk_17 hS) (aw_iload_n (pc' := 16) (dt_X5_spendOnMending 9 (15, .iload_n 1, 1) rfl) rfl rfl (aw_isub (pc' := 17) (dt_X5_spendOnMending 10 (16, .isub, 1) rfl) rfl (aw_putI (pc' := 20) (dt_X5_spendOnMending 11 (17, .putfield 29, 3) rfl) fl_Purse_29 rfl (by decide +kernel) rfl (sk_17 hS) (aw_aload_n (pc' := 21) (dt_X5_spendOnMending 12 (20, .aload_n 0, 1) rfl) rfl rfl (aw_dup (pc' := 22) (dt_X5_spendOnMending 13 (21, .dup, 1) rfl) rfl rfl (aw_getI (pc' := 25) (dt_X5_spendOnMending 14 (22, .getfield 35, 3) rfl) fl_Purse_35 rfl rfl (sk_17 hS.wI) (aw_iload_n (pc' := 26) (dt_X5_spendOnMending 15 (25, .iload_n 1, 1) rfl) rfl rfl (aw_iadd (pc' := 27) (dt_X5_spendOnMending 16 (26, .iadd, 1) rfl) rfl (aw_putI (pc' := 30) (dt_X5_spendOnMending 17 (27, .putfield 35, 3) rfl) fl_Purse_35 rfl (by decide +kernel) rfl (sk_17 hS.wI) (aw_iconst (pc' := 31) (v := 1) (dt_X5_spendOnMending 18 (30, .iconst 1, 1) rfl) (by decide) rfl (aw_iret (dt_X5_spendOnMending 19 (31, .ireturn, 1) rfl) rfl rfl (aw_stk (st' := [.int 1]) rfl (aw_if_ne_T (pc' := 17) (tgt := 20) (dt_X10_mendForBuyer 6 (14, .ifCond .ne 6, 3) rfl) (by decide) rfl (by decide) (aw_aload_n (pc' := 21) (dt_X10_mendForBuyer 9 (20, .aload_n 1, 1) rfl) rfl rfl (aw_getAs (pc' := 24) (dt_X10_mendForBuyer 10 (21, .getfield 163, 3) rfl) fl_ReturnDesk_163 rfl rfl g1 e2 (aw_dup (pc' := 25) (dt_X10_mendForBuyer 11 (24, .dup, 1) rfl) rfl rfl (aw_getI (pc' := 28) (dt_X10_mendForBuyer 12 (25, .getfield 343, 3) rfl) fl_ReturnDesk_343 rfl rfl g4 (aw_iconst (pc' := 29) (v := 1) (dt_X10_mendForBuyer 13 (28, .iconst 1, 1) rfl) (by decide) rfl (aw_iadd (pc' := 30) (dt_X10_mendForBuyer 14 (29, .iadd, 1) rfl) rfl (aw_putI (pc' := 33) (dt_X10_mendForBuyer 15 (30, .putfield 343, 3) rfl) fl_ReturnDesk_343 rfl (by decide +kernel) rfl g4 ?_))))))))))))))))))))))
      refine aw_mem (fun μ6 eμ7 => ?_)
      have h := h μ6 eμ7
      have hS8 : Stat μ6 := by rw [eμ7]; exact hS.wI.wI.wI
      have k9 : zK μ6 a1 = 7 := by rw [eμ7]; exact g1
      have k10 : zK μ6 b3 = 4 := by rw [eμ7]; exact g4
      have e11 : zA μ6 a1 1 = some b3 := by rw [eμ7]; exact e2
      refine aw_aload_n (pc' := 34) (dt_X10_mendForBuyer 16 (33, .aload_n 1, 1) rfl) rfl rfl (aw_iconst (pc' := 35) (v := 0) (dt_X10_mendForBuyer 17 (34, .iconst 0, 1) rfl) (by decide) rfl (aw_putI (pc' := 38) (dt_X10_mendForBuyer 18 (35, .putfield 160, 3) rfl) fl_ReturnDesk_160 rfl (by decide +kernel) rfl k9 (aw_iconst (pc' := 39) (v := 1) (dt_X10_mendForBuyer 19 (38, .iconst 1, 1) rfl) (by decide) rfl (aw_iret (dt_X10_mendForBuyer 20 (39, .ireturn, 1) rfl) rfl rfl ?_))))
      exact h
    · intro q5
      have h := h.2 q5
      refine aw_iconst (pc' := 9) (v := 0) (dt_X5_spendOnMending 4 (8, .iconst 0, 1) rfl) (by decide) rfl (aw_iret (dt_X5_spendOnMending 5 (9, .ireturn, 1) rfl) rfl rfl (aw_stk (st' := [.int 0]) rfl (aw_if_ne_F (pc' := 17) (tgt := 20) (dt_X10_mendForBuyer 6 (14, .ifCond .ne 6, 3) rfl) (by decide) rfl (by decide) (aw_bipush (pc' := 19) (v := (-2)) (dt_X10_mendForBuyer 7 (17, .bipush (-2), 2) rfl) (by decide) rfl (aw_iret (dt_X10_mendForBuyer 8 (19, .ireturn, 1) rfl) rfl rfl ?_)))))
      exact h

theorem t_X10_usedWorth {E : ZE} {l : Launch} {d nc ns : Nat} {a1 : Nat} {μ : ZM} {K : Option Value → ZM → Prop} (hS : Stat μ) (h :
  (zK μ a1 = 7) ∧
  (zA μ a1 1 = none →
    False) ∧
  (∀ b3, zA μ a1 1 = some b3 →
    (zK μ b3 = 4) ∧
    AW E l d 0 0 mX4_priceFor 0 (zargs 5 [.ref b3, .int ((zI μ 11 17) / 24)]) [] μ (fun v μ5 => ∃ r7 : Int32, v = some (.int r7) ∧ Stat μ5 ∧ 
      (zK μ5 a1 = 7) ∧
      (zA μ5 a1 18 = none →
        K (some (.int ((r7 * (90 - ((8 : Int32) * 0))) / 100))) μ5) ∧
      (∀ b10, zA μ5 a1 18 = some b10 →
        (zK μ5 b10 = 0) ∧
        K (some (.int ((r7 * (90 - (8 * (zI μ5 b10 8)))) / 100))) μ5)))) : AW E l (d + 1) nc ns mX10_usedWorth 0 [some (.ref 11), some (.ref a1)] [] μ K := by
  obtain ⟨g1, h⟩ := h
  refine aw_aload_n (pc' := 1) (dt_X10_usedWorth 0 (0, .aload_n 1, 1) rfl) rfl rfl (aw_getA (pc' := 4) (dt_X10_usedWorth 1 (1, .getfield 163, 3) rfl) fl_ReturnDesk_163 rfl rfl g1 ?_ ?_)
  · intro e2
    have h := h.1 e2
    refine aw_aload_n (pc' := 5) (dt_X10_usedWorth 2 (4, .aload_n 0, 1) rfl) rfl rfl (aw_inV (pc' := 8) (nc1 := 0) (ns1 := 0) (nc := nc) (ns := ns) (ls' := [some (.ref 11)]) (y2 := mX10_today) (As := []) (rest := [.null]) (a := 11) (dt_X10_usedWorth 3 (5, .invokevirtual 138, 3) rfl) ok_X10_today ln_ReturnDesk_138 im_X10_today se_X10_today pr_X10_today (Or.inl ⟨by decide, rfl⟩) rfl (Nat.le_of_ble_eq_true rfl) (Nat.le_of_ble_eq_true rfl) rfl rfl (sk_11 hS) (aw_aload_n (pc' := 1) (dt_X10_today 0 (0, .aload_n 0, 1) rfl) rfl rfl (aw_getI (pc' := 4) (dt_X10_today 1 (1, .getfield 114, 3) rfl) fl_ReturnDesk_114 rfl rfl (sk_11 hS) (aw_bipush (pc' := 6) (v := 24) (dt_X10_today 2 (4, .bipush 24, 2) rfl) (by decide) rfl (aw_idiv (pc' := 7) (dt_X10_today 3 (6, .idiv, 1) rfl) (by decide) rfl (aw_iret (dt_X10_today 4 (7, .ireturn, 1) rfl) rfl rfl (aw_stk (st' := [.int ((zI μ 11 17) / 24), .null]) rfl ?_)))))))
    exact h.elim
  · intro b3 e2
    have h := h.2 b3 e2
    obtain ⟨g4, h⟩ := h
    refine aw_aload_n (pc' := 5) (dt_X10_usedWorth 2 (4, .aload_n 0, 1) rfl) rfl rfl (aw_inV (pc' := 8) (nc1 := 0) (ns1 := 0) (nc := nc) (ns := ns) (ls' := [some (.ref 11)]) (y2 := mX10_today) (As := []) (rest := [.ref b3]) (a := 11) (dt_X10_usedWorth 3 (5, .invokevirtual 138, 3) rfl) ok_X10_today ln_ReturnDesk_138 im_X10_today se_X10_today pr_X10_today (Or.inl ⟨by decide, rfl⟩) rfl (Nat.le_of_ble_eq_true rfl) (Nat.le_of_ble_eq_true rfl) rfl rfl (sk_11 hS) (aw_aload_n (pc' := 1) (dt_X10_today 0 (0, .aload_n 0, 1) rfl) rfl rfl (aw_getI (pc' := 4) (dt_X10_today 1 (1, .getfield 114, 3) rfl) fl_ReturnDesk_114 rfl rfl (sk_11 hS) (aw_bipush (pc' := 6) (v := 24) (dt_X10_today 2 (4, .bipush 24, 2) rfl) (by decide) rfl (aw_idiv (pc' := 7) (dt_X10_today 3 (6, .idiv, 1) rfl) (by decide) rfl (aw_iret (dt_X10_today 4 (7, .ireturn, 1) rfl) rfl rfl (aw_stk (st' := [.int ((zI μ 11 17) / 24), .ref b3]) rfl (aw_callV0 (pc' := 11) (nc := nc) (ns := ns) (y2 := mX4_priceFor) (As := [.int ((zI μ 11 17) / 24)]) (rest := []) (a := b3) (dt_X10_usedWorth 4 (8, .invokevirtual 103, 3) rfl) ok_X4_priceFor ln_ReturnDesk_103 im_X4_priceFor se_X4_priceFor pr_X4_priceFor (Or.inl ⟨by decide, rfl⟩) rfl (Nat.le_of_ble_eq_true rfl) (Nat.le_of_ble_eq_true rfl) rfl g4 h ?_))))))))
    rintro v μ5 ⟨r7, rfl, hS6, h⟩
    refine aw_stk (st' := [.int r7]) rfl ?_
    obtain ⟨g8, h⟩ := h
    refine aw_bipush (pc' := 13) (v := 90) (dt_X10_usedWorth 5 (11, .bipush 90, 2) rfl) (by decide) rfl (aw_bipush (pc' := 15) (v := 8) (dt_X10_usedWorth 6 (13, .bipush 8, 2) rfl) (by decide) rfl (aw_aload_n (pc' := 16) (dt_X10_usedWorth 7 (15, .aload_n 1, 1) rfl) rfl rfl (aw_inV (pc' := 19) (nc1 := 0) (ns1 := 0) (nc := nc) (ns := ns) (ls' := [some (.ref a1)]) (y2 := mX7_worn) (As := []) (rest := [.int 8, .int 90, .int r7]) (a := a1) (dt_X10_usedWorth 8 (16, .invokevirtual 526, 3) rfl) ok_X7_worn ln_ReturnDesk_526 im_X7_worn se_X7_worn pr_X7_worn (Or.inl ⟨by decide, rfl⟩) rfl (Nat.le_of_ble_eq_true rfl) (Nat.le_of_ble_eq_true rfl) rfl rfl g8 (aw_aload_n (pc' := 1) (dt_X7_worn 0 (0, .aload_n 0, 1) rfl) rfl rfl (aw_getA (pc' := 4) (dt_X7_worn 1 (1, .getfield 62, 3) rfl) fl_Sale_62 rfl rfl g8 ?_ ?_)))))
    · intro e9
      have h := h.1 e9
      refine aw_ifnonnullN (pc' := 7) (dt_X7_worn 2 (4, .ifnonnull 7, 3) rfl) rfl (aw_iconst (pc' := 8) (v := 0) (dt_X7_worn 3 (7, .iconst 0, 1) rfl) (by decide) rfl (aw_goto (tgt := 18) (dt_X7_worn 4 (8, .goto 10, 3) rfl) (by decide) (aw_iret (dt_X7_worn 8 (18, .ireturn, 1) rfl) rfl rfl (aw_stk (st' := [.int 0, .int 8, .int 90, .int r7]) rfl (aw_imul (pc' := 20) (dt_X10_usedWorth 9 (19, .imul, 1) rfl) rfl (aw_isub (pc' := 21) (dt_X10_usedWorth 10 (20, .isub, 1) rfl) rfl (aw_imul (pc' := 22) (dt_X10_usedWorth 11 (21, .imul, 1) rfl) rfl (aw_bipush (pc' := 24) (v := 100) (dt_X10_usedWorth 12 (22, .bipush 100, 2) rfl) (by decide) rfl (aw_idiv (pc' := 25) (dt_X10_usedWorth 13 (24, .idiv, 1) rfl) (by decide) rfl (aw_iret (dt_X10_usedWorth 14 (25, .ireturn, 1) rfl) rfl rfl ?_))))))))))
      exact h
    · intro b10 e9
      have h := h.2 b10 e9
      obtain ⟨g11, h⟩ := h
      refine aw_ifnonnull (tgt := 11) (dt_X7_worn 2 (4, .ifnonnull 7, 3) rfl) (by decide) (aw_aload_n (pc' := 12) (dt_X7_worn 5 (11, .aload_n 0, 1) rfl) rfl rfl (aw_getAs (pc' := 15) (dt_X7_worn 6 (12, .getfield 62, 3) rfl) fl_Sale_62 rfl rfl g8 e9 (aw_getI (pc' := 18) (dt_X7_worn 7 (15, .getfield 70, 3) rfl) fl_Sale_70 rfl rfl g11 (aw_iret (dt_X7_worn 8 (18, .ireturn, 1) rfl) rfl rfl (aw_stk (st' := [.int (zI μ5 b10 8), .int 8, .int 90, .int r7]) rfl (aw_imul (pc' := 20) (dt_X10_usedWorth 9 (19, .imul, 1) rfl) rfl (aw_isub (pc' := 21) (dt_X10_usedWorth 10 (20, .isub, 1) rfl) rfl (aw_imul (pc' := 22) (dt_X10_usedWorth 11 (21, .imul, 1) rfl) rfl (aw_bipush (pc' := 24) (v := 100) (dt_X10_usedWorth 12 (22, .bipush 100, 2) rfl) (by decide) rfl (aw_idiv (pc' := 25) (dt_X10_usedWorth 13 (24, .idiv, 1) rfl) (by decide) rfl (aw_iret (dt_X10_usedWorth 14 (25, .ireturn, 1) rfl) rfl rfl ?_)))))))))))
      exact h

theorem t_X10_worthNow {E : ZE} {l : Launch} {d nc ns : Nat} {a1 : Nat} {x2 : Int32} {μ : ZM} {K : Option Value → ZM → Prop} (hS : Stat μ) (h :
  (x2 = 0 →
    (zK μ a1 = 7) ∧
    (zA μ a1 18 = none →
      K (some (.int (-2000000000))) μ) ∧
    (∀ b4, zA μ a1 18 = some b4 →
      (zK μ b4 = 0) ∧
      (¬ (zI μ b4 8) = 0 →
        K (some (.int (-2000000000))) μ) ∧
      ((zI μ b4 8) = 0 →
        (¬ (zI μ b4 10) = 0 →
          K (some (.int (-2000000000))) μ) ∧
        ((zI μ b4 10) = 0 →
          ((zI μ b4 5) = 1 →
            K (some (.int (-2000000000))) μ) ∧
          (¬ (zI μ b4 5) = 1 →
            ((zI μ b4 12) = 0 →
              (zA μ a1 1 = none →
                False) ∧
              (∀ b11, zA μ a1 1 = some b11 →
                (zK μ b11 = 4) ∧
                AW E l (d + 1) 0 0 mX4_priceFor 0 (zargs 5 [.ref b11, .int ((zI μ 11 17) / 24)]) [] μ (fun v μ13 => ∃ r15 : Int32, v = some (.int r15) ∧ Stat μ13 ∧ 
                  K (some (.int r15)) μ13))) ∧
            (¬ (zI μ b4 12) = 0 →
              K (some (.int (-2000000000))) μ)))))) ∧
  (x2 = 1 →
    (zK μ a1 = 7) ∧
    (zA μ a1 18 = none →
      AW E l (d + 1) 0 0 mX10_usedWorth 0 (zargs 2 [.ref 11, .ref a1]) [] μ (fun v μ20 => ∃ r22 : Int32, v = some (.int r22) ∧ Stat μ20 ∧ 
        K (some (.int r22)) μ20)) ∧
    (∀ b19, zA μ a1 18 = some b19 →
      (zK μ b19 = 0) ∧
      ((zI μ b19 5) = 1 →
        K (some (.int (-2000000000))) μ) ∧
      (¬ (zI μ b19 5) = 1 →
        ((zI μ b19 12) = 0 →
          AW E l (d + 1) 0 0 mX10_usedWorth 0 (zargs 2 [.ref 11, .ref a1]) [] μ (fun v μ26 => ∃ r28 : Int32, v = some (.int r28) ∧ Stat μ26 ∧ 
            K (some (.int r28)) μ26)) ∧
        (¬ (zI μ b19 12) = 0 →
          K (some (.int (-2000000000))) μ)))) ∧
  (x2 = 2 →
    AW E l (d + 1) 0 0 mX10_usedWorth 0 (zargs 2 [.ref 11, .ref a1]) [] μ (fun v μ30 => ∃ r32 : Int32, v = some (.int r32) ∧ Stat μ30 ∧ 
      (zK μ30 a1 = 7) ∧
      (zA μ30 a1 1 = none →
        False) ∧
      (∀ b35, zA μ30 a1 1 = some b35 →
        (zK μ30 b35 = 4) ∧
        K (some (.int (r32 - (zI μ30 b35 3)))) μ30))) ∧
  (x2 = 3 →
    (zK μ a1 = 7) ∧
    (zA μ a1 1 = none →
      False) ∧
    (∀ b40, zA μ a1 1 = some b40 →
      (zK μ b40 = 4) ∧
      K (some (.int ((zI μ b40 2) / 100))) μ)) ∧
  ((¬ x2 = 0 ∧ ¬ x2 = 1 ∧ ¬ x2 = 2 ∧ ¬ x2 = 3) →
  K (some (.int (-2000000000))) μ)) : AW E l (d + 2) nc ns mX10_worthNow 0 [some (.ref 11), some (.ref a1), some (.int x2)] [] μ K := by
  refine aw_iload_n (pc' := 1) (dt_X10_worthNow 0 (0, .iload_n 2, 1) rfl) rfl rfl ?_
  by_cases q1 : x2 = 0
  · have h := h.1 q1
    refine aw_tableE (tgt := 32) (off := 31) (dt_X10_worthNow 1 (1, .tableswitch 95 0 3 #[31, 55, 73, 87], 31) rfl) q1 (by decide) (by decide) (by decide) (by decide) ?_
    obtain ⟨g2, h⟩ := h
    refine aw_aload_n (pc' := 33) (dt_X10_worthNow 2 (32, .aload_n 1, 1) rfl) rfl rfl (aw_inV (pc' := 36) (nc1 := 0) (ns1 := 0) (nc := nc) (ns := ns) (ls' := [some (.ref a1)]) (y2 := mX7_isLikeNew) (As := []) (rest := []) (a := a1) (dt_X10_worthNow 3 (33, .invokevirtual 529, 3) rfl) ok_X7_isLikeNew ln_ReturnDesk_529 im_X7_isLikeNew se_X7_isLikeNew pr_X7_isLikeNew (Or.inl ⟨by decide, rfl⟩) rfl (Nat.le_of_ble_eq_true rfl) (Nat.le_of_ble_eq_true rfl) rfl rfl g2 (aw_aload_n (pc' := 1) (dt_X7_isLikeNew 0 (0, .aload_n 0, 1) rfl) rfl rfl (aw_getA (pc' := 4) (dt_X7_isLikeNew 1 (1, .getfield 62, 3) rfl) fl_Sale_62 rfl rfl g2 ?_ ?_)))
    · intro e3
      have h := h.1 e3
      refine aw_ifnullN (tgt := 38) (dt_X7_isLikeNew 2 (4, .ifnull 34, 3) rfl) (by decide) (aw_iconst (pc' := 39) (v := 0) (dt_X7_isLikeNew 16 (38, .iconst 0, 1) rfl) (by decide) rfl (aw_iret (dt_X7_isLikeNew 17 (39, .ireturn, 1) rfl) rfl rfl (aw_stk (st' := [.int 0]) rfl (aw_if_eq_T (pc' := 39) (tgt := 53) (dt_X10_worthNow 4 (36, .ifCond .eq 17, 3) rfl) (by decide) rfl (by decide) (aw_ldc (pc' := 55) (dt_X10_worthNow 11 (53, .ldc 159, 2) rfl) ct_ReturnDesk_159 rfl (aw_iret (dt_X10_worthNow 12 (55, .ireturn, 1) rfl) rfl rfl ?_))))))
      exact h
    · intro b4 e3
      have h := h.2 b4 e3
      obtain ⟨g5, h⟩ := h
      refine aw_ifnull (pc' := 7) (dt_X7_isLikeNew 2 (4, .ifnull 34, 3) rfl) rfl (aw_aload_n (pc' := 8) (dt_X7_isLikeNew 3 (7, .aload_n 0, 1) rfl) rfl rfl (aw_getAs (pc' := 11) (dt_X7_isLikeNew 4 (8, .getfield 62, 3) rfl) fl_Sale_62 rfl rfl g2 e3 (aw_getI (pc' := 14) (dt_X7_isLikeNew 5 (11, .getfield 70, 3) rfl) fl_Sale_70 rfl rfl g5 (aw_if_ne (pc' := 17) (tgt := 38) (dt_X7_isLikeNew 6 (14, .ifCond .ne 24, 3) rfl) (by decide) rfl ?_ ?_))))
      · intro q6
        have h := h.1 q6
        refine aw_iconst (pc' := 39) (v := 0) (dt_X7_isLikeNew 16 (38, .iconst 0, 1) rfl) (by decide) rfl (aw_iret (dt_X7_isLikeNew 17 (39, .ireturn, 1) rfl) rfl rfl (aw_stk (st' := [.int 0]) rfl (aw_if_eq_T (pc' := 39) (tgt := 53) (dt_X10_worthNow 4 (36, .ifCond .eq 17, 3) rfl) (by decide) rfl (by decide) (aw_ldc (pc' := 55) (dt_X10_worthNow 11 (53, .ldc 159, 2) rfl) ct_ReturnDesk_159 rfl (aw_iret (dt_X10_worthNow 12 (55, .ireturn, 1) rfl) rfl rfl ?_)))))
        exact h
      · intro q6
        have h := h.2 q6
        refine aw_aload_n (pc' := 18) (dt_X7_isLikeNew 7 (17, .aload_n 0, 1) rfl) rfl rfl (aw_getAs (pc' := 21) (dt_X7_isLikeNew 8 (18, .getfield 62, 3) rfl) fl_Sale_62 rfl rfl g2 e3 (aw_getI (pc' := 24) (dt_X7_isLikeNew 9 (21, .getfield 81, 3) rfl) fl_Sale_81 rfl rfl g5 (aw_if_ne (pc' := 27) (tgt := 38) (dt_X7_isLikeNew 10 (24, .ifCond .ne 14, 3) rfl) (by decide) rfl ?_ ?_)))
        · intro q7
          have h := h.1 q7
          refine aw_iconst (pc' := 39) (v := 0) (dt_X7_isLikeNew 16 (38, .iconst 0, 1) rfl) (by decide) rfl (aw_iret (dt_X7_isLikeNew 17 (39, .ireturn, 1) rfl) rfl rfl (aw_stk (st' := [.int 0]) rfl (aw_if_eq_T (pc' := 39) (tgt := 53) (dt_X10_worthNow 4 (36, .ifCond .eq 17, 3) rfl) (by decide) rfl (by decide) (aw_ldc (pc' := 55) (dt_X10_worthNow 11 (53, .ldc 159, 2) rfl) ct_ReturnDesk_159 rfl (aw_iret (dt_X10_worthNow 12 (55, .ireturn, 1) rfl) rfl rfl ?_)))))
          exact h
        · intro q7
          have h := h.2 q7
          refine aw_aload_n (pc' := 28) (dt_X7_isLikeNew 11 (27, .aload_n 0, 1) rfl) rfl rfl (aw_inV (pc' := 31) (nc1 := 0) (ns1 := 0) (nc := 0) (ns := 0) (ls' := [some (.ref a1)]) (y2 := mX7_isFaulty) (As := []) (rest := []) (a := a1) (dt_X7_isLikeNew 12 (28, .invokevirtual 84, 3) rfl) ok_X7_isFaulty ln_Sale_84 im_X7_isFaulty se_X7_isFaulty pr_X7_isFaulty (Or.inl ⟨by decide, rfl⟩) rfl (Nat.le_of_ble_eq_true rfl) (Nat.le_of_ble_eq_true rfl) rfl rfl g2 (aw_aload_n (pc' := 1) (dt_X7_isFaulty 0 (0, .aload_n 0, 1) rfl) rfl rfl (aw_getAs (pc' := 4) (dt_X7_isFaulty 1 (1, .getfield 62, 3) rfl) fl_Sale_62 rfl rfl g2 e3 (aw_ifnull (pc' := 7) (dt_X7_isFaulty 2 (4, .ifnull 28, 3) rfl) rfl (aw_aload_n (pc' := 8) (dt_X7_isFaulty 3 (7, .aload_n 0, 1) rfl) rfl rfl (aw_getAs (pc' := 11) (dt_X7_isFaulty 4 (8, .getfield 62, 3) rfl) fl_Sale_62 rfl rfl g2 e3 (aw_getI (pc' := 14) (dt_X7_isFaulty 5 (11, .getfield 75, 3) rfl) fl_Sale_75 rfl rfl g5 (aw_iconst (pc' := 15) (v := 1) (dt_X7_isFaulty 6 (14, .iconst 1, 1) rfl) (by decide) rfl (aw_icmp_eq (pc' := 18) (tgt := 28) (dt_X7_isFaulty 7 (15, .if_icmp .eq 13, 3) rfl) (by decide) rfl ?_ ?_)))))))))
          · intro q8
            have h := h.1 q8
            refine aw_iconst (pc' := 29) (v := 1) (dt_X7_isFaulty 12 (28, .iconst 1, 1) rfl) (by decide) rfl (aw_goto (tgt := 33) (dt_X7_isFaulty 13 (29, .goto 4, 3) rfl) (by decide) (aw_iret (dt_X7_isFaulty 15 (33, .ireturn, 1) rfl) rfl rfl (aw_stk (st' := [.int 1]) rfl (aw_if_ne_T (pc' := 34) (tgt := 38) (dt_X7_isLikeNew 13 (31, .ifCond .ne 7, 3) rfl) (by decide) rfl (by decide) (aw_iconst (pc' := 39) (v := 0) (dt_X7_isLikeNew 16 (38, .iconst 0, 1) rfl) (by decide) rfl (aw_iret (dt_X7_isLikeNew 17 (39, .ireturn, 1) rfl) rfl rfl (aw_stk (st' := [.int 0]) rfl (aw_if_eq_T (pc' := 39) (tgt := 53) (dt_X10_worthNow 4 (36, .ifCond .eq 17, 3) rfl) (by decide) rfl (by decide) (aw_ldc (pc' := 55) (dt_X10_worthNow 11 (53, .ldc 159, 2) rfl) ct_ReturnDesk_159 rfl (aw_iret (dt_X10_worthNow 12 (55, .ireturn, 1) rfl) rfl rfl ?_))))))))))
            exact h
          · intro q8
            have h := h.2 q8
            refine aw_aload_n (pc' := 19) (dt_X7_isFaulty 8 (18, .aload_n 0, 1) rfl) rfl rfl (aw_getAs (pc' := 22) (dt_X7_isFaulty 9 (19, .getfield 62, 3) rfl) fl_Sale_62 rfl rfl g2 e3 (aw_getI (pc' := 25) (dt_X7_isFaulty 10 (22, .getfield 78, 3) rfl) fl_Sale_78 rfl rfl g5 (aw_if_eq (pc' := 28) (tgt := 32) (dt_X7_isFaulty 11 (25, .ifCond .eq 7, 3) rfl) (by decide) rfl ?_ ?_)))
            · intro q9
              have h := h.1 q9
              refine aw_iconst (pc' := 33) (v := 0) (dt_X7_isFaulty 14 (32, .iconst 0, 1) rfl) (by decide) rfl (aw_iret (dt_X7_isFaulty 15 (33, .ireturn, 1) rfl) rfl rfl (aw_stk (st' := [.int 0]) rfl (aw_if_ne_F (pc' := 34) (tgt := 38) (dt_X7_isLikeNew 13 (31, .ifCond .ne 7, 3) rfl) (by decide) rfl (by decide) (aw_iconst (pc' := 35) (v := 1) (dt_X7_isLikeNew 14 (34, .iconst 1, 1) rfl) (by decide) rfl (aw_goto (tgt := 39) (dt_X7_isLikeNew 15 (35, .goto 4, 3) rfl) (by decide) (aw_iret (dt_X7_isLikeNew 17 (39, .ireturn, 1) rfl) rfl rfl (aw_stk (st' := [.int 1]) rfl (aw_if_eq_F (pc' := 39) (tgt := 53) (dt_X10_worthNow 4 (36, .ifCond .eq 17, 3) rfl) (by decide) rfl (by decide) (aw_aload_n (pc' := 40) (dt_X10_worthNow 5 (39, .aload_n 1, 1) rfl) rfl rfl (aw_getA (pc' := 43) (dt_X10_worthNow 6 (40, .getfield 163, 3) rfl) fl_ReturnDesk_163 rfl rfl g2 ?_ ?_))))))))))
              · intro e10
                have h := h.1 e10
                refine aw_aload_n (pc' := 44) (dt_X10_worthNow 7 (43, .aload_n 0, 1) rfl) rfl rfl (aw_inV (pc' := 47) (nc1 := 0) (ns1 := 0) (nc := nc) (ns := ns) (ls' := [some (.ref 11)]) (y2 := mX10_today) (As := []) (rest := [.null]) (a := 11) (dt_X10_worthNow 8 (44, .invokevirtual 138, 3) rfl) ok_X10_today ln_ReturnDesk_138 im_X10_today se_X10_today pr_X10_today (Or.inl ⟨by decide, rfl⟩) rfl (Nat.le_of_ble_eq_true rfl) (Nat.le_of_ble_eq_true rfl) rfl rfl (sk_11 hS) (aw_aload_n (pc' := 1) (dt_X10_today 0 (0, .aload_n 0, 1) rfl) rfl rfl (aw_getI (pc' := 4) (dt_X10_today 1 (1, .getfield 114, 3) rfl) fl_ReturnDesk_114 rfl rfl (sk_11 hS) (aw_bipush (pc' := 6) (v := 24) (dt_X10_today 2 (4, .bipush 24, 2) rfl) (by decide) rfl (aw_idiv (pc' := 7) (dt_X10_today 3 (6, .idiv, 1) rfl) (by decide) rfl (aw_iret (dt_X10_today 4 (7, .ireturn, 1) rfl) rfl rfl (aw_stk (st' := [.int ((zI μ 11 17) / 24), .null]) rfl ?_)))))))
                exact h.elim
              · intro b11 e10
                have h := h.2 b11 e10
                obtain ⟨g12, h⟩ := h
                refine aw_aload_n (pc' := 44) (dt_X10_worthNow 7 (43, .aload_n 0, 1) rfl) rfl rfl (aw_inV (pc' := 47) (nc1 := 0) (ns1 := 0) (nc := nc) (ns := ns) (ls' := [some (.ref 11)]) (y2 := mX10_today) (As := []) (rest := [.ref b11]) (a := 11) (dt_X10_worthNow 8 (44, .invokevirtual 138, 3) rfl) ok_X10_today ln_ReturnDesk_138 im_X10_today se_X10_today pr_X10_today (Or.inl ⟨by decide, rfl⟩) rfl (Nat.le_of_ble_eq_true rfl) (Nat.le_of_ble_eq_true rfl) rfl rfl (sk_11 hS) (aw_aload_n (pc' := 1) (dt_X10_today 0 (0, .aload_n 0, 1) rfl) rfl rfl (aw_getI (pc' := 4) (dt_X10_today 1 (1, .getfield 114, 3) rfl) fl_ReturnDesk_114 rfl rfl (sk_11 hS) (aw_bipush (pc' := 6) (v := 24) (dt_X10_today 2 (4, .bipush 24, 2) rfl) (by decide) rfl (aw_idiv (pc' := 7) (dt_X10_today 3 (6, .idiv, 1) rfl) (by decide) rfl (aw_iret (dt_X10_today 4 (7, .ireturn, 1) rfl) rfl rfl (aw_stk (st' := [.int ((zI μ 11 17) / 24), .ref b11]) rfl (aw_callV0 (pc' := 50) (nc := nc) (ns := ns) (y2 := mX4_priceFor) (As := [.int ((zI μ 11 17) / 24)]) (rest := []) (a := b11) (dt_X10_worthNow 9 (47, .invokevirtual 103, 3) rfl) ok_X4_priceFor ln_ReturnDesk_103 im_X4_priceFor se_X4_priceFor pr_X4_priceFor (Or.inl ⟨by decide, rfl⟩) rfl (Nat.le_of_ble_eq_true rfl) (Nat.le_of_ble_eq_true rfl) rfl g12 h ?_))))))))
                rintro v μ13 ⟨r15, rfl, hS14, h⟩
                refine aw_stk (st' := [.int r15]) rfl ?_
                refine aw_goto (tgt := 55) (dt_X10_worthNow 10 (50, .goto 5, 3) rfl) (by decide) (aw_iret (dt_X10_worthNow 12 (55, .ireturn, 1) rfl) rfl rfl ?_)
                exact h
            · intro q9
              have h := h.2 q9
              refine aw_iconst (pc' := 29) (v := 1) (dt_X7_isFaulty 12 (28, .iconst 1, 1) rfl) (by decide) rfl (aw_goto (tgt := 33) (dt_X7_isFaulty 13 (29, .goto 4, 3) rfl) (by decide) (aw_iret (dt_X7_isFaulty 15 (33, .ireturn, 1) rfl) rfl rfl (aw_stk (st' := [.int 1]) rfl (aw_if_ne_T (pc' := 34) (tgt := 38) (dt_X7_isLikeNew 13 (31, .ifCond .ne 7, 3) rfl) (by decide) rfl (by decide) (aw_iconst (pc' := 39) (v := 0) (dt_X7_isLikeNew 16 (38, .iconst 0, 1) rfl) (by decide) rfl (aw_iret (dt_X7_isLikeNew 17 (39, .ireturn, 1) rfl) rfl rfl (aw_stk (st' := [.int 0]) rfl (aw_if_eq_T (pc' := 39) (tgt := 53) (dt_X10_worthNow 4 (36, .ifCond .eq 17, 3) rfl) (by decide) rfl (by decide) (aw_ldc (pc' := 55) (dt_X10_worthNow 11 (53, .ldc 159, 2) rfl) ct_ReturnDesk_159 rfl (aw_iret (dt_X10_worthNow 12 (55, .ireturn, 1) rfl) rfl rfl ?_))))))))))
              exact h
  by_cases q16 : x2 = 1
  · have h := h.2.1 q16
    refine aw_tableE (tgt := 56) (off := 55) (dt_X10_worthNow 1 (1, .tableswitch 95 0 3 #[31, 55, 73, 87], 31) rfl) q16 (by decide) (by decide) (by decide) (by decide) ?_
    obtain ⟨g17, h⟩ := h
    refine aw_aload_n (pc' := 57) (dt_X10_worthNow 13 (56, .aload_n 1, 1) rfl) rfl rfl (aw_inV (pc' := 60) (nc1 := 0) (ns1 := 0) (nc := nc) (ns := ns) (ls' := [some (.ref a1)]) (y2 := mX7_isFaulty) (As := []) (rest := []) (a := a1) (dt_X10_worthNow 14 (57, .invokevirtual 532, 3) rfl) ok_X7_isFaulty ln_ReturnDesk_532 im_X7_isFaulty se_X7_isFaulty pr_X7_isFaulty (Or.inl ⟨by decide, rfl⟩) rfl (Nat.le_of_ble_eq_true rfl) (Nat.le_of_ble_eq_true rfl) rfl rfl g17 (aw_aload_n (pc' := 1) (dt_X7_isFaulty 0 (0, .aload_n 0, 1) rfl) rfl rfl (aw_getA (pc' := 4) (dt_X7_isFaulty 1 (1, .getfield 62, 3) rfl) fl_Sale_62 rfl rfl g17 ?_ ?_)))
    · intro e18
      have h := h.1 e18
      refine aw_ifnullN (tgt := 32) (dt_X7_isFaulty 2 (4, .ifnull 28, 3) rfl) (by decide) (aw_iconst (pc' := 33) (v := 0) (dt_X7_isFaulty 14 (32, .iconst 0, 1) rfl) (by decide) rfl (aw_iret (dt_X7_isFaulty 15 (33, .ireturn, 1) rfl) rfl rfl (aw_stk (st' := [.int 0]) rfl (aw_if_eq_T (pc' := 63) (tgt := 68) (dt_X10_worthNow 15 (60, .ifCond .eq 8, 3) rfl) (by decide) rfl (by decide) (aw_aload_n (pc' := 69) (dt_X10_worthNow 18 (68, .aload_n 0, 1) rfl) rfl rfl (aw_aload_n (pc' := 70) (dt_X10_worthNow 19 (69, .aload_n 1, 1) rfl) rfl rfl (aw_callV0 (pc' := 73) (nc := nc) (ns := ns) (y2 := mX10_usedWorth) (As := [.ref a1]) (rest := []) (a := 11) (dt_X10_worthNow 20 (70, .invokevirtual 373, 3) rfl) ok_X10_usedWorth ln_ReturnDesk_373 im_X10_usedWorth se_X10_usedWorth pr_X10_usedWorth (Or.inl ⟨by decide, rfl⟩) rfl (Nat.le_of_ble_eq_true rfl) (Nat.le_of_ble_eq_true rfl) rfl (sk_11 hS) h ?_)))))))
      rintro v μ20 ⟨r22, rfl, hS21, h⟩
      refine aw_stk (st' := [.int r22]) rfl ?_
      refine aw_iret (dt_X10_worthNow 21 (73, .ireturn, 1) rfl) rfl rfl ?_
      exact h
    · intro b19 e18
      have h := h.2 b19 e18
      obtain ⟨g23, h⟩ := h
      refine aw_ifnull (pc' := 7) (dt_X7_isFaulty 2 (4, .ifnull 28, 3) rfl) rfl (aw_aload_n (pc' := 8) (dt_X7_isFaulty 3 (7, .aload_n 0, 1) rfl) rfl rfl (aw_getAs (pc' := 11) (dt_X7_isFaulty 4 (8, .getfield 62, 3) rfl) fl_Sale_62 rfl rfl g17 e18 (aw_getI (pc' := 14) (dt_X7_isFaulty 5 (11, .getfield 75, 3) rfl) fl_Sale_75 rfl rfl g23 (aw_iconst (pc' := 15) (v := 1) (dt_X7_isFaulty 6 (14, .iconst 1, 1) rfl) (by decide) rfl (aw_icmp_eq (pc' := 18) (tgt := 28) (dt_X7_isFaulty 7 (15, .if_icmp .eq 13, 3) rfl) (by decide) rfl ?_ ?_)))))
      · intro q24
        have h := h.1 q24
        refine aw_iconst (pc' := 29) (v := 1) (dt_X7_isFaulty 12 (28, .iconst 1, 1) rfl) (by decide) rfl (aw_goto (tgt := 33) (dt_X7_isFaulty 13 (29, .goto 4, 3) rfl) (by decide) (aw_iret (dt_X7_isFaulty 15 (33, .ireturn, 1) rfl) rfl rfl (aw_stk (st' := [.int 1]) rfl (aw_if_eq_F (pc' := 63) (tgt := 68) (dt_X10_worthNow 15 (60, .ifCond .eq 8, 3) rfl) (by decide) rfl (by decide) (aw_ldc (pc' := 65) (dt_X10_worthNow 16 (63, .ldc 159, 2) rfl) ct_ReturnDesk_159 rfl (aw_goto (tgt := 73) (dt_X10_worthNow 17 (65, .goto 8, 3) rfl) (by decide) (aw_iret (dt_X10_worthNow 21 (73, .ireturn, 1) rfl) rfl rfl ?_)))))))
        exact h
      · intro q24
        have h := h.2 q24
        refine aw_aload_n (pc' := 19) (dt_X7_isFaulty 8 (18, .aload_n 0, 1) rfl) rfl rfl (aw_getAs (pc' := 22) (dt_X7_isFaulty 9 (19, .getfield 62, 3) rfl) fl_Sale_62 rfl rfl g17 e18 (aw_getI (pc' := 25) (dt_X7_isFaulty 10 (22, .getfield 78, 3) rfl) fl_Sale_78 rfl rfl g23 (aw_if_eq (pc' := 28) (tgt := 32) (dt_X7_isFaulty 11 (25, .ifCond .eq 7, 3) rfl) (by decide) rfl ?_ ?_)))
        · intro q25
          have h := h.1 q25
          refine aw_iconst (pc' := 33) (v := 0) (dt_X7_isFaulty 14 (32, .iconst 0, 1) rfl) (by decide) rfl (aw_iret (dt_X7_isFaulty 15 (33, .ireturn, 1) rfl) rfl rfl (aw_stk (st' := [.int 0]) rfl (aw_if_eq_T (pc' := 63) (tgt := 68) (dt_X10_worthNow 15 (60, .ifCond .eq 8, 3) rfl) (by decide) rfl (by decide) (aw_aload_n (pc' := 69) (dt_X10_worthNow 18 (68, .aload_n 0, 1) rfl) rfl rfl (aw_aload_n (pc' := 70) (dt_X10_worthNow 19 (69, .aload_n 1, 1) rfl) rfl rfl (aw_callV0 (pc' := 73) (nc := nc) (ns := ns) (y2 := mX10_usedWorth) (As := [.ref a1]) (rest := []) (a := 11) (dt_X10_worthNow 20 (70, .invokevirtual 373, 3) rfl) ok_X10_usedWorth ln_ReturnDesk_373 im_X10_usedWorth se_X10_usedWorth pr_X10_usedWorth (Or.inl ⟨by decide, rfl⟩) rfl (Nat.le_of_ble_eq_true rfl) (Nat.le_of_ble_eq_true rfl) rfl (sk_11 hS) h ?_))))))
          rintro v μ26 ⟨r28, rfl, hS27, h⟩
          refine aw_stk (st' := [.int r28]) rfl ?_
          refine aw_iret (dt_X10_worthNow 21 (73, .ireturn, 1) rfl) rfl rfl ?_
          exact h
        · intro q25
          have h := h.2 q25
          refine aw_iconst (pc' := 29) (v := 1) (dt_X7_isFaulty 12 (28, .iconst 1, 1) rfl) (by decide) rfl (aw_goto (tgt := 33) (dt_X7_isFaulty 13 (29, .goto 4, 3) rfl) (by decide) (aw_iret (dt_X7_isFaulty 15 (33, .ireturn, 1) rfl) rfl rfl (aw_stk (st' := [.int 1]) rfl (aw_if_eq_F (pc' := 63) (tgt := 68) (dt_X10_worthNow 15 (60, .ifCond .eq 8, 3) rfl) (by decide) rfl (by decide) (aw_ldc (pc' := 65) (dt_X10_worthNow 16 (63, .ldc 159, 2) rfl) ct_ReturnDesk_159 rfl (aw_goto (tgt := 73) (dt_X10_worthNow 17 (65, .goto 8, 3) rfl) (by decide) (aw_iret (dt_X10_worthNow 21 (73, .ireturn, 1) rfl) rfl rfl ?_)))))))
          exact h
  by_cases q29 : x2 = 2
  · have h := h.2.2.1 q29
    refine aw_tableE (tgt := 74) (off := 73) (dt_X10_worthNow 1 (1, .tableswitch 95 0 3 #[31, 55, 73, 87], 31) rfl) q29 (by decide) (by decide) (by decide) (by decide) ?_
    refine aw_aload_n (pc' := 75) (dt_X10_worthNow 22 (74, .aload_n 0, 1) rfl) rfl rfl (aw_aload_n (pc' := 76) (dt_X10_worthNow 23 (75, .aload_n 1, 1) rfl) rfl rfl (aw_callV0 (pc' := 79) (nc := nc) (ns := ns) (y2 := mX10_usedWorth) (As := [.ref a1]) (rest := []) (a := 11) (dt_X10_worthNow 24 (76, .invokevirtual 373, 3) rfl) ok_X10_usedWorth ln_ReturnDesk_373 im_X10_usedWorth se_X10_usedWorth pr_X10_usedWorth (Or.inl ⟨by decide, rfl⟩) rfl (Nat.le_of_ble_eq_true rfl) (Nat.le_of_ble_eq_true rfl) rfl (sk_11 hS) h ?_))
    rintro v μ30 ⟨r32, rfl, hS31, h⟩
    refine aw_stk (st' := [.int r32]) rfl ?_
    obtain ⟨g33, h⟩ := h
    refine aw_aload_n (pc' := 80) (dt_X10_worthNow 25 (79, .aload_n 1, 1) rfl) rfl rfl (aw_getA (pc' := 83) (dt_X10_worthNow 26 (80, .getfield 163, 3) rfl) fl_ReturnDesk_163 rfl rfl g33 ?_ ?_)
    · intro e34
      have h := h.1 e34
      exact h.elim
    · intro b35 e34
      have h := h.2 b35 e34
      obtain ⟨g36, h⟩ := h
      refine aw_getI (pc' := 86) (dt_X10_worthNow 27 (83, .getfield 356, 3) rfl) fl_ReturnDesk_356 rfl rfl g36 (aw_isub (pc' := 87) (dt_X10_worthNow 28 (86, .isub, 1) rfl) rfl (aw_iret (dt_X10_worthNow 29 (87, .ireturn, 1) rfl) rfl rfl ?_))
      exact h
  by_cases q37 : x2 = 3
  · have h := h.2.2.2.1 q37
    refine aw_tableE (tgt := 88) (off := 87) (dt_X10_worthNow 1 (1, .tableswitch 95 0 3 #[31, 55, 73, 87], 31) rfl) q37 (by decide) (by decide) (by decide) (by decide) ?_
    obtain ⟨g38, h⟩ := h
    refine aw_aload_n (pc' := 89) (dt_X10_worthNow 30 (88, .aload_n 1, 1) rfl) rfl rfl (aw_getA (pc' := 92) (dt_X10_worthNow 31 (89, .getfield 163, 3) rfl) fl_ReturnDesk_163 rfl rfl g38 ?_ ?_)
    · intro e39
      have h := h.1 e39
      exact h.elim
    · intro b40 e39
      have h := h.2 b40 e39
      obtain ⟨g41, h⟩ := h
      refine aw_inV (pc' := 95) (nc1 := 0) (ns1 := 0) (nc := nc) (ns := ns) (ls' := [some (.ref b40)]) (y2 := mX4_scrapWorth) (As := []) (rest := []) (a := b40) (dt_X10_worthNow 32 (92, .invokevirtual 366, 3) rfl) ok_X4_scrapWorth ln_ReturnDesk_366 im_X4_scrapWorth se_X4_scrapWorth pr_X4_scrapWorth (Or.inl ⟨by decide, rfl⟩) rfl (Nat.le_of_ble_eq_true rfl) (Nat.le_of_ble_eq_true rfl) rfl rfl g41 (aw_aload_n (pc' := 1) (dt_X4_scrapWorth 0 (0, .aload_n 0, 1) rfl) rfl rfl (aw_getI (pc' := 4) (dt_X4_scrapWorth 1 (1, .getfield 25, 3) rfl) fl_Model_25 rfl rfl g41 (aw_bipush (pc' := 6) (v := 100) (dt_X4_scrapWorth 2 (4, .bipush 100, 2) rfl) (by decide) rfl (aw_idiv (pc' := 7) (dt_X4_scrapWorth 3 (6, .idiv, 1) rfl) (by decide) rfl (aw_iret (dt_X4_scrapWorth 4 (7, .ireturn, 1) rfl) rfl rfl (aw_stk (st' := [.int ((zI μ b40 2) / 100)]) rfl (aw_iret (dt_X10_worthNow 33 (95, .ireturn, 1) rfl) rfl rfl ?_)))))))
      exact h
  have h := h.2.2.2.2 ⟨q1, q16, q29, q37⟩
  refine aw_tableOut (tgt := 96) (dt_X10_worthNow 1 (1, .tableswitch 95 0 3 #[31, 55, 73, 87], 31) rfl) (tab_out (lo := 0) (n := 4) (by decide) (by decide) (by decide) (by
      intro k hk
      match k, hk with
      | 0, _ => exact q1
      | 1, _ => exact q16
      | 2, _ => exact q29
      | 3, _ => exact q37
      | k + 4, hk => omega)) (by decide) ?_
  refine aw_ldc (pc' := 98) (dt_X10_worthNow 34 (96, .ldc 159, 2) rfl) ct_ReturnDesk_159 rfl (aw_iret (dt_X10_worthNow 35 (98, .ireturn, 1) rfl) rfl rfl ?_)
  exact h

theorem t_X10_bestWay {E : ZE} {l : Launch} {d nc ns : Nat} {a1 : Nat} {μ : ZM} {K : Option Value → ZM → Prop} (hS : Stat μ) (h :
  AW E l (d + 3) nc ns mX10_bestWay 4 [some (.ref 11), some (.ref a1), some (.int 0), some (.int 1)] [] μ K) : AW E l (d + 3) nc ns mX10_bestWay 0 [some (.ref 11), some (.ref a1), none, none] [] μ K := by
  refine aw_iconst (pc' := 1) (v := 0) (dt_X10_bestWay 0 (0, .iconst 0, 1) rfl) (by decide) rfl (aw_istore_n (pc' := 2) (ls' := [some (.ref 11), some (.ref a1), some (.int 0), none]) (dt_X10_bestWay 1 (1, .istore_n 2, 1) rfl) (by decide) rfl rfl (aw_iconst (pc' := 3) (v := 1) (dt_X10_bestWay 2 (2, .iconst 1, 1) rfl) (by decide) rfl (aw_istore_n (pc' := 4) (ls' := [some (.ref 11), some (.ref a1), some (.int 0), some (.int 1)]) (dt_X10_bestWay 3 (3, .istore_n 3, 1) rfl) (by decide) rfl rfl ?_)))
  exact h

theorem t_X10_bestWay_4 {E : ZE} {l : Launch} {d nc ns : Nat} {a1 : Nat} {x2 : Int32} {x3 : Int32} {μ : ZM} {K : Option Value → ZM → Prop} (hS : Stat μ) (h :
  (3 < x3 →
    K (some (.int x2)) μ) ∧
  (¬ 3 < x3 →
    AW E l (d + 2) 0 0 mX10_worthNow 0 (zargs 3 [.ref 11, .ref a1, .int x3]) [] μ (fun v μ2 => ∃ r4 : Int32, v = some (.int r4) ∧ Stat μ2 ∧ 
      AW E l (d + 2) 0 0 mX10_worthNow 0 (zargs 3 [.ref 11, .ref a1, .int x2]) [] μ2 (fun v μ5 => ∃ r7 : Int32, v = some (.int r7) ∧ Stat μ5 ∧ 
        (r4 ≤ r7 →
          AW E l (d + 3) nc ns mX10_bestWay 4 [some (.ref 11), some (.ref a1), some (.int x2), some (.int (x3 + 1))] [] μ5 K) ∧
        (¬ r4 ≤ r7 →
          AW E l (d + 3) nc ns mX10_bestWay 4 [some (.ref 11), some (.ref a1), some (.int x3), some (.int (x3 + 1))] [] μ5 K))))) : AW E l (d + 3) nc ns mX10_bestWay 4 [some (.ref 11), some (.ref a1), some (.int x2), some (.int x3)] [] μ K := by
  refine aw_iload_n (pc' := 5) (dt_X10_bestWay 4 (4, .iload_n 3, 1) rfl) rfl rfl (aw_iconst (pc' := 6) (v := 3) (dt_X10_bestWay 5 (5, .iconst 3, 1) rfl) (by decide) rfl (aw_icmp_gt (pc' := 9) (tgt := 32) (dt_X10_bestWay 6 (6, .if_icmp .gt 26, 3) rfl) (by decide) rfl ?_ ?_))
  · intro q1
    have h := h.1 q1
    refine aw_iload_n (pc' := 33) (dt_X10_bestWay 20 (32, .iload_n 2, 1) rfl) rfl rfl (aw_iret (dt_X10_bestWay 21 (33, .ireturn, 1) rfl) rfl rfl ?_)
    exact h
  · intro q1
    have h := h.2 q1
    refine aw_aload_n (pc' := 10) (dt_X10_bestWay 7 (9, .aload_n 0, 1) rfl) rfl rfl (aw_aload_n (pc' := 11) (dt_X10_bestWay 8 (10, .aload_n 1, 1) rfl) rfl rfl (aw_iload_n (pc' := 12) (dt_X10_bestWay 9 (11, .iload_n 3, 1) rfl) rfl rfl (aw_callV0 (pc' := 15) (nc := nc) (ns := ns) (y2 := mX10_worthNow) (As := [.ref a1, .int x3]) (rest := []) (a := 11) (dt_X10_bestWay 10 (12, .invokevirtual 349, 3) rfl) ok_X10_worthNow ln_ReturnDesk_349 im_X10_worthNow se_X10_worthNow pr_X10_worthNow (Or.inl ⟨by decide, rfl⟩) rfl (Nat.le_of_ble_eq_true rfl) (Nat.le_of_ble_eq_true rfl) rfl (sk_11 hS) h ?_)))
    rintro v μ2 ⟨r4, rfl, hS3, h⟩
    refine aw_stk (st' := [.int r4]) rfl ?_
    refine aw_aload_n (pc' := 16) (dt_X10_bestWay 11 (15, .aload_n 0, 1) rfl) rfl rfl (aw_aload_n (pc' := 17) (dt_X10_bestWay 12 (16, .aload_n 1, 1) rfl) rfl rfl (aw_iload_n (pc' := 18) (dt_X10_bestWay 13 (17, .iload_n 2, 1) rfl) rfl rfl (aw_callV0 (pc' := 21) (nc := nc) (ns := ns) (y2 := mX10_worthNow) (As := [.ref a1, .int x2]) (rest := [.int r4]) (a := 11) (dt_X10_bestWay 14 (18, .invokevirtual 349, 3) rfl) ok_X10_worthNow ln_ReturnDesk_349 im_X10_worthNow se_X10_worthNow pr_X10_worthNow (Or.inl ⟨by decide, rfl⟩) rfl (Nat.le_of_ble_eq_true rfl) (Nat.le_of_ble_eq_true rfl) rfl (sk_11 hS3) h ?_)))
    rintro v μ5 ⟨r7, rfl, hS6, h⟩
    refine aw_stk (st' := [.int r7, .int r4]) rfl ?_
    refine aw_icmp_le (pc' := 24) (tgt := 26) (dt_X10_bestWay 15 (21, .if_icmp .le 5, 3) rfl) (by decide) rfl ?_ ?_
    · intro q8
      have h := h.1 q8
      refine aw_iinc (pc' := 29) (v := 1) (ls' := [some (.ref 11), some (.ref a1), some (.int x2), some (.int (x3 + 1))]) (dt_X10_bestWay 18 (26, .iinc 3 1, 3) rfl) rfl (by decide) (by decide) rfl rfl (aw_goto (tgt := 4) (dt_X10_bestWay 19 (29, .goto (-25), 3) rfl) (by decide) ?_)
      exact h
    · intro q8
      have h := h.2 q8
      refine aw_iload_n (pc' := 25) (dt_X10_bestWay 16 (24, .iload_n 3, 1) rfl) rfl rfl (aw_istore_n (pc' := 26) (ls' := [some (.ref 11), some (.ref a1), some (.int x3), some (.int x3)]) (dt_X10_bestWay 17 (25, .istore_n 2, 1) rfl) (by decide) rfl rfl (aw_iinc (pc' := 29) (v := 1) (ls' := [some (.ref 11), some (.ref a1), some (.int x3), some (.int (x3 + 1))]) (dt_X10_bestWay 18 (26, .iinc 3 1, 3) rfl) rfl (by decide) (by decide) rfl rfl (aw_goto (tgt := 4) (dt_X10_bestWay 19 (29, .goto (-25), 3) rfl) (by decide) ?_)))
      exact h

theorem t_X10_beyondChance {E : ZE} {l : Launch} {d nc ns : Nat} {a1 : Nat} {x2 : Int32} {x3 : Int32} {μ : ZM} {K : Option Value → ZM → Prop} (hS : Stat μ) (h :
  AW E l (d + 2) nc ns mX10_beyondChance 15 [some (.ref 11), some (.ref a1), some (.int x2), some (.int x3), some (.int 0), some (.int 0), some (.int 0), some (.int 0), some (.int 0), none, none, none] [] μ K) : AW E l (d + 2) nc ns mX10_beyondChance 0 [some (.ref 11), some (.ref a1), some (.int x2), some (.int x3), none, none, none, none, none, none, none, none] [] μ K := by
  refine aw_iconst (pc' := 1) (v := 0) (dt_X10_beyondChance 0 (0, .iconst 0, 1) rfl) (by decide) rfl (aw_istore (pc' := 3) (ls' := [some (.ref 11), some (.ref a1), some (.int x2), some (.int x3), some (.int 0), none, none, none, none, none, none, none]) (dt_X10_beyondChance 1 (1, .istore 4, 2) rfl) (by decide) rfl rfl (aw_iconst (pc' := 4) (v := 0) (dt_X10_beyondChance 2 (3, .iconst 0, 1) rfl) (by decide) rfl (aw_istore (pc' := 6) (ls' := [some (.ref 11), some (.ref a1), some (.int x2), some (.int x3), some (.int 0), some (.int 0), none, none, none, none, none, none]) (dt_X10_beyondChance 3 (4, .istore 5, 2) rfl) (by decide) rfl rfl (aw_iconst (pc' := 7) (v := 0) (dt_X10_beyondChance 4 (6, .iconst 0, 1) rfl) (by decide) rfl (aw_istore (pc' := 9) (ls' := [some (.ref 11), some (.ref a1), some (.int x2), some (.int x3), some (.int 0), some (.int 0), some (.int 0), none, none, none, none, none]) (dt_X10_beyondChance 5 (7, .istore 6, 2) rfl) (by decide) rfl rfl (aw_iconst (pc' := 10) (v := 0) (dt_X10_beyondChance 6 (9, .iconst 0, 1) rfl) (by decide) rfl (aw_istore (pc' := 12) (ls' := [some (.ref 11), some (.ref a1), some (.int x2), some (.int x3), some (.int 0), some (.int 0), some (.int 0), some (.int 0), none, none, none, none]) (dt_X10_beyondChance 7 (10, .istore 7, 2) rfl) (by decide) rfl rfl (aw_iconst (pc' := 13) (v := 0) (dt_X10_beyondChance 8 (12, .iconst 0, 1) rfl) (by decide) rfl (aw_istore (pc' := 15) (ls' := [some (.ref 11), some (.ref a1), some (.int x2), some (.int x3), some (.int 0), some (.int 0), some (.int 0), some (.int 0), some (.int 0), none, none, none]) (dt_X10_beyondChance 9 (13, .istore 8, 2) rfl) (by decide) rfl rfl ?_)))))))))
  exact h

theorem t_X10_beyondChance_15 {E : ZE} {l : Launch} {d nc ns : Nat} {a1 : Nat} {x2 : Int32} {x3 : Int32} {x4 : Int32} {x5 : Int32} {x6 : Int32} {x7 : Int32} {x8 : Int32} {μ : ZM} {K : Option Value → ZM → Prop} (hS : Stat μ) (h :
  ((zI μ 11 14) ≤ x8 →
    (x4 ≤ 60 →
      AW E l (d + 1) 0 0 mX10_choose 0 (zargs 5 [.int x4, .int x6]) [] μ (fun v μ3 => ∃ r5 : Int64, v = some (.long r5) ∧ Stat μ3 ∧ 
        AW E l (d + 1) 0 0 mX10_dealsWith 0 (zargs 7 [.int x4, .int x5, .int x6, .int x7]) [] μ3 (fun v μ6 => ∃ r8 : Int64, v = some (.long r8) ∧ Stat μ6 ∧ 
          AW E l (d + 1) 0 0 mX10_leastNotBelow 0 (zargs 3 [.long r5, .int x2]) [] μ6 (fun v μ9 => ∃ r11 : Int64, v = some (.long r11) ∧ Stat μ9 ∧ 
            (0 ≤ (lg_cmp r8 r11) →
              K (some (.int 0)) μ9) ∧
            (¬ 0 ≤ (lg_cmp r8 r11) →
              K (some (.int 1)) μ9))))) ∧
    (¬ x4 ≤ 60 →
      K (some (.int (-4))) μ)) ∧
  (¬ (zI μ 11 14) ≤ x8 →
    (vp_in x8 300) ∧
    (zA μ 14 x8.toNatClampNeg = none →
      False) ∧
    (∀ b15, zA μ 14 x8.toNatClampNeg = some b15 →
      (zK μ b15 = 7) ∧
      (zA μ b15 1 = none →
        (zK μ a1 = 2) ∧
        (zA μ a1 1 = none →
          False) ∧
        (∀ b21, zA μ a1 1 = some b21 →
          False)) ∧
      (∀ b18, zA μ b15 1 = some b18 →
        (zK μ a1 = 2) ∧
        (zA μ a1 1 = none →
          False) ∧
        (∀ b24, zA μ a1 1 = some b24 →
          (11 ≤ b18) ∧
          (11 ≤ b24) ∧
          (¬ b18 = b24 →
            AW E l (d + 2) nc ns mX10_beyondChance 15 [some (.ref 11), some (.ref a1), some (.int x2), some (.int x3), some (.int x4), some (.int x5), some (.int x6), some (.int x7), some (.int (x8 + 1)), none, none, none] [] μ K) ∧
          (b18 = b24 →
            (x3 < ((zI μ b15 8) / 24) →
              AW E l (d + 2) nc ns mX10_beyondChance 15 [some (.ref 11), some (.ref a1), some (.int x2), some (.int x3), some (.int x4), some (.int x5), some (.int x6), some (.int x7), some (.int (x8 + 1)), none, none, none] [] μ K) ∧
            (¬ x3 < ((zI μ b15 8) / 24) →
              (x3 < (zI μ b15 13) →
                (zA μ b15 2 = none →
                  False) ∧
                (∀ b31, zA μ b15 2 = some b31 →
                  (11 ≤ b31) ∧
                  (11 ≤ a1) ∧
                  (¬ b31 = a1 →
                    AW E l (d + 2) nc ns mX10_beyondChance 15 [some (.ref 11), some (.ref a1), some (.int x2), some (.int x3), some (.int (x4 + 1)), some (.int (x5 + 0)), some (.int (x6 + 0)), some (.int (x7 + ((0 : Int32) * 0))), some (.int (x8 + 1)), none, none, none] [] μ K) ∧
                  (b31 = a1 →
                    AW E l (d + 2) nc ns mX10_beyondChance 15 [some (.ref 11), some (.ref a1), some (.int x2), some (.int x3), some (.int (x4 + 1)), some (.int (x5 + 0)), some (.int (x6 + 1)), some (.int (x7 + ((0 : Int32) * 1))), some (.int (x8 + 1)), none, none, none] [] μ K))) ∧
              (¬ x3 < (zI μ b15 13) →
                (zA μ b15 2 = none →
                  False) ∧
                (∀ b36, zA μ b15 2 = some b36 →
                  (11 ≤ b36) ∧
                  (11 ≤ a1) ∧
                  (¬ b36 = a1 →
                    AW E l (d + 2) nc ns mX10_beyondChance 15 [some (.ref 11), some (.ref a1), some (.int x2), some (.int x3), some (.int (x4 + 1)), some (.int (x5 + 1)), some (.int (x6 + 0)), some (.int (x7 + ((1 : Int32) * 0))), some (.int (x8 + 1)), none, none, none] [] μ K) ∧
                  (b36 = a1 →
                    AW E l (d + 2) nc ns mX10_beyondChance 15 [some (.ref 11), some (.ref a1), some (.int x2), some (.int x3), some (.int (x4 + 1)), some (.int (x5 + 1)), some (.int (x6 + 1)), some (.int (x7 + ((1 : Int32) * 1))), some (.int (x8 + 1)), none, none, none] [] μ K)))))))))) : AW E l (d + 2) nc ns mX10_beyondChance 15 [some (.ref 11), some (.ref a1), some (.int x2), some (.int x3), some (.int x4), some (.int x5), some (.int x6), some (.int x7), some (.int x8), none, none, none] [] μ K := by
  refine aw_iload (pc' := 17) (dt_X10_beyondChance 10 (15, .iload 8, 2) rfl) rfl rfl (aw_aload_n (pc' := 18) (dt_X10_beyondChance 11 (17, .aload_n 0, 1) rfl) rfl rfl (aw_getI (pc' := 21) (dt_X10_beyondChance 12 (18, .getfield 131, 3) rfl) fl_ReturnDesk_131 rfl rfl (sk_11 hS) (aw_icmp_ge (pc' := 24) (tgt := 125) (dt_X10_beyondChance 13 (21, .if_icmp .ge 104, 3) rfl) (by decide) rfl ?_ ?_)))
  · intro q1
    have h := h.1 q1
    refine aw_iload (pc' := 127) (dt_X10_beyondChance 63 (125, .iload 4, 2) rfl) rfl rfl (aw_bipush (pc' := 129) (v := 60) (dt_X10_beyondChance 64 (127, .bipush 60, 2) rfl) (by decide) rfl (aw_icmp_le (pc' := 132) (tgt := 135) (dt_X10_beyondChance 65 (129, .if_icmp .le 6, 3) rfl) (by decide) rfl ?_ ?_))
    · intro q2
      have h := h.1 q2
      refine aw_iload (pc' := 137) (dt_X10_beyondChance 68 (135, .iload 4, 2) rfl) rfl rfl (aw_iload (pc' := 139) (dt_X10_beyondChance 69 (137, .iload 6, 2) rfl) rfl rfl (aw_callS0 (pc' := 142) (nc := nc) (ns := ns) (y2 := mX10_choose) (As := [.int x4, .int x6]) (rest := []) (dt_X10_beyondChance 70 (139, .invokestatic 535, 3) rfl) ok_X10_choose ln_ReturnDesk_535 sm_X10_choose pr_X10_choose rfl (Nat.le_of_ble_eq_true rfl) (Nat.le_of_ble_eq_true rfl) rfl  h ?_))
      rintro v μ3 ⟨r5, rfl, hS4, h⟩
      refine aw_stk (st' := [.long r5]) rfl ?_
      refine aw_lstore (pc' := 144) (ls' := [some (.ref 11), some (.ref a1), some (.int x2), some (.int x3), some (.int x4), some (.int x5), some (.int x6), some (.int x7), some (.long r5), none, none, none]) (dt_X10_beyondChance 71 (142, .lstore 8, 2) rfl) (by decide) rfl rfl (aw_iload (pc' := 146) (dt_X10_beyondChance 72 (144, .iload 4, 2) rfl) rfl rfl (aw_iload (pc' := 148) (dt_X10_beyondChance 73 (146, .iload 5, 2) rfl) rfl rfl (aw_iload (pc' := 150) (dt_X10_beyondChance 74 (148, .iload 6, 2) rfl) rfl rfl (aw_iload (pc' := 152) (dt_X10_beyondChance 75 (150, .iload 7, 2) rfl) rfl rfl (aw_callS0 (pc' := 155) (nc := nc) (ns := ns) (y2 := mX10_dealsWith) (As := [.int x4, .int x5, .int x6, .int x7]) (rest := []) (dt_X10_beyondChance 76 (152, .invokestatic 539, 3) rfl) ok_X10_dealsWith ln_ReturnDesk_539 sm_X10_dealsWith pr_X10_dealsWith rfl (Nat.le_of_ble_eq_true rfl) (Nat.le_of_ble_eq_true rfl) rfl  h ?_)))))
      rintro v μ6 ⟨r8, rfl, hS7, h⟩
      refine aw_stk (st' := [.long r8]) rfl ?_
      refine aw_lload (pc' := 157) (dt_X10_beyondChance 77 (155, .lload 8, 2) rfl) rfl rfl (aw_iload_n (pc' := 158) (dt_X10_beyondChance 78 (157, .iload_n 2, 1) rfl) rfl rfl (aw_callS0 (pc' := 161) (nc := nc) (ns := ns) (y2 := mX10_leastNotBelow) (As := [.long r5, .int x2]) (rest := [.long r8]) (dt_X10_beyondChance 79 (158, .invokestatic 543, 3) rfl) ok_X10_leastNotBelow ln_ReturnDesk_543 sm_X10_leastNotBelow pr_X10_leastNotBelow rfl (Nat.le_of_ble_eq_true rfl) (Nat.le_of_ble_eq_true rfl) rfl  h ?_))
      rintro v μ9 ⟨r11, rfl, hS10, h⟩
      refine aw_stk (st' := [.long r11, .long r8]) rfl ?_
      refine aw_lcmp (pc' := 162) (dt_X10_beyondChance 80 (161, .lcmp, 1) rfl) rfl (aw_if_ge (pc' := 165) (tgt := 169) (dt_X10_beyondChance 81 (162, .ifCond .ge 7, 3) rfl) (by decide) rfl ?_ ?_)
      · intro q12
        have h := h.1 q12
        refine aw_iconst (pc' := 170) (v := 0) (dt_X10_beyondChance 84 (169, .iconst 0, 1) rfl) (by decide) rfl (aw_inS (pc' := 173) (nc1 := 0) (ns1 := 0) (nc := nc) (ns := ns) (ls' := [some (.int 0)]) (y2 := mX10_asBit) (As := [.int 0]) (rest := []) (dt_X10_beyondChance 85 (170, .invokestatic 287, 3) rfl) ok_X10_asBit ln_ReturnDesk_287 sm_X10_asBit pr_X10_asBit rfl (Nat.le_of_ble_eq_true rfl) (Nat.le_of_ble_eq_true rfl) rfl rfl (aw_iload_n (pc' := 1) (dt_X10_asBit 0 (0, .iload_n 0, 1) rfl) rfl rfl (aw_if_eq_T (pc' := 4) (tgt := 8) (dt_X10_asBit 1 (1, .ifCond .eq 7, 3) rfl) (by decide) rfl (by decide) (aw_iconst (pc' := 9) (v := 0) (dt_X10_asBit 4 (8, .iconst 0, 1) rfl) (by decide) rfl (aw_iret (dt_X10_asBit 5 (9, .ireturn, 1) rfl) rfl rfl (aw_stk (st' := [.int 0]) rfl (aw_iret (dt_X10_beyondChance 86 (173, .ireturn, 1) rfl) rfl rfl ?_)))))))
        exact h
      · intro q12
        have h := h.2 q12
        refine aw_iconst (pc' := 166) (v := 1) (dt_X10_beyondChance 82 (165, .iconst 1, 1) rfl) (by decide) rfl (aw_goto (tgt := 170) (dt_X10_beyondChance 83 (166, .goto 4, 3) rfl) (by decide) (aw_inS (pc' := 173) (nc1 := 0) (ns1 := 0) (nc := nc) (ns := ns) (ls' := [some (.int 1)]) (y2 := mX10_asBit) (As := [.int 1]) (rest := []) (dt_X10_beyondChance 85 (170, .invokestatic 287, 3) rfl) ok_X10_asBit ln_ReturnDesk_287 sm_X10_asBit pr_X10_asBit rfl (Nat.le_of_ble_eq_true rfl) (Nat.le_of_ble_eq_true rfl) rfl rfl (aw_iload_n (pc' := 1) (dt_X10_asBit 0 (0, .iload_n 0, 1) rfl) rfl rfl (aw_if_eq_F (pc' := 4) (tgt := 8) (dt_X10_asBit 1 (1, .ifCond .eq 7, 3) rfl) (by decide) rfl (by decide) (aw_iconst (pc' := 5) (v := 1) (dt_X10_asBit 2 (4, .iconst 1, 1) rfl) (by decide) rfl (aw_goto (tgt := 9) (dt_X10_asBit 3 (5, .goto 4, 3) rfl) (by decide) (aw_iret (dt_X10_asBit 5 (9, .ireturn, 1) rfl) rfl rfl (aw_stk (st' := [.int 1]) rfl (aw_iret (dt_X10_beyondChance 86 (173, .ireturn, 1) rfl) rfl rfl ?_)))))))))
        exact h
    · intro q2
      have h := h.2 q2
      refine aw_bipush (pc' := 134) (v := (-4)) (dt_X10_beyondChance 66 (132, .bipush (-4), 2) rfl) (by decide) rfl (aw_iret (dt_X10_beyondChance 67 (134, .ireturn, 1) rfl) rfl rfl ?_)
      exact h
  · intro q1
    have h := h.2 q1
    obtain ⟨g13, h⟩ := h
    refine aw_aload_n (pc' := 25) (dt_X10_beyondChance 14 (24, .aload_n 0, 1) rfl) rfl rfl (aw_getAs (pc' := 28) (dt_X10_beyondChance 15 (25, .getfield 23, 3) rfl) fl_ReturnDesk_23 rfl rfl (sk_11 hS) (sa_11_2 hS) (aw_iload (pc' := 30) (dt_X10_beyondChance 16 (28, .iload 8, 2) rfl) rfl rfl (aw_aald (pc' := 31) (dt_X10_beyondChance 17 (30, .aaload, 1) rfl) (by decide) (by decide) rfl (sk_14 hS) (vin_eq (sl_14 hS) g13) ?_ ?_)))
    · intro e14
      have h := h.1 e14
      refine aw_astoreN (pc' := 33) (ls' := [some (.ref 11), some (.ref a1), some (.int x2), some (.int x3), some (.int x4), some (.int x5), some (.int x6), some (.int x7), some (.int x8), some (.null), none, none]) (dt_X10_beyondChance 18 (31, .astore 9, 2) rfl) (by decide) rfl rfl (aw_aloadN (pc' := 35) (dt_X10_beyondChance 19 (33, .aload 9, 2) rfl) rfl rfl ?_)
      exact h.elim
    · intro b15 e14
      have h := h.2 b15 e14
      obtain ⟨g16, h⟩ := h
      refine aw_astore (pc' := 33) (ls' := [some (.ref 11), some (.ref a1), some (.int x2), some (.int x3), some (.int x4), some (.int x5), some (.int x6), some (.int x7), some (.int x8), some (.ref b15), none, none]) (dt_X10_beyondChance 18 (31, .astore 9, 2) rfl) (by decide) rfl rfl (aw_aload (pc' := 35) (dt_X10_beyondChance 19 (33, .aload 9, 2) rfl) rfl rfl (aw_getA (pc' := 38) (dt_X10_beyondChance 20 (35, .getfield 163, 3) rfl) fl_ReturnDesk_163 rfl rfl g16 ?_ ?_))
      · intro e17
        have h := h.1 e17
        obtain ⟨g19, h⟩ := h
        refine aw_aload_n (pc' := 39) (dt_X10_beyondChance 21 (38, .aload_n 1, 1) rfl) rfl rfl (aw_getA (pc' := 42) (dt_X10_beyondChance 22 (39, .getfield 134, 3) rfl) fl_ReturnDesk_134 rfl rfl g19 ?_ ?_)
        · intro e20
          have h := h.1 e20
          exact h.elim
        · intro b21 e20
          have h := h.2 b21 e20
          exact h.elim
      · intro b18 e17
        have h := h.2 b18 e17
        obtain ⟨g22, h⟩ := h
        refine aw_aload_n (pc' := 39) (dt_X10_beyondChance 21 (38, .aload_n 1, 1) rfl) rfl rfl (aw_getA (pc' := 42) (dt_X10_beyondChance 22 (39, .getfield 134, 3) rfl) fl_ReturnDesk_134 rfl rfl g22 ?_ ?_)
        · intro e23
          have h := h.1 e23
          exact h.elim
        · intro b24 e23
          have h := h.2 b24 e23
          obtain ⟨g25, h⟩ := h
          obtain ⟨g26, h⟩ := h
          refine aw_acmp_ne (pc' := 45) (tgt := 119) (dt_X10_beyondChance 23 (42, .if_acmp .ne 77, 3) rfl) (by decide) rfl g25 g26 ?_ ?_
          · intro q27
            have h := h.1 q27
            refine aw_iinc (pc' := 122) (v := 1) (ls' := [some (.ref 11), some (.ref a1), some (.int x2), some (.int x3), some (.int x4), some (.int x5), some (.int x6), some (.int x7), some (.int (x8 + 1)), some (.ref b15), none, none]) (dt_X10_beyondChance 61 (119, .iinc 8 1, 3) rfl) rfl (by decide) (by decide) rfl rfl (aw_goto (tgt := 15) (dt_X10_beyondChance 62 (122, .goto (-107), 3) rfl) (by decide) (aw_drop (ls' := [some (.ref 11), some (.ref a1), some (.int x2), some (.int x3), some (.int x4), some (.int x5), some (.int x6), some (.int x7), some (.int (x8 + 1)), none, none, none]) ⟨rfl, rfl, rfl, rfl, rfl, rfl, rfl, rfl, rfl, trivial⟩ ?_))
            exact h
          · intro q27
            have h := h.2 q27
            refine aw_aload (pc' := 47) (dt_X10_beyondChance 24 (45, .aload 9, 2) rfl) rfl rfl (aw_inV (pc' := 50) (nc1 := 0) (ns1 := 0) (nc := nc) (ns := ns) (ls' := [some (.ref b15)]) (y2 := mX7_madeOn) (As := []) (rest := []) (a := b15) (dt_X10_beyondChance 25 (47, .invokevirtual 376, 3) rfl) ok_X7_madeOn ln_ReturnDesk_376 im_X7_madeOn se_X7_madeOn pr_X7_madeOn (Or.inl ⟨by decide, rfl⟩) rfl (Nat.le_of_ble_eq_true rfl) (Nat.le_of_ble_eq_true rfl) rfl rfl g16 (aw_aload_n (pc' := 1) (dt_X7_madeOn 0 (0, .aload_n 0, 1) rfl) rfl rfl (aw_getI (pc' := 4) (dt_X7_madeOn 1 (1, .getfield 56, 3) rfl) fl_Sale_56 rfl rfl g16 (aw_bipush (pc' := 6) (v := 24) (dt_X7_madeOn 2 (4, .bipush 24, 2) rfl) (by decide) rfl (aw_idiv (pc' := 7) (dt_X7_madeOn 3 (6, .idiv, 1) rfl) (by decide) rfl (aw_iret (dt_X7_madeOn 4 (7, .ireturn, 1) rfl) rfl rfl (aw_stk (st' := [.int ((zI μ b15 8) / 24)]) rfl (aw_iload_n (pc' := 51) (dt_X10_beyondChance 26 (50, .iload_n 3, 1) rfl) rfl rfl (aw_icmp_gt (pc' := 54) (tgt := 119) (dt_X10_beyondChance 27 (51, .if_icmp .gt 68, 3) rfl) (by decide) rfl ?_ ?_)))))))))
            · intro q28
              have h := h.1 q28
              refine aw_iinc (pc' := 122) (v := 1) (ls' := [some (.ref 11), some (.ref a1), some (.int x2), some (.int x3), some (.int x4), some (.int x5), some (.int x6), some (.int x7), some (.int (x8 + 1)), some (.ref b15), none, none]) (dt_X10_beyondChance 61 (119, .iinc 8 1, 3) rfl) rfl (by decide) (by decide) rfl rfl (aw_goto (tgt := 15) (dt_X10_beyondChance 62 (122, .goto (-107), 3) rfl) (by decide) (aw_drop (ls' := [some (.ref 11), some (.ref a1), some (.int x2), some (.int x3), some (.int x4), some (.int x5), some (.int x6), some (.int x7), some (.int (x8 + 1)), none, none, none]) ⟨rfl, rfl, rfl, rfl, rfl, rfl, rfl, rfl, rfl, trivial⟩ ?_))
              exact h
            · intro q28
              have h := h.2 q28
              refine aw_aload (pc' := 56) (dt_X10_beyondChance 28 (54, .aload 9, 2) rfl) rfl rfl (aw_getI (pc' := 59) (dt_X10_beyondChance 29 (56, .getfield 315, 3) rfl) fl_ReturnDesk_315 rfl rfl g16 (aw_iload_n (pc' := 60) (dt_X10_beyondChance 30 (59, .iload_n 3, 1) rfl) rfl rfl (aw_icmp_gt (pc' := 63) (tgt := 67) (dt_X10_beyondChance 31 (60, .if_icmp .gt 7, 3) rfl) (by decide) rfl ?_ ?_)))
              · intro q29
                have h := h.1 q29
                refine aw_iconst (pc' := 68) (v := 0) (dt_X10_beyondChance 34 (67, .iconst 0, 1) rfl) (by decide) rfl (aw_inS (pc' := 71) (nc1 := 0) (ns1 := 0) (nc := nc) (ns := ns) (ls' := [some (.int 0)]) (y2 := mX10_asBit) (As := [.int 0]) (rest := []) (dt_X10_beyondChance 35 (68, .invokestatic 287, 3) rfl) ok_X10_asBit ln_ReturnDesk_287 sm_X10_asBit pr_X10_asBit rfl (Nat.le_of_ble_eq_true rfl) (Nat.le_of_ble_eq_true rfl) rfl rfl (aw_iload_n (pc' := 1) (dt_X10_asBit 0 (0, .iload_n 0, 1) rfl) rfl rfl (aw_if_eq_T (pc' := 4) (tgt := 8) (dt_X10_asBit 1 (1, .ifCond .eq 7, 3) rfl) (by decide) rfl (by decide) (aw_iconst (pc' := 9) (v := 0) (dt_X10_asBit 4 (8, .iconst 0, 1) rfl) (by decide) rfl (aw_iret (dt_X10_asBit 5 (9, .ireturn, 1) rfl) rfl rfl (aw_stk (st' := [.int 0]) rfl (aw_istore (pc' := 73) (ls' := [some (.ref 11), some (.ref a1), some (.int x2), some (.int x3), some (.int x4), some (.int x5), some (.int x6), some (.int x7), some (.int x8), some (.ref b15), some (.int 0), none]) (dt_X10_beyondChance 36 (71, .istore 10, 2) rfl) (by decide) rfl rfl (aw_aload (pc' := 75) (dt_X10_beyondChance 37 (73, .aload 9, 2) rfl) rfl rfl (aw_getA (pc' := 78) (dt_X10_beyondChance 38 (75, .getfield 167, 3) rfl) fl_ReturnDesk_167 rfl rfl g16 ?_ ?_)))))))))
                · intro e30
                  have h := h.1 e30
                  refine aw_aload_n (pc' := 79) (dt_X10_beyondChance 39 (78, .aload_n 1, 1) rfl) rfl rfl ?_
                  exact h.elim
                · intro b31 e30
                  have h := h.2 b31 e30
                  obtain ⟨g32, h⟩ := h
                  obtain ⟨g33, h⟩ := h
                  refine aw_aload_n (pc' := 79) (dt_X10_beyondChance 39 (78, .aload_n 1, 1) rfl) rfl rfl (aw_acmp_ne (pc' := 82) (tgt := 86) (dt_X10_beyondChance 40 (79, .if_acmp .ne 7, 3) rfl) (by decide) rfl g32 g33 ?_ ?_)
                  · intro q34
                    have h := h.1 q34
                    refine aw_iconst (pc' := 87) (v := 0) (dt_X10_beyondChance 43 (86, .iconst 0, 1) rfl) (by decide) rfl (aw_inS (pc' := 90) (nc1 := 0) (ns1 := 0) (nc := nc) (ns := ns) (ls' := [some (.int 0)]) (y2 := mX10_asBit) (As := [.int 0]) (rest := []) (dt_X10_beyondChance 44 (87, .invokestatic 287, 3) rfl) ok_X10_asBit ln_ReturnDesk_287 sm_X10_asBit pr_X10_asBit rfl (Nat.le_of_ble_eq_true rfl) (Nat.le_of_ble_eq_true rfl) rfl rfl (aw_iload_n (pc' := 1) (dt_X10_asBit 0 (0, .iload_n 0, 1) rfl) rfl rfl (aw_if_eq_T (pc' := 4) (tgt := 8) (dt_X10_asBit 1 (1, .ifCond .eq 7, 3) rfl) (by decide) rfl (by decide) (aw_iconst (pc' := 9) (v := 0) (dt_X10_asBit 4 (8, .iconst 0, 1) rfl) (by decide) rfl (aw_iret (dt_X10_asBit 5 (9, .ireturn, 1) rfl) rfl rfl (aw_stk (st' := [.int 0]) rfl (aw_istore (pc' := 92) (ls' := [some (.ref 11), some (.ref a1), some (.int x2), some (.int x3), some (.int x4), some (.int x5), some (.int x6), some (.int x7), some (.int x8), some (.ref b15), some (.int 0), some (.int 0)]) (dt_X10_beyondChance 45 (90, .istore 11, 2) rfl) (by decide) rfl rfl (aw_iinc (pc' := 95) (v := 1) (ls' := [some (.ref 11), some (.ref a1), some (.int x2), some (.int x3), some (.int (x4 + 1)), some (.int x5), some (.int x6), some (.int x7), some (.int x8), some (.ref b15), some (.int 0), some (.int 0)]) (dt_X10_beyondChance 46 (92, .iinc 4 1, 3) rfl) rfl (by decide) (by decide) rfl rfl (aw_iload (pc' := 97) (dt_X10_beyondChance 47 (95, .iload 5, 2) rfl) rfl rfl (aw_iload (pc' := 99) (dt_X10_beyondChance 48 (97, .iload 10, 2) rfl) rfl rfl (aw_iadd (pc' := 100) (dt_X10_beyondChance 49 (99, .iadd, 1) rfl) rfl (aw_istore (pc' := 102) (ls' := [some (.ref 11), some (.ref a1), some (.int x2), some (.int x3), some (.int (x4 + 1)), some (.int (x5 + 0)), some (.int x6), some (.int x7), some (.int x8), some (.ref b15), some (.int 0), some (.int 0)]) (dt_X10_beyondChance 50 (100, .istore 5, 2) rfl) (by decide) rfl rfl (aw_iload (pc' := 104) (dt_X10_beyondChance 51 (102, .iload 6, 2) rfl) rfl rfl (aw_iload (pc' := 106) (dt_X10_beyondChance 52 (104, .iload 11, 2) rfl) rfl rfl (aw_iadd (pc' := 107) (dt_X10_beyondChance 53 (106, .iadd, 1) rfl) rfl (aw_istore (pc' := 109) (ls' := [some (.ref 11), some (.ref a1), some (.int x2), some (.int x3), some (.int (x4 + 1)), some (.int (x5 + 0)), some (.int (x6 + 0)), some (.int x7), some (.int x8), some (.ref b15), some (.int 0), some (.int 0)]) (dt_X10_beyondChance 54 (107, .istore 6, 2) rfl) (by decide) rfl rfl (aw_iload (pc' := 111) (dt_X10_beyondChance 55 (109, .iload 7, 2) rfl) rfl rfl (aw_iload (pc' := 113) (dt_X10_beyondChance 56 (111, .iload 10, 2) rfl) rfl rfl (aw_iload (pc' := 115) (dt_X10_beyondChance 57 (113, .iload 11, 2) rfl) rfl rfl (aw_imul (pc' := 116) (dt_X10_beyondChance 58 (115, .imul, 1) rfl) rfl (aw_iadd (pc' := 117) (dt_X10_beyondChance 59 (116, .iadd, 1) rfl) rfl (aw_istore (pc' := 119) (ls' := [some (.ref 11), some (.ref a1), some (.int x2), some (.int x3), some (.int (x4 + 1)), some (.int (x5 + 0)), some (.int (x6 + 0)), some (.int (x7 + ((0 : Int32) * 0))), some (.int x8), some (.ref b15), some (.int 0), some (.int 0)]) (dt_X10_beyondChance 60 (117, .istore 7, 2) rfl) (by decide) rfl rfl (aw_iinc (pc' := 122) (v := 1) (ls' := [some (.ref 11), some (.ref a1), some (.int x2), some (.int x3), some (.int (x4 + 1)), some (.int (x5 + 0)), some (.int (x6 + 0)), some (.int (x7 + ((0 : Int32) * 0))), some (.int (x8 + 1)), some (.ref b15), some (.int 0), some (.int 0)]) (dt_X10_beyondChance 61 (119, .iinc 8 1, 3) rfl) rfl (by decide) (by decide) rfl rfl (aw_goto (tgt := 15) (dt_X10_beyondChance 62 (122, .goto (-107), 3) rfl) (by decide) (aw_drop (ls' := [some (.ref 11), some (.ref a1), some (.int x2), some (.int x3), some (.int (x4 + 1)), some (.int (x5 + 0)), some (.int (x6 + 0)), some (.int (x7 + ((0 : Int32) * 0))), some (.int (x8 + 1)), none, none, none]) ⟨rfl, rfl, rfl, rfl, rfl, rfl, rfl, rfl, rfl, trivial⟩ ?_)))))))))))))))))))))))))
                    exact h
                  · intro q34
                    have h := h.2 q34
                    refine aw_iconst (pc' := 83) (v := 1) (dt_X10_beyondChance 41 (82, .iconst 1, 1) rfl) (by decide) rfl (aw_goto (tgt := 87) (dt_X10_beyondChance 42 (83, .goto 4, 3) rfl) (by decide) (aw_inS (pc' := 90) (nc1 := 0) (ns1 := 0) (nc := nc) (ns := ns) (ls' := [some (.int 1)]) (y2 := mX10_asBit) (As := [.int 1]) (rest := []) (dt_X10_beyondChance 44 (87, .invokestatic 287, 3) rfl) ok_X10_asBit ln_ReturnDesk_287 sm_X10_asBit pr_X10_asBit rfl (Nat.le_of_ble_eq_true rfl) (Nat.le_of_ble_eq_true rfl) rfl rfl (aw_iload_n (pc' := 1) (dt_X10_asBit 0 (0, .iload_n 0, 1) rfl) rfl rfl (aw_if_eq_F (pc' := 4) (tgt := 8) (dt_X10_asBit 1 (1, .ifCond .eq 7, 3) rfl) (by decide) rfl (by decide) (aw_iconst (pc' := 5) (v := 1) (dt_X10_asBit 2 (4, .iconst 1, 1) rfl) (by decide) rfl (aw_goto (tgt := 9) (dt_X10_asBit 3 (5, .goto 4, 3) rfl) (by decide) (aw_iret (dt_X10_asBit 5 (9, .ireturn, 1) rfl) rfl rfl (aw_stk (st' := [.int 1]) rfl (aw_istore (pc' := 92) (ls' := [some (.ref 11), some (.ref a1), some (.int x2), some (.int x3), some (.int x4), some (.int x5), some (.int x6), some (.int x7), some (.int x8), some (.ref b15), some (.int 0), some (.int 1)]) (dt_X10_beyondChance 45 (90, .istore 11, 2) rfl) (by decide) rfl rfl (aw_iinc (pc' := 95) (v := 1) (ls' := [some (.ref 11), some (.ref a1), some (.int x2), some (.int x3), some (.int (x4 + 1)), some (.int x5), some (.int x6), some (.int x7), some (.int x8), some (.ref b15), some (.int 0), some (.int 1)]) (dt_X10_beyondChance 46 (92, .iinc 4 1, 3) rfl) rfl (by decide) (by decide) rfl rfl (aw_iload (pc' := 97) (dt_X10_beyondChance 47 (95, .iload 5, 2) rfl) rfl rfl (aw_iload (pc' := 99) (dt_X10_beyondChance 48 (97, .iload 10, 2) rfl) rfl rfl (aw_iadd (pc' := 100) (dt_X10_beyondChance 49 (99, .iadd, 1) rfl) rfl (aw_istore (pc' := 102) (ls' := [some (.ref 11), some (.ref a1), some (.int x2), some (.int x3), some (.int (x4 + 1)), some (.int (x5 + 0)), some (.int x6), some (.int x7), some (.int x8), some (.ref b15), some (.int 0), some (.int 1)]) (dt_X10_beyondChance 50 (100, .istore 5, 2) rfl) (by decide) rfl rfl (aw_iload (pc' := 104) (dt_X10_beyondChance 51 (102, .iload 6, 2) rfl) rfl rfl (aw_iload (pc' := 106) (dt_X10_beyondChance 52 (104, .iload 11, 2) rfl) rfl rfl (aw_iadd (pc' := 107) (dt_X10_beyondChance 53 (106, .iadd, 1) rfl) rfl (aw_istore (pc' := 109) (ls' := [some (.ref 11), some (.ref a1), some (.int x2), some (.int x3), some (.int (x4 + 1)), some (.int (x5 + 0)), some (.int (x6 + 1)), some (.int x7), some (.int x8), some (.ref b15), some (.int 0), some (.int 1)]) (dt_X10_beyondChance 54 (107, .istore 6, 2) rfl) (by decide) rfl rfl (aw_iload (pc' := 111) (dt_X10_beyondChance 55 (109, .iload 7, 2) rfl) rfl rfl (aw_iload (pc' := 113) (dt_X10_beyondChance 56 (111, .iload 10, 2) rfl) rfl rfl (aw_iload (pc' := 115) (dt_X10_beyondChance 57 (113, .iload 11, 2) rfl) rfl rfl (aw_imul (pc' := 116) (dt_X10_beyondChance 58 (115, .imul, 1) rfl) rfl (aw_iadd (pc' := 117) (dt_X10_beyondChance 59 (116, .iadd, 1) rfl) rfl (aw_istore (pc' := 119) (ls' := [some (.ref 11), some (.ref a1), some (.int x2), some (.int x3), some (.int (x4 + 1)), some (.int (x5 + 0)), some (.int (x6 + 1)), some (.int (x7 + ((0 : Int32) * 1))), some (.int x8), some (.ref b15), some (.int 0), some (.int 1)]) (dt_X10_beyondChance 60 (117, .istore 7, 2) rfl) (by decide) rfl rfl (aw_iinc (pc' := 122) (v := 1) (ls' := [some (.ref 11), some (.ref a1), some (.int x2), some (.int x3), some (.int (x4 + 1)), some (.int (x5 + 0)), some (.int (x6 + 1)), some (.int (x7 + ((0 : Int32) * 1))), some (.int (x8 + 1)), some (.ref b15), some (.int 0), some (.int 1)]) (dt_X10_beyondChance 61 (119, .iinc 8 1, 3) rfl) rfl (by decide) (by decide) rfl rfl (aw_goto (tgt := 15) (dt_X10_beyondChance 62 (122, .goto (-107), 3) rfl) (by decide) (aw_drop (ls' := [some (.ref 11), some (.ref a1), some (.int x2), some (.int x3), some (.int (x4 + 1)), some (.int (x5 + 0)), some (.int (x6 + 1)), some (.int (x7 + ((0 : Int32) * 1))), some (.int (x8 + 1)), none, none, none]) ⟨rfl, rfl, rfl, rfl, rfl, rfl, rfl, rfl, rfl, trivial⟩ ?_)))))))))))))))))))))))))))
                    exact h
              · intro q29
                have h := h.2 q29
                refine aw_iconst (pc' := 64) (v := 1) (dt_X10_beyondChance 32 (63, .iconst 1, 1) rfl) (by decide) rfl (aw_goto (tgt := 68) (dt_X10_beyondChance 33 (64, .goto 4, 3) rfl) (by decide) (aw_inS (pc' := 71) (nc1 := 0) (ns1 := 0) (nc := nc) (ns := ns) (ls' := [some (.int 1)]) (y2 := mX10_asBit) (As := [.int 1]) (rest := []) (dt_X10_beyondChance 35 (68, .invokestatic 287, 3) rfl) ok_X10_asBit ln_ReturnDesk_287 sm_X10_asBit pr_X10_asBit rfl (Nat.le_of_ble_eq_true rfl) (Nat.le_of_ble_eq_true rfl) rfl rfl (aw_iload_n (pc' := 1) (dt_X10_asBit 0 (0, .iload_n 0, 1) rfl) rfl rfl (aw_if_eq_F (pc' := 4) (tgt := 8) (dt_X10_asBit 1 (1, .ifCond .eq 7, 3) rfl) (by decide) rfl (by decide) (aw_iconst (pc' := 5) (v := 1) (dt_X10_asBit 2 (4, .iconst 1, 1) rfl) (by decide) rfl (aw_goto (tgt := 9) (dt_X10_asBit 3 (5, .goto 4, 3) rfl) (by decide) (aw_iret (dt_X10_asBit 5 (9, .ireturn, 1) rfl) rfl rfl (aw_stk (st' := [.int 1]) rfl (aw_istore (pc' := 73) (ls' := [some (.ref 11), some (.ref a1), some (.int x2), some (.int x3), some (.int x4), some (.int x5), some (.int x6), some (.int x7), some (.int x8), some (.ref b15), some (.int 1), none]) (dt_X10_beyondChance 36 (71, .istore 10, 2) rfl) (by decide) rfl rfl (aw_aload (pc' := 75) (dt_X10_beyondChance 37 (73, .aload 9, 2) rfl) rfl rfl (aw_getA (pc' := 78) (dt_X10_beyondChance 38 (75, .getfield 167, 3) rfl) fl_ReturnDesk_167 rfl rfl g16 ?_ ?_)))))))))))
                · intro e35
                  have h := h.1 e35
                  refine aw_aload_n (pc' := 79) (dt_X10_beyondChance 39 (78, .aload_n 1, 1) rfl) rfl rfl ?_
                  exact h.elim
                · intro b36 e35
                  have h := h.2 b36 e35
                  obtain ⟨g37, h⟩ := h
                  obtain ⟨g38, h⟩ := h
                  refine aw_aload_n (pc' := 79) (dt_X10_beyondChance 39 (78, .aload_n 1, 1) rfl) rfl rfl (aw_acmp_ne (pc' := 82) (tgt := 86) (dt_X10_beyondChance 40 (79, .if_acmp .ne 7, 3) rfl) (by decide) rfl g37 g38 ?_ ?_)
                  · intro q39
                    have h := h.1 q39
                    refine aw_iconst (pc' := 87) (v := 0) (dt_X10_beyondChance 43 (86, .iconst 0, 1) rfl) (by decide) rfl (aw_inS (pc' := 90) (nc1 := 0) (ns1 := 0) (nc := nc) (ns := ns) (ls' := [some (.int 0)]) (y2 := mX10_asBit) (As := [.int 0]) (rest := []) (dt_X10_beyondChance 44 (87, .invokestatic 287, 3) rfl) ok_X10_asBit ln_ReturnDesk_287 sm_X10_asBit pr_X10_asBit rfl (Nat.le_of_ble_eq_true rfl) (Nat.le_of_ble_eq_true rfl) rfl rfl (aw_iload_n (pc' := 1) (dt_X10_asBit 0 (0, .iload_n 0, 1) rfl) rfl rfl (aw_if_eq_T (pc' := 4) (tgt := 8) (dt_X10_asBit 1 (1, .ifCond .eq 7, 3) rfl) (by decide) rfl (by decide) (aw_iconst (pc' := 9) (v := 0) (dt_X10_asBit 4 (8, .iconst 0, 1) rfl) (by decide) rfl (aw_iret (dt_X10_asBit 5 (9, .ireturn, 1) rfl) rfl rfl (aw_stk (st' := [.int 0]) rfl (aw_istore (pc' := 92) (ls' := [some (.ref 11), some (.ref a1), some (.int x2), some (.int x3), some (.int x4), some (.int x5), some (.int x6), some (.int x7), some (.int x8), some (.ref b15), some (.int 1), some (.int 0)]) (dt_X10_beyondChance 45 (90, .istore 11, 2) rfl) (by decide) rfl rfl (aw_iinc (pc' := 95) (v := 1) (ls' := [some (.ref 11), some (.ref a1), some (.int x2), some (.int x3), some (.int (x4 + 1)), some (.int x5), some (.int x6), some (.int x7), some (.int x8), some (.ref b15), some (.int 1), some (.int 0)]) (dt_X10_beyondChance 46 (92, .iinc 4 1, 3) rfl) rfl (by decide) (by decide) rfl rfl (aw_iload (pc' := 97) (dt_X10_beyondChance 47 (95, .iload 5, 2) rfl) rfl rfl (aw_iload (pc' := 99) (dt_X10_beyondChance 48 (97, .iload 10, 2) rfl) rfl rfl (aw_iadd (pc' := 100) (dt_X10_beyondChance 49 (99, .iadd, 1) rfl) rfl (aw_istore (pc' := 102) (ls' := [some (.ref 11), some (.ref a1), some (.int x2), some (.int x3), some (.int (x4 + 1)), some (.int (x5 + 1)), some (.int x6), some (.int x7), some (.int x8), some (.ref b15), some (.int 1), some (.int 0)]) (dt_X10_beyondChance 50 (100, .istore 5, 2) rfl) (by decide) rfl rfl (aw_iload (pc' := 104) (dt_X10_beyondChance 51 (102, .iload 6, 2) rfl) rfl rfl (aw_iload (pc' := 106) (dt_X10_beyondChance 52 (104, .iload 11, 2) rfl) rfl rfl (aw_iadd (pc' := 107) (dt_X10_beyondChance 53 (106, .iadd, 1) rfl) rfl (aw_istore (pc' := 109) (ls' := [some (.ref 11), some (.ref a1), some (.int x2), some (.int x3), some (.int (x4 + 1)), some (.int (x5 + 1)), some (.int (x6 + 0)), some (.int x7), some (.int x8), some (.ref b15), some (.int 1), some (.int 0)]) (dt_X10_beyondChance 54 (107, .istore 6, 2) rfl) (by decide) rfl rfl (aw_iload (pc' := 111) (dt_X10_beyondChance 55 (109, .iload 7, 2) rfl) rfl rfl (aw_iload (pc' := 113) (dt_X10_beyondChance 56 (111, .iload 10, 2) rfl) rfl rfl (aw_iload (pc' := 115) (dt_X10_beyondChance 57 (113, .iload 11, 2) rfl) rfl rfl (aw_imul (pc' := 116) (dt_X10_beyondChance 58 (115, .imul, 1) rfl) rfl (aw_iadd (pc' := 117) (dt_X10_beyondChance 59 (116, .iadd, 1) rfl) rfl (aw_istore (pc' := 119) (ls' := [some (.ref 11), some (.ref a1), some (.int x2), some (.int x3), some (.int (x4 + 1)), some (.int (x5 + 1)), some (.int (x6 + 0)), some (.int (x7 + ((1 : Int32) * 0))), some (.int x8), some (.ref b15), some (.int 1), some (.int 0)]) (dt_X10_beyondChance 60 (117, .istore 7, 2) rfl) (by decide) rfl rfl (aw_iinc (pc' := 122) (v := 1) (ls' := [some (.ref 11), some (.ref a1), some (.int x2), some (.int x3), some (.int (x4 + 1)), some (.int (x5 + 1)), some (.int (x6 + 0)), some (.int (x7 + ((1 : Int32) * 0))), some (.int (x8 + 1)), some (.ref b15), some (.int 1), some (.int 0)]) (dt_X10_beyondChance 61 (119, .iinc 8 1, 3) rfl) rfl (by decide) (by decide) rfl rfl (aw_goto (tgt := 15) (dt_X10_beyondChance 62 (122, .goto (-107), 3) rfl) (by decide) (aw_drop (ls' := [some (.ref 11), some (.ref a1), some (.int x2), some (.int x3), some (.int (x4 + 1)), some (.int (x5 + 1)), some (.int (x6 + 0)), some (.int (x7 + ((1 : Int32) * 0))), some (.int (x8 + 1)), none, none, none]) ⟨rfl, rfl, rfl, rfl, rfl, rfl, rfl, rfl, rfl, trivial⟩ ?_)))))))))))))))))))))))))
                    exact h
                  · intro q39
                    have h := h.2 q39
                    refine aw_iconst (pc' := 83) (v := 1) (dt_X10_beyondChance 41 (82, .iconst 1, 1) rfl) (by decide) rfl (aw_goto (tgt := 87) (dt_X10_beyondChance 42 (83, .goto 4, 3) rfl) (by decide) (aw_inS (pc' := 90) (nc1 := 0) (ns1 := 0) (nc := nc) (ns := ns) (ls' := [some (.int 1)]) (y2 := mX10_asBit) (As := [.int 1]) (rest := []) (dt_X10_beyondChance 44 (87, .invokestatic 287, 3) rfl) ok_X10_asBit ln_ReturnDesk_287 sm_X10_asBit pr_X10_asBit rfl (Nat.le_of_ble_eq_true rfl) (Nat.le_of_ble_eq_true rfl) rfl rfl (aw_iload_n (pc' := 1) (dt_X10_asBit 0 (0, .iload_n 0, 1) rfl) rfl rfl (aw_if_eq_F (pc' := 4) (tgt := 8) (dt_X10_asBit 1 (1, .ifCond .eq 7, 3) rfl) (by decide) rfl (by decide) (aw_iconst (pc' := 5) (v := 1) (dt_X10_asBit 2 (4, .iconst 1, 1) rfl) (by decide) rfl (aw_goto (tgt := 9) (dt_X10_asBit 3 (5, .goto 4, 3) rfl) (by decide) (aw_iret (dt_X10_asBit 5 (9, .ireturn, 1) rfl) rfl rfl (aw_stk (st' := [.int 1]) rfl (aw_istore (pc' := 92) (ls' := [some (.ref 11), some (.ref a1), some (.int x2), some (.int x3), some (.int x4), some (.int x5), some (.int x6), some (.int x7), some (.int x8), some (.ref b15), some (.int 1), some (.int 1)]) (dt_X10_beyondChance 45 (90, .istore 11, 2) rfl) (by decide) rfl rfl (aw_iinc (pc' := 95) (v := 1) (ls' := [some (.ref 11), some (.ref a1), some (.int x2), some (.int x3), some (.int (x4 + 1)), some (.int x5), some (.int x6), some (.int x7), some (.int x8), some (.ref b15), some (.int 1), some (.int 1)]) (dt_X10_beyondChance 46 (92, .iinc 4 1, 3) rfl) rfl (by decide) (by decide) rfl rfl (aw_iload (pc' := 97) (dt_X10_beyondChance 47 (95, .iload 5, 2) rfl) rfl rfl (aw_iload (pc' := 99) (dt_X10_beyondChance 48 (97, .iload 10, 2) rfl) rfl rfl (aw_iadd (pc' := 100) (dt_X10_beyondChance 49 (99, .iadd, 1) rfl) rfl (aw_istore (pc' := 102) (ls' := [some (.ref 11), some (.ref a1), some (.int x2), some (.int x3), some (.int (x4 + 1)), some (.int (x5 + 1)), some (.int x6), some (.int x7), some (.int x8), some (.ref b15), some (.int 1), some (.int 1)]) (dt_X10_beyondChance 50 (100, .istore 5, 2) rfl) (by decide) rfl rfl (aw_iload (pc' := 104) (dt_X10_beyondChance 51 (102, .iload 6, 2) rfl) rfl rfl (aw_iload (pc' := 106) (dt_X10_beyondChance 52 (104, .iload 11, 2) rfl) rfl rfl (aw_iadd (pc' := 107) (dt_X10_beyondChance 53 (106, .iadd, 1) rfl) rfl (aw_istore (pc' := 109) (ls' := [some (.ref 11), some (.ref a1), some (.int x2), some (.int x3), some (.int (x4 + 1)), some (.int (x5 + 1)), some (.int (x6 + 1)), some (.int x7), some (.int x8), some (.ref b15), some (.int 1), some (.int 1)]) (dt_X10_beyondChance 54 (107, .istore 6, 2) rfl) (by decide) rfl rfl (aw_iload (pc' := 111) (dt_X10_beyondChance 55 (109, .iload 7, 2) rfl) rfl rfl (aw_iload (pc' := 113) (dt_X10_beyondChance 56 (111, .iload 10, 2) rfl) rfl rfl (aw_iload (pc' := 115) (dt_X10_beyondChance 57 (113, .iload 11, 2) rfl) rfl rfl (aw_imul (pc' := 116) (dt_X10_beyondChance 58 (115, .imul, 1) rfl) rfl (aw_iadd (pc' := 117) (dt_X10_beyondChance 59 (116, .iadd, 1) rfl) rfl (aw_istore (pc' := 119) (ls' := [some (.ref 11), some (.ref a1), some (.int x2), some (.int x3), some (.int (x4 + 1)), some (.int (x5 + 1)), some (.int (x6 + 1)), some (.int (x7 + ((1 : Int32) * 1))), some (.int x8), some (.ref b15), some (.int 1), some (.int 1)]) (dt_X10_beyondChance 60 (117, .istore 7, 2) rfl) (by decide) rfl rfl (aw_iinc (pc' := 122) (v := 1) (ls' := [some (.ref 11), some (.ref a1), some (.int x2), some (.int x3), some (.int (x4 + 1)), some (.int (x5 + 1)), some (.int (x6 + 1)), some (.int (x7 + ((1 : Int32) * 1))), some (.int (x8 + 1)), some (.ref b15), some (.int 1), some (.int 1)]) (dt_X10_beyondChance 61 (119, .iinc 8 1, 3) rfl) rfl (by decide) (by decide) rfl rfl (aw_goto (tgt := 15) (dt_X10_beyondChance 62 (122, .goto (-107), 3) rfl) (by decide) (aw_drop (ls' := [some (.ref 11), some (.ref a1), some (.int x2), some (.int x3), some (.int (x4 + 1)), some (.int (x5 + 1)), some (.int (x6 + 1)), some (.int (x7 + ((1 : Int32) * 1))), some (.int (x8 + 1)), none, none, none]) ⟨rfl, rfl, rfl, rfl, rfl, rfl, rfl, rfl, rfl, trivial⟩ ?_)))))))))))))))))))))))))))
                    exact h

theorem t_X10_dealsWith {E : ZE} {l : Launch} {d nc ns : Nat} {x0 : Int32} {x1 : Int32} {x2 : Int32} {x3 : Int32} {μ : ZM} {K : Option Value → ZM → Prop} (hS : Stat μ) (h :
  AW E l (d + 1) nc ns mX10_dealsWith 6 [some (.int x0), some (.int x1), some (.int x2), none, some (.long 0), none, some (.int x3)] [] μ K) : AW E l (d + 1) nc ns mX10_dealsWith 0 [some (.int x0), some (.int x1), some (.int x2), some (.int x3), none, none, none] [] μ K := by
  refine aw_lconst (pc' := 1) (v := 0) (dt_X10_dealsWith 0 (0, .lconst 0, 1) rfl) (by decide) rfl (aw_lstore (pc' := 3) (ls' := [some (.int x0), some (.int x1), some (.int x2), some (.int x3), some (.long 0), none, none]) (dt_X10_dealsWith 1 (1, .lstore 4, 2) rfl) (by decide) rfl rfl (aw_iload_n (pc' := 4) (dt_X10_dealsWith 2 (3, .iload_n 3, 1) rfl) rfl rfl (aw_istore (pc' := 6) (ls' := [some (.int x0), some (.int x1), some (.int x2), some (.int x3), some (.long 0), none, some (.int x3)]) (dt_X10_dealsWith 3 (4, .istore 6, 2) rfl) (by decide) rfl rfl (aw_drop (ls' := [some (.int x0), some (.int x1), some (.int x2), none, some (.long 0), none, some (.int x3)]) ⟨rfl, rfl, rfl, rfl, rfl, trivial⟩ ?_))))
  exact h

theorem t_X10_dealsWith_6 {E : ZE} {l : Launch} {d nc ns : Nat} {x0 : Int32} {x1 : Int32} {x2 : Int32} {x4 : Int64} {x6 : Int32} {μ : ZM} {K : Option Value → ZM → Prop} (hS : Stat μ) (h :
  (x1 < x6 →
    K (some (.long x4)) μ) ∧
  (¬ x1 < x6 →
    (x2 < x6 →
      K (some (.long x4)) μ) ∧
    (¬ x2 < x6 →
      AW E l d 0 0 mX10_choose 0 (zargs 5 [.int x1, .int x6]) [] μ (fun v μ3 => ∃ r5 : Int64, v = some (.long r5) ∧ Stat μ3 ∧ 
        AW E l d 0 0 mX10_choose 0 (zargs 5 [.int (x0 - x1), .int (x2 - x6)]) [] μ3 (fun v μ6 => ∃ r8 : Int64, v = some (.long r8) ∧ Stat μ6 ∧ 
          AW E l (d + 1) nc ns mX10_dealsWith 6 [some (.int x0), some (.int x1), some (.int x2), none, some (.long (x4 + (r5 * r8))), none, some (.int (x6 + 1))] [] μ6 K))))) : AW E l (d + 1) nc ns mX10_dealsWith 6 [some (.int x0), some (.int x1), some (.int x2), none, some (.long x4), none, some (.int x6)] [] μ K := by
  refine aw_iload (pc' := 8) (dt_X10_dealsWith 4 (6, .iload 6, 2) rfl) rfl rfl (aw_iload_n (pc' := 9) (dt_X10_dealsWith 5 (8, .iload_n 1, 1) rfl) rfl rfl (aw_icmp_gt (pc' := 12) (tgt := 46) (dt_X10_dealsWith 6 (9, .if_icmp .gt 37, 3) rfl) (by decide) rfl ?_ ?_))
  · intro q1
    have h := h.1 q1
    refine aw_lload (pc' := 48) (dt_X10_dealsWith 26 (46, .lload 4, 2) rfl) rfl rfl (aw_lret (dt_X10_dealsWith 27 (48, .lreturn, 1) rfl) rfl ?_)
    exact h
  · intro q1
    have h := h.2 q1
    refine aw_iload (pc' := 14) (dt_X10_dealsWith 7 (12, .iload 6, 2) rfl) rfl rfl (aw_iload_n (pc' := 15) (dt_X10_dealsWith 8 (14, .iload_n 2, 1) rfl) rfl rfl (aw_icmp_gt (pc' := 18) (tgt := 46) (dt_X10_dealsWith 9 (15, .if_icmp .gt 31, 3) rfl) (by decide) rfl ?_ ?_))
    · intro q2
      have h := h.1 q2
      refine aw_lload (pc' := 48) (dt_X10_dealsWith 26 (46, .lload 4, 2) rfl) rfl rfl (aw_lret (dt_X10_dealsWith 27 (48, .lreturn, 1) rfl) rfl ?_)
      exact h
    · intro q2
      have h := h.2 q2
      refine aw_lload (pc' := 20) (dt_X10_dealsWith 10 (18, .lload 4, 2) rfl) rfl rfl (aw_iload_n (pc' := 21) (dt_X10_dealsWith 11 (20, .iload_n 1, 1) rfl) rfl rfl (aw_iload (pc' := 23) (dt_X10_dealsWith 12 (21, .iload 6, 2) rfl) rfl rfl (aw_callS0 (pc' := 26) (nc := nc) (ns := ns) (y2 := mX10_choose) (As := [.int x1, .int x6]) (rest := [.long x4]) (dt_X10_dealsWith 13 (23, .invokestatic 535, 3) rfl) ok_X10_choose ln_ReturnDesk_535 sm_X10_choose pr_X10_choose rfl (Nat.le_of_ble_eq_true rfl) (Nat.le_of_ble_eq_true rfl) rfl  h ?_)))
      rintro v μ3 ⟨r5, rfl, hS4, h⟩
      refine aw_stk (st' := [.long r5, .long x4]) rfl ?_
      refine aw_iload_n (pc' := 27) (dt_X10_dealsWith 14 (26, .iload_n 0, 1) rfl) rfl rfl (aw_iload_n (pc' := 28) (dt_X10_dealsWith 15 (27, .iload_n 1, 1) rfl) rfl rfl (aw_isub (pc' := 29) (dt_X10_dealsWith 16 (28, .isub, 1) rfl) rfl (aw_iload_n (pc' := 30) (dt_X10_dealsWith 17 (29, .iload_n 2, 1) rfl) rfl rfl (aw_iload (pc' := 32) (dt_X10_dealsWith 18 (30, .iload 6, 2) rfl) rfl rfl (aw_isub (pc' := 33) (dt_X10_dealsWith 19 (32, .isub, 1) rfl) rfl (aw_callS0 (pc' := 36) (nc := nc) (ns := ns) (y2 := mX10_choose) (As := [.int (x0 - x1), .int (x2 - x6)]) (rest := [.long r5, .long x4]) (dt_X10_dealsWith 20 (33, .invokestatic 535, 3) rfl) ok_X10_choose ln_ReturnDesk_535 sm_X10_choose pr_X10_choose rfl (Nat.le_of_ble_eq_true rfl) (Nat.le_of_ble_eq_true rfl) rfl  h ?_))))))
      rintro v μ6 ⟨r8, rfl, hS7, h⟩
      refine aw_stk (st' := [.long r8, .long r5, .long x4]) rfl ?_
      refine aw_lmul (pc' := 37) (dt_X10_dealsWith 21 (36, .lmul, 1) rfl) rfl (aw_ladd (pc' := 38) (dt_X10_dealsWith 22 (37, .ladd, 1) rfl) rfl (aw_lstore (pc' := 40) (ls' := [some (.int x0), some (.int x1), some (.int x2), none, some (.long (x4 + (r5 * r8))), none, some (.int x6)]) (dt_X10_dealsWith 23 (38, .lstore 4, 2) rfl) (by decide) rfl rfl (aw_iinc (pc' := 43) (v := 1) (ls' := [some (.int x0), some (.int x1), some (.int x2), none, some (.long (x4 + (r5 * r8))), none, some (.int (x6 + 1))]) (dt_X10_dealsWith 24 (40, .iinc 6 1, 3) rfl) rfl (by decide) (by decide) rfl rfl (aw_goto (tgt := 6) (dt_X10_dealsWith 25 (43, .goto (-37), 3) rfl) (by decide) ?_))))
      exact h

theorem t_X10_leastNotBelow {E : ZE} {l : Launch} {d nc ns : Nat} {x0 : Int64} {x2 : Int32} {μ : ZM} {K : Option Value → ZM → Prop} (hS : Stat μ) (h :
  K (some (.long (((x0 / 10000) * (x2).toInt64) + ((((x0 - x0 / 10000 * 10000) * (x2).toInt64) + 9999) / 10000)))) μ) : AW E l d nc ns mX10_leastNotBelow 0 [some (.long x0), none, some (.int x2)] [] μ K := by
  refine aw_lload_n (pc' := 1) (dt_X10_leastNotBelow 0 (0, .lload_n 0, 1) rfl) rfl rfl (aw_ldc2 (pc' := 4) (dt_X10_leastNotBelow 1 (1, .ldc2_w 547, 3) rfl) ct_ReturnDesk_547 rfl (aw_ldiv (pc' := 5) (dt_X10_leastNotBelow 2 (4, .ldiv, 1) rfl) (by decide) rfl (aw_iload_n (pc' := 6) (dt_X10_leastNotBelow 3 (5, .iload_n 2, 1) rfl) rfl rfl (aw_i2l (pc' := 7) (dt_X10_leastNotBelow 4 (6, .i2l, 1) rfl) rfl (aw_lmul (pc' := 8) (dt_X10_leastNotBelow 5 (7, .lmul, 1) rfl) rfl (aw_lload_n (pc' := 9) (dt_X10_leastNotBelow 6 (8, .lload_n 0, 1) rfl) rfl rfl (aw_ldc2 (pc' := 12) (dt_X10_leastNotBelow 7 (9, .ldc2_w 547, 3) rfl) ct_ReturnDesk_547 rfl (aw_lrem (pc' := 13) (dt_X10_leastNotBelow 8 (12, .lrem, 1) rfl) (by decide) rfl (aw_iload_n (pc' := 14) (dt_X10_leastNotBelow 9 (13, .iload_n 2, 1) rfl) rfl rfl (aw_i2l (pc' := 15) (dt_X10_leastNotBelow 10 (14, .i2l, 1) rfl) rfl (aw_lmul (pc' := 16) (dt_X10_leastNotBelow 11 (15, .lmul, 1) rfl) rfl (aw_ldc2 (pc' := 19) (dt_X10_leastNotBelow 12 (16, .ldc2_w 549, 3) rfl) ct_ReturnDesk_549 rfl (aw_ladd (pc' := 20) (dt_X10_leastNotBelow 13 (19, .ladd, 1) rfl) rfl (aw_ldc2 (pc' := 23) (dt_X10_leastNotBelow 14 (20, .ldc2_w 547, 3) rfl) ct_ReturnDesk_547 rfl (aw_ldiv (pc' := 24) (dt_X10_leastNotBelow 15 (23, .ldiv, 1) rfl) (by decide) rfl (aw_ladd (pc' := 25) (dt_X10_leastNotBelow 16 (24, .ladd, 1) rfl) rfl (aw_lret (dt_X10_leastNotBelow 17 (25, .lreturn, 1) rfl) rfl ?_)))))))))))))))))
  exact h

theorem t_X10_choose {E : ZE} {l : Launch} {d nc ns : Nat} {x0 : Int32} {x1 : Int32} {μ : ZM} {K : Option Value → ZM → Prop} (hS : Stat μ) (h :
  (x1 < 0 →
    K (some (.long 0)) μ) ∧
  (¬ x1 < 0 →
    (x1 ≤ x0 →
      AW E l d nc ns mX10_choose 16 [some (.int x0), some (.int x1), some (.long 1), none, some (.int 0)] [] μ K) ∧
    (¬ x1 ≤ x0 →
      K (some (.long 0)) μ))) : AW E l d nc ns mX10_choose 0 [some (.int x0), some (.int x1), none, none, none] [] μ K := by
  refine aw_iload_n (pc' := 1) (dt_X10_choose 0 (0, .iload_n 1, 1) rfl) rfl rfl (aw_if_lt (pc' := 4) (tgt := 9) (dt_X10_choose 1 (1, .ifCond .lt 8, 3) rfl) (by decide) rfl ?_ ?_)
  · intro q1
    have h := h.1 q1
    refine aw_lconst (pc' := 10) (v := 0) (dt_X10_choose 5 (9, .lconst 0, 1) rfl) (by decide) rfl (aw_lret (dt_X10_choose 6 (10, .lreturn, 1) rfl) rfl ?_)
    exact h
  · intro q1
    have h := h.2 q1
    refine aw_iload_n (pc' := 5) (dt_X10_choose 2 (4, .iload_n 1, 1) rfl) rfl rfl (aw_iload_n (pc' := 6) (dt_X10_choose 3 (5, .iload_n 0, 1) rfl) rfl rfl (aw_icmp_le (pc' := 9) (tgt := 11) (dt_X10_choose 4 (6, .if_icmp .le 5, 3) rfl) (by decide) rfl ?_ ?_))
    · intro q2
      have h := h.1 q2
      refine aw_lconst (pc' := 12) (v := 1) (dt_X10_choose 7 (11, .lconst 1, 1) rfl) (by decide) rfl (aw_lstore_n (pc' := 13) (ls' := [some (.int x0), some (.int x1), some (.long 1), none, none]) (dt_X10_choose 8 (12, .lstore_n 2, 1) rfl) (by decide) rfl rfl (aw_iconst (pc' := 14) (v := 0) (dt_X10_choose 9 (13, .iconst 0, 1) rfl) (by decide) rfl (aw_istore (pc' := 16) (ls' := [some (.int x0), some (.int x1), some (.long 1), none, some (.int 0)]) (dt_X10_choose 10 (14, .istore 4, 2) rfl) (by decide) rfl rfl ?_)))
      exact h
    · intro q2
      have h := h.2 q2
      refine aw_lconst (pc' := 10) (v := 0) (dt_X10_choose 5 (9, .lconst 0, 1) rfl) (by decide) rfl (aw_lret (dt_X10_choose 6 (10, .lreturn, 1) rfl) rfl ?_)
      exact h

theorem t_X10_choose_16 {E : ZE} {l : Launch} {d nc ns : Nat} {x0 : Int32} {x1 : Int32} {x2 : Int64} {x4 : Int32} {μ : ZM} {K : Option Value → ZM → Prop} (hS : Stat μ) (h :
  (x1 ≤ x4 →
    K (some (.long x2)) μ) ∧
  (¬ x1 ≤ x4 →
    (¬ ((x4 + 1)).toInt64 = 0) ∧
    AW E l d nc ns mX10_choose 16 [some (.int x0), some (.int x1), some (.long ((x2 * ((x0 - x4)).toInt64) / ((x4 + 1)).toInt64)), none, some (.int (x4 + 1))] [] μ K)) : AW E l d nc ns mX10_choose 16 [some (.int x0), some (.int x1), some (.long x2), none, some (.int x4)] [] μ K := by
  refine aw_iload (pc' := 18) (dt_X10_choose 11 (16, .iload 4, 2) rfl) rfl rfl (aw_iload_n (pc' := 19) (dt_X10_choose 12 (18, .iload_n 1, 1) rfl) rfl rfl (aw_icmp_ge (pc' := 22) (tgt := 42) (dt_X10_choose 13 (19, .if_icmp .ge 23, 3) rfl) (by decide) rfl ?_ ?_))
  · intro q1
    have h := h.1 q1
    refine aw_lload_n (pc' := 43) (dt_X10_choose 28 (42, .lload_n 2, 1) rfl) rfl rfl (aw_lret (dt_X10_choose 29 (43, .lreturn, 1) rfl) rfl ?_)
    exact h
  · intro q1
    have h := h.2 q1
    obtain ⟨g2, h⟩ := h
    refine aw_lload_n (pc' := 23) (dt_X10_choose 14 (22, .lload_n 2, 1) rfl) rfl rfl (aw_iload_n (pc' := 24) (dt_X10_choose 15 (23, .iload_n 0, 1) rfl) rfl rfl (aw_iload (pc' := 26) (dt_X10_choose 16 (24, .iload 4, 2) rfl) rfl rfl (aw_isub (pc' := 27) (dt_X10_choose 17 (26, .isub, 1) rfl) rfl (aw_i2l (pc' := 28) (dt_X10_choose 18 (27, .i2l, 1) rfl) rfl (aw_lmul (pc' := 29) (dt_X10_choose 19 (28, .lmul, 1) rfl) rfl (aw_iload (pc' := 31) (dt_X10_choose 20 (29, .iload 4, 2) rfl) rfl rfl (aw_iconst (pc' := 32) (v := 1) (dt_X10_choose 21 (31, .iconst 1, 1) rfl) (by decide) rfl (aw_iadd (pc' := 33) (dt_X10_choose 22 (32, .iadd, 1) rfl) rfl (aw_i2l (pc' := 34) (dt_X10_choose 23 (33, .i2l, 1) rfl) rfl (aw_ldiv (pc' := 35) (dt_X10_choose 24 (34, .ldiv, 1) rfl) g2 rfl (aw_lstore_n (pc' := 36) (ls' := [some (.int x0), some (.int x1), some (.long ((x2 * ((x0 - x4)).toInt64) / ((x4 + 1)).toInt64)), none, some (.int x4)]) (dt_X10_choose 25 (35, .lstore_n 2, 1) rfl) (by decide) rfl rfl (aw_iinc (pc' := 39) (v := 1) (ls' := [some (.int x0), some (.int x1), some (.long ((x2 * ((x0 - x4)).toInt64) / ((x4 + 1)).toInt64)), none, some (.int (x4 + 1))]) (dt_X10_choose 26 (36, .iinc 4 1, 3) rfl) rfl (by decide) (by decide) rfl rfl (aw_goto (tgt := 16) (dt_X10_choose 27 (39, .goto (-23), 3) rfl) (by decide) ?_)))))))))))))
    exact h

theorem t_X10_nextChange {E : ZE} {l : Launch} {d nc ns : Nat} {a1 : Nat} {x2 : Int32} {μ : ZM} {K : Option Value → ZM → Prop} (hS : Stat μ) (h :
  AW E l (d + 1) nc ns mX10_nextChange 7 [some (.ref 11), some (.ref a1), some (.int x2), some (.int 3000), some (.int 0), none] [] μ K) : AW E l (d + 1) nc ns mX10_nextChange 0 [some (.ref 11), some (.ref a1), some (.int x2), none, none, none] [] μ K := by
  refine aw_sipush (pc' := 3) (v := 3000) (dt_X10_nextChange 0 (0, .sipush 3000, 3) rfl) (by decide) rfl (aw_istore_n (pc' := 4) (ls' := [some (.ref 11), some (.ref a1), some (.int x2), some (.int 3000), none, none]) (dt_X10_nextChange 1 (3, .istore_n 3, 1) rfl) (by decide) rfl rfl (aw_iconst (pc' := 5) (v := 0) (dt_X10_nextChange 2 (4, .iconst 0, 1) rfl) (by decide) rfl (aw_istore (pc' := 7) (ls' := [some (.ref 11), some (.ref a1), some (.int x2), some (.int 3000), some (.int 0), none]) (dt_X10_nextChange 3 (5, .istore 4, 2) rfl) (by decide) rfl rfl ?_)))
  exact h

theorem t_X10_nextChange_7 {E : ZE} {l : Launch} {d nc ns : Nat} {a1 : Nat} {x2 : Int32} {x3 : Int32} {x4 : Int32} {μ : ZM} {K : Option Value → ZM → Prop} (hS : Stat μ) (h :
  ((zI μ 11 14) ≤ x4 →
    K (some (.int x3)) μ) ∧
  (¬ (zI μ 11 14) ≤ x4 →
    (vp_in x4 300) ∧
    (zA μ 14 x4.toNatClampNeg = none →
      False) ∧
    (∀ b4, zA μ 14 x4.toNatClampNeg = some b4 →
      (zK μ b4 = 7) ∧
      (zA μ b4 1 = none →
        False) ∧
      (∀ b7, zA μ b4 1 = some b7 →
        (11 ≤ b7) ∧
        (11 ≤ a1) ∧
        (¬ b7 = a1 →
          AW E l (d + 1) nc ns mX10_nextChange 7 [some (.ref 11), some (.ref a1), some (.int x2), some (.int x3), some (.int (x4 + 1)), none] [] μ K) ∧
        (b7 = a1 →
          (((zI μ b4 8) / 24) ≤ x2 →
            ((zI μ b4 13) ≤ x2 →
              AW E l (d + 1) nc ns mX10_nextChange 7 [some (.ref 11), some (.ref a1), some (.int x2), some (.int x3), some (.int (x4 + 1)), none] [] μ K) ∧
            (¬ (zI μ b4 13) ≤ x2 →
              AW E l (d + 1) nc ns mX10_nextChange 7 [some (.ref 11), some (.ref a1), some (.int x2), some (.int (if (zI μ b4 13) < x3 then (zI μ b4 13) else x3)), some (.int (x4 + 1)), none] [] μ K)) ∧
          (¬ ((zI μ b4 8) / 24) ≤ x2 →
            ((zI μ b4 13) ≤ x2 →
              AW E l (d + 1) nc ns mX10_nextChange 7 [some (.ref 11), some (.ref a1), some (.int x2), some (.int (if ((zI μ b4 8) / 24) < x3 then ((zI μ b4 8) / 24) else x3)), some (.int (x4 + 1)), none] [] μ K) ∧
            (¬ (zI μ b4 13) ≤ x2 →
              AW E l (d + 1) nc ns mX10_nextChange 7 [some (.ref 11), some (.ref a1), some (.int x2), some (.int (if (zI μ b4 13) < (if ((zI μ b4 8) / 24) < x3 then ((zI μ b4 8) / 24) else x3) then (zI μ b4 13) else (if ((zI μ b4 8) / 24) < x3 then ((zI μ b4 8) / 24) else x3))), some (.int (x4 + 1)), none] [] μ K))))))) : AW E l (d + 1) nc ns mX10_nextChange 7 [some (.ref 11), some (.ref a1), some (.int x2), some (.int x3), some (.int x4), none] [] μ K := by
  refine aw_iload (pc' := 9) (dt_X10_nextChange 4 (7, .iload 4, 2) rfl) rfl rfl (aw_aload_n (pc' := 10) (dt_X10_nextChange 5 (9, .aload_n 0, 1) rfl) rfl rfl (aw_getI (pc' := 13) (dt_X10_nextChange 6 (10, .getfield 131, 3) rfl) fl_ReturnDesk_131 rfl rfl (sk_11 hS) (aw_icmp_ge (pc' := 16) (tgt := 86) (dt_X10_nextChange 7 (13, .if_icmp .ge 73, 3) rfl) (by decide) rfl ?_ ?_)))
  · intro q1
    have h := h.1 q1
    refine aw_iload_n (pc' := 87) (dt_X10_nextChange 41 (86, .iload_n 3, 1) rfl) rfl rfl (aw_iret (dt_X10_nextChange 42 (87, .ireturn, 1) rfl) rfl rfl ?_)
    exact h
  · intro q1
    have h := h.2 q1
    obtain ⟨g2, h⟩ := h
    refine aw_aload_n (pc' := 17) (dt_X10_nextChange 8 (16, .aload_n 0, 1) rfl) rfl rfl (aw_getAs (pc' := 20) (dt_X10_nextChange 9 (17, .getfield 23, 3) rfl) fl_ReturnDesk_23 rfl rfl (sk_11 hS) (sa_11_2 hS) (aw_iload (pc' := 22) (dt_X10_nextChange 10 (20, .iload 4, 2) rfl) rfl rfl (aw_aald (pc' := 23) (dt_X10_nextChange 11 (22, .aaload, 1) rfl) (by decide) (by decide) rfl (sk_14 hS) (vin_eq (sl_14 hS) g2) ?_ ?_)))
    · intro e3
      have h := h.1 e3
      refine aw_astoreN (pc' := 25) (ls' := [some (.ref 11), some (.ref a1), some (.int x2), some (.int x3), some (.int x4), some (.null)]) (dt_X10_nextChange 12 (23, .astore 5, 2) rfl) (by decide) rfl rfl (aw_aloadN (pc' := 27) (dt_X10_nextChange 13 (25, .aload 5, 2) rfl) rfl rfl ?_)
      exact h.elim
    · intro b4 e3
      have h := h.2 b4 e3
      obtain ⟨g5, h⟩ := h
      refine aw_astore (pc' := 25) (ls' := [some (.ref 11), some (.ref a1), some (.int x2), some (.int x3), some (.int x4), some (.ref b4)]) (dt_X10_nextChange 12 (23, .astore 5, 2) rfl) (by decide) rfl rfl (aw_aload (pc' := 27) (dt_X10_nextChange 13 (25, .aload 5, 2) rfl) rfl rfl (aw_getA (pc' := 30) (dt_X10_nextChange 14 (27, .getfield 163, 3) rfl) fl_ReturnDesk_163 rfl rfl g5 ?_ ?_))
      · intro e6
        have h := h.1 e6
        refine aw_aload_n (pc' := 31) (dt_X10_nextChange 15 (30, .aload_n 1, 1) rfl) rfl rfl ?_
        exact h.elim
      · intro b7 e6
        have h := h.2 b7 e6
        obtain ⟨g8, h⟩ := h
        obtain ⟨g9, h⟩ := h
        refine aw_aload_n (pc' := 31) (dt_X10_nextChange 15 (30, .aload_n 1, 1) rfl) rfl rfl (aw_acmp_ne (pc' := 34) (tgt := 80) (dt_X10_nextChange 16 (31, .if_acmp .ne 49, 3) rfl) (by decide) rfl g8 g9 ?_ ?_)
        · intro q10
          have h := h.1 q10
          refine aw_iinc (pc' := 83) (v := 1) (ls' := [some (.ref 11), some (.ref a1), some (.int x2), some (.int x3), some (.int (x4 + 1)), some (.ref b4)]) (dt_X10_nextChange 39 (80, .iinc 4 1, 3) rfl) rfl (by decide) (by decide) rfl rfl (aw_goto (tgt := 7) (dt_X10_nextChange 40 (83, .goto (-76), 3) rfl) (by decide) (aw_drop (ls' := [some (.ref 11), some (.ref a1), some (.int x2), some (.int x3), some (.int (x4 + 1)), none]) ⟨rfl, rfl, rfl, rfl, rfl, trivial⟩ ?_))
          exact h
        · intro q10
          have h := h.2 q10
          refine aw_aload (pc' := 36) (dt_X10_nextChange 17 (34, .aload 5, 2) rfl) rfl rfl (aw_inV (pc' := 39) (nc1 := 0) (ns1 := 0) (nc := nc) (ns := ns) (ls' := [some (.ref b4)]) (y2 := mX7_madeOn) (As := []) (rest := []) (a := b4) (dt_X10_nextChange 18 (36, .invokevirtual 376, 3) rfl) ok_X7_madeOn ln_ReturnDesk_376 im_X7_madeOn se_X7_madeOn pr_X7_madeOn (Or.inl ⟨by decide, rfl⟩) rfl (Nat.le_of_ble_eq_true rfl) (Nat.le_of_ble_eq_true rfl) rfl rfl g5 (aw_aload_n (pc' := 1) (dt_X7_madeOn 0 (0, .aload_n 0, 1) rfl) rfl rfl (aw_getI (pc' := 4) (dt_X7_madeOn 1 (1, .getfield 56, 3) rfl) fl_Sale_56 rfl rfl g5 (aw_bipush (pc' := 6) (v := 24) (dt_X7_madeOn 2 (4, .bipush 24, 2) rfl) (by decide) rfl (aw_idiv (pc' := 7) (dt_X7_madeOn 3 (6, .idiv, 1) rfl) (by decide) rfl (aw_iret (dt_X7_madeOn 4 (7, .ireturn, 1) rfl) rfl rfl (aw_stk (st' := [.int ((zI μ b4 8) / 24)]) rfl (aw_iload_n (pc' := 40) (dt_X10_nextChange 19 (39, .iload_n 2, 1) rfl) rfl rfl (aw_icmp_le (pc' := 43) (tgt := 55) (dt_X10_nextChange 20 (40, .if_icmp .le 15, 3) rfl) (by decide) rfl ?_ ?_)))))))))
          · intro q11
            have h := h.1 q11
            refine aw_iload_n (pc' := 56) (dt_X10_nextChange 26 (55, .iload_n 3, 1) rfl) rfl rfl (aw_istore_n (pc' := 57) (ls' := [some (.ref 11), some (.ref a1), some (.int x2), some (.int x3), some (.int x4), some (.ref b4)]) (dt_X10_nextChange 27 (56, .istore_n 3, 1) rfl) (by decide) rfl rfl (aw_aload (pc' := 59) (dt_X10_nextChange 28 (57, .aload 5, 2) rfl) rfl rfl (aw_getI (pc' := 62) (dt_X10_nextChange 29 (59, .getfield 315, 3) rfl) fl_ReturnDesk_315 rfl rfl g5 (aw_iload_n (pc' := 63) (dt_X10_nextChange 30 (62, .iload_n 2, 1) rfl) rfl rfl (aw_icmp_le (pc' := 66) (tgt := 78) (dt_X10_nextChange 31 (63, .if_icmp .le 15, 3) rfl) (by decide) rfl ?_ ?_)))))
            · intro q12
              have h := h.1 q12
              refine aw_iload_n (pc' := 79) (dt_X10_nextChange 37 (78, .iload_n 3, 1) rfl) rfl rfl (aw_istore_n (pc' := 80) (ls' := [some (.ref 11), some (.ref a1), some (.int x2), some (.int x3), some (.int x4), some (.ref b4)]) (dt_X10_nextChange 38 (79, .istore_n 3, 1) rfl) (by decide) rfl rfl (aw_iinc (pc' := 83) (v := 1) (ls' := [some (.ref 11), some (.ref a1), some (.int x2), some (.int x3), some (.int (x4 + 1)), some (.ref b4)]) (dt_X10_nextChange 39 (80, .iinc 4 1, 3) rfl) rfl (by decide) (by decide) rfl rfl (aw_goto (tgt := 7) (dt_X10_nextChange 40 (83, .goto (-76), 3) rfl) (by decide) (aw_drop (ls' := [some (.ref 11), some (.ref a1), some (.int x2), some (.int x3), some (.int (x4 + 1)), none]) ⟨rfl, rfl, rfl, rfl, rfl, trivial⟩ ?_))))
              exact h
            · intro q12
              have h := h.2 q12
              refine aw_iload_n (pc' := 67) (dt_X10_nextChange 32 (66, .iload_n 3, 1) rfl) rfl rfl (aw_aload (pc' := 69) (dt_X10_nextChange 33 (67, .aload 5, 2) rfl) rfl rfl (aw_getI (pc' := 72) (dt_X10_nextChange 34 (69, .getfield 315, 3) rfl) fl_ReturnDesk_315 rfl rfl g5 (aw_mmin (pc' := 75) (dt_X10_nextChange 35 (72, .invokestatic 318, 3) rfl) mm_ReturnDesk_318 (Nat.le_of_ble_eq_true rfl) rfl (aw_goto (tgt := 79) (dt_X10_nextChange 36 (75, .goto 4, 3) rfl) (by decide) (aw_istore_n (pc' := 80) (ls' := [some (.ref 11), some (.ref a1), some (.int x2), some (.int (if (zI μ b4 13) < x3 then (zI μ b4 13) else x3)), some (.int x4), some (.ref b4)]) (dt_X10_nextChange 38 (79, .istore_n 3, 1) rfl) (by decide) rfl rfl (aw_iinc (pc' := 83) (v := 1) (ls' := [some (.ref 11), some (.ref a1), some (.int x2), some (.int (if (zI μ b4 13) < x3 then (zI μ b4 13) else x3)), some (.int (x4 + 1)), some (.ref b4)]) (dt_X10_nextChange 39 (80, .iinc 4 1, 3) rfl) rfl (by decide) (by decide) rfl rfl (aw_goto (tgt := 7) (dt_X10_nextChange 40 (83, .goto (-76), 3) rfl) (by decide) (aw_drop (ls' := [some (.ref 11), some (.ref a1), some (.int x2), some (.int (if (zI μ b4 13) < x3 then (zI μ b4 13) else x3)), some (.int (x4 + 1)), none]) ⟨rfl, rfl, rfl, rfl, rfl, trivial⟩ ?_))))))))
              exact h
          · intro q11
            have h := h.2 q11
            refine aw_iload_n (pc' := 44) (dt_X10_nextChange 21 (43, .iload_n 3, 1) rfl) rfl rfl (aw_aload (pc' := 46) (dt_X10_nextChange 22 (44, .aload 5, 2) rfl) rfl rfl (aw_inV (pc' := 49) (nc1 := 0) (ns1 := 0) (nc := nc) (ns := ns) (ls' := [some (.ref b4)]) (y2 := mX7_madeOn) (As := []) (rest := [.int x3]) (a := b4) (dt_X10_nextChange 23 (46, .invokevirtual 376, 3) rfl) ok_X7_madeOn ln_ReturnDesk_376 im_X7_madeOn se_X7_madeOn pr_X7_madeOn (Or.inl ⟨by decide, rfl⟩) rfl (Nat.le_of_ble_eq_true rfl) (Nat.le_of_ble_eq_true rfl) rfl rfl g5 (aw_aload_n (pc' := 1) (dt_X7_madeOn 0 (0, .aload_n 0, 1) rfl) rfl rfl (aw_getI (pc' := 4) (dt_X7_madeOn 1 (1, .getfield 56, 3) rfl) fl_Sale_56 rfl rfl g5 (aw_bipush (pc' := 6) (v := 24) (dt_X7_madeOn 2 (4, .bipush 24, 2) rfl) (by decide) rfl (aw_idiv (pc' := 7) (dt_X7_madeOn 3 (6, .idiv, 1) rfl) (by decide) rfl (aw_iret (dt_X7_madeOn 4 (7, .ireturn, 1) rfl) rfl rfl (aw_stk (st' := [.int ((zI μ b4 8) / 24), .int x3]) rfl (aw_mmin (pc' := 52) (dt_X10_nextChange 24 (49, .invokestatic 318, 3) rfl) mm_ReturnDesk_318 (Nat.le_of_ble_eq_true rfl) rfl (aw_goto (tgt := 56) (dt_X10_nextChange 25 (52, .goto 4, 3) rfl) (by decide) (aw_istore_n (pc' := 57) (ls' := [some (.ref 11), some (.ref a1), some (.int x2), some (.int (if ((zI μ b4 8) / 24) < x3 then ((zI μ b4 8) / 24) else x3)), some (.int x4), some (.ref b4)]) (dt_X10_nextChange 27 (56, .istore_n 3, 1) rfl) (by decide) rfl rfl (aw_aload (pc' := 59) (dt_X10_nextChange 28 (57, .aload 5, 2) rfl) rfl rfl (aw_getI (pc' := 62) (dt_X10_nextChange 29 (59, .getfield 315, 3) rfl) fl_ReturnDesk_315 rfl rfl g5 (aw_iload_n (pc' := 63) (dt_X10_nextChange 30 (62, .iload_n 2, 1) rfl) rfl rfl (aw_icmp_le (pc' := 66) (tgt := 78) (dt_X10_nextChange 31 (63, .if_icmp .le 15, 3) rfl) (by decide) rfl ?_ ?_)))))))))))))))
            · intro q13
              have h := h.1 q13
              refine aw_iload_n (pc' := 79) (dt_X10_nextChange 37 (78, .iload_n 3, 1) rfl) rfl rfl (aw_istore_n (pc' := 80) (ls' := [some (.ref 11), some (.ref a1), some (.int x2), some (.int (if ((zI μ b4 8) / 24) < x3 then ((zI μ b4 8) / 24) else x3)), some (.int x4), some (.ref b4)]) (dt_X10_nextChange 38 (79, .istore_n 3, 1) rfl) (by decide) rfl rfl (aw_iinc (pc' := 83) (v := 1) (ls' := [some (.ref 11), some (.ref a1), some (.int x2), some (.int (if ((zI μ b4 8) / 24) < x3 then ((zI μ b4 8) / 24) else x3)), some (.int (x4 + 1)), some (.ref b4)]) (dt_X10_nextChange 39 (80, .iinc 4 1, 3) rfl) rfl (by decide) (by decide) rfl rfl (aw_goto (tgt := 7) (dt_X10_nextChange 40 (83, .goto (-76), 3) rfl) (by decide) (aw_drop (ls' := [some (.ref 11), some (.ref a1), some (.int x2), some (.int (if ((zI μ b4 8) / 24) < x3 then ((zI μ b4 8) / 24) else x3)), some (.int (x4 + 1)), none]) ⟨rfl, rfl, rfl, rfl, rfl, trivial⟩ ?_))))
              exact h
            · intro q13
              have h := h.2 q13
              refine aw_iload_n (pc' := 67) (dt_X10_nextChange 32 (66, .iload_n 3, 1) rfl) rfl rfl (aw_aload (pc' := 69) (dt_X10_nextChange 33 (67, .aload 5, 2) rfl) rfl rfl (aw_getI (pc' := 72) (dt_X10_nextChange 34 (69, .getfield 315, 3) rfl) fl_ReturnDesk_315 rfl rfl g5 (aw_mmin (pc' := 75) (dt_X10_nextChange 35 (72, .invokestatic 318, 3) rfl) mm_ReturnDesk_318 (Nat.le_of_ble_eq_true rfl) rfl (aw_goto (tgt := 79) (dt_X10_nextChange 36 (75, .goto 4, 3) rfl) (by decide) (aw_istore_n (pc' := 80) (ls' := [some (.ref 11), some (.ref a1), some (.int x2), some (.int (if (zI μ b4 13) < (if ((zI μ b4 8) / 24) < x3 then ((zI μ b4 8) / 24) else x3) then (zI μ b4 13) else (if ((zI μ b4 8) / 24) < x3 then ((zI μ b4 8) / 24) else x3))), some (.int x4), some (.ref b4)]) (dt_X10_nextChange 38 (79, .istore_n 3, 1) rfl) (by decide) rfl rfl (aw_iinc (pc' := 83) (v := 1) (ls' := [some (.ref 11), some (.ref a1), some (.int x2), some (.int (if (zI μ b4 13) < (if ((zI μ b4 8) / 24) < x3 then ((zI μ b4 8) / 24) else x3) then (zI μ b4 13) else (if ((zI μ b4 8) / 24) < x3 then ((zI μ b4 8) / 24) else x3))), some (.int (x4 + 1)), some (.ref b4)]) (dt_X10_nextChange 39 (80, .iinc 4 1, 3) rfl) rfl (by decide) (by decide) rfl rfl (aw_goto (tgt := 7) (dt_X10_nextChange 40 (83, .goto (-76), 3) rfl) (by decide) (aw_drop (ls' := [some (.ref 11), some (.ref a1), some (.int x2), some (.int (if (zI μ b4 13) < (if ((zI μ b4 8) / 24) < x3 then ((zI μ b4 8) / 24) else x3) then (zI μ b4 13) else (if ((zI μ b4 8) / 24) < x3 then ((zI μ b4 8) / 24) else x3))), some (.int (x4 + 1)), none]) ⟨rfl, rfl, rfl, rfl, rfl, trivial⟩ ?_))))))))
              exact h

theorem t_X10_isAmong {E : ZE} {l : Launch} {d nc ns : Nat} {x1 : Int32} {x2 : Int32} {μ : ZM} {K : Option Value → ZM → Prop} (hS : Stat μ) (h :
  (¬ x2 = 3 →
    (¬ x2 = 0 →
      (¬ x2 = 1 →
        (vp_in x1 60) ∧
        (¬ (zI μ 30 x1.toNatClampNeg) = 2 →
          K (some (.int 0)) μ) ∧
        ((zI μ 30 x1.toNatClampNeg) = 2 →
          K (some (.int 1)) μ)) ∧
      (x2 = 1 →
        (vp_in x1 60) ∧
        (¬ (zI μ 30 x1.toNatClampNeg) = 0 →
          K (some (.int 0)) μ) ∧
        ((zI μ 30 x1.toNatClampNeg) = 0 →
          K (some (.int 1)) μ))) ∧
    (x2 = 0 →
      (vp_in x1 60) ∧
      (¬ (zI μ 30 x1.toNatClampNeg) = 1 →
        K (some (.int 0)) μ) ∧
      ((zI μ 30 x1.toNatClampNeg) = 1 →
        K (some (.int 1)) μ))) ∧
  (x2 = 3 →
    K (some (.int 1)) μ)) : AW E l d nc ns mX10_isAmong 0 [some (.ref 11), some (.int x1), some (.int x2), none] [] μ K := by
  refine aw_iload_n (pc' := 1) (dt_X10_isAmong 0 (0, .iload_n 2, 1) rfl) rfl rfl (aw_iconst (pc' := 2) (v := 3) (dt_X10_isAmong 1 (1, .iconst 3, 1) rfl) (by decide) rfl (aw_icmp_ne (pc' := 5) (tgt := 7) (dt_X10_isAmong 2 (2, .if_icmp .ne 5, 3) rfl) (by decide) rfl ?_ ?_))
  · intro q1
    have h := h.1 q1
    refine aw_iload_n (pc' := 8) (dt_X10_isAmong 5 (7, .iload_n 2, 1) rfl) rfl rfl (aw_if_ne (pc' := 11) (tgt := 15) (dt_X10_isAmong 6 (8, .ifCond .ne 7, 3) rfl) (by decide) rfl ?_ ?_)
    · intro q2
      have h := h.1 q2
      refine aw_iload_n (pc' := 16) (dt_X10_isAmong 9 (15, .iload_n 2, 1) rfl) rfl rfl (aw_iconst (pc' := 17) (v := 1) (dt_X10_isAmong 10 (16, .iconst 1, 1) rfl) (by decide) rfl (aw_icmp_ne (pc' := 20) (tgt := 24) (dt_X10_isAmong 11 (17, .if_icmp .ne 7, 3) rfl) (by decide) rfl ?_ ?_))
      · intro q3
        have h := h.1 q3
        obtain ⟨g4, h⟩ := h
        refine aw_iconst (pc' := 25) (v := 2) (dt_X10_isAmong 14 (24, .iconst 2, 1) rfl) (by decide) rfl (aw_istore_n (pc' := 26) (ls' := [some (.ref 11), some (.int x1), some (.int x2), some (.int 2)]) (dt_X10_isAmong 15 (25, .istore_n 3, 1) rfl) (by decide) rfl rfl (aw_aload_n (pc' := 27) (dt_X10_isAmong 16 (26, .aload_n 0, 1) rfl) rfl rfl (aw_getAs (pc' := 30) (dt_X10_isAmong 17 (27, .getfield 72, 3) rfl) fl_ReturnDesk_72 rfl rfl (sk_11 hS) (sa_11_10 hS) (aw_iload_n (pc' := 31) (dt_X10_isAmong 18 (30, .iload_n 1, 1) rfl) rfl rfl (aw_iald (pc' := 32) (dt_X10_isAmong 19 (31, .iaload, 1) rfl) rfl (sk_30 hS) (vin_eq (sl_30 hS) g4) (aw_iload_n (pc' := 33) (dt_X10_isAmong 20 (32, .iload_n 3, 1) rfl) rfl rfl (aw_icmp_ne (pc' := 36) (tgt := 40) (dt_X10_isAmong 21 (33, .if_icmp .ne 7, 3) rfl) (by decide) rfl ?_ ?_)))))))
        · intro q5
          have h := h.1 q5
          refine aw_iconst (pc' := 41) (v := 0) (dt_X10_isAmong 24 (40, .iconst 0, 1) rfl) (by decide) rfl (aw_iret (dt_X10_isAmong 25 (41, .ireturn, 1) rfl) rfl rfl ?_)
          exact h
        · intro q5
          have h := h.2 q5
          refine aw_iconst (pc' := 37) (v := 1) (dt_X10_isAmong 22 (36, .iconst 1, 1) rfl) (by decide) rfl (aw_goto (tgt := 41) (dt_X10_isAmong 23 (37, .goto 4, 3) rfl) (by decide) (aw_iret (dt_X10_isAmong 25 (41, .ireturn, 1) rfl) rfl rfl ?_))
          exact h
      · intro q3
        have h := h.2 q3
        obtain ⟨g6, h⟩ := h
        refine aw_iconst (pc' := 21) (v := 0) (dt_X10_isAmong 12 (20, .iconst 0, 1) rfl) (by decide) rfl (aw_goto (tgt := 25) (dt_X10_isAmong 13 (21, .goto 4, 3) rfl) (by decide) (aw_istore_n (pc' := 26) (ls' := [some (.ref 11), some (.int x1), some (.int x2), some (.int 0)]) (dt_X10_isAmong 15 (25, .istore_n 3, 1) rfl) (by decide) rfl rfl (aw_aload_n (pc' := 27) (dt_X10_isAmong 16 (26, .aload_n 0, 1) rfl) rfl rfl (aw_getAs (pc' := 30) (dt_X10_isAmong 17 (27, .getfield 72, 3) rfl) fl_ReturnDesk_72 rfl rfl (sk_11 hS) (sa_11_10 hS) (aw_iload_n (pc' := 31) (dt_X10_isAmong 18 (30, .iload_n 1, 1) rfl) rfl rfl (aw_iald (pc' := 32) (dt_X10_isAmong 19 (31, .iaload, 1) rfl) rfl (sk_30 hS) (vin_eq (sl_30 hS) g6) (aw_iload_n (pc' := 33) (dt_X10_isAmong 20 (32, .iload_n 3, 1) rfl) rfl rfl (aw_icmp_ne (pc' := 36) (tgt := 40) (dt_X10_isAmong 21 (33, .if_icmp .ne 7, 3) rfl) (by decide) rfl ?_ ?_))))))))
        · intro q7
          have h := h.1 q7
          refine aw_iconst (pc' := 41) (v := 0) (dt_X10_isAmong 24 (40, .iconst 0, 1) rfl) (by decide) rfl (aw_iret (dt_X10_isAmong 25 (41, .ireturn, 1) rfl) rfl rfl ?_)
          exact h
        · intro q7
          have h := h.2 q7
          refine aw_iconst (pc' := 37) (v := 1) (dt_X10_isAmong 22 (36, .iconst 1, 1) rfl) (by decide) rfl (aw_goto (tgt := 41) (dt_X10_isAmong 23 (37, .goto 4, 3) rfl) (by decide) (aw_iret (dt_X10_isAmong 25 (41, .ireturn, 1) rfl) rfl rfl ?_))
          exact h
    · intro q2
      have h := h.2 q2
      obtain ⟨g8, h⟩ := h
      refine aw_iconst (pc' := 12) (v := 1) (dt_X10_isAmong 7 (11, .iconst 1, 1) rfl) (by decide) rfl (aw_goto (tgt := 25) (dt_X10_isAmong 8 (12, .goto 13, 3) rfl) (by decide) (aw_istore_n (pc' := 26) (ls' := [some (.ref 11), some (.int x1), some (.int x2), some (.int 1)]) (dt_X10_isAmong 15 (25, .istore_n 3, 1) rfl) (by decide) rfl rfl (aw_aload_n (pc' := 27) (dt_X10_isAmong 16 (26, .aload_n 0, 1) rfl) rfl rfl (aw_getAs (pc' := 30) (dt_X10_isAmong 17 (27, .getfield 72, 3) rfl) fl_ReturnDesk_72 rfl rfl (sk_11 hS) (sa_11_10 hS) (aw_iload_n (pc' := 31) (dt_X10_isAmong 18 (30, .iload_n 1, 1) rfl) rfl rfl (aw_iald (pc' := 32) (dt_X10_isAmong 19 (31, .iaload, 1) rfl) rfl (sk_30 hS) (vin_eq (sl_30 hS) g8) (aw_iload_n (pc' := 33) (dt_X10_isAmong 20 (32, .iload_n 3, 1) rfl) rfl rfl (aw_icmp_ne (pc' := 36) (tgt := 40) (dt_X10_isAmong 21 (33, .if_icmp .ne 7, 3) rfl) (by decide) rfl ?_ ?_))))))))
      · intro q9
        have h := h.1 q9
        refine aw_iconst (pc' := 41) (v := 0) (dt_X10_isAmong 24 (40, .iconst 0, 1) rfl) (by decide) rfl (aw_iret (dt_X10_isAmong 25 (41, .ireturn, 1) rfl) rfl rfl ?_)
        exact h
      · intro q9
        have h := h.2 q9
        refine aw_iconst (pc' := 37) (v := 1) (dt_X10_isAmong 22 (36, .iconst 1, 1) rfl) (by decide) rfl (aw_goto (tgt := 41) (dt_X10_isAmong 23 (37, .goto 4, 3) rfl) (by decide) (aw_iret (dt_X10_isAmong 25 (41, .ireturn, 1) rfl) rfl rfl ?_))
        exact h
  · intro q1
    have h := h.2 q1
    refine aw_iconst (pc' := 6) (v := 1) (dt_X10_isAmong 3 (5, .iconst 1, 1) rfl) (by decide) rfl (aw_iret (dt_X10_isAmong 4 (6, .ireturn, 1) rfl) rfl rfl ?_)
    exact h

theorem t_X10_isHit {E : ZE} {l : Launch} {d nc ns : Nat} {x1 : Int32} {μ : ZM} {K : Option Value → ZM → Prop} (hS : Stat μ) (h :
  (zA μ 11 11 = none →
    K (some (.int 0)) μ) ∧
  (∀ b2, zA μ 11 11 = some b2 →
    AW E l (d + 4) 0 0 mX10_boughtBy 0 (zargs 4 [.ref 11, .int x1]) [] μ (fun v μ3 => ∃ r5 : Int32, v = some (.int r5) ∧ Stat μ3 ∧ 
      AW E l (d + 4) 0 0 mX10_backOfBuyer 0 (zargs 7 [.ref 11, .int x1, .int 0, .int 2999]) [] μ3 (fun v μ6 => ∃ r8 : Int32, v = some (.int r8) ∧ Stat μ6 ∧ 
        (r5 ≤ 0 →
          AW E l (d + 4) 0 0 mX10_spentBy 0 (zargs 4 [.ref 11, .int x1]) [] (sI (sI (sI μ6 27 0 r5) 27 1 r8) 27 2 0) (fun v μ10 => ∃ r12 : Int32, v = some (.int r12) ∧ Stat μ10 ∧ 
            AW E l (d + 4) 0 0 mX10_backOfBuyer 0 (zargs 7 [.ref 11, .int x1, .int (((zI (sI μ10 27 3 r12) 11 17) / 24) - 29), .int ((zI (sI μ10 27 3 r12) 11 17) / 24)]) [] (sI μ10 27 3 r12) (fun v μ13 => ∃ r15 : Int32, v = some (.int r15) ∧ Stat μ13 ∧ 
              (zA (sI μ13 27 4 r15) 11 11 = none →
                AW E l (d + 4) 0 0 mX3_valueOf 0 (zargs 2 [.ref 26, .null]) [] (sI μ13 27 4 r15) (fun v μ18 => ∃ r20 : Int32, v = some (.int r20) ∧ Stat μ18 ∧ 
                  (r20 = 0 →
                    K (some (.int 0)) μ18) ∧
                  (¬ r20 = 0 →
                    K (some (.int 1)) μ18))) ∧
              (∀ b17, zA (sI μ13 27 4 r15) 11 11 = some b17 →
                AW E l (d + 4) 0 0 mX3_valueOf 0 (zargs 2 [.ref 26, .ref b17]) [] (sI μ13 27 4 r15) (fun v μ22 => ∃ r24 : Int32, v = some (.int r24) ∧ Stat μ22 ∧ 
                  (r24 = 0 →
                    K (some (.int 0)) μ22) ∧
                  (¬ r24 = 0 →
                    K (some (.int 1)) μ22)))))) ∧
        (¬ r5 ≤ 0 →
          (¬ r5 = 0) ∧
          AW E l (d + 4) 0 0 mX10_spentBy 0 (zargs 4 [.ref 11, .int x1]) [] (sI (sI (sI μ6 27 0 r5) 27 1 r8) 27 2 ((100 * r8) / r5)) (fun v μ27 => ∃ r29 : Int32, v = some (.int r29) ∧ Stat μ27 ∧ 
            AW E l (d + 4) 0 0 mX10_backOfBuyer 0 (zargs 7 [.ref 11, .int x1, .int (((zI (sI μ27 27 3 r29) 11 17) / 24) - 29), .int ((zI (sI μ27 27 3 r29) 11 17) / 24)]) [] (sI μ27 27 3 r29) (fun v μ30 => ∃ r32 : Int32, v = some (.int r32) ∧ Stat μ30 ∧ 
              (zA (sI μ30 27 4 r32) 11 11 = none →
                AW E l (d + 4) 0 0 mX3_valueOf 0 (zargs 2 [.ref 26, .null]) [] (sI μ30 27 4 r32) (fun v μ35 => ∃ r37 : Int32, v = some (.int r37) ∧ Stat μ35 ∧ 
                  (r37 = 0 →
                    K (some (.int 0)) μ35) ∧
                  (¬ r37 = 0 →
                    K (some (.int 1)) μ35))) ∧
              (∀ b34, zA (sI μ30 27 4 r32) 11 11 = some b34 →
                AW E l (d + 4) 0 0 mX3_valueOf 0 (zargs 2 [.ref 26, .ref b34]) [] (sI μ30 27 4 r32) (fun v μ39 => ∃ r41 : Int32, v = some (.int r41) ∧ Stat μ39 ∧ 
                  (r41 = 0 →
                    K (some (.int 0)) μ39) ∧
                  (¬ r41 = 0 →
                    K (some (.int 1)) μ39)))))))))) : AW E l (d + 5) nc ns mX10_isHit 0 [some (.ref 11), some (.int x1), none, none] [] μ K := by
  refine aw_aload_n (pc' := 1) (dt_X10_isHit 0 (0, .aload_n 0, 1) rfl) rfl rfl (aw_getA (pc' := 4) (dt_X10_isHit 1 (1, .getfield 393, 3) rfl) fl_ReturnDesk_393 rfl rfl (sk_11 hS) ?_ ?_)
  · intro e1
    have h := h.1 e1
    refine aw_ifnonnullN (pc' := 7) (dt_X10_isHit 2 (4, .ifnonnull 5, 3) rfl) rfl (aw_iconst (pc' := 8) (v := 0) (dt_X10_isHit 3 (7, .iconst 0, 1) rfl) (by decide) rfl (aw_iret (dt_X10_isHit 4 (8, .ireturn, 1) rfl) rfl rfl ?_))
    exact h
  · intro b2 e1
    have h := h.2 b2 e1
    refine aw_ifnonnull (tgt := 9) (dt_X10_isHit 2 (4, .ifnonnull 5, 3) rfl) (by decide) (aw_aload_n (pc' := 10) (dt_X10_isHit 5 (9, .aload_n 0, 1) rfl) rfl rfl (aw_iload_n (pc' := 11) (dt_X10_isHit 6 (10, .iload_n 1, 1) rfl) rfl rfl (aw_callV0 (pc' := 14) (nc := nc) (ns := ns) (y2 := mX10_boughtBy) (As := [.int x1]) (rest := []) (a := 11) (dt_X10_isHit 7 (11, .invokevirtual 399, 3) rfl) ok_X10_boughtBy ln_ReturnDesk_399 im_X10_boughtBy se_X10_boughtBy pr_X10_boughtBy (Or.inl ⟨by decide, rfl⟩) rfl (Nat.le_of_ble_eq_true rfl) (Nat.le_of_ble_eq_true rfl) rfl (sk_11 hS) h ?_)))
    rintro v μ3 ⟨r5, rfl, hS4, h⟩
    refine aw_stk (st' := [.int r5]) rfl ?_
    refine aw_istore_n (pc' := 15) (ls' := [some (.ref 11), some (.int x1), some (.int r5), none]) (dt_X10_isHit 8 (14, .istore_n 2, 1) rfl) (by decide) rfl rfl (aw_aload_n (pc' := 16) (dt_X10_isHit 9 (15, .aload_n 0, 1) rfl) rfl rfl (aw_iload_n (pc' := 17) (dt_X10_isHit 10 (16, .iload_n 1, 1) rfl) rfl rfl (aw_iconst (pc' := 18) (v := 0) (dt_X10_isHit 11 (17, .iconst 0, 1) rfl) (by decide) rfl (aw_sipush (pc' := 21) (v := 2999) (dt_X10_isHit 12 (18, .sipush 2999, 3) rfl) (by decide) rfl (aw_callV0 (pc' := 24) (nc := nc) (ns := ns) (y2 := mX10_backOfBuyer) (As := [.int x1, .int 0, .int 2999]) (rest := []) (a := 11) (dt_X10_isHit 13 (21, .invokevirtual 435, 3) rfl) ok_X10_backOfBuyer ln_ReturnDesk_435 im_X10_backOfBuyer se_X10_backOfBuyer pr_X10_backOfBuyer (Or.inl ⟨by decide, rfl⟩) rfl (Nat.le_of_ble_eq_true rfl) (Nat.le_of_ble_eq_true rfl) rfl (sk_11 hS4) h ?_)))))
    rintro v μ6 ⟨r8, rfl, hS7, h⟩
    refine aw_stk (st' := [.int r8]) rfl ?_
    refine aw_istore_n (pc' := 25) (ls' := [some (.ref 11), some (.int x1), some (.int r5), some (.int r8)]) (dt_X10_isHit 14 (24, .istore_n 3, 1) rfl) (by decide) rfl rfl (aw_aload_n (pc' := 26) (dt_X10_isHit 15 (25, .aload_n 0, 1) rfl) rfl rfl (aw_getAs (pc' := 29) (dt_X10_isHit 16 (26, .getfield 61, 3) rfl) fl_ReturnDesk_61 rfl rfl (sk_11 hS7) (sa_11_8 hS7) (aw_iconst (pc' := 30) (v := 0) (dt_X10_isHit 17 (29, .iconst 0, 1) rfl) (by decide) rfl (aw_iload_n (pc' := 31) (dt_X10_isHit 18 (30, .iload_n 2, 1) rfl) rfl rfl (aw_inV (pc' := 34) (nc1 := 0) (ns1 := 0) (nc := nc) (ns := ns) (ls' := [some (.ref 26), some (.int 0), some (.int r5)]) (y2 := mX3_tell) (As := [.int 0, .int r5]) (rest := []) (a := 26) (dt_X10_isHit 19 (31, .invokevirtual 448, 3) rfl) ok_X3_tell ln_ReturnDesk_448 im_X3_tell se_X3_tell pr_X3_tell (Or.inl ⟨by decide, rfl⟩) rfl (Nat.le_of_ble_eq_true rfl) (Nat.le_of_ble_eq_true rfl) rfl rfl (sk_26 hS7) (aw_iload_n (pc' := 1) (dt_X3_tell 0 (0, .iload_n 1, 1) rfl) rfl rfl (aw_if_lt_F (pc' := 4) (tgt := 20) (dt_X3_tell 1 (1, .ifCond .lt 19, 3) rfl) (by decide) rfl (by decide) (aw_iload_n (pc' := 5) (dt_X3_tell 2 (4, .iload_n 1, 1) rfl) rfl rfl (aw_aload_n (pc' := 6) (dt_X3_tell 3 (5, .aload_n 0, 1) rfl) rfl rfl (aw_getAs (pc' := 9) (dt_X3_tell 4 (6, .getfield 9, 3) rfl) fl_Machine_9 rfl rfl (sk_26 hS7) (sa_26_0 hS7) (aw_alens (pc' := 10) (n := 12) (v := 12) (dt_X3_tell 5 (9, .arraylength, 1) rfl) (by decide) (by decide) rfl (sk_27 hS7) (sl_27 hS7) (by decide) (aw_icmp_ge_F (pc' := 13) (tgt := 20) (dt_X3_tell 6 (10, .if_icmp .ge 10, 3) rfl) (by decide) rfl (by decide) (aw_aload_n (pc' := 14) (dt_X3_tell 7 (13, .aload_n 0, 1) rfl) rfl rfl (aw_getAs (pc' := 17) (dt_X3_tell 8 (14, .getfield 9, 3) rfl) fl_Machine_9 rfl rfl (sk_26 hS7) (sa_26_0 hS7) (aw_iload_n (pc' := 18) (dt_X3_tell 9 (17, .iload_n 1, 1) rfl) rfl rfl (aw_iload_n (pc' := 19) (dt_X3_tell 10 (18, .iload_n 2, 1) rfl) rfl rfl (aw_iast (pc' := 20) (dt_X3_tell 11 (19, .iastore, 1) rfl) rfl (sk_27 hS7) (by decide) (vin_eq (sl_27 hS7) (vlit (by decide))) (aw_ret (dt_X3_tell 12 (20, .return_, 1) rfl) rfl (aw_stk (st' := []) rfl (aw_aload_n (pc' := 35) (dt_X10_isHit 20 (34, .aload_n 0, 1) rfl) rfl rfl (aw_getAs (pc' := 38) (dt_X10_isHit 21 (35, .getfield 61, 3) rfl) fl_ReturnDesk_61 rfl rfl (sk_11 hS7.wI) (sa_11_8 hS7.wI) (aw_iconst (pc' := 39) (v := 1) (dt_X10_isHit 22 (38, .iconst 1, 1) rfl) (by decide) rfl (aw_iload_n (pc' := 40) (dt_X10_isHit 23 (39, .iload_n 3, 1) rfl) rfl rfl (aw_inV (pc' := 43) (nc1 := 0) (ns1 := 0) (nc := nc) (ns := ns) (ls' := [some (.ref 26), some (.int 1), some (.int r8)]) (y2 := mX3_tell) (As := [.int 1, .int r8]) (rest := []) (a := 26) (dt_X10_isHit 24 (40, .invokevirtual 448, 3) rfl) ok_X3_tell ln_ReturnDesk_448 im_X3_tell se_X3_tell pr_X3_tell (Or.inl ⟨by decide, rfl⟩) rfl (Nat.le_of_ble_eq_true rfl) (Nat.le_of_ble_eq_true rfl) rfl rfl (sk_26 hS7.wI) (aw_iload_n (pc' := 1) (dt_X3_tell 0 (0, .iload_n 1, 1) rfl) rfl rfl (aw_if_lt_F (pc' := 4) (tgt := 20) (dt_X3_tell 1 (1, .ifCond .lt 19, 3) rfl) (by decide) rfl (by decide) (aw_iload_n (pc' := 5) (dt_X3_tell 2 (4, .iload_n 1, 1) rfl) rfl rfl (aw_aload_n (pc' := 6) (dt_X3_tell 3 (5, .aload_n 0, 1) rfl) rfl rfl (aw_getAs (pc' := 9) (dt_X3_tell 4 (6, .getfield 9, 3) rfl) fl_Machine_9 rfl rfl (sk_26 hS7.wI) (sa_26_0 hS7.wI) (aw_alens (pc' := 10) (n := 12) (v := 12) (dt_X3_tell 5 (9, .arraylength, 1) rfl) (by decide) (by decide) rfl (sk_27 hS7.wI) (sl_27 hS7.wI) (by decide) (aw_icmp_ge_F (pc' := 13) (tgt := 20) (dt_X3_tell 6 (10, .if_icmp .ge 10, 3) rfl) (by decide) rfl (by decide) (aw_aload_n (pc' := 14) (dt_X3_tell 7 (13, .aload_n 0, 1) rfl) rfl rfl (aw_getAs (pc' := 17) (dt_X3_tell 8 (14, .getfield 9, 3) rfl) fl_Machine_9 rfl rfl (sk_26 hS7.wI) (sa_26_0 hS7.wI) (aw_iload_n (pc' := 18) (dt_X3_tell 9 (17, .iload_n 1, 1) rfl) rfl rfl (aw_iload_n (pc' := 19) (dt_X3_tell 10 (18, .iload_n 2, 1) rfl) rfl rfl (aw_iast (pc' := 20) (dt_X3_tell 11 (19, .iastore, 1) rfl) rfl (sk_27 hS7.wI) (by decide) (vin_eq (sl_27 hS7.wI) (vlit (by decide))) (aw_ret (dt_X3_tell 12 (20, .return_, 1) rfl) rfl (aw_stk (st' := []) rfl (aw_aload_n (pc' := 44) (dt_X10_isHit 25 (43, .aload_n 0, 1) rfl) rfl rfl (aw_getAs (pc' := 47) (dt_X10_isHit 26 (44, .getfield 61, 3) rfl) fl_ReturnDesk_61 rfl rfl (sk_11 hS7.wI.wI) (sa_11_8 hS7.wI.wI) (aw_iconst (pc' := 48) (v := 2) (dt_X10_isHit 27 (47, .iconst 2, 1) rfl) (by decide) rfl (aw_iload_n (pc' := 49) (dt_X10_isHit 28 (48, .iload_n 2, 1) rfl) rfl rfl (aw_if_le (pc' := 52) (tgt := 61) (dt_X10_isHit 29 (49, .ifCond .le 12, 3) rfl) (by decide) rfl ?_ ?_)))))))))))))))))))))))))))))))))))))))))))
    · intro q9
      have h := h.1 q9
      refine aw_iconst (pc' := 62) (v := 0) (dt_X10_isHit 36 (61, .iconst 0, 1) rfl) (by decide) rfl (aw_inV (pc' := 65) (nc1 := 0) (ns1 := 0) (nc := nc) (ns := ns) (ls' := [some (.ref 26), some (.int 2), some (.int 0)]) (y2 := mX3_tell) (As := [.int 2, .int 0]) (rest := []) (a := 26) (dt_X10_isHit 37 (62, .invokevirtual 448, 3) rfl) ok_X3_tell ln_ReturnDesk_448 im_X3_tell se_X3_tell pr_X3_tell (Or.inl ⟨by decide, rfl⟩) rfl (Nat.le_of_ble_eq_true rfl) (Nat.le_of_ble_eq_true rfl) rfl rfl (sk_26 hS7.wI.wI) (aw_iload_n (pc' := 1) (dt_X3_tell 0 (0, .iload_n 1, 1) rfl) rfl rfl (aw_if_lt_F (pc' := 4) (tgt := 20) (dt_X3_tell 1 (1, .ifCond .lt 19, 3) rfl) (by decide) rfl (by decide) (aw_iload_n (pc' := 5) (dt_X3_tell 2 (4, .iload_n 1, 1) rfl) rfl rfl (aw_aload_n (pc' := 6) (dt_X3_tell 3 (5, .aload_n 0, 1) rfl) rfl rfl (aw_getAs (pc' := 9) (dt_X3_tell 4 (6, .getfield 9, 3) rfl) fl_Machine_9 rfl rfl (sk_26 hS7.wI.wI) (sa_26_0 hS7.wI.wI) (aw_alens (pc' := 10) (n := 12) (v := 12) (dt_X3_tell 5 (9, .arraylength, 1) rfl) (by decide) (by decide) rfl (sk_27 hS7.wI.wI) (sl_27 hS7.wI.wI) (by decide) (aw_icmp_ge_F (pc' := 13) (tgt := 20) (dt_X3_tell 6 (10, .if_icmp .ge 10, 3) rfl) (by decide) rfl (by decide) (aw_aload_n (pc' := 14) (dt_X3_tell 7 (13, .aload_n 0, 1) rfl) rfl rfl (aw_getAs (pc' := 17) (dt_X3_tell 8 (14, .getfield 9, 3) rfl) fl_Machine_9 rfl rfl (sk_26 hS7.wI.wI) (sa_26_0 hS7.wI.wI) (aw_iload_n (pc' := 18) (dt_X3_tell 9 (17, .iload_n 1, 1) rfl) rfl rfl (aw_iload_n (pc' := 19) (dt_X3_tell 10 (18, .iload_n 2, 1) rfl) rfl rfl (aw_iast (pc' := 20) (dt_X3_tell 11 (19, .iastore, 1) rfl) rfl (sk_27 hS7.wI.wI) (by decide) (vin_eq (sl_27 hS7.wI.wI) (vlit (by decide))) (aw_ret (dt_X3_tell 12 (20, .return_, 1) rfl) rfl (aw_stk (st' := []) rfl (aw_aload_n (pc' := 66) (dt_X10_isHit 38 (65, .aload_n 0, 1) rfl) rfl rfl (aw_getAs (pc' := 69) (dt_X10_isHit 39 (66, .getfield 61, 3) rfl) fl_ReturnDesk_61 rfl rfl (sk_11 hS7.wI.wI.wI) (sa_11_8 hS7.wI.wI.wI) (aw_iconst (pc' := 70) (v := 3) (dt_X10_isHit 40 (69, .iconst 3, 1) rfl) (by decide) rfl (aw_aload_n (pc' := 71) (dt_X10_isHit 41 (70, .aload_n 0, 1) rfl) rfl rfl (aw_iload_n (pc' := 72) (dt_X10_isHit 42 (71, .iload_n 1, 1) rfl) rfl rfl (aw_callV0 (pc' := 75) (nc := nc) (ns := ns) (y2 := mX10_spentBy) (As := [.int x1]) (rest := [.int 3, .ref 26]) (a := 11) (dt_X10_isHit 43 (72, .invokevirtual 551, 3) rfl) ok_X10_spentBy ln_ReturnDesk_551 im_X10_spentBy se_X10_spentBy pr_X10_spentBy (Or.inl ⟨by decide, rfl⟩) rfl (Nat.le_of_ble_eq_true rfl) (Nat.le_of_ble_eq_true rfl) rfl (sk_11 hS7.wI.wI.wI) h ?_)))))))))))))))))))))
      rintro v μ10 ⟨r12, rfl, hS11, h⟩
      refine aw_stk (st' := [.int r12, .int 3, .ref 26]) rfl ?_
      refine aw_inV (pc' := 78) (nc1 := 0) (ns1 := 0) (nc := nc) (ns := ns) (ls' := [some (.ref 26), some (.int 3), some (.int r12)]) (y2 := mX3_tell) (As := [.int 3, .int r12]) (rest := []) (a := 26) (dt_X10_isHit 44 (75, .invokevirtual 448, 3) rfl) ok_X3_tell ln_ReturnDesk_448 im_X3_tell se_X3_tell pr_X3_tell (Or.inl ⟨by decide, rfl⟩) rfl (Nat.le_of_ble_eq_true rfl) (Nat.le_of_ble_eq_true rfl) rfl rfl (sk_26 hS11) (aw_iload_n (pc' := 1) (dt_X3_tell 0 (0, .iload_n 1, 1) rfl) rfl rfl (aw_if_lt_F (pc' := 4) (tgt := 20) (dt_X3_tell 1 (1, .ifCond .lt 19, 3) rfl) (by decide) rfl (by decide) (aw_iload_n (pc' := 5) (dt_X3_tell 2 (4, .iload_n 1, 1) rfl) rfl rfl (aw_aload_n (pc' := 6) (dt_X3_tell 3 (5, .aload_n 0, 1) rfl) rfl rfl (aw_getAs (pc' := 9) (dt_X3_tell 4 (6, .getfield 9, 3) rfl) fl_Machine_9 rfl rfl (sk_26 hS11) (sa_26_0 hS11) (aw_alens (pc' := 10) (n := 12) (v := 12) (dt_X3_tell 5 (9, .arraylength, 1) rfl) (by decide) (by decide) rfl (sk_27 hS11) (sl_27 hS11) (by decide) (aw_icmp_ge_F (pc' := 13) (tgt := 20) (dt_X3_tell 6 (10, .if_icmp .ge 10, 3) rfl) (by decide) rfl (by decide) (aw_aload_n (pc' := 14) (dt_X3_tell 7 (13, .aload_n 0, 1) rfl) rfl rfl (aw_getAs (pc' := 17) (dt_X3_tell 8 (14, .getfield 9, 3) rfl) fl_Machine_9 rfl rfl (sk_26 hS11) (sa_26_0 hS11) (aw_iload_n (pc' := 18) (dt_X3_tell 9 (17, .iload_n 1, 1) rfl) rfl rfl (aw_iload_n (pc' := 19) (dt_X3_tell 10 (18, .iload_n 2, 1) rfl) rfl rfl (aw_iast (pc' := 20) (dt_X3_tell 11 (19, .iastore, 1) rfl) rfl (sk_27 hS11) (by decide) (vin_eq (sl_27 hS11) (vlit (by decide))) (aw_ret (dt_X3_tell 12 (20, .return_, 1) rfl) rfl (aw_stk (st' := []) rfl (aw_aload_n (pc' := 79) (dt_X10_isHit 45 (78, .aload_n 0, 1) rfl) rfl rfl (aw_getAs (pc' := 82) (dt_X10_isHit 46 (79, .getfield 61, 3) rfl) fl_ReturnDesk_61 rfl rfl (sk_11 hS11.wI) (sa_11_8 hS11.wI) (aw_iconst (pc' := 83) (v := 4) (dt_X10_isHit 47 (82, .iconst 4, 1) rfl) (by decide) rfl (aw_aload_n (pc' := 84) (dt_X10_isHit 48 (83, .aload_n 0, 1) rfl) rfl rfl (aw_iload_n (pc' := 85) (dt_X10_isHit 49 (84, .iload_n 1, 1) rfl) rfl rfl (aw_aload_n (pc' := 86) (dt_X10_isHit 50 (85, .aload_n 0, 1) rfl) rfl rfl (aw_inV (pc' := 89) (nc1 := 0) (ns1 := 0) (nc := nc) (ns := ns) (ls' := [some (.ref 11)]) (y2 := mX10_today) (As := []) (rest := [.int x1, .ref 11, .int 4, .ref 26]) (a := 11) (dt_X10_isHit 51 (86, .invokevirtual 138, 3) rfl) ok_X10_today ln_ReturnDesk_138 im_X10_today se_X10_today pr_X10_today (Or.inl ⟨by decide, rfl⟩) rfl (Nat.le_of_ble_eq_true rfl) (Nat.le_of_ble_eq_true rfl) rfl rfl (sk_11 hS11.wI) (aw_aload_n (pc' := 1) (dt_X10_today 0 (0, .aload_n 0, 1) rfl) rfl rfl (aw_getI (pc' := 4) (dt_X10_today 1 (1, .getfield 114, 3) rfl) fl_ReturnDesk_114 rfl rfl (sk_11 hS11.wI) (aw_bipush (pc' := 6) (v := 24) (dt_X10_today 2 (4, .bipush 24, 2) rfl) (by decide) rfl (aw_idiv (pc' := 7) (dt_X10_today 3 (6, .idiv, 1) rfl) (by decide) rfl (aw_iret (dt_X10_today 4 (7, .ireturn, 1) rfl) rfl rfl (aw_stk (st' := [.int ((zI (sI μ10 27 3 r12) 11 17) / 24), .int x1, .ref 11, .int 4, .ref 26]) rfl (aw_bipush (pc' := 91) (v := 29) (dt_X10_isHit 52 (89, .bipush 29, 2) rfl) (by decide) rfl (aw_isub (pc' := 92) (dt_X10_isHit 53 (91, .isub, 1) rfl) rfl (aw_aload_n (pc' := 93) (dt_X10_isHit 54 (92, .aload_n 0, 1) rfl) rfl rfl (aw_inV (pc' := 96) (nc1 := 0) (ns1 := 0) (nc := nc) (ns := ns) (ls' := [some (.ref 11)]) (y2 := mX10_today) (As := []) (rest := [.int (((zI (sI μ10 27 3 r12) 11 17) / 24) - 29), .int x1, .ref 11, .int 4, .ref 26]) (a := 11) (dt_X10_isHit 55 (93, .invokevirtual 138, 3) rfl) ok_X10_today ln_ReturnDesk_138 im_X10_today se_X10_today pr_X10_today (Or.inl ⟨by decide, rfl⟩) rfl (Nat.le_of_ble_eq_true rfl) (Nat.le_of_ble_eq_true rfl) rfl rfl (sk_11 hS11.wI) (aw_aload_n (pc' := 1) (dt_X10_today 0 (0, .aload_n 0, 1) rfl) rfl rfl (aw_getI (pc' := 4) (dt_X10_today 1 (1, .getfield 114, 3) rfl) fl_ReturnDesk_114 rfl rfl (sk_11 hS11.wI) (aw_bipush (pc' := 6) (v := 24) (dt_X10_today 2 (4, .bipush 24, 2) rfl) (by decide) rfl (aw_idiv (pc' := 7) (dt_X10_today 3 (6, .idiv, 1) rfl) (by decide) rfl (aw_iret (dt_X10_today 4 (7, .ireturn, 1) rfl) rfl rfl (aw_stk (st' := [.int ((zI (sI μ10 27 3 r12) 11 17) / 24), .int (((zI (sI μ10 27 3 r12) 11 17) / 24) - 29), .int x1, .ref 11, .int 4, .ref 26]) rfl (aw_callV0 (pc' := 99) (nc := nc) (ns := ns) (y2 := mX10_backOfBuyer) (As := [.int x1, .int (((zI (sI μ10 27 3 r12) 11 17) / 24) - 29), .int ((zI (sI μ10 27 3 r12) 11 17) / 24)]) (rest := [.int 4, .ref 26]) (a := 11) (dt_X10_isHit 56 (96, .invokevirtual 435, 3) rfl) ok_X10_backOfBuyer ln_ReturnDesk_435 im_X10_backOfBuyer se_X10_backOfBuyer pr_X10_backOfBuyer (Or.inl ⟨by decide, rfl⟩) rfl (Nat.le_of_ble_eq_true rfl) (Nat.le_of_ble_eq_true rfl) rfl (sk_11 hS11.wI) h ?_))))))))))))))))))))))))))))))))))))))
      rintro v μ13 ⟨r15, rfl, hS14, h⟩
      refine aw_stk (st' := [.int r15, .int 4, .ref 26]) rfl ?_
      refine aw_inV (pc' := 102) (nc1 := 0) (ns1 := 0) (nc := nc) (ns := ns) (ls' := [some (.ref 26), some (.int 4), some (.int r15)]) (y2 := mX3_tell) (As := [.int 4, .int r15]) (rest := []) (a := 26) (dt_X10_isHit 57 (99, .invokevirtual 448, 3) rfl) ok_X3_tell ln_ReturnDesk_448 im_X3_tell se_X3_tell pr_X3_tell (Or.inl ⟨by decide, rfl⟩) rfl (Nat.le_of_ble_eq_true rfl) (Nat.le_of_ble_eq_true rfl) rfl rfl (sk_26 hS14) (aw_iload_n (pc' := 1) (dt_X3_tell 0 (0, .iload_n 1, 1) rfl) rfl rfl (aw_if_lt_F (pc' := 4) (tgt := 20) (dt_X3_tell 1 (1, .ifCond .lt 19, 3) rfl) (by decide) rfl (by decide) (aw_iload_n (pc' := 5) (dt_X3_tell 2 (4, .iload_n 1, 1) rfl) rfl rfl (aw_aload_n (pc' := 6) (dt_X3_tell 3 (5, .aload_n 0, 1) rfl) rfl rfl (aw_getAs (pc' := 9) (dt_X3_tell 4 (6, .getfield 9, 3) rfl) fl_Machine_9 rfl rfl (sk_26 hS14) (sa_26_0 hS14) (aw_alens (pc' := 10) (n := 12) (v := 12) (dt_X3_tell 5 (9, .arraylength, 1) rfl) (by decide) (by decide) rfl (sk_27 hS14) (sl_27 hS14) (by decide) (aw_icmp_ge_F (pc' := 13) (tgt := 20) (dt_X3_tell 6 (10, .if_icmp .ge 10, 3) rfl) (by decide) rfl (by decide) (aw_aload_n (pc' := 14) (dt_X3_tell 7 (13, .aload_n 0, 1) rfl) rfl rfl (aw_getAs (pc' := 17) (dt_X3_tell 8 (14, .getfield 9, 3) rfl) fl_Machine_9 rfl rfl (sk_26 hS14) (sa_26_0 hS14) (aw_iload_n (pc' := 18) (dt_X3_tell 9 (17, .iload_n 1, 1) rfl) rfl rfl (aw_iload_n (pc' := 19) (dt_X3_tell 10 (18, .iload_n 2, 1) rfl) rfl rfl (aw_iast (pc' := 20) (dt_X3_tell 11 (19, .iastore, 1) rfl) rfl (sk_27 hS14) (by decide) (vin_eq (sl_27 hS14) (vlit (by decide))) (aw_ret (dt_X3_tell 12 (20, .return_, 1) rfl) rfl (aw_stk (st' := []) rfl (aw_aload_n (pc' := 103) (dt_X10_isHit 58 (102, .aload_n 0, 1) rfl) rfl rfl (aw_getAs (pc' := 106) (dt_X10_isHit 59 (103, .getfield 61, 3) rfl) fl_ReturnDesk_61 rfl rfl (sk_11 hS14.wI) (sa_11_8 hS14.wI) (aw_aload_n (pc' := 107) (dt_X10_isHit 60 (106, .aload_n 0, 1) rfl) rfl rfl (aw_getA (pc' := 110) (dt_X10_isHit 61 (107, .getfield 393, 3) rfl) fl_ReturnDesk_393 rfl rfl (sk_11 hS14.wI) ?_ ?_))))))))))))))))))
      · intro e16
        have h := h.1 e16
        refine aw_callV0 (pc' := 113) (nc := nc) (ns := ns) (y2 := mX3_valueOf) (As := [.null]) (rest := []) (a := 26) (dt_X10_isHit 62 (110, .invokevirtual 554, 3) rfl) ok_X3_valueOf ln_ReturnDesk_554 im_X3_valueOf se_X3_valueOf pr_X3_valueOf (Or.inl ⟨by decide, rfl⟩) rfl (Nat.le_of_ble_eq_true rfl) (Nat.le_of_ble_eq_true rfl) rfl (sk_26 hS14.wI) h ?_
        rintro v μ18 ⟨r20, rfl, hS19, h⟩
        refine aw_stk (st' := [.int r20]) rfl ?_
        refine aw_if_eq (pc' := 116) (tgt := 120) (dt_X10_isHit 63 (113, .ifCond .eq 7, 3) rfl) (by decide) rfl ?_ ?_
        · intro q21
          have h := h.1 q21
          refine aw_iconst (pc' := 121) (v := 0) (dt_X10_isHit 66 (120, .iconst 0, 1) rfl) (by decide) rfl (aw_iret (dt_X10_isHit 67 (121, .ireturn, 1) rfl) rfl rfl ?_)
          exact h
        · intro q21
          have h := h.2 q21
          refine aw_iconst (pc' := 117) (v := 1) (dt_X10_isHit 64 (116, .iconst 1, 1) rfl) (by decide) rfl (aw_goto (tgt := 121) (dt_X10_isHit 65 (117, .goto 4, 3) rfl) (by decide) (aw_iret (dt_X10_isHit 67 (121, .ireturn, 1) rfl) rfl rfl ?_))
          exact h
      · intro b17 e16
        have h := h.2 b17 e16
        refine aw_callV0 (pc' := 113) (nc := nc) (ns := ns) (y2 := mX3_valueOf) (As := [.ref b17]) (rest := []) (a := 26) (dt_X10_isHit 62 (110, .invokevirtual 554, 3) rfl) ok_X3_valueOf ln_ReturnDesk_554 im_X3_valueOf se_X3_valueOf pr_X3_valueOf (Or.inl ⟨by decide, rfl⟩) rfl (Nat.le_of_ble_eq_true rfl) (Nat.le_of_ble_eq_true rfl) rfl (sk_26 hS14.wI) h ?_
        rintro v μ22 ⟨r24, rfl, hS23, h⟩
        refine aw_stk (st' := [.int r24]) rfl ?_
        refine aw_if_eq (pc' := 116) (tgt := 120) (dt_X10_isHit 63 (113, .ifCond .eq 7, 3) rfl) (by decide) rfl ?_ ?_
        · intro q25
          have h := h.1 q25
          refine aw_iconst (pc' := 121) (v := 0) (dt_X10_isHit 66 (120, .iconst 0, 1) rfl) (by decide) rfl (aw_iret (dt_X10_isHit 67 (121, .ireturn, 1) rfl) rfl rfl ?_)
          exact h
        · intro q25
          have h := h.2 q25
          refine aw_iconst (pc' := 117) (v := 1) (dt_X10_isHit 64 (116, .iconst 1, 1) rfl) (by decide) rfl (aw_goto (tgt := 121) (dt_X10_isHit 65 (117, .goto 4, 3) rfl) (by decide) (aw_iret (dt_X10_isHit 67 (121, .ireturn, 1) rfl) rfl rfl ?_))
          exact h
    · intro q9
      have h := h.2 q9
      obtain ⟨g26, h⟩ := h
      refine aw_bipush (pc' := 54) (v := 100) (dt_X10_isHit 30 (52, .bipush 100, 2) rfl) (by decide) rfl (aw_iload_n (pc' := 55) (dt_X10_isHit 31 (54, .iload_n 3, 1) rfl) rfl rfl (aw_imul (pc' := 56) (dt_X10_isHit 32 (55, .imul, 1) rfl) rfl (aw_iload_n (pc' := 57) (dt_X10_isHit 33 (56, .iload_n 2, 1) rfl) rfl rfl (aw_idiv (pc' := 58) (dt_X10_isHit 34 (57, .idiv, 1) rfl) g26 rfl (aw_goto (tgt := 62) (dt_X10_isHit 35 (58, .goto 4, 3) rfl) (by decide) (aw_inV (pc' := 65) (nc1 := 0) (ns1 := 0) (nc := nc) (ns := ns) (ls' := [some (.ref 26), some (.int 2), some (.int ((100 * r8) / r5))]) (y2 := mX3_tell) (As := [.int 2, .int ((100 * r8) / r5)]) (rest := []) (a := 26) (dt_X10_isHit 37 (62, .invokevirtual 448, 3) rfl) ok_X3_tell ln_ReturnDesk_448 im_X3_tell se_X3_tell pr_X3_tell (Or.inl ⟨by decide, rfl⟩) rfl (Nat.le_of_ble_eq_true rfl) (Nat.le_of_ble_eq_true rfl) rfl rfl (sk_26 hS7.wI.wI) (aw_iload_n (pc' := 1) (dt_X3_tell 0 (0, .iload_n 1, 1) rfl) rfl rfl (aw_if_lt_F (pc' := 4) (tgt := 20) (dt_X3_tell 1 (1, .ifCond .lt 19, 3) rfl) (by decide) rfl (by decide) (aw_iload_n (pc' := 5) (dt_X3_tell 2 (4, .iload_n 1, 1) rfl) rfl rfl (aw_aload_n (pc' := 6) (dt_X3_tell 3 (5, .aload_n 0, 1) rfl) rfl rfl (aw_getAs (pc' := 9) (dt_X3_tell 4 (6, .getfield 9, 3) rfl) fl_Machine_9 rfl rfl (sk_26 hS7.wI.wI) (sa_26_0 hS7.wI.wI) (aw_alens (pc' := 10) (n := 12) (v := 12) (dt_X3_tell 5 (9, .arraylength, 1) rfl) (by decide) (by decide) rfl (sk_27 hS7.wI.wI) (sl_27 hS7.wI.wI) (by decide) (aw_icmp_ge_F (pc' := 13) (tgt := 20) (dt_X3_tell 6 (10, .if_icmp .ge 10, 3) rfl) (by decide) rfl (by decide) (aw_aload_n (pc' := 14) (dt_X3_tell 7 (13, .aload_n 0, 1) rfl) rfl rfl (aw_getAs (pc' := 17) (dt_X3_tell 8 (14, .getfield 9, 3) rfl) fl_Machine_9 rfl rfl (sk_26 hS7.wI.wI) (sa_26_0 hS7.wI.wI) (aw_iload_n (pc' := 18) (dt_X3_tell 9 (17, .iload_n 1, 1) rfl) rfl rfl (aw_iload_n (pc' := 19) (dt_X3_tell 10 (18, .iload_n 2, 1) rfl) rfl rfl (aw_iast (pc' := 20) (dt_X3_tell 11 (19, .iastore, 1) rfl) rfl (sk_27 hS7.wI.wI) (by decide) (vin_eq (sl_27 hS7.wI.wI) (vlit (by decide))) (aw_ret (dt_X3_tell 12 (20, .return_, 1) rfl) rfl (aw_stk (st' := []) rfl (aw_aload_n (pc' := 66) (dt_X10_isHit 38 (65, .aload_n 0, 1) rfl) rfl rfl (aw_getAs (pc' := 69) (dt_X10_isHit 39 (66, .getfield 61, 3) rfl) fl_ReturnDesk_61 rfl rfl (sk_11 hS7.wI.wI.wI) (sa_11_8 hS7.wI.wI.wI) (aw_iconst (pc' := 70) (v := 3) (dt_X10_isHit 40 (69, .iconst 3, 1) rfl) (by decide) rfl (aw_aload_n (pc' := 71) (dt_X10_isHit 41 (70, .aload_n 0, 1) rfl) rfl rfl (aw_iload_n (pc' := 72) (dt_X10_isHit 42 (71, .iload_n 1, 1) rfl) rfl rfl (aw_callV0 (pc' := 75) (nc := nc) (ns := ns) (y2 := mX10_spentBy) (As := [.int x1]) (rest := [.int 3, .ref 26]) (a := 11) (dt_X10_isHit 43 (72, .invokevirtual 551, 3) rfl) ok_X10_spentBy ln_ReturnDesk_551 im_X10_spentBy se_X10_spentBy pr_X10_spentBy (Or.inl ⟨by decide, rfl⟩) rfl (Nat.le_of_ble_eq_true rfl) (Nat.le_of_ble_eq_true rfl) rfl (sk_11 hS7.wI.wI.wI) h ?_))))))))))))))))))))))))))
      rintro v μ27 ⟨r29, rfl, hS28, h⟩
      refine aw_stk (st' := [.int r29, .int 3, .ref 26]) rfl ?_
      refine aw_inV (pc' := 78) (nc1 := 0) (ns1 := 0) (nc := nc) (ns := ns) (ls' := [some (.ref 26), some (.int 3), some (.int r29)]) (y2 := mX3_tell) (As := [.int 3, .int r29]) (rest := []) (a := 26) (dt_X10_isHit 44 (75, .invokevirtual 448, 3) rfl) ok_X3_tell ln_ReturnDesk_448 im_X3_tell se_X3_tell pr_X3_tell (Or.inl ⟨by decide, rfl⟩) rfl (Nat.le_of_ble_eq_true rfl) (Nat.le_of_ble_eq_true rfl) rfl rfl (sk_26 hS28) (aw_iload_n (pc' := 1) (dt_X3_tell 0 (0, .iload_n 1, 1) rfl) rfl rfl (aw_if_lt_F (pc' := 4) (tgt := 20) (dt_X3_tell 1 (1, .ifCond .lt 19, 3) rfl) (by decide) rfl (by decide) (aw_iload_n (pc' := 5) (dt_X3_tell 2 (4, .iload_n 1, 1) rfl) rfl rfl (aw_aload_n (pc' := 6) (dt_X3_tell 3 (5, .aload_n 0, 1) rfl) rfl rfl (aw_getAs (pc' := 9) (dt_X3_tell 4 (6, .getfield 9, 3) rfl) fl_Machine_9 rfl rfl (sk_26 hS28) (sa_26_0 hS28) (aw_alens (pc' := 10) (n := 12) (v := 12) (dt_X3_tell 5 (9, .arraylength, 1) rfl) (by decide) (by decide) rfl (sk_27 hS28) (sl_27 hS28) (by decide) (aw_icmp_ge_F (pc' := 13) (tgt := 20) (dt_X3_tell 6 (10, .if_icmp .ge 10, 3) rfl) (by decide) rfl (by decide) (aw_aload_n (pc' := 14) (dt_X3_tell 7 (13, .aload_n 0, 1) rfl) rfl rfl (aw_getAs (pc' := 17) (dt_X3_tell 8 (14, .getfield 9, 3) rfl) fl_Machine_9 rfl rfl (sk_26 hS28) (sa_26_0 hS28) (aw_iload_n (pc' := 18) (dt_X3_tell 9 (17, .iload_n 1, 1) rfl) rfl rfl (aw_iload_n (pc' := 19) (dt_X3_tell 10 (18, .iload_n 2, 1) rfl) rfl rfl (aw_iast (pc' := 20) (dt_X3_tell 11 (19, .iastore, 1) rfl) rfl (sk_27 hS28) (by decide) (vin_eq (sl_27 hS28) (vlit (by decide))) (aw_ret (dt_X3_tell 12 (20, .return_, 1) rfl) rfl (aw_stk (st' := []) rfl (aw_aload_n (pc' := 79) (dt_X10_isHit 45 (78, .aload_n 0, 1) rfl) rfl rfl (aw_getAs (pc' := 82) (dt_X10_isHit 46 (79, .getfield 61, 3) rfl) fl_ReturnDesk_61 rfl rfl (sk_11 hS28.wI) (sa_11_8 hS28.wI) (aw_iconst (pc' := 83) (v := 4) (dt_X10_isHit 47 (82, .iconst 4, 1) rfl) (by decide) rfl (aw_aload_n (pc' := 84) (dt_X10_isHit 48 (83, .aload_n 0, 1) rfl) rfl rfl (aw_iload_n (pc' := 85) (dt_X10_isHit 49 (84, .iload_n 1, 1) rfl) rfl rfl (aw_aload_n (pc' := 86) (dt_X10_isHit 50 (85, .aload_n 0, 1) rfl) rfl rfl (aw_inV (pc' := 89) (nc1 := 0) (ns1 := 0) (nc := nc) (ns := ns) (ls' := [some (.ref 11)]) (y2 := mX10_today) (As := []) (rest := [.int x1, .ref 11, .int 4, .ref 26]) (a := 11) (dt_X10_isHit 51 (86, .invokevirtual 138, 3) rfl) ok_X10_today ln_ReturnDesk_138 im_X10_today se_X10_today pr_X10_today (Or.inl ⟨by decide, rfl⟩) rfl (Nat.le_of_ble_eq_true rfl) (Nat.le_of_ble_eq_true rfl) rfl rfl (sk_11 hS28.wI) (aw_aload_n (pc' := 1) (dt_X10_today 0 (0, .aload_n 0, 1) rfl) rfl rfl (aw_getI (pc' := 4) (dt_X10_today 1 (1, .getfield 114, 3) rfl) fl_ReturnDesk_114 rfl rfl (sk_11 hS28.wI) (aw_bipush (pc' := 6) (v := 24) (dt_X10_today 2 (4, .bipush 24, 2) rfl) (by decide) rfl (aw_idiv (pc' := 7) (dt_X10_today 3 (6, .idiv, 1) rfl) (by decide) rfl (aw_iret (dt_X10_today 4 (7, .ireturn, 1) rfl) rfl rfl (aw_stk (st' := [.int ((zI (sI μ27 27 3 r29) 11 17) / 24), .int x1, .ref 11, .int 4, .ref 26]) rfl (aw_bipush (pc' := 91) (v := 29) (dt_X10_isHit 52 (89, .bipush 29, 2) rfl) (by decide) rfl (aw_isub (pc' := 92) (dt_X10_isHit 53 (91, .isub, 1) rfl) rfl (aw_aload_n (pc' := 93) (dt_X10_isHit 54 (92, .aload_n 0, 1) rfl) rfl rfl (aw_inV (pc' := 96) (nc1 := 0) (ns1 := 0) (nc := nc) (ns := ns) (ls' := [some (.ref 11)]) (y2 := mX10_today) (As := []) (rest := [.int (((zI (sI μ27 27 3 r29) 11 17) / 24) - 29), .int x1, .ref 11, .int 4, .ref 26]) (a := 11) (dt_X10_isHit 55 (93, .invokevirtual 138, 3) rfl) ok_X10_today ln_ReturnDesk_138 im_X10_today se_X10_today pr_X10_today (Or.inl ⟨by decide, rfl⟩) rfl (Nat.le_of_ble_eq_true rfl) (Nat.le_of_ble_eq_true rfl) rfl rfl (sk_11 hS28.wI) (aw_aload_n (pc' := 1) (dt_X10_today 0 (0, .aload_n 0, 1) rfl) rfl rfl (aw_getI (pc' := 4) (dt_X10_today 1 (1, .getfield 114, 3) rfl) fl_ReturnDesk_114 rfl rfl (sk_11 hS28.wI) (aw_bipush (pc' := 6) (v := 24) (dt_X10_today 2 (4, .bipush 24, 2) rfl) (by decide) rfl (aw_idiv (pc' := 7) (dt_X10_today 3 (6, .idiv, 1) rfl) (by decide) rfl (aw_iret (dt_X10_today 4 (7, .ireturn, 1) rfl) rfl rfl (aw_stk (st' := [.int ((zI (sI μ27 27 3 r29) 11 17) / 24), .int (((zI (sI μ27 27 3 r29) 11 17) / 24) - 29), .int x1, .ref 11, .int 4, .ref 26]) rfl (aw_callV0 (pc' := 99) (nc := nc) (ns := ns) (y2 := mX10_backOfBuyer) (As := [.int x1, .int (((zI (sI μ27 27 3 r29) 11 17) / 24) - 29), .int ((zI (sI μ27 27 3 r29) 11 17) / 24)]) (rest := [.int 4, .ref 26]) (a := 11) (dt_X10_isHit 56 (96, .invokevirtual 435, 3) rfl) ok_X10_backOfBuyer ln_ReturnDesk_435 im_X10_backOfBuyer se_X10_backOfBuyer pr_X10_backOfBuyer (Or.inl ⟨by decide, rfl⟩) rfl (Nat.le_of_ble_eq_true rfl) (Nat.le_of_ble_eq_true rfl) rfl (sk_11 hS28.wI) h ?_))))))))))))))))))))))))))))))))))))))
      rintro v μ30 ⟨r32, rfl, hS31, h⟩
      refine aw_stk (st' := [.int r32, .int 4, .ref 26]) rfl ?_
      refine aw_inV (pc' := 102) (nc1 := 0) (ns1 := 0) (nc := nc) (ns := ns) (ls' := [some (.ref 26), some (.int 4), some (.int r32)]) (y2 := mX3_tell) (As := [.int 4, .int r32]) (rest := []) (a := 26) (dt_X10_isHit 57 (99, .invokevirtual 448, 3) rfl) ok_X3_tell ln_ReturnDesk_448 im_X3_tell se_X3_tell pr_X3_tell (Or.inl ⟨by decide, rfl⟩) rfl (Nat.le_of_ble_eq_true rfl) (Nat.le_of_ble_eq_true rfl) rfl rfl (sk_26 hS31) (aw_iload_n (pc' := 1) (dt_X3_tell 0 (0, .iload_n 1, 1) rfl) rfl rfl (aw_if_lt_F (pc' := 4) (tgt := 20) (dt_X3_tell 1 (1, .ifCond .lt 19, 3) rfl) (by decide) rfl (by decide) (aw_iload_n (pc' := 5) (dt_X3_tell 2 (4, .iload_n 1, 1) rfl) rfl rfl (aw_aload_n (pc' := 6) (dt_X3_tell 3 (5, .aload_n 0, 1) rfl) rfl rfl (aw_getAs (pc' := 9) (dt_X3_tell 4 (6, .getfield 9, 3) rfl) fl_Machine_9 rfl rfl (sk_26 hS31) (sa_26_0 hS31) (aw_alens (pc' := 10) (n := 12) (v := 12) (dt_X3_tell 5 (9, .arraylength, 1) rfl) (by decide) (by decide) rfl (sk_27 hS31) (sl_27 hS31) (by decide) (aw_icmp_ge_F (pc' := 13) (tgt := 20) (dt_X3_tell 6 (10, .if_icmp .ge 10, 3) rfl) (by decide) rfl (by decide) (aw_aload_n (pc' := 14) (dt_X3_tell 7 (13, .aload_n 0, 1) rfl) rfl rfl (aw_getAs (pc' := 17) (dt_X3_tell 8 (14, .getfield 9, 3) rfl) fl_Machine_9 rfl rfl (sk_26 hS31) (sa_26_0 hS31) (aw_iload_n (pc' := 18) (dt_X3_tell 9 (17, .iload_n 1, 1) rfl) rfl rfl (aw_iload_n (pc' := 19) (dt_X3_tell 10 (18, .iload_n 2, 1) rfl) rfl rfl (aw_iast (pc' := 20) (dt_X3_tell 11 (19, .iastore, 1) rfl) rfl (sk_27 hS31) (by decide) (vin_eq (sl_27 hS31) (vlit (by decide))) (aw_ret (dt_X3_tell 12 (20, .return_, 1) rfl) rfl (aw_stk (st' := []) rfl (aw_aload_n (pc' := 103) (dt_X10_isHit 58 (102, .aload_n 0, 1) rfl) rfl rfl (aw_getAs (pc' := 106) (dt_X10_isHit 59 (103, .getfield 61, 3) rfl) fl_ReturnDesk_61 rfl rfl (sk_11 hS31.wI) (sa_11_8 hS31.wI) (aw_aload_n (pc' := 107) (dt_X10_isHit 60 (106, .aload_n 0, 1) rfl) rfl rfl (aw_getA (pc' := 110) (dt_X10_isHit 61 (107, .getfield 393, 3) rfl) fl_ReturnDesk_393 rfl rfl (sk_11 hS31.wI) ?_ ?_))))))))))))))))))
      · intro e33
        have h := h.1 e33
        refine aw_callV0 (pc' := 113) (nc := nc) (ns := ns) (y2 := mX3_valueOf) (As := [.null]) (rest := []) (a := 26) (dt_X10_isHit 62 (110, .invokevirtual 554, 3) rfl) ok_X3_valueOf ln_ReturnDesk_554 im_X3_valueOf se_X3_valueOf pr_X3_valueOf (Or.inl ⟨by decide, rfl⟩) rfl (Nat.le_of_ble_eq_true rfl) (Nat.le_of_ble_eq_true rfl) rfl (sk_26 hS31.wI) h ?_
        rintro v μ35 ⟨r37, rfl, hS36, h⟩
        refine aw_stk (st' := [.int r37]) rfl ?_
        refine aw_if_eq (pc' := 116) (tgt := 120) (dt_X10_isHit 63 (113, .ifCond .eq 7, 3) rfl) (by decide) rfl ?_ ?_
        · intro q38
          have h := h.1 q38
          refine aw_iconst (pc' := 121) (v := 0) (dt_X10_isHit 66 (120, .iconst 0, 1) rfl) (by decide) rfl (aw_iret (dt_X10_isHit 67 (121, .ireturn, 1) rfl) rfl rfl ?_)
          exact h
        · intro q38
          have h := h.2 q38
          refine aw_iconst (pc' := 117) (v := 1) (dt_X10_isHit 64 (116, .iconst 1, 1) rfl) (by decide) rfl (aw_goto (tgt := 121) (dt_X10_isHit 65 (117, .goto 4, 3) rfl) (by decide) (aw_iret (dt_X10_isHit 67 (121, .ireturn, 1) rfl) rfl rfl ?_))
          exact h
      · intro b34 e33
        have h := h.2 b34 e33
        refine aw_callV0 (pc' := 113) (nc := nc) (ns := ns) (y2 := mX3_valueOf) (As := [.ref b34]) (rest := []) (a := 26) (dt_X10_isHit 62 (110, .invokevirtual 554, 3) rfl) ok_X3_valueOf ln_ReturnDesk_554 im_X3_valueOf se_X3_valueOf pr_X3_valueOf (Or.inl ⟨by decide, rfl⟩) rfl (Nat.le_of_ble_eq_true rfl) (Nat.le_of_ble_eq_true rfl) rfl (sk_26 hS31.wI) h ?_
        rintro v μ39 ⟨r41, rfl, hS40, h⟩
        refine aw_stk (st' := [.int r41]) rfl ?_
        refine aw_if_eq (pc' := 116) (tgt := 120) (dt_X10_isHit 63 (113, .ifCond .eq 7, 3) rfl) (by decide) rfl ?_ ?_
        · intro q42
          have h := h.1 q42
          refine aw_iconst (pc' := 121) (v := 0) (dt_X10_isHit 66 (120, .iconst 0, 1) rfl) (by decide) rfl (aw_iret (dt_X10_isHit 67 (121, .ireturn, 1) rfl) rfl rfl ?_)
          exact h
        · intro q42
          have h := h.2 q42
          refine aw_iconst (pc' := 117) (v := 1) (dt_X10_isHit 64 (116, .iconst 1, 1) rfl) (by decide) rfl (aw_goto (tgt := 121) (dt_X10_isHit 65 (117, .goto 4, 3) rfl) (by decide) (aw_iret (dt_X10_isHit 67 (121, .ireturn, 1) rfl) rfl rfl ?_))
          exact h

