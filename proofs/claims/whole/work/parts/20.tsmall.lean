theorem t_X0_init {E : ZE} {l : Launch} {d nc ns : Nat} {a0 : Nat} {a1 : Nat} {x2 : Int32} {x3 : Int32} {x4 : Int32} {x5 : Int32} {x6 : Int32} {x7 : Int32} {μ : ZM} {K : Option Value → ZM → Prop} (hS : Stat μ) (h :
  (zK μ a0 = 0) ∧
  (¬ x2 = 0 →
    (zK (sI (sI (sA (sI (sI μ a0 13 0) a0 15 (-1)) a0 0 (some a1)) a0 1 x2) a0 2 x3) a1 = 7) ∧
    AW E l (d + 1) nc ns mX0_init 49 [some (.ref a0), some (.ref a1), some (.int x2), some (.int x3), some (.int x4), some (.int x5), some (.int x6), some (.int x7)] [.int (x3 - ((zI (sI (sI (sA (sI (sI μ a0 13 0) a0 15 (-1)) a0 0 (some a1)) a0 1 x2) a0 2 x3) a1 8) / 24)), .ref a0] (sI (sI (sA (sI (sI μ a0 13 0) a0 15 (-1)) a0 0 (some a1)) a0 1 x2) a0 2 x3) K) ∧
  (x2 = 0 →
    AW E l (d + 1) nc ns mX0_init 49 [some (.ref a0), some (.ref a1), some (.int x2), some (.int x3), some (.int x4), some (.int x5), some (.int x6), some (.int x7)] [.int (x4 / 1000), .ref a0] (sI (sI (sA (sI (sI μ a0 13 0) a0 15 (-1)) a0 0 (some a1)) a0 1 x2) a0 2 x3) K)) : AW E l (d + 1) nc ns mX0_init 0 [some (.ref a0), some (.ref a1), some (.int x2), some (.int x3), some (.int x4), some (.int x5), some (.int x6), some (.int x7)] [] μ K := by
  obtain ⟨g1, h⟩ := h
  refine aw_aload_n (pc' := 1) (dt_X0_init 0 (0, .aload_n 0, 1) rfl) rfl rfl (aw_objInit (pc' := 4) (dt_X0_init 1 (1, .invokespecial 3, 3) rfl) oi_Asking_3 (Nat.le_of_ble_eq_true rfl) rfl (aw_aload_n (pc' := 5) (dt_X0_init 2 (4, .aload_n 0, 1) rfl) rfl rfl (aw_iconst (pc' := 6) (v := 0) (dt_X0_init 3 (5, .iconst 0, 1) rfl) (by decide) rfl (aw_putI (pc' := 9) (dt_X0_init 4 (6, .putfield 9, 3) rfl) fl_Asking_9 rfl (by decide +kernel) rfl g1 (aw_aload_n (pc' := 10) (dt_X0_init 5 (9, .aload_n 0, 1) rfl) rfl rfl (aw_iconst (pc' := 11) (v := (-1)) (dt_X0_init 6 (10, .iconst (-1), 1) rfl) (by decide) rfl (aw_putI (pc' := 14) (dt_X0_init 7 (11, .putfield 15, 3) rfl) fl_Asking_15 rfl (by decide +kernel) rfl g1 (aw_aload_n (pc' := 15) (dt_X0_init 8 (14, .aload_n 0, 1) rfl) rfl rfl (aw_aload_n (pc' := 16) (dt_X0_init 9 (15, .aload_n 1, 1) rfl) rfl rfl (aw_putA (pc' := 19) (dt_X0_init 10 (16, .putfield 18, 3) rfl) fl_Asking_18 rfl (by decide +kernel) rfl g1 (aw_aload_n (pc' := 20) (dt_X0_init 11 (19, .aload_n 0, 1) rfl) rfl rfl (aw_iload_n (pc' := 21) (dt_X0_init 12 (20, .iload_n 2, 1) rfl) rfl rfl (aw_putI (pc' := 24) (dt_X0_init 13 (21, .putfield 22, 3) rfl) fl_Asking_22 rfl (by decide +kernel) rfl g1 (aw_aload_n (pc' := 25) (dt_X0_init 14 (24, .aload_n 0, 1) rfl) rfl rfl (aw_iload_n (pc' := 26) (dt_X0_init 15 (25, .iload_n 3, 1) rfl) rfl rfl (aw_putI (pc' := 29) (dt_X0_init 16 (26, .putfield 25, 3) rfl) fl_Asking_25 rfl (by decide +kernel) rfl g1 (aw_aload_n (pc' := 30) (dt_X0_init 17 (29, .aload_n 0, 1) rfl) rfl rfl (aw_iload_n (pc' := 31) (dt_X0_init 18 (30, .iload_n 2, 1) rfl) rfl rfl (aw_if_ne (pc' := 34) (tgt := 43) (dt_X0_init 19 (31, .ifCond .ne 12, 3) rfl) (by decide) rfl ?_ ?_)))))))))))))))))))
  · intro q2
    have h := h.1 q2
    obtain ⟨g3, h⟩ := h
    refine aw_iload_n (pc' := 44) (dt_X0_init 24 (43, .iload_n 3, 1) rfl) rfl rfl (aw_aload_n (pc' := 45) (dt_X0_init 25 (44, .aload_n 1, 1) rfl) rfl rfl (aw_inV (pc' := 48) (nc1 := 0) (ns1 := 0) (nc := nc) (ns := ns) (ls' := [some (.ref a1)]) (y2 := mX7_madeOn) (As := []) (rest := [.int x3, .ref a0]) (a := a1) (dt_X0_init 26 (45, .invokevirtual 28, 3) rfl) ok_X7_madeOn ln_Asking_28 im_X7_madeOn se_X7_madeOn pr_X7_madeOn (Or.inl ⟨by decide, rfl⟩) rfl (Nat.le_of_ble_eq_true rfl) (Nat.le_of_ble_eq_true rfl) rfl rfl g3 (aw_aload_n (pc' := 1) (dt_X7_madeOn 0 (0, .aload_n 0, 1) rfl) rfl rfl (aw_getI (pc' := 4) (dt_X7_madeOn 1 (1, .getfield 56, 3) rfl) fl_Sale_56 rfl rfl g3 (aw_bipush (pc' := 6) (v := 24) (dt_X7_madeOn 2 (4, .bipush 24, 2) rfl) (by decide) rfl (aw_idiv (pc' := 7) (dt_X7_madeOn 3 (6, .idiv, 1) rfl) (by decide) rfl (aw_iret (dt_X7_madeOn 4 (7, .ireturn, 1) rfl) rfl rfl (aw_stk (st' := [.int ((zI (sI (sI (sA (sI (sI μ a0 13 0) a0 15 (-1)) a0 0 (some a1)) a0 1 x2) a0 2 x3) a1 8) / 24), .int x3, .ref a0]) rfl (aw_isub (pc' := 49) (dt_X0_init 27 (48, .isub, 1) rfl) rfl ?_)))))))))
    exact h
  · intro q2
    have h := h.2 q2
    refine aw_iload (pc' := 36) (dt_X0_init 20 (34, .iload 4, 2) rfl) rfl rfl (aw_sipush (pc' := 39) (v := 1000) (dt_X0_init 21 (36, .sipush 1000, 3) rfl) (by decide) rfl (aw_idiv (pc' := 40) (dt_X0_init 22 (39, .idiv, 1) rfl) (by decide) rfl (aw_goto (tgt := 49) (dt_X0_init 23 (40, .goto 9, 3) rfl) (by decide) ?_)))
    exact h

theorem t_X0_init_49 {E : ZE} {l : Launch} {d nc ns : Nat} {a0 : Nat} {a1 : Nat} {x2 : Int32} {x3 : Int32} {x4 : Int32} {x5 : Int32} {x6 : Int32} {x7 : Int32} {y0 : Int32} {b1 : Nat} {μ : ZM} {K : Option Value → ZM → Prop} (hS : Stat μ) (h :
  (zK μ b1 = 0) ∧
  (¬ x2 = 0 →
    (zK (sI μ b1 3 y0) a1 = 7) ∧
    AW E l (d + 1) nc ns mX0_init 72 [some (.ref a0), some (.ref a1), none, none, none, some (.int x5), some (.int x6), some (.int x7)] [.int (x3 - ((zI (sI μ b1 3 y0) a1 8) / 24)), .ref a0] (sI μ b1 3 y0) K) ∧
  (x2 = 0 →
    AW E l (d + 1) nc ns mX0_init 72 [some (.ref a0), some (.ref a1), none, none, none, some (.int x5), some (.int x6), some (.int x7)] [.int (x4 - x4 / 1000 * 1000), .ref a0] (sI μ b1 3 y0) K)) : AW E l (d + 1) nc ns mX0_init 49 [some (.ref a0), some (.ref a1), some (.int x2), some (.int x3), some (.int x4), some (.int x5), some (.int x6), some (.int x7)] [.int y0, .ref b1] μ K := by
  obtain ⟨g1, h⟩ := h
  refine aw_putI (pc' := 52) (dt_X0_init 28 (49, .putfield 34, 3) rfl) fl_Asking_34 rfl (by decide +kernel) rfl g1 (aw_aload_n (pc' := 53) (dt_X0_init 29 (52, .aload_n 0, 1) rfl) rfl rfl (aw_iload_n (pc' := 54) (dt_X0_init 30 (53, .iload_n 2, 1) rfl) rfl rfl (aw_if_ne (pc' := 57) (tgt := 66) (dt_X0_init 31 (54, .ifCond .ne 12, 3) rfl) (by decide) rfl ?_ ?_)))
  · intro q2
    have h := h.1 q2
    obtain ⟨g3, h⟩ := h
    refine aw_iload_n (pc' := 67) (dt_X0_init 36 (66, .iload_n 3, 1) rfl) rfl rfl (aw_aload_n (pc' := 68) (dt_X0_init 37 (67, .aload_n 1, 1) rfl) rfl rfl (aw_inV (pc' := 71) (nc1 := 0) (ns1 := 0) (nc := nc) (ns := ns) (ls' := [some (.ref a1)]) (y2 := mX7_madeOn) (As := []) (rest := [.int x3, .ref a0]) (a := a1) (dt_X0_init 38 (68, .invokevirtual 28, 3) rfl) ok_X7_madeOn ln_Asking_28 im_X7_madeOn se_X7_madeOn pr_X7_madeOn (Or.inl ⟨by decide, rfl⟩) rfl (Nat.le_of_ble_eq_true rfl) (Nat.le_of_ble_eq_true rfl) rfl rfl g3 (aw_aload_n (pc' := 1) (dt_X7_madeOn 0 (0, .aload_n 0, 1) rfl) rfl rfl (aw_getI (pc' := 4) (dt_X7_madeOn 1 (1, .getfield 56, 3) rfl) fl_Sale_56 rfl rfl g3 (aw_bipush (pc' := 6) (v := 24) (dt_X7_madeOn 2 (4, .bipush 24, 2) rfl) (by decide) rfl (aw_idiv (pc' := 7) (dt_X7_madeOn 3 (6, .idiv, 1) rfl) (by decide) rfl (aw_iret (dt_X7_madeOn 4 (7, .ireturn, 1) rfl) rfl rfl (aw_stk (st' := [.int ((zI (sI μ b1 3 y0) a1 8) / 24), .int x3, .ref a0]) rfl (aw_isub (pc' := 72) (dt_X0_init 39 (71, .isub, 1) rfl) rfl (aw_drop (ls' := [some (.ref a0), some (.ref a1), none, none, none, some (.int x5), some (.int x6), some (.int x7)]) ⟨rfl, rfl, rfl, rfl, rfl, trivial⟩ ?_))))))))))
    exact h
  · intro q2
    have h := h.2 q2
    refine aw_iload (pc' := 59) (dt_X0_init 32 (57, .iload 4, 2) rfl) rfl rfl (aw_sipush (pc' := 62) (v := 1000) (dt_X0_init 33 (59, .sipush 1000, 3) rfl) (by decide) rfl (aw_irem (pc' := 63) (dt_X0_init 34 (62, .irem, 1) rfl) (by decide) rfl (aw_goto (tgt := 72) (dt_X0_init 35 (63, .goto 9, 3) rfl) (by decide) (aw_drop (ls' := [some (.ref a0), some (.ref a1), none, none, none, some (.int x5), some (.int x6), some (.int x7)]) ⟨rfl, rfl, rfl, rfl, rfl, trivial⟩ ?_))))
    exact h

theorem t_X0_init_72 {E : ZE} {l : Launch} {d nc ns : Nat} {a0 : Nat} {a1 : Nat} {x5 : Int32} {x6 : Int32} {x7 : Int32} {y0 : Int32} {b1 : Nat} {μ : ZM} {K : Option Value → ZM → Prop} (hS : Stat μ) (h :
  (zK μ b1 = 0) ∧
  (zK (sI μ b1 4 y0) a0 = 0) ∧
  ∀ μ3, μ3 = (sI (sI (sI (sI (sI (sI μ b1 4 y0) a0 5 ((x5 / 100000) - (x5 / 100000) / 10 * 10)) a0 6 ((x5 / 10000) - (x5 / 10000) / 10 * 10)) a0 7 ((x5 / 1000) - (x5 / 1000) / 10 * 10)) a0 8 ((x5 / 100) - (x5 / 100) / 10 * 10)) a0 9 ((x5 / 10) - (x5 / 10) / 10 * 10)) →
  (zK (sI μ3 a0 10 ((x5 / 1) - (x5 / 1) / 10 * 10)) a1 = 7) ∧
  (x6 = (zI (sI μ3 a0 10 ((x5 / 1) - (x5 / 1) / 10 * 10)) a1 3) →
    AW E l (d + 1) nc ns mX0_init 157 [some (.ref a0), some (.ref a1), none, none, none, none, none, some (.int x7)] [.int 0, .ref a0] (sI μ3 a0 10 ((x5 / 1) - (x5 / 1) / 10 * 10)) K) ∧
  (¬ x6 = (zI (sI μ3 a0 10 ((x5 / 1) - (x5 / 1) / 10 * 10)) a1 3) →
    AW E l (d + 1) nc ns mX0_init 157 [some (.ref a0), some (.ref a1), none, none, none, none, none, some (.int x7)] [.int 1, .ref a0] (sI μ3 a0 10 ((x5 / 1) - (x5 / 1) / 10 * 10)) K)) : AW E l (d + 1) nc ns mX0_init 72 [some (.ref a0), some (.ref a1), none, none, none, some (.int x5), some (.int x6), some (.int x7)] [.int y0, .ref b1] μ K := by
  obtain ⟨g1, h⟩ := h
  obtain ⟨g2, h⟩ := h
  refine aw_putI (pc' := 75) (dt_X0_init 40 (72, .putfield 37, 3) rfl) fl_Asking_37 rfl (by decide +kernel) rfl g1 (aw_aload_n (pc' := 76) (dt_X0_init 41 (75, .aload_n 0, 1) rfl) rfl rfl (aw_iload (pc' := 78) (dt_X0_init 42 (76, .iload 5, 2) rfl) rfl rfl (aw_ldc (pc' := 80) (dt_X0_init 43 (78, .ldc 40, 2) rfl) ct_Asking_40 rfl (aw_inSN (pc' := 83) (nc1 := 0) (ns1 := 0) (nc := nc) (ns := ns) (ls' := [some (.int x5), some (.int 100000)]) (y2 := mX10_digit) (As := [.int x5, .int 100000]) (rest := [.ref a0]) (dt_X0_init 44 (80, .invokestatic 41, 3) rfl) ok_X10_digit ln_Asking_41 sm_X10_digit pr_X10_digit rfl (Nat.le_of_ble_eq_true rfl) (Nat.le_of_ble_eq_true rfl) rfl rfl (aw_iload_n (pc' := 1) (dt_X10_digit 0 (0, .iload_n 1, 1) rfl) rfl rfl (aw_if_le_F (pc' := 4) (tgt := 13) (dt_X10_digit 1 (1, .ifCond .le 12, 3) rfl) (by decide) rfl (by decide) (aw_iload_n (pc' := 5) (dt_X10_digit 2 (4, .iload_n 0, 1) rfl) rfl rfl (aw_iload_n (pc' := 6) (dt_X10_digit 3 (5, .iload_n 1, 1) rfl) rfl rfl (aw_idiv (pc' := 7) (dt_X10_digit 4 (6, .idiv, 1) rfl) (by decide) rfl (aw_bipush (pc' := 9) (v := 10) (dt_X10_digit 5 (7, .bipush 10, 2) rfl) (by decide) rfl (aw_irem (pc' := 10) (dt_X10_digit 6 (9, .irem, 1) rfl) (by decide) rfl (aw_goto (tgt := 14) (dt_X10_digit 7 (10, .goto 4, 3) rfl) (by decide) (aw_iret (dt_X10_digit 9 (14, .ireturn, 1) rfl) rfl rfl (aw_stk (st' := [.int ((x5 / 100000) - (x5 / 100000) / 10 * 10), .ref a0]) rfl (aw_putI (pc' := 86) (dt_X0_init 45 (83, .putfield 45, 3) rfl) fl_Asking_45 rfl (by decide +kernel) rfl g2 (aw_aload_n (pc' := 87) (dt_X0_init 46 (86, .aload_n 0, 1) rfl) rfl rfl (aw_iload (pc' := 89) (dt_X0_init 47 (87, .iload 5, 2) rfl) rfl rfl (aw_sipush (pc' := 92) (v := 10000) (dt_X0_init 48 (89, .sipush 10000, 3) rfl) (by decide) rfl (aw_inSN (pc' := 95) (nc1 := 0) (ns1 := 0) (nc := nc) (ns := ns) (ls' := [some (.int x5), some (.int 10000)]) (y2 := mX10_digit) (As := [.int x5, .int 10000]) (rest := [.ref a0]) (dt_X0_init 49 (92, .invokestatic 41, 3) rfl) ok_X10_digit ln_Asking_41 sm_X10_digit pr_X10_digit rfl (Nat.le_of_ble_eq_true rfl) (Nat.le_of_ble_eq_true rfl) rfl rfl (aw_iload_n (pc' := 1) (dt_X10_digit 0 (0, .iload_n 1, 1) rfl) rfl rfl (aw_if_le_F (pc' := 4) (tgt := 13) (dt_X10_digit 1 (1, .ifCond .le 12, 3) rfl) (by decide) rfl (by decide) (aw_iload_n (pc' := 5) (dt_X10_digit 2 (4, .iload_n 0, 1) rfl) rfl rfl (aw_iload_n (pc' := 6) (dt_X10_digit 3 (5, .iload_n 1, 1) rfl) rfl rfl (aw_idiv (pc' := 7) (dt_X10_digit 4 (6, .idiv, 1) rfl) (by decide) rfl (aw_bipush (pc' := 9) (v := 10) (dt_X10_digit 5 (7, .bipush 10, 2) rfl) (by decide) rfl (aw_irem (pc' := 10) (dt_X10_digit 6 (9, .irem, 1) rfl) (by decide) rfl (aw_goto (tgt := 14) (dt_X10_digit 7 (10, .goto 4, 3) rfl) (by decide) (aw_iret (dt_X10_digit 9 (14, .ireturn, 1) rfl) rfl rfl (aw_stk (st' := [.int ((x5 / 10000) - (x5 / 10000) / 10 * 10), .ref a0]) rfl (aw_putI (pc' := 98) (dt_X0_init 50 (95, .putfield 48, 3) rfl) fl_Asking_48 rfl (by decide +kernel) rfl g2 (aw_aload_n (pc' := 99) (dt_X0_init 51 (98, .aload_n 0, 1) rfl) rfl rfl (aw_iload (pc' := 101) (dt_X0_init 52 (99, .iload 5, 2) rfl) rfl rfl (aw_sipush (pc' := 104) (v := 1000) (dt_X0_init 53 (101, .sipush 1000, 3) rfl) (by decide) rfl (aw_inSN (pc' := 107) (nc1 := 0) (ns1 := 0) (nc := nc) (ns := ns) (ls' := [some (.int x5), some (.int 1000)]) (y2 := mX10_digit) (As := [.int x5, .int 1000]) (rest := [.ref a0]) (dt_X0_init 54 (104, .invokestatic 41, 3) rfl) ok_X10_digit ln_Asking_41 sm_X10_digit pr_X10_digit rfl (Nat.le_of_ble_eq_true rfl) (Nat.le_of_ble_eq_true rfl) rfl rfl (aw_iload_n (pc' := 1) (dt_X10_digit 0 (0, .iload_n 1, 1) rfl) rfl rfl (aw_if_le_F (pc' := 4) (tgt := 13) (dt_X10_digit 1 (1, .ifCond .le 12, 3) rfl) (by decide) rfl (by decide) (aw_iload_n (pc' := 5) (dt_X10_digit 2 (4, .iload_n 0, 1) rfl) rfl rfl (aw_iload_n (pc' := 6) (dt_X10_digit 3 (5, .iload_n 1, 1) rfl) rfl rfl (aw_idiv (pc' := 7) (dt_X10_digit 4 (6, .idiv, 1) rfl) (by decide) rfl (aw_bipush (pc' := 9) (v := 10) (dt_X10_digit 5 (7, .bipush 10, 2) rfl) (by decide) rfl (aw_irem (pc' := 10) (dt_X10_digit 6 (9, .irem, 1) rfl) (by decide) rfl (aw_goto (tgt := 14) (dt_X10_digit 7 (10, .goto 4, 3) rfl) (by decide) (aw_iret (dt_X10_digit 9 (14, .ireturn, 1) rfl) rfl rfl (aw_stk (st' := [.int ((x5 / 1000) - (x5 / 1000) / 10 * 10), .ref a0]) rfl (aw_putI (pc' := 110) (dt_X0_init 55 (107, .putfield 51, 3) rfl) fl_Asking_51 rfl (by decide +kernel) rfl g2 (aw_aload_n (pc' := 111) (dt_X0_init 56 (110, .aload_n 0, 1) rfl) rfl rfl (aw_iload (pc' := 113) (dt_X0_init 57 (111, .iload 5, 2) rfl) rfl rfl (aw_bipush (pc' := 115) (v := 100) (dt_X0_init 58 (113, .bipush 100, 2) rfl) (by decide) rfl (aw_inSN (pc' := 118) (nc1 := 0) (ns1 := 0) (nc := nc) (ns := ns) (ls' := [some (.int x5), some (.int 100)]) (y2 := mX10_digit) (As := [.int x5, .int 100]) (rest := [.ref a0]) (dt_X0_init 59 (115, .invokestatic 41, 3) rfl) ok_X10_digit ln_Asking_41 sm_X10_digit pr_X10_digit rfl (Nat.le_of_ble_eq_true rfl) (Nat.le_of_ble_eq_true rfl) rfl rfl (aw_iload_n (pc' := 1) (dt_X10_digit 0 (0, .iload_n 1, 1) rfl) rfl rfl (aw_if_le_F (pc' := 4) (tgt := 13) (dt_X10_digit 1 (1, .ifCond .le 12, 3) rfl) (by decide) rfl (by decide) (aw_iload_n (pc' := 5) (dt_X10_digit 2 (4, .iload_n 0, 1) rfl) rfl rfl (aw_iload_n (pc' := 6) (dt_X10_digit 3 (5, .iload_n 1, 1) rfl) rfl rfl (aw_idiv (pc' := 7) (dt_X10_digit 4 (6, .idiv, 1) rfl) (by decide) rfl (aw_bipush (pc' := 9) (v := 10) (dt_X10_digit 5 (7, .bipush 10, 2) rfl) (by decide) rfl (aw_irem (pc' := 10) (dt_X10_digit 6 (9, .irem, 1) rfl) (by decide) rfl (aw_goto (tgt := 14) (dt_X10_digit 7 (10, .goto 4, 3) rfl) (by decide) (aw_iret (dt_X10_digit 9 (14, .ireturn, 1) rfl) rfl rfl (aw_stk (st' := [.int ((x5 / 100) - (x5 / 100) / 10 * 10), .ref a0]) rfl (aw_putI (pc' := 121) (dt_X0_init 60 (118, .putfield 54, 3) rfl) fl_Asking_54 rfl (by decide +kernel) rfl g2 (aw_aload_n (pc' := 122) (dt_X0_init 61 (121, .aload_n 0, 1) rfl) rfl rfl (aw_iload (pc' := 124) (dt_X0_init 62 (122, .iload 5, 2) rfl) rfl rfl (aw_bipush (pc' := 126) (v := 10) (dt_X0_init 63 (124, .bipush 10, 2) rfl) (by decide) rfl (aw_inSN (pc' := 129) (nc1 := 0) (ns1 := 0) (nc := nc) (ns := ns) (ls' := [some (.int x5), some (.int 10)]) (y2 := mX10_digit) (As := [.int x5, .int 10]) (rest := [.ref a0]) (dt_X0_init 64 (126, .invokestatic 41, 3) rfl) ok_X10_digit ln_Asking_41 sm_X10_digit pr_X10_digit rfl (Nat.le_of_ble_eq_true rfl) (Nat.le_of_ble_eq_true rfl) rfl rfl (aw_iload_n (pc' := 1) (dt_X10_digit 0 (0, .iload_n 1, 1) rfl) rfl rfl (aw_if_le_F (pc' := 4) (tgt := 13) (dt_X10_digit 1 (1, .ifCond .le 12, 3) rfl) (by decide) rfl (by decide) (aw_iload_n (pc' := 5) (dt_X10_digit 2 (4, .iload_n 0, 1) rfl) rfl rfl (aw_iload_n (pc' := 6) (dt_X10_digit 3 (5, .iload_n 1, 1) rfl) rfl rfl (aw_idiv (pc' := 7) (dt_X10_digit 4 (6, .idiv, 1) rfl) (by decide) rfl (aw_bipush (pc' := 9) (v := 10) (dt_X10_digit 5 (7, .bipush 10, 2) rfl) (by decide) rfl (aw_irem (pc' := 10) (dt_X10_digit 6 (9, .irem, 1) rfl) (by decide) rfl (aw_goto (tgt := 14) (dt_X10_digit 7 (10, .goto 4, 3) rfl) (by decide) (aw_iret (dt_X10_digit 9 (14, .ireturn, 1) rfl) rfl rfl (aw_stk (st' := [.int ((x5 / 10) - (x5 / 10) / 10 * 10), .ref a0]) rfl (aw_putI (pc' := 132) (dt_X0_init 65 (129, .putfield 57, 3) rfl) fl_Asking_57 rfl (by decide +kernel) rfl g2 ?_)))))))))))))))))))))))))))))))))))))))))))))))))))))))))))))))))))))))))))
  refine aw_mem (fun μ3 eμ4 => ?_)
  have h := h μ3 eμ4
  have hS5 : Stat μ3 := by rw [eμ4]; exact hS.wI.wI.wI.wI.wI.wI
  have k6 : zK μ3 b1 = 0 := by rw [eμ4]; exact g1
  have k7 : zK μ3 a0 = 0 := by rw [eμ4]; exact g2
  obtain ⟨g8, h⟩ := h
  refine aw_aload_n (pc' := 133) (dt_X0_init 66 (132, .aload_n 0, 1) rfl) rfl rfl (aw_iload (pc' := 135) (dt_X0_init 67 (133, .iload 5, 2) rfl) rfl rfl (aw_iconst (pc' := 136) (v := 1) (dt_X0_init 68 (135, .iconst 1, 1) rfl) (by decide) rfl (aw_inSN (pc' := 139) (nc1 := 0) (ns1 := 0) (nc := nc) (ns := ns) (ls' := [some (.int x5), some (.int 1)]) (y2 := mX10_digit) (As := [.int x5, .int 1]) (rest := [.ref a0]) (dt_X0_init 69 (136, .invokestatic 41, 3) rfl) ok_X10_digit ln_Asking_41 sm_X10_digit pr_X10_digit rfl (Nat.le_of_ble_eq_true rfl) (Nat.le_of_ble_eq_true rfl) rfl rfl (aw_iload_n (pc' := 1) (dt_X10_digit 0 (0, .iload_n 1, 1) rfl) rfl rfl (aw_if_le_F (pc' := 4) (tgt := 13) (dt_X10_digit 1 (1, .ifCond .le 12, 3) rfl) (by decide) rfl (by decide) (aw_iload_n (pc' := 5) (dt_X10_digit 2 (4, .iload_n 0, 1) rfl) rfl rfl (aw_iload_n (pc' := 6) (dt_X10_digit 3 (5, .iload_n 1, 1) rfl) rfl rfl (aw_idiv (pc' := 7) (dt_X10_digit 4 (6, .idiv, 1) rfl) (by decide) rfl (aw_bipush (pc' := 9) (v := 10) (dt_X10_digit 5 (7, .bipush 10, 2) rfl) (by decide) rfl (aw_irem (pc' := 10) (dt_X10_digit 6 (9, .irem, 1) rfl) (by decide) rfl (aw_goto (tgt := 14) (dt_X10_digit 7 (10, .goto 4, 3) rfl) (by decide) (aw_iret (dt_X10_digit 9 (14, .ireturn, 1) rfl) rfl rfl (aw_stk (st' := [.int ((x5 / 1) - (x5 / 1) / 10 * 10), .ref a0]) rfl (aw_putI (pc' := 142) (dt_X0_init 70 (139, .putfield 60, 3) rfl) fl_Asking_60 rfl (by decide +kernel) rfl k7 (aw_aload_n (pc' := 143) (dt_X0_init 71 (142, .aload_n 0, 1) rfl) rfl rfl (aw_iload (pc' := 145) (dt_X0_init 72 (143, .iload 6, 2) rfl) rfl rfl (aw_aload_n (pc' := 146) (dt_X0_init 73 (145, .aload_n 1, 1) rfl) rfl rfl (aw_getI (pc' := 149) (dt_X0_init 74 (146, .getfield 63, 3) rfl) fl_Asking_63 rfl rfl g8 (aw_icmp_eq (pc' := 152) (tgt := 156) (dt_X0_init 75 (149, .if_icmp .eq 7, 3) rfl) (by decide) rfl ?_ ?_)))))))))))))))))))
  · intro q9
    have h := h.1 q9
    refine aw_iconst (pc' := 157) (v := 0) (dt_X0_init 78 (156, .iconst 0, 1) rfl) (by decide) rfl (aw_drop (ls' := [some (.ref a0), some (.ref a1), none, none, none, none, none, some (.int x7)]) ⟨rfl, rfl, rfl, trivial⟩ ?_)
    exact h
  · intro q9
    have h := h.2 q9
    refine aw_iconst (pc' := 153) (v := 1) (dt_X0_init 76 (152, .iconst 1, 1) rfl) (by decide) rfl (aw_goto (tgt := 157) (dt_X0_init 77 (153, .goto 4, 3) rfl) (by decide) (aw_drop (ls' := [some (.ref a0), some (.ref a1), none, none, none, none, none, some (.int x7)]) ⟨rfl, rfl, rfl, trivial⟩ ?_))
    exact h

theorem t_X0_init_157 {E : ZE} {l : Launch} {d nc ns : Nat} {a0 : Nat} {a1 : Nat} {x7 : Int32} {y0 : Int32} {b1 : Nat} {μ : ZM} {K : Option Value → ZM → Prop} (hS : Stat μ) (h :
  (zK μ b1 = 0) ∧
  (y0 = 0 ∨ y0 = 1) ∧
  (zK (sI μ b1 11 y0) a1 = 7) ∧
  (zA (sI μ b1 11 y0) a1 1 = none →
    False) ∧
  (∀ b5, zA (sI μ b1 11 y0) a1 1 = some b5 →
    (zK (sI μ b1 11 y0) b5 = 4) ∧
    ((if 0 ≤ (x7 - (zI (sI μ b1 11 y0) b5 2)) then (x7 - (zI (sI μ b1 11 y0) b5 2)) else 0 - (x7 - (zI (sI μ b1 11 y0) b5 2))) ≤ ((zI (sI μ b1 11 y0) b5 2) / 50) →
      (zK (sI μ b1 11 y0) a0 = 0) ∧
      K none (sI (sI μ b1 11 y0) a0 12 0)) ∧
    (¬ (if 0 ≤ (x7 - (zI (sI μ b1 11 y0) b5 2)) then (x7 - (zI (sI μ b1 11 y0) b5 2)) else 0 - (x7 - (zI (sI μ b1 11 y0) b5 2))) ≤ ((zI (sI μ b1 11 y0) b5 2) / 50) →
      (zK (sI μ b1 11 y0) a0 = 0) ∧
      K none (sI (sI μ b1 11 y0) a0 12 1)))) : AW E l (d + 1) nc ns mX0_init 157 [some (.ref a0), some (.ref a1), none, none, none, none, none, some (.int x7)] [.int y0, .ref b1] μ K := by
  obtain ⟨g1, h⟩ := h
  obtain ⟨g2, h⟩ := h
  obtain ⟨g3, h⟩ := h
  refine aw_putZ (pc' := 160) (dt_X0_init 79 (157, .putfield 66, 3) rfl) fl_Asking_66 rfl (by decide +kernel) rfl g1 g2 (aw_aload_n (pc' := 161) (dt_X0_init 80 (160, .aload_n 0, 1) rfl) rfl rfl (aw_iload (pc' := 163) (dt_X0_init 81 (161, .iload 7, 2) rfl) rfl rfl (aw_aload_n (pc' := 164) (dt_X0_init 82 (163, .aload_n 1, 1) rfl) rfl rfl (aw_getA (pc' := 167) (dt_X0_init 83 (164, .getfield 70, 3) rfl) fl_Asking_70 rfl rfl g3 ?_ ?_))))
  · intro e4
    have h := h.1 e4
    exact h.elim
  · intro b5 e4
    have h := h.2 b5 e4
    obtain ⟨g6, h⟩ := h
    refine aw_getI (pc' := 170) (dt_X0_init 84 (167, .getfield 74, 3) rfl) fl_Asking_74 rfl rfl g6 (aw_isub (pc' := 171) (dt_X0_init 85 (170, .isub, 1) rfl) rfl (aw_mabs (pc' := 174) (dt_X0_init 86 (171, .invokestatic 79, 3) rfl) mm_Asking_79 (Nat.le_of_ble_eq_true rfl) rfl (aw_aload_n (pc' := 175) (dt_X0_init 87 (174, .aload_n 1, 1) rfl) rfl rfl (aw_getAs (pc' := 178) (dt_X0_init 88 (175, .getfield 70, 3) rfl) fl_Asking_70 rfl rfl g3 e4 (aw_getI (pc' := 181) (dt_X0_init 89 (178, .getfield 74, 3) rfl) fl_Asking_74 rfl rfl g6 (aw_bipush (pc' := 183) (v := 50) (dt_X0_init 90 (181, .bipush 50, 2) rfl) (by decide) rfl (aw_idiv (pc' := 184) (dt_X0_init 91 (183, .idiv, 1) rfl) (by decide) rfl (aw_icmp_le (pc' := 187) (tgt := 191) (dt_X0_init 92 (184, .if_icmp .le 7, 3) rfl) (by decide) rfl ?_ ?_))))))))
    · intro q7
      have h := h.1 q7
      obtain ⟨g8, h⟩ := h
      refine aw_iconst (pc' := 192) (v := 0) (dt_X0_init 95 (191, .iconst 0, 1) rfl) (by decide) rfl (aw_putZ (pc' := 195) (dt_X0_init 96 (192, .putfield 85, 3) rfl) fl_Asking_85 rfl (by decide +kernel) rfl g8 (by decide) (aw_ret (dt_X0_init 97 (195, .return_, 1) rfl) rfl ?_))
      exact h
    · intro q7
      have h := h.2 q7
      obtain ⟨g9, h⟩ := h
      refine aw_iconst (pc' := 188) (v := 1) (dt_X0_init 93 (187, .iconst 1, 1) rfl) (by decide) rfl (aw_goto (tgt := 192) (dt_X0_init 94 (188, .goto 4, 3) rfl) (by decide) (aw_putZ (pc' := 195) (dt_X0_init 96 (192, .putfield 85, 3) rfl) fl_Asking_85 rfl (by decide +kernel) rfl g9 (by decide) (aw_ret (dt_X0_init 97 (195, .return_, 1) rfl) rfl ?_)))
      exact h

theorem t_X1_hear {E : ZE} {l : Launch} {d nc ns : Nat} {x1 : Int32} {x2 : Int32} {μ : ZM} {K : Option Value → ZM → Prop} (hS : Stat μ) (h :
  AW E l d 0 0 mX1_worthOf 0 (zargs 4 [.ref 29, .int x1]) [] μ (fun v μ1 => ∃ r3 : Int32, v = some (.int r3) ∧ Stat μ1 ∧ 
    AW E l d 0 0 mX1_worthOf 0 (zargs 4 [.ref 29, .int x2]) [] μ1 (fun v μ4 => ∃ r6 : Int32, v = some (.int r6) ∧ Stat μ4 ∧ 
      (r6 ≤ r3 →
        ((zI μ4 29 1) = 0 →
          ((zI (sI (sI (sI μ4 29 2 x1) 29 3 (if r3 < r6 then r6 else r3)) 29 4 0) 29 1) = 0 →
            K none (sI (sI (sI (sI (sI (sI μ4 29 2 x1) 29 3 (if r3 < r6 then r6 else r3)) 29 4 0) 29 5 x1) 29 6 (if r3 < r6 then r6 else r3)) 29 1 1)) ∧
          (¬ (zI (sI (sI (sI μ4 29 2 x1) 29 3 (if r3 < r6 then r6 else r3)) 29 4 0) 29 1) = 0 →
            ((zI (sI (sI (sI μ4 29 2 x1) 29 3 (if r3 < r6 then r6 else r3)) 29 4 0) 29 6) ≤ (if r3 < r6 then r6 else r3) →
              K none (sI (sI (sI (sI μ4 29 2 x1) 29 3 (if r3 < r6 then r6 else r3)) 29 4 0) 29 1 1)) ∧
            (¬ (zI (sI (sI (sI μ4 29 2 x1) 29 3 (if r3 < r6 then r6 else r3)) 29 4 0) 29 6) ≤ (if r3 < r6 then r6 else r3) →
              K none (sI (sI (sI (sI (sI (sI μ4 29 2 x1) 29 3 (if r3 < r6 then r6 else r3)) 29 4 0) 29 5 x1) 29 6 (if r3 < r6 then r6 else r3)) 29 1 1)))) ∧
        (¬ (zI μ4 29 1) = 0 →
          ((if r3 < r6 then r6 else r3) ≤ (zI μ4 29 3) →
            ((zI μ4 29 1) = 0 →
              K none (sI (sI (sI μ4 29 5 x1) 29 6 (if r3 < r6 then r6 else r3)) 29 1 1)) ∧
            (¬ (zI μ4 29 1) = 0 →
              ((zI μ4 29 6) ≤ (if r3 < r6 then r6 else r3) →
                K none (sI μ4 29 1 1)) ∧
              (¬ (zI μ4 29 6) ≤ (if r3 < r6 then r6 else r3) →
                K none (sI (sI (sI μ4 29 5 x1) 29 6 (if r3 < r6 then r6 else r3)) 29 1 1)))) ∧
          (¬ (if r3 < r6 then r6 else r3) ≤ (zI μ4 29 3) →
            ((zI (sI (sI (sI μ4 29 2 x1) 29 3 (if r3 < r6 then r6 else r3)) 29 4 0) 29 1) = 0 →
              K none (sI (sI (sI (sI (sI (sI μ4 29 2 x1) 29 3 (if r3 < r6 then r6 else r3)) 29 4 0) 29 5 x1) 29 6 (if r3 < r6 then r6 else r3)) 29 1 1)) ∧
            (¬ (zI (sI (sI (sI μ4 29 2 x1) 29 3 (if r3 < r6 then r6 else r3)) 29 4 0) 29 1) = 0 →
              ((zI (sI (sI (sI μ4 29 2 x1) 29 3 (if r3 < r6 then r6 else r3)) 29 4 0) 29 6) ≤ (if r3 < r6 then r6 else r3) →
                K none (sI (sI (sI (sI μ4 29 2 x1) 29 3 (if r3 < r6 then r6 else r3)) 29 4 0) 29 1 1)) ∧
              (¬ (zI (sI (sI (sI μ4 29 2 x1) 29 3 (if r3 < r6 then r6 else r3)) 29 4 0) 29 6) ≤ (if r3 < r6 then r6 else r3) →
                K none (sI (sI (sI (sI (sI (sI μ4 29 2 x1) 29 3 (if r3 < r6 then r6 else r3)) 29 4 0) 29 5 x1) 29 6 (if r3 < r6 then r6 else r3)) 29 1 1)))))) ∧
      (¬ r6 ≤ r3 →
        ((zI μ4 29 1) = 0 →
          ((zI (sI (sI (sI μ4 29 2 x2) 29 3 (if r3 < r6 then r6 else r3)) 29 4 1) 29 1) = 0 →
            K none (sI (sI (sI (sI (sI (sI μ4 29 2 x2) 29 3 (if r3 < r6 then r6 else r3)) 29 4 1) 29 5 x2) 29 6 (if r3 < r6 then r6 else r3)) 29 1 1)) ∧
          (¬ (zI (sI (sI (sI μ4 29 2 x2) 29 3 (if r3 < r6 then r6 else r3)) 29 4 1) 29 1) = 0 →
            ((zI (sI (sI (sI μ4 29 2 x2) 29 3 (if r3 < r6 then r6 else r3)) 29 4 1) 29 6) ≤ (if r3 < r6 then r6 else r3) →
              K none (sI (sI (sI (sI μ4 29 2 x2) 29 3 (if r3 < r6 then r6 else r3)) 29 4 1) 29 1 1)) ∧
            (¬ (zI (sI (sI (sI μ4 29 2 x2) 29 3 (if r3 < r6 then r6 else r3)) 29 4 1) 29 6) ≤ (if r3 < r6 then r6 else r3) →
              K none (sI (sI (sI (sI (sI (sI μ4 29 2 x2) 29 3 (if r3 < r6 then r6 else r3)) 29 4 1) 29 5 x2) 29 6 (if r3 < r6 then r6 else r3)) 29 1 1)))) ∧
        (¬ (zI μ4 29 1) = 0 →
          ((if r3 < r6 then r6 else r3) ≤ (zI μ4 29 3) →
            ((zI μ4 29 1) = 0 →
              K none (sI (sI (sI μ4 29 5 x2) 29 6 (if r3 < r6 then r6 else r3)) 29 1 1)) ∧
            (¬ (zI μ4 29 1) = 0 →
              ((zI μ4 29 6) ≤ (if r3 < r6 then r6 else r3) →
                K none (sI μ4 29 1 1)) ∧
              (¬ (zI μ4 29 6) ≤ (if r3 < r6 then r6 else r3) →
                K none (sI (sI (sI μ4 29 5 x2) 29 6 (if r3 < r6 then r6 else r3)) 29 1 1)))) ∧
          (¬ (if r3 < r6 then r6 else r3) ≤ (zI μ4 29 3) →
            ((zI (sI (sI (sI μ4 29 2 x2) 29 3 (if r3 < r6 then r6 else r3)) 29 4 1) 29 1) = 0 →
              K none (sI (sI (sI (sI (sI (sI μ4 29 2 x2) 29 3 (if r3 < r6 then r6 else r3)) 29 4 1) 29 5 x2) 29 6 (if r3 < r6 then r6 else r3)) 29 1 1)) ∧
            (¬ (zI (sI (sI (sI μ4 29 2 x2) 29 3 (if r3 < r6 then r6 else r3)) 29 4 1) 29 1) = 0 →
              ((zI (sI (sI (sI μ4 29 2 x2) 29 3 (if r3 < r6 then r6 else r3)) 29 4 1) 29 6) ≤ (if r3 < r6 then r6 else r3) →
                K none (sI (sI (sI (sI μ4 29 2 x2) 29 3 (if r3 < r6 then r6 else r3)) 29 4 1) 29 1 1)) ∧
              (¬ (zI (sI (sI (sI μ4 29 2 x2) 29 3 (if r3 < r6 then r6 else r3)) 29 4 1) 29 6) ≤ (if r3 < r6 then r6 else r3) →
                K none (sI (sI (sI (sI (sI (sI μ4 29 2 x2) 29 3 (if r3 < r6 then r6 else r3)) 29 4 1) 29 5 x2) 29 6 (if r3 < r6 then r6 else r3)) 29 1 1))))))))) : AW E l (d + 1) nc ns mX1_hear 0 [some (.ref 29), some (.int x1), some (.int x2), none, none, none, none, none] [] μ K := by
  refine aw_aload_n (pc' := 1) (dt_X1_hear 0 (0, .aload_n 0, 1) rfl) rfl rfl (aw_iload_n (pc' := 2) (dt_X1_hear 1 (1, .iload_n 1, 1) rfl) rfl rfl (aw_callV0 (pc' := 5) (nc := nc) (ns := ns) (y2 := mX1_worthOf) (As := [.int x1]) (rest := []) (a := 29) (dt_X1_hear 2 (2, .invokevirtual 34, 3) rfl) ok_X1_worthOf ln_Judgement_34 im_X1_worthOf se_X1_worthOf pr_X1_worthOf (Or.inl ⟨by decide, rfl⟩) rfl (Nat.le_of_ble_eq_true rfl) (Nat.le_of_ble_eq_true rfl) rfl (sk_29 hS) h ?_))
  rintro v μ1 ⟨r3, rfl, hS2, h⟩
  refine aw_stk (st' := [.int r3]) rfl ?_
  refine aw_istore_n (pc' := 6) (ls' := [some (.ref 29), some (.int x1), some (.int x2), some (.int r3), none, none, none, none]) (dt_X1_hear 3 (5, .istore_n 3, 1) rfl) (by decide) rfl rfl (aw_aload_n (pc' := 7) (dt_X1_hear 4 (6, .aload_n 0, 1) rfl) rfl rfl (aw_iload_n (pc' := 8) (dt_X1_hear 5 (7, .iload_n 2, 1) rfl) rfl rfl (aw_callV0 (pc' := 11) (nc := nc) (ns := ns) (y2 := mX1_worthOf) (As := [.int x2]) (rest := []) (a := 29) (dt_X1_hear 6 (8, .invokevirtual 34, 3) rfl) ok_X1_worthOf ln_Judgement_34 im_X1_worthOf se_X1_worthOf pr_X1_worthOf (Or.inl ⟨by decide, rfl⟩) rfl (Nat.le_of_ble_eq_true rfl) (Nat.le_of_ble_eq_true rfl) rfl (sk_29 hS2) h ?_)))
  rintro v μ4 ⟨r6, rfl, hS5, h⟩
  refine aw_stk (st' := [.int r6]) rfl ?_
  refine aw_istore (pc' := 13) (ls' := [some (.ref 29), some (.int x1), some (.int x2), some (.int r3), some (.int r6), none, none, none]) (dt_X1_hear 7 (11, .istore 4, 2) rfl) (by decide) rfl rfl (aw_iload (pc' := 15) (dt_X1_hear 8 (13, .iload 4, 2) rfl) rfl rfl (aw_iload_n (pc' := 16) (dt_X1_hear 9 (15, .iload_n 3, 1) rfl) rfl rfl (aw_icmp_le (pc' := 19) (tgt := 23) (dt_X1_hear 10 (16, .if_icmp .le 7, 3) rfl) (by decide) rfl ?_ ?_)))
  · intro q7
    have h := h.1 q7
    refine aw_iconst (pc' := 24) (v := 0) (dt_X1_hear 13 (23, .iconst 0, 1) rfl) (by decide) rfl (aw_istore (pc' := 26) (ls' := [some (.ref 29), some (.int x1), some (.int x2), some (.int r3), some (.int r6), some (.int 0), none, none]) (dt_X1_hear 14 (24, .istore 5, 2) rfl) (by decide) rfl rfl (aw_iload (pc' := 28) (dt_X1_hear 15 (26, .iload 5, 2) rfl) rfl rfl (aw_iconst (pc' := 29) (v := 1) (dt_X1_hear 16 (28, .iconst 1, 1) rfl) (by decide) rfl (aw_icmp_ne_T (pc' := 32) (tgt := 36) (dt_X1_hear 17 (29, .if_icmp .ne 7, 3) rfl) (by decide) rfl (by decide) (aw_iload_n (pc' := 37) (dt_X1_hear 20 (36, .iload_n 1, 1) rfl) rfl rfl (aw_istore (pc' := 39) (ls' := [some (.ref 29), some (.int x1), some (.int x2), some (.int r3), some (.int r6), some (.int 0), some (.int x1), none]) (dt_X1_hear 21 (37, .istore 6, 2) rfl) (by decide) rfl rfl (aw_iload_n (pc' := 40) (dt_X1_hear 22 (39, .iload_n 3, 1) rfl) rfl rfl (aw_iload (pc' := 42) (dt_X1_hear 23 (40, .iload 4, 2) rfl) rfl rfl (aw_mmax (pc' := 45) (dt_X1_hear 24 (42, .invokestatic 38, 3) rfl) mm_Judgement_38 (Nat.le_of_ble_eq_true rfl) rfl (aw_istore (pc' := 47) (ls' := [some (.ref 29), some (.int x1), some (.int x2), some (.int r3), some (.int r6), some (.int 0), some (.int x1), some (.int (if r3 < r6 then r6 else r3))]) (dt_X1_hear 25 (45, .istore 7, 2) rfl) (by decide) rfl rfl (aw_aload_n (pc' := 48) (dt_X1_hear 26 (47, .aload_n 0, 1) rfl) rfl rfl (aw_getI (pc' := 51) (dt_X1_hear 27 (48, .getfield 15, 3) rfl) fl_Judgement_15 rfl rfl (sk_29 hS5) (aw_if_eq (pc' := 54) (tgt := 63) (dt_X1_hear 28 (51, .ifCond .eq 12, 3) rfl) (by decide) rfl ?_ ?_)))))))))))))
    · intro q8
      have h := h.1 q8
      refine aw_aload_n (pc' := 64) (dt_X1_hear 33 (63, .aload_n 0, 1) rfl) rfl rfl (aw_iload (pc' := 66) (dt_X1_hear 34 (64, .iload 6, 2) rfl) rfl rfl (aw_putI (pc' := 69) (dt_X1_hear 35 (66, .putfield 19, 3) rfl) fl_Judgement_19 rfl (by decide +kernel) rfl (sk_29 hS5) (aw_aload_n (pc' := 70) (dt_X1_hear 36 (69, .aload_n 0, 1) rfl) rfl rfl (aw_iload (pc' := 72) (dt_X1_hear 37 (70, .iload 7, 2) rfl) rfl rfl (aw_putI (pc' := 75) (dt_X1_hear 38 (72, .putfield 22, 3) rfl) fl_Judgement_22 rfl (by decide +kernel) rfl (sk_29 hS5.wI) (aw_aload_n (pc' := 76) (dt_X1_hear 39 (75, .aload_n 0, 1) rfl) rfl rfl (aw_iload (pc' := 78) (dt_X1_hear 40 (76, .iload 5, 2) rfl) rfl rfl (aw_putI (pc' := 81) (dt_X1_hear 41 (78, .putfield 25, 3) rfl) fl_Judgement_25 rfl (by decide +kernel) rfl (sk_29 hS5.wI.wI) (aw_aload_n (pc' := 82) (dt_X1_hear 42 (81, .aload_n 0, 1) rfl) rfl rfl (aw_getI (pc' := 85) (dt_X1_hear 43 (82, .getfield 15, 3) rfl) fl_Judgement_15 rfl rfl (sk_29 hS5.wI.wI.wI) (aw_if_eq (pc' := 88) (tgt := 97) (dt_X1_hear 44 (85, .ifCond .eq 12, 3) rfl) (by decide) rfl ?_ ?_)))))))))))
      · intro q9
        have h := h.1 q9
        refine aw_aload_n (pc' := 98) (dt_X1_hear 49 (97, .aload_n 0, 1) rfl) rfl rfl (aw_iload (pc' := 100) (dt_X1_hear 50 (98, .iload 6, 2) rfl) rfl rfl (aw_putI (pc' := 103) (dt_X1_hear 51 (100, .putfield 28, 3) rfl) fl_Judgement_28 rfl (by decide +kernel) rfl (sk_29 hS5.wI.wI.wI) (aw_aload_n (pc' := 104) (dt_X1_hear 52 (103, .aload_n 0, 1) rfl) rfl rfl (aw_iload (pc' := 106) (dt_X1_hear 53 (104, .iload 7, 2) rfl) rfl rfl (aw_putI (pc' := 109) (dt_X1_hear 54 (106, .putfield 31, 3) rfl) fl_Judgement_31 rfl (by decide +kernel) rfl (sk_29 hS5.wI.wI.wI.wI) (aw_aload_n (pc' := 110) (dt_X1_hear 55 (109, .aload_n 0, 1) rfl) rfl rfl (aw_iconst (pc' := 111) (v := 1) (dt_X1_hear 56 (110, .iconst 1, 1) rfl) (by decide) rfl (aw_putZ (pc' := 114) (dt_X1_hear 57 (111, .putfield 15, 3) rfl) fl_Judgement_15 rfl (by decide +kernel) rfl (sk_29 hS5.wI.wI.wI.wI.wI) (by decide) (aw_ret (dt_X1_hear 58 (114, .return_, 1) rfl) rfl ?_)))))))))
        exact h
      · intro q9
        have h := h.2 q9
        refine aw_iload (pc' := 90) (dt_X1_hear 45 (88, .iload 7, 2) rfl) rfl rfl (aw_aload_n (pc' := 91) (dt_X1_hear 46 (90, .aload_n 0, 1) rfl) rfl rfl (aw_getI (pc' := 94) (dt_X1_hear 47 (91, .getfield 31, 3) rfl) fl_Judgement_31 rfl rfl (sk_29 hS5.wI.wI.wI) (aw_icmp_ge (pc' := 97) (tgt := 109) (dt_X1_hear 48 (94, .if_icmp .ge 15, 3) rfl) (by decide) rfl ?_ ?_)))
        · intro q10
          have h := h.1 q10
          refine aw_aload_n (pc' := 110) (dt_X1_hear 55 (109, .aload_n 0, 1) rfl) rfl rfl (aw_iconst (pc' := 111) (v := 1) (dt_X1_hear 56 (110, .iconst 1, 1) rfl) (by decide) rfl (aw_putZ (pc' := 114) (dt_X1_hear 57 (111, .putfield 15, 3) rfl) fl_Judgement_15 rfl (by decide +kernel) rfl (sk_29 hS5.wI.wI.wI) (by decide) (aw_ret (dt_X1_hear 58 (114, .return_, 1) rfl) rfl ?_)))
          exact h
        · intro q10
          have h := h.2 q10
          refine aw_aload_n (pc' := 98) (dt_X1_hear 49 (97, .aload_n 0, 1) rfl) rfl rfl (aw_iload (pc' := 100) (dt_X1_hear 50 (98, .iload 6, 2) rfl) rfl rfl (aw_putI (pc' := 103) (dt_X1_hear 51 (100, .putfield 28, 3) rfl) fl_Judgement_28 rfl (by decide +kernel) rfl (sk_29 hS5.wI.wI.wI) (aw_aload_n (pc' := 104) (dt_X1_hear 52 (103, .aload_n 0, 1) rfl) rfl rfl (aw_iload (pc' := 106) (dt_X1_hear 53 (104, .iload 7, 2) rfl) rfl rfl (aw_putI (pc' := 109) (dt_X1_hear 54 (106, .putfield 31, 3) rfl) fl_Judgement_31 rfl (by decide +kernel) rfl (sk_29 hS5.wI.wI.wI.wI) (aw_aload_n (pc' := 110) (dt_X1_hear 55 (109, .aload_n 0, 1) rfl) rfl rfl (aw_iconst (pc' := 111) (v := 1) (dt_X1_hear 56 (110, .iconst 1, 1) rfl) (by decide) rfl (aw_putZ (pc' := 114) (dt_X1_hear 57 (111, .putfield 15, 3) rfl) fl_Judgement_15 rfl (by decide +kernel) rfl (sk_29 hS5.wI.wI.wI.wI.wI) (by decide) (aw_ret (dt_X1_hear 58 (114, .return_, 1) rfl) rfl ?_)))))))))
          exact h
    · intro q8
      have h := h.2 q8
      refine aw_iload (pc' := 56) (dt_X1_hear 29 (54, .iload 7, 2) rfl) rfl rfl (aw_aload_n (pc' := 57) (dt_X1_hear 30 (56, .aload_n 0, 1) rfl) rfl rfl (aw_getI (pc' := 60) (dt_X1_hear 31 (57, .getfield 22, 3) rfl) fl_Judgement_22 rfl rfl (sk_29 hS5) (aw_icmp_le (pc' := 63) (tgt := 81) (dt_X1_hear 32 (60, .if_icmp .le 21, 3) rfl) (by decide) rfl ?_ ?_)))
      · intro q11
        have h := h.1 q11
        refine aw_aload_n (pc' := 82) (dt_X1_hear 42 (81, .aload_n 0, 1) rfl) rfl rfl (aw_getI (pc' := 85) (dt_X1_hear 43 (82, .getfield 15, 3) rfl) fl_Judgement_15 rfl rfl (sk_29 hS5) (aw_if_eq (pc' := 88) (tgt := 97) (dt_X1_hear 44 (85, .ifCond .eq 12, 3) rfl) (by decide) rfl ?_ ?_))
        · intro q12
          have h := h.1 q12
          refine aw_aload_n (pc' := 98) (dt_X1_hear 49 (97, .aload_n 0, 1) rfl) rfl rfl (aw_iload (pc' := 100) (dt_X1_hear 50 (98, .iload 6, 2) rfl) rfl rfl (aw_putI (pc' := 103) (dt_X1_hear 51 (100, .putfield 28, 3) rfl) fl_Judgement_28 rfl (by decide +kernel) rfl (sk_29 hS5) (aw_aload_n (pc' := 104) (dt_X1_hear 52 (103, .aload_n 0, 1) rfl) rfl rfl (aw_iload (pc' := 106) (dt_X1_hear 53 (104, .iload 7, 2) rfl) rfl rfl (aw_putI (pc' := 109) (dt_X1_hear 54 (106, .putfield 31, 3) rfl) fl_Judgement_31 rfl (by decide +kernel) rfl (sk_29 hS5.wI) (aw_aload_n (pc' := 110) (dt_X1_hear 55 (109, .aload_n 0, 1) rfl) rfl rfl (aw_iconst (pc' := 111) (v := 1) (dt_X1_hear 56 (110, .iconst 1, 1) rfl) (by decide) rfl (aw_putZ (pc' := 114) (dt_X1_hear 57 (111, .putfield 15, 3) rfl) fl_Judgement_15 rfl (by decide +kernel) rfl (sk_29 hS5.wI.wI) (by decide) (aw_ret (dt_X1_hear 58 (114, .return_, 1) rfl) rfl ?_)))))))))
          exact h
        · intro q12
          have h := h.2 q12
          refine aw_iload (pc' := 90) (dt_X1_hear 45 (88, .iload 7, 2) rfl) rfl rfl (aw_aload_n (pc' := 91) (dt_X1_hear 46 (90, .aload_n 0, 1) rfl) rfl rfl (aw_getI (pc' := 94) (dt_X1_hear 47 (91, .getfield 31, 3) rfl) fl_Judgement_31 rfl rfl (sk_29 hS5) (aw_icmp_ge (pc' := 97) (tgt := 109) (dt_X1_hear 48 (94, .if_icmp .ge 15, 3) rfl) (by decide) rfl ?_ ?_)))
          · intro q13
            have h := h.1 q13
            refine aw_aload_n (pc' := 110) (dt_X1_hear 55 (109, .aload_n 0, 1) rfl) rfl rfl (aw_iconst (pc' := 111) (v := 1) (dt_X1_hear 56 (110, .iconst 1, 1) rfl) (by decide) rfl (aw_putZ (pc' := 114) (dt_X1_hear 57 (111, .putfield 15, 3) rfl) fl_Judgement_15 rfl (by decide +kernel) rfl (sk_29 hS5) (by decide) (aw_ret (dt_X1_hear 58 (114, .return_, 1) rfl) rfl ?_)))
            exact h
          · intro q13
            have h := h.2 q13
            refine aw_aload_n (pc' := 98) (dt_X1_hear 49 (97, .aload_n 0, 1) rfl) rfl rfl (aw_iload (pc' := 100) (dt_X1_hear 50 (98, .iload 6, 2) rfl) rfl rfl (aw_putI (pc' := 103) (dt_X1_hear 51 (100, .putfield 28, 3) rfl) fl_Judgement_28 rfl (by decide +kernel) rfl (sk_29 hS5) (aw_aload_n (pc' := 104) (dt_X1_hear 52 (103, .aload_n 0, 1) rfl) rfl rfl (aw_iload (pc' := 106) (dt_X1_hear 53 (104, .iload 7, 2) rfl) rfl rfl (aw_putI (pc' := 109) (dt_X1_hear 54 (106, .putfield 31, 3) rfl) fl_Judgement_31 rfl (by decide +kernel) rfl (sk_29 hS5.wI) (aw_aload_n (pc' := 110) (dt_X1_hear 55 (109, .aload_n 0, 1) rfl) rfl rfl (aw_iconst (pc' := 111) (v := 1) (dt_X1_hear 56 (110, .iconst 1, 1) rfl) (by decide) rfl (aw_putZ (pc' := 114) (dt_X1_hear 57 (111, .putfield 15, 3) rfl) fl_Judgement_15 rfl (by decide +kernel) rfl (sk_29 hS5.wI.wI) (by decide) (aw_ret (dt_X1_hear 58 (114, .return_, 1) rfl) rfl ?_)))))))))
            exact h
      · intro q11
        have h := h.2 q11
        refine aw_aload_n (pc' := 64) (dt_X1_hear 33 (63, .aload_n 0, 1) rfl) rfl rfl (aw_iload (pc' := 66) (dt_X1_hear 34 (64, .iload 6, 2) rfl) rfl rfl (aw_putI (pc' := 69) (dt_X1_hear 35 (66, .putfield 19, 3) rfl) fl_Judgement_19 rfl (by decide +kernel) rfl (sk_29 hS5) (aw_aload_n (pc' := 70) (dt_X1_hear 36 (69, .aload_n 0, 1) rfl) rfl rfl (aw_iload (pc' := 72) (dt_X1_hear 37 (70, .iload 7, 2) rfl) rfl rfl (aw_putI (pc' := 75) (dt_X1_hear 38 (72, .putfield 22, 3) rfl) fl_Judgement_22 rfl (by decide +kernel) rfl (sk_29 hS5.wI) (aw_aload_n (pc' := 76) (dt_X1_hear 39 (75, .aload_n 0, 1) rfl) rfl rfl (aw_iload (pc' := 78) (dt_X1_hear 40 (76, .iload 5, 2) rfl) rfl rfl (aw_putI (pc' := 81) (dt_X1_hear 41 (78, .putfield 25, 3) rfl) fl_Judgement_25 rfl (by decide +kernel) rfl (sk_29 hS5.wI.wI) (aw_aload_n (pc' := 82) (dt_X1_hear 42 (81, .aload_n 0, 1) rfl) rfl rfl (aw_getI (pc' := 85) (dt_X1_hear 43 (82, .getfield 15, 3) rfl) fl_Judgement_15 rfl rfl (sk_29 hS5.wI.wI.wI) (aw_if_eq (pc' := 88) (tgt := 97) (dt_X1_hear 44 (85, .ifCond .eq 12, 3) rfl) (by decide) rfl ?_ ?_)))))))))))
        · intro q14
          have h := h.1 q14
          refine aw_aload_n (pc' := 98) (dt_X1_hear 49 (97, .aload_n 0, 1) rfl) rfl rfl (aw_iload (pc' := 100) (dt_X1_hear 50 (98, .iload 6, 2) rfl) rfl rfl (aw_putI (pc' := 103) (dt_X1_hear 51 (100, .putfield 28, 3) rfl) fl_Judgement_28 rfl (by decide +kernel) rfl (sk_29 hS5.wI.wI.wI) (aw_aload_n (pc' := 104) (dt_X1_hear 52 (103, .aload_n 0, 1) rfl) rfl rfl (aw_iload (pc' := 106) (dt_X1_hear 53 (104, .iload 7, 2) rfl) rfl rfl (aw_putI (pc' := 109) (dt_X1_hear 54 (106, .putfield 31, 3) rfl) fl_Judgement_31 rfl (by decide +kernel) rfl (sk_29 hS5.wI.wI.wI.wI) (aw_aload_n (pc' := 110) (dt_X1_hear 55 (109, .aload_n 0, 1) rfl) rfl rfl (aw_iconst (pc' := 111) (v := 1) (dt_X1_hear 56 (110, .iconst 1, 1) rfl) (by decide) rfl (aw_putZ (pc' := 114) (dt_X1_hear 57 (111, .putfield 15, 3) rfl) fl_Judgement_15 rfl (by decide +kernel) rfl (sk_29 hS5.wI.wI.wI.wI.wI) (by decide) (aw_ret (dt_X1_hear 58 (114, .return_, 1) rfl) rfl ?_)))))))))
          exact h
        · intro q14
          have h := h.2 q14
          refine aw_iload (pc' := 90) (dt_X1_hear 45 (88, .iload 7, 2) rfl) rfl rfl (aw_aload_n (pc' := 91) (dt_X1_hear 46 (90, .aload_n 0, 1) rfl) rfl rfl (aw_getI (pc' := 94) (dt_X1_hear 47 (91, .getfield 31, 3) rfl) fl_Judgement_31 rfl rfl (sk_29 hS5.wI.wI.wI) (aw_icmp_ge (pc' := 97) (tgt := 109) (dt_X1_hear 48 (94, .if_icmp .ge 15, 3) rfl) (by decide) rfl ?_ ?_)))
          · intro q15
            have h := h.1 q15
            refine aw_aload_n (pc' := 110) (dt_X1_hear 55 (109, .aload_n 0, 1) rfl) rfl rfl (aw_iconst (pc' := 111) (v := 1) (dt_X1_hear 56 (110, .iconst 1, 1) rfl) (by decide) rfl (aw_putZ (pc' := 114) (dt_X1_hear 57 (111, .putfield 15, 3) rfl) fl_Judgement_15 rfl (by decide +kernel) rfl (sk_29 hS5.wI.wI.wI) (by decide) (aw_ret (dt_X1_hear 58 (114, .return_, 1) rfl) rfl ?_)))
            exact h
          · intro q15
            have h := h.2 q15
            refine aw_aload_n (pc' := 98) (dt_X1_hear 49 (97, .aload_n 0, 1) rfl) rfl rfl (aw_iload (pc' := 100) (dt_X1_hear 50 (98, .iload 6, 2) rfl) rfl rfl (aw_putI (pc' := 103) (dt_X1_hear 51 (100, .putfield 28, 3) rfl) fl_Judgement_28 rfl (by decide +kernel) rfl (sk_29 hS5.wI.wI.wI) (aw_aload_n (pc' := 104) (dt_X1_hear 52 (103, .aload_n 0, 1) rfl) rfl rfl (aw_iload (pc' := 106) (dt_X1_hear 53 (104, .iload 7, 2) rfl) rfl rfl (aw_putI (pc' := 109) (dt_X1_hear 54 (106, .putfield 31, 3) rfl) fl_Judgement_31 rfl (by decide +kernel) rfl (sk_29 hS5.wI.wI.wI.wI) (aw_aload_n (pc' := 110) (dt_X1_hear 55 (109, .aload_n 0, 1) rfl) rfl rfl (aw_iconst (pc' := 111) (v := 1) (dt_X1_hear 56 (110, .iconst 1, 1) rfl) (by decide) rfl (aw_putZ (pc' := 114) (dt_X1_hear 57 (111, .putfield 15, 3) rfl) fl_Judgement_15 rfl (by decide +kernel) rfl (sk_29 hS5.wI.wI.wI.wI.wI) (by decide) (aw_ret (dt_X1_hear 58 (114, .return_, 1) rfl) rfl ?_)))))))))
            exact h
  · intro q7
    have h := h.2 q7
    refine aw_iconst (pc' := 20) (v := 1) (dt_X1_hear 11 (19, .iconst 1, 1) rfl) (by decide) rfl (aw_goto (tgt := 24) (dt_X1_hear 12 (20, .goto 4, 3) rfl) (by decide) (aw_istore (pc' := 26) (ls' := [some (.ref 29), some (.int x1), some (.int x2), some (.int r3), some (.int r6), some (.int 1), none, none]) (dt_X1_hear 14 (24, .istore 5, 2) rfl) (by decide) rfl rfl (aw_iload (pc' := 28) (dt_X1_hear 15 (26, .iload 5, 2) rfl) rfl rfl (aw_iconst (pc' := 29) (v := 1) (dt_X1_hear 16 (28, .iconst 1, 1) rfl) (by decide) rfl (aw_icmp_ne_F (pc' := 32) (tgt := 36) (dt_X1_hear 17 (29, .if_icmp .ne 7, 3) rfl) (by decide) rfl (by decide) (aw_iload_n (pc' := 33) (dt_X1_hear 18 (32, .iload_n 2, 1) rfl) rfl rfl (aw_goto (tgt := 37) (dt_X1_hear 19 (33, .goto 4, 3) rfl) (by decide) (aw_istore (pc' := 39) (ls' := [some (.ref 29), some (.int x1), some (.int x2), some (.int r3), some (.int r6), some (.int 1), some (.int x2), none]) (dt_X1_hear 21 (37, .istore 6, 2) rfl) (by decide) rfl rfl (aw_iload_n (pc' := 40) (dt_X1_hear 22 (39, .iload_n 3, 1) rfl) rfl rfl (aw_iload (pc' := 42) (dt_X1_hear 23 (40, .iload 4, 2) rfl) rfl rfl (aw_mmax (pc' := 45) (dt_X1_hear 24 (42, .invokestatic 38, 3) rfl) mm_Judgement_38 (Nat.le_of_ble_eq_true rfl) rfl (aw_istore (pc' := 47) (ls' := [some (.ref 29), some (.int x1), some (.int x2), some (.int r3), some (.int r6), some (.int 1), some (.int x2), some (.int (if r3 < r6 then r6 else r3))]) (dt_X1_hear 25 (45, .istore 7, 2) rfl) (by decide) rfl rfl (aw_aload_n (pc' := 48) (dt_X1_hear 26 (47, .aload_n 0, 1) rfl) rfl rfl (aw_getI (pc' := 51) (dt_X1_hear 27 (48, .getfield 15, 3) rfl) fl_Judgement_15 rfl rfl (sk_29 hS5) (aw_if_eq (pc' := 54) (tgt := 63) (dt_X1_hear 28 (51, .ifCond .eq 12, 3) rfl) (by decide) rfl ?_ ?_)))))))))))))))
    · intro q16
      have h := h.1 q16
      refine aw_aload_n (pc' := 64) (dt_X1_hear 33 (63, .aload_n 0, 1) rfl) rfl rfl (aw_iload (pc' := 66) (dt_X1_hear 34 (64, .iload 6, 2) rfl) rfl rfl (aw_putI (pc' := 69) (dt_X1_hear 35 (66, .putfield 19, 3) rfl) fl_Judgement_19 rfl (by decide +kernel) rfl (sk_29 hS5) (aw_aload_n (pc' := 70) (dt_X1_hear 36 (69, .aload_n 0, 1) rfl) rfl rfl (aw_iload (pc' := 72) (dt_X1_hear 37 (70, .iload 7, 2) rfl) rfl rfl (aw_putI (pc' := 75) (dt_X1_hear 38 (72, .putfield 22, 3) rfl) fl_Judgement_22 rfl (by decide +kernel) rfl (sk_29 hS5.wI) (aw_aload_n (pc' := 76) (dt_X1_hear 39 (75, .aload_n 0, 1) rfl) rfl rfl (aw_iload (pc' := 78) (dt_X1_hear 40 (76, .iload 5, 2) rfl) rfl rfl (aw_putI (pc' := 81) (dt_X1_hear 41 (78, .putfield 25, 3) rfl) fl_Judgement_25 rfl (by decide +kernel) rfl (sk_29 hS5.wI.wI) (aw_aload_n (pc' := 82) (dt_X1_hear 42 (81, .aload_n 0, 1) rfl) rfl rfl (aw_getI (pc' := 85) (dt_X1_hear 43 (82, .getfield 15, 3) rfl) fl_Judgement_15 rfl rfl (sk_29 hS5.wI.wI.wI) (aw_if_eq (pc' := 88) (tgt := 97) (dt_X1_hear 44 (85, .ifCond .eq 12, 3) rfl) (by decide) rfl ?_ ?_)))))))))))
      · intro q17
        have h := h.1 q17
        refine aw_aload_n (pc' := 98) (dt_X1_hear 49 (97, .aload_n 0, 1) rfl) rfl rfl (aw_iload (pc' := 100) (dt_X1_hear 50 (98, .iload 6, 2) rfl) rfl rfl (aw_putI (pc' := 103) (dt_X1_hear 51 (100, .putfield 28, 3) rfl) fl_Judgement_28 rfl (by decide +kernel) rfl (sk_29 hS5.wI.wI.wI) (aw_aload_n (pc' := 104) (dt_X1_hear 52 (103, .aload_n 0, 1) rfl) rfl rfl (aw_iload (pc' := 106) (dt_X1_hear 53 (104, .iload 7, 2) rfl) rfl rfl (aw_putI (pc' := 109) (dt_X1_hear 54 (106, .putfield 31, 3) rfl) fl_Judgement_31 rfl (by decide +kernel) rfl (sk_29 hS5.wI.wI.wI.wI) (aw_aload_n (pc' := 110) (dt_X1_hear 55 (109, .aload_n 0, 1) rfl) rfl rfl (aw_iconst (pc' := 111) (v := 1) (dt_X1_hear 56 (110, .iconst 1, 1) rfl) (by decide) rfl (aw_putZ (pc' := 114) (dt_X1_hear 57 (111, .putfield 15, 3) rfl) fl_Judgement_15 rfl (by decide +kernel) rfl (sk_29 hS5.wI.wI.wI.wI.wI) (by decide) (aw_ret (dt_X1_hear 58 (114, .return_, 1) rfl) rfl ?_)))))))))
        exact h
      · intro q17
        have h := h.2 q17
        refine aw_iload (pc' := 90) (dt_X1_hear 45 (88, .iload 7, 2) rfl) rfl rfl (aw_aload_n (pc' := 91) (dt_X1_hear 46 (90, .aload_n 0, 1) rfl) rfl rfl (aw_getI (pc' := 94) (dt_X1_hear 47 (91, .getfield 31, 3) rfl) fl_Judgement_31 rfl rfl (sk_29 hS5.wI.wI.wI) (aw_icmp_ge (pc' := 97) (tgt := 109) (dt_X1_hear 48 (94, .if_icmp .ge 15, 3) rfl) (by decide) rfl ?_ ?_)))
        · intro q18
          have h := h.1 q18
          refine aw_aload_n (pc' := 110) (dt_X1_hear 55 (109, .aload_n 0, 1) rfl) rfl rfl (aw_iconst (pc' := 111) (v := 1) (dt_X1_hear 56 (110, .iconst 1, 1) rfl) (by decide) rfl (aw_putZ (pc' := 114) (dt_X1_hear 57 (111, .putfield 15, 3) rfl) fl_Judgement_15 rfl (by decide +kernel) rfl (sk_29 hS5.wI.wI.wI) (by decide) (aw_ret (dt_X1_hear 58 (114, .return_, 1) rfl) rfl ?_)))
          exact h
        · intro q18
          have h := h.2 q18
          refine aw_aload_n (pc' := 98) (dt_X1_hear 49 (97, .aload_n 0, 1) rfl) rfl rfl (aw_iload (pc' := 100) (dt_X1_hear 50 (98, .iload 6, 2) rfl) rfl rfl (aw_putI (pc' := 103) (dt_X1_hear 51 (100, .putfield 28, 3) rfl) fl_Judgement_28 rfl (by decide +kernel) rfl (sk_29 hS5.wI.wI.wI) (aw_aload_n (pc' := 104) (dt_X1_hear 52 (103, .aload_n 0, 1) rfl) rfl rfl (aw_iload (pc' := 106) (dt_X1_hear 53 (104, .iload 7, 2) rfl) rfl rfl (aw_putI (pc' := 109) (dt_X1_hear 54 (106, .putfield 31, 3) rfl) fl_Judgement_31 rfl (by decide +kernel) rfl (sk_29 hS5.wI.wI.wI.wI) (aw_aload_n (pc' := 110) (dt_X1_hear 55 (109, .aload_n 0, 1) rfl) rfl rfl (aw_iconst (pc' := 111) (v := 1) (dt_X1_hear 56 (110, .iconst 1, 1) rfl) (by decide) rfl (aw_putZ (pc' := 114) (dt_X1_hear 57 (111, .putfield 15, 3) rfl) fl_Judgement_15 rfl (by decide +kernel) rfl (sk_29 hS5.wI.wI.wI.wI.wI) (by decide) (aw_ret (dt_X1_hear 58 (114, .return_, 1) rfl) rfl ?_)))))))))
          exact h
    · intro q16
      have h := h.2 q16
      refine aw_iload (pc' := 56) (dt_X1_hear 29 (54, .iload 7, 2) rfl) rfl rfl (aw_aload_n (pc' := 57) (dt_X1_hear 30 (56, .aload_n 0, 1) rfl) rfl rfl (aw_getI (pc' := 60) (dt_X1_hear 31 (57, .getfield 22, 3) rfl) fl_Judgement_22 rfl rfl (sk_29 hS5) (aw_icmp_le (pc' := 63) (tgt := 81) (dt_X1_hear 32 (60, .if_icmp .le 21, 3) rfl) (by decide) rfl ?_ ?_)))
      · intro q19
        have h := h.1 q19
        refine aw_aload_n (pc' := 82) (dt_X1_hear 42 (81, .aload_n 0, 1) rfl) rfl rfl (aw_getI (pc' := 85) (dt_X1_hear 43 (82, .getfield 15, 3) rfl) fl_Judgement_15 rfl rfl (sk_29 hS5) (aw_if_eq (pc' := 88) (tgt := 97) (dt_X1_hear 44 (85, .ifCond .eq 12, 3) rfl) (by decide) rfl ?_ ?_))
        · intro q20
          have h := h.1 q20
          refine aw_aload_n (pc' := 98) (dt_X1_hear 49 (97, .aload_n 0, 1) rfl) rfl rfl (aw_iload (pc' := 100) (dt_X1_hear 50 (98, .iload 6, 2) rfl) rfl rfl (aw_putI (pc' := 103) (dt_X1_hear 51 (100, .putfield 28, 3) rfl) fl_Judgement_28 rfl (by decide +kernel) rfl (sk_29 hS5) (aw_aload_n (pc' := 104) (dt_X1_hear 52 (103, .aload_n 0, 1) rfl) rfl rfl (aw_iload (pc' := 106) (dt_X1_hear 53 (104, .iload 7, 2) rfl) rfl rfl (aw_putI (pc' := 109) (dt_X1_hear 54 (106, .putfield 31, 3) rfl) fl_Judgement_31 rfl (by decide +kernel) rfl (sk_29 hS5.wI) (aw_aload_n (pc' := 110) (dt_X1_hear 55 (109, .aload_n 0, 1) rfl) rfl rfl (aw_iconst (pc' := 111) (v := 1) (dt_X1_hear 56 (110, .iconst 1, 1) rfl) (by decide) rfl (aw_putZ (pc' := 114) (dt_X1_hear 57 (111, .putfield 15, 3) rfl) fl_Judgement_15 rfl (by decide +kernel) rfl (sk_29 hS5.wI.wI) (by decide) (aw_ret (dt_X1_hear 58 (114, .return_, 1) rfl) rfl ?_)))))))))
          exact h
        · intro q20
          have h := h.2 q20
          refine aw_iload (pc' := 90) (dt_X1_hear 45 (88, .iload 7, 2) rfl) rfl rfl (aw_aload_n (pc' := 91) (dt_X1_hear 46 (90, .aload_n 0, 1) rfl) rfl rfl (aw_getI (pc' := 94) (dt_X1_hear 47 (91, .getfield 31, 3) rfl) fl_Judgement_31 rfl rfl (sk_29 hS5) (aw_icmp_ge (pc' := 97) (tgt := 109) (dt_X1_hear 48 (94, .if_icmp .ge 15, 3) rfl) (by decide) rfl ?_ ?_)))
          · intro q21
            have h := h.1 q21
            refine aw_aload_n (pc' := 110) (dt_X1_hear 55 (109, .aload_n 0, 1) rfl) rfl rfl (aw_iconst (pc' := 111) (v := 1) (dt_X1_hear 56 (110, .iconst 1, 1) rfl) (by decide) rfl (aw_putZ (pc' := 114) (dt_X1_hear 57 (111, .putfield 15, 3) rfl) fl_Judgement_15 rfl (by decide +kernel) rfl (sk_29 hS5) (by decide) (aw_ret (dt_X1_hear 58 (114, .return_, 1) rfl) rfl ?_)))
            exact h
          · intro q21
            have h := h.2 q21
            refine aw_aload_n (pc' := 98) (dt_X1_hear 49 (97, .aload_n 0, 1) rfl) rfl rfl (aw_iload (pc' := 100) (dt_X1_hear 50 (98, .iload 6, 2) rfl) rfl rfl (aw_putI (pc' := 103) (dt_X1_hear 51 (100, .putfield 28, 3) rfl) fl_Judgement_28 rfl (by decide +kernel) rfl (sk_29 hS5) (aw_aload_n (pc' := 104) (dt_X1_hear 52 (103, .aload_n 0, 1) rfl) rfl rfl (aw_iload (pc' := 106) (dt_X1_hear 53 (104, .iload 7, 2) rfl) rfl rfl (aw_putI (pc' := 109) (dt_X1_hear 54 (106, .putfield 31, 3) rfl) fl_Judgement_31 rfl (by decide +kernel) rfl (sk_29 hS5.wI) (aw_aload_n (pc' := 110) (dt_X1_hear 55 (109, .aload_n 0, 1) rfl) rfl rfl (aw_iconst (pc' := 111) (v := 1) (dt_X1_hear 56 (110, .iconst 1, 1) rfl) (by decide) rfl (aw_putZ (pc' := 114) (dt_X1_hear 57 (111, .putfield 15, 3) rfl) fl_Judgement_15 rfl (by decide +kernel) rfl (sk_29 hS5.wI.wI) (by decide) (aw_ret (dt_X1_hear 58 (114, .return_, 1) rfl) rfl ?_)))))))))
            exact h
      · intro q19
        have h := h.2 q19
        refine aw_aload_n (pc' := 64) (dt_X1_hear 33 (63, .aload_n 0, 1) rfl) rfl rfl (aw_iload (pc' := 66) (dt_X1_hear 34 (64, .iload 6, 2) rfl) rfl rfl (aw_putI (pc' := 69) (dt_X1_hear 35 (66, .putfield 19, 3) rfl) fl_Judgement_19 rfl (by decide +kernel) rfl (sk_29 hS5) (aw_aload_n (pc' := 70) (dt_X1_hear 36 (69, .aload_n 0, 1) rfl) rfl rfl (aw_iload (pc' := 72) (dt_X1_hear 37 (70, .iload 7, 2) rfl) rfl rfl (aw_putI (pc' := 75) (dt_X1_hear 38 (72, .putfield 22, 3) rfl) fl_Judgement_22 rfl (by decide +kernel) rfl (sk_29 hS5.wI) (aw_aload_n (pc' := 76) (dt_X1_hear 39 (75, .aload_n 0, 1) rfl) rfl rfl (aw_iload (pc' := 78) (dt_X1_hear 40 (76, .iload 5, 2) rfl) rfl rfl (aw_putI (pc' := 81) (dt_X1_hear 41 (78, .putfield 25, 3) rfl) fl_Judgement_25 rfl (by decide +kernel) rfl (sk_29 hS5.wI.wI) (aw_aload_n (pc' := 82) (dt_X1_hear 42 (81, .aload_n 0, 1) rfl) rfl rfl (aw_getI (pc' := 85) (dt_X1_hear 43 (82, .getfield 15, 3) rfl) fl_Judgement_15 rfl rfl (sk_29 hS5.wI.wI.wI) (aw_if_eq (pc' := 88) (tgt := 97) (dt_X1_hear 44 (85, .ifCond .eq 12, 3) rfl) (by decide) rfl ?_ ?_)))))))))))
        · intro q22
          have h := h.1 q22
          refine aw_aload_n (pc' := 98) (dt_X1_hear 49 (97, .aload_n 0, 1) rfl) rfl rfl (aw_iload (pc' := 100) (dt_X1_hear 50 (98, .iload 6, 2) rfl) rfl rfl (aw_putI (pc' := 103) (dt_X1_hear 51 (100, .putfield 28, 3) rfl) fl_Judgement_28 rfl (by decide +kernel) rfl (sk_29 hS5.wI.wI.wI) (aw_aload_n (pc' := 104) (dt_X1_hear 52 (103, .aload_n 0, 1) rfl) rfl rfl (aw_iload (pc' := 106) (dt_X1_hear 53 (104, .iload 7, 2) rfl) rfl rfl (aw_putI (pc' := 109) (dt_X1_hear 54 (106, .putfield 31, 3) rfl) fl_Judgement_31 rfl (by decide +kernel) rfl (sk_29 hS5.wI.wI.wI.wI) (aw_aload_n (pc' := 110) (dt_X1_hear 55 (109, .aload_n 0, 1) rfl) rfl rfl (aw_iconst (pc' := 111) (v := 1) (dt_X1_hear 56 (110, .iconst 1, 1) rfl) (by decide) rfl (aw_putZ (pc' := 114) (dt_X1_hear 57 (111, .putfield 15, 3) rfl) fl_Judgement_15 rfl (by decide +kernel) rfl (sk_29 hS5.wI.wI.wI.wI.wI) (by decide) (aw_ret (dt_X1_hear 58 (114, .return_, 1) rfl) rfl ?_)))))))))
          exact h
        · intro q22
          have h := h.2 q22
          refine aw_iload (pc' := 90) (dt_X1_hear 45 (88, .iload 7, 2) rfl) rfl rfl (aw_aload_n (pc' := 91) (dt_X1_hear 46 (90, .aload_n 0, 1) rfl) rfl rfl (aw_getI (pc' := 94) (dt_X1_hear 47 (91, .getfield 31, 3) rfl) fl_Judgement_31 rfl rfl (sk_29 hS5.wI.wI.wI) (aw_icmp_ge (pc' := 97) (tgt := 109) (dt_X1_hear 48 (94, .if_icmp .ge 15, 3) rfl) (by decide) rfl ?_ ?_)))
          · intro q23
            have h := h.1 q23
            refine aw_aload_n (pc' := 110) (dt_X1_hear 55 (109, .aload_n 0, 1) rfl) rfl rfl (aw_iconst (pc' := 111) (v := 1) (dt_X1_hear 56 (110, .iconst 1, 1) rfl) (by decide) rfl (aw_putZ (pc' := 114) (dt_X1_hear 57 (111, .putfield 15, 3) rfl) fl_Judgement_15 rfl (by decide +kernel) rfl (sk_29 hS5.wI.wI.wI) (by decide) (aw_ret (dt_X1_hear 58 (114, .return_, 1) rfl) rfl ?_)))
            exact h
          · intro q23
            have h := h.2 q23
            refine aw_aload_n (pc' := 98) (dt_X1_hear 49 (97, .aload_n 0, 1) rfl) rfl rfl (aw_iload (pc' := 100) (dt_X1_hear 50 (98, .iload 6, 2) rfl) rfl rfl (aw_putI (pc' := 103) (dt_X1_hear 51 (100, .putfield 28, 3) rfl) fl_Judgement_28 rfl (by decide +kernel) rfl (sk_29 hS5.wI.wI.wI) (aw_aload_n (pc' := 104) (dt_X1_hear 52 (103, .aload_n 0, 1) rfl) rfl rfl (aw_iload (pc' := 106) (dt_X1_hear 53 (104, .iload 7, 2) rfl) rfl rfl (aw_putI (pc' := 109) (dt_X1_hear 54 (106, .putfield 31, 3) rfl) fl_Judgement_31 rfl (by decide +kernel) rfl (sk_29 hS5.wI.wI.wI.wI) (aw_aload_n (pc' := 110) (dt_X1_hear 55 (109, .aload_n 0, 1) rfl) rfl rfl (aw_iconst (pc' := 111) (v := 1) (dt_X1_hear 56 (110, .iconst 1, 1) rfl) (by decide) rfl (aw_putZ (pc' := 114) (dt_X1_hear 57 (111, .putfield 15, 3) rfl) fl_Judgement_15 rfl (by decide +kernel) rfl (sk_29 hS5.wI.wI.wI.wI.wI) (by decide) (aw_ret (dt_X1_hear 58 (114, .return_, 1) rfl) rfl ?_)))))))))
            exact h

theorem t_X1_worthOf {E : ZE} {l : Launch} {d nc ns : Nat} {x1 : Int32} {μ : ZM} {K : Option Value → ZM → Prop} (hS : Stat μ) (h :
  ((x1 / 1000) < 0 →
    K (some (.int ((((zI μ 29 0) * (x1 - x1 / 1000 * 1000)) * 0) / 1000))) μ) ∧
  (¬ (x1 / 1000) < 0 →
    (5 ≤ (x1 / 1000) →
      K (some (.int ((((zI μ 29 0) * (x1 - x1 / 1000 * 1000)) * 0) / 1000))) μ) ∧
    (¬ 5 ≤ (x1 / 1000) →
      (vp_in (x1 / 1000) 5) ∧
      K (some (.int ((((zI μ 29 0) * (x1 - x1 / 1000 * 1000)) * (zI μ 9 (x1 / 1000).toNatClampNeg)) / 1000))) μ))) : AW E l d nc ns mX1_worthOf 0 [some (.ref 29), some (.int x1), none, none] [] μ K := by
  refine aw_iload_n (pc' := 1) (dt_X1_worthOf 0 (0, .iload_n 1, 1) rfl) rfl rfl (aw_sipush (pc' := 4) (v := 1000) (dt_X1_worthOf 1 (1, .sipush 1000, 3) rfl) (by decide) rfl (aw_idiv (pc' := 5) (dt_X1_worthOf 2 (4, .idiv, 1) rfl) (by decide) rfl (aw_istore_n (pc' := 6) (ls' := [some (.ref 29), some (.int x1), some (.int (x1 / 1000)), none]) (dt_X1_worthOf 3 (5, .istore_n 2, 1) rfl) (by decide) rfl rfl (aw_iload_n (pc' := 7) (dt_X1_worthOf 4 (6, .iload_n 2, 1) rfl) rfl rfl (aw_if_lt (pc' := 10) (tgt := 26) (dt_X1_worthOf 5 (7, .ifCond .lt 19, 3) rfl) (by decide) rfl ?_ ?_)))))
  · intro q1
    have h := h.1 q1
    refine aw_iconst (pc' := 27) (v := 0) (dt_X1_worthOf 14 (26, .iconst 0, 1) rfl) (by decide) rfl (aw_istore_n (pc' := 28) (ls' := [some (.ref 29), some (.int x1), some (.int (x1 / 1000)), some (.int 0)]) (dt_X1_worthOf 15 (27, .istore_n 3, 1) rfl) (by decide) rfl rfl (aw_aload_n (pc' := 29) (dt_X1_worthOf 16 (28, .aload_n 0, 1) rfl) rfl rfl (aw_getI (pc' := 32) (dt_X1_worthOf 17 (29, .getfield 9, 3) rfl) fl_Judgement_9 rfl rfl (sk_29 hS) (aw_iload_n (pc' := 33) (dt_X1_worthOf 18 (32, .iload_n 1, 1) rfl) rfl rfl (aw_sipush (pc' := 36) (v := 1000) (dt_X1_worthOf 19 (33, .sipush 1000, 3) rfl) (by decide) rfl (aw_irem (pc' := 37) (dt_X1_worthOf 20 (36, .irem, 1) rfl) (by decide) rfl (aw_imul (pc' := 38) (dt_X1_worthOf 21 (37, .imul, 1) rfl) rfl (aw_iload_n (pc' := 39) (dt_X1_worthOf 22 (38, .iload_n 3, 1) rfl) rfl rfl (aw_imul (pc' := 40) (dt_X1_worthOf 23 (39, .imul, 1) rfl) rfl (aw_sipush (pc' := 43) (v := 1000) (dt_X1_worthOf 24 (40, .sipush 1000, 3) rfl) (by decide) rfl (aw_idiv (pc' := 44) (dt_X1_worthOf 25 (43, .idiv, 1) rfl) (by decide) rfl (aw_iret (dt_X1_worthOf 26 (44, .ireturn, 1) rfl) rfl rfl ?_))))))))))))
    exact h
  · intro q1
    have h := h.2 q1
    refine aw_iload_n (pc' := 11) (dt_X1_worthOf 6 (10, .iload_n 2, 1) rfl) rfl rfl (aw_getTENTHS (pc' := 14) (dt_X1_worthOf 7 (11, .getstatic 44, 3) rfl) rfl rfl (aw_alens (pc' := 15) (n := 5) (v := 5) (dt_X1_worthOf 8 (14, .arraylength, 1) rfl) (by decide) (by decide) rfl (sk_9 hS) (sl_9 hS) (by decide) (aw_icmp_ge (pc' := 18) (tgt := 26) (dt_X1_worthOf 9 (15, .if_icmp .ge 11, 3) rfl) (by decide) rfl ?_ ?_)))
    · intro q2
      have h := h.1 q2
      refine aw_iconst (pc' := 27) (v := 0) (dt_X1_worthOf 14 (26, .iconst 0, 1) rfl) (by decide) rfl (aw_istore_n (pc' := 28) (ls' := [some (.ref 29), some (.int x1), some (.int (x1 / 1000)), some (.int 0)]) (dt_X1_worthOf 15 (27, .istore_n 3, 1) rfl) (by decide) rfl rfl (aw_aload_n (pc' := 29) (dt_X1_worthOf 16 (28, .aload_n 0, 1) rfl) rfl rfl (aw_getI (pc' := 32) (dt_X1_worthOf 17 (29, .getfield 9, 3) rfl) fl_Judgement_9 rfl rfl (sk_29 hS) (aw_iload_n (pc' := 33) (dt_X1_worthOf 18 (32, .iload_n 1, 1) rfl) rfl rfl (aw_sipush (pc' := 36) (v := 1000) (dt_X1_worthOf 19 (33, .sipush 1000, 3) rfl) (by decide) rfl (aw_irem (pc' := 37) (dt_X1_worthOf 20 (36, .irem, 1) rfl) (by decide) rfl (aw_imul (pc' := 38) (dt_X1_worthOf 21 (37, .imul, 1) rfl) rfl (aw_iload_n (pc' := 39) (dt_X1_worthOf 22 (38, .iload_n 3, 1) rfl) rfl rfl (aw_imul (pc' := 40) (dt_X1_worthOf 23 (39, .imul, 1) rfl) rfl (aw_sipush (pc' := 43) (v := 1000) (dt_X1_worthOf 24 (40, .sipush 1000, 3) rfl) (by decide) rfl (aw_idiv (pc' := 44) (dt_X1_worthOf 25 (43, .idiv, 1) rfl) (by decide) rfl (aw_iret (dt_X1_worthOf 26 (44, .ireturn, 1) rfl) rfl rfl ?_))))))))))))
      exact h
    · intro q2
      have h := h.2 q2
      obtain ⟨g3, h⟩ := h
      refine aw_getTENTHS (pc' := 21) (dt_X1_worthOf 10 (18, .getstatic 44, 3) rfl) rfl rfl (aw_iload_n (pc' := 22) (dt_X1_worthOf 11 (21, .iload_n 2, 1) rfl) rfl rfl (aw_iald (pc' := 23) (dt_X1_worthOf 12 (22, .iaload, 1) rfl) rfl (sk_9 hS) (vin_eq (sl_9 hS) g3) (aw_goto (tgt := 27) (dt_X1_worthOf 13 (23, .goto 4, 3) rfl) (by decide) (aw_istore_n (pc' := 28) (ls' := [some (.ref 29), some (.int x1), some (.int (x1 / 1000)), some (.int (zI μ 9 (x1 / 1000).toNatClampNeg))]) (dt_X1_worthOf 15 (27, .istore_n 3, 1) rfl) (by decide) rfl rfl (aw_aload_n (pc' := 29) (dt_X1_worthOf 16 (28, .aload_n 0, 1) rfl) rfl rfl (aw_getI (pc' := 32) (dt_X1_worthOf 17 (29, .getfield 9, 3) rfl) fl_Judgement_9 rfl rfl (sk_29 hS) (aw_iload_n (pc' := 33) (dt_X1_worthOf 18 (32, .iload_n 1, 1) rfl) rfl rfl (aw_sipush (pc' := 36) (v := 1000) (dt_X1_worthOf 19 (33, .sipush 1000, 3) rfl) (by decide) rfl (aw_irem (pc' := 37) (dt_X1_worthOf 20 (36, .irem, 1) rfl) (by decide) rfl (aw_imul (pc' := 38) (dt_X1_worthOf 21 (37, .imul, 1) rfl) rfl (aw_iload_n (pc' := 39) (dt_X1_worthOf 22 (38, .iload_n 3, 1) rfl) rfl rfl (aw_imul (pc' := 40) (dt_X1_worthOf 23 (39, .imul, 1) rfl) rfl (aw_sipush (pc' := 43) (v := 1000) (dt_X1_worthOf 24 (40, .sipush 1000, 3) rfl) (by decide) rfl (aw_idiv (pc' := 44) (dt_X1_worthOf 25 (43, .idiv, 1) rfl) (by decide) rfl (aw_iret (dt_X1_worthOf 26 (44, .ireturn, 1) rfl) rfl rfl ?_)))))))))))))))
      exact h

theorem t_X3_run {E : ZE} {l : Launch} {d nc ns : Nat} {a1 : Nat} {μ : ZM} {K : Option Value → ZM → Prop} (hS : Stat μ) (h :
  AW E l (d + 3) nc ns mX3_run 9 [some (.ref 26), some (.ref a1), some (.int 0), some (.int 0), none] [] (sI μ 26 2 0) K) : AW E l (d + 3) nc ns mX3_run 0 [some (.ref 26), some (.ref a1), none, none, none] [] μ K := by
  refine aw_aload_n (pc' := 1) (dt_X3_run 0 (0, .aload_n 0, 1) rfl) rfl rfl (aw_iconst (pc' := 2) (v := 0) (dt_X3_run 1 (1, .iconst 0, 1) rfl) (by decide) rfl (aw_putI (pc' := 5) (dt_X3_run 2 (2, .putfield 18, 3) rfl) fl_Machine_18 rfl (by decide +kernel) rfl (sk_26 hS) (aw_iconst (pc' := 6) (v := 0) (dt_X3_run 3 (5, .iconst 0, 1) rfl) (by decide) rfl (aw_istore_n (pc' := 7) (ls' := [some (.ref 26), some (.ref a1), some (.int 0), none, none]) (dt_X3_run 4 (6, .istore_n 2, 1) rfl) (by decide) rfl rfl (aw_iconst (pc' := 8) (v := 0) (dt_X3_run 5 (7, .iconst 0, 1) rfl) (by decide) rfl (aw_istore_n (pc' := 9) (ls' := [some (.ref 26), some (.ref a1), some (.int 0), some (.int 0), none]) (dt_X3_run 6 (8, .istore_n 3, 1) rfl) (by decide) rfl rfl ?_))))))
  exact h

theorem t_X3_run_9 {E : ZE} {l : Launch} {d nc ns : Nat} {a1 : Nat} {x2 : Int32} {x3 : Int32} {μ : ZM} {K : Option Value → ZM → Prop} (hS : Stat μ) (h :
  (zK μ a1 = 13) ∧
  ((nI (zL μ a1)) ≤ x3 →
    K (some (.int 0)) μ) ∧
  (¬ (nI (zL μ a1)) ≤ x3 →
    ((nI (zL μ a1)) ≤ x2 →
      K (some (.int 0)) μ) ∧
    (¬ (nI (zL μ a1)) ≤ x2 →
      (vp_in x2 (zL μ a1)) ∧
      ((-1000) < (zI μ a1 x2.toNatClampNeg) →
        ((-500) < (zI μ a1 x2.toNatClampNeg) →
          (0 ≤ (zI μ a1 x2.toNatClampNeg) →
            (100000 ≤ (zI μ a1 x2.toNatClampNeg) →
              (((zI μ a1 x2.toNatClampNeg) - 100000) < 0 →
                (200 ≤ (zI μ 26 2) →
                  AW E l (d + 3) nc ns mX3_run 9 [some (.ref 26), some (.ref a1), some (.int (x2 + 1)), some (.int (x3 + 1)), none] [] μ K) ∧
                (¬ 200 ≤ (zI μ 26 2) →
                  (vp_in (zI μ 26 2) 200) ∧
                  AW E l (d + 3) nc ns mX3_run 9 [some (.ref 26), some (.ref a1), some (.int (x2 + 1)), some (.int (x3 + 1)), none] [] (sI (sI μ 28 (zI μ 26 2).toNatClampNeg 0) 26 2 ((zI (sI μ 28 (zI μ 26 2).toNatClampNeg 0) 26 2) + 1)) K)) ∧
              (¬ ((zI μ a1 x2.toNatClampNeg) - 100000) < 0 →
                (12 ≤ ((zI μ a1 x2.toNatClampNeg) - 100000) →
                  (200 ≤ (zI μ 26 2) →
                    AW E l (d + 3) nc ns mX3_run 9 [some (.ref 26), some (.ref a1), some (.int (x2 + 1)), some (.int (x3 + 1)), none] [] μ K) ∧
                  (¬ 200 ≤ (zI μ 26 2) →
                    (vp_in (zI μ 26 2) 200) ∧
                    AW E l (d + 3) nc ns mX3_run 9 [some (.ref 26), some (.ref a1), some (.int (x2 + 1)), some (.int (x3 + 1)), none] [] (sI (sI μ 28 (zI μ 26 2).toNatClampNeg 0) 26 2 ((zI (sI μ 28 (zI μ 26 2).toNatClampNeg 0) 26 2) + 1)) K)) ∧
                (¬ 12 ≤ ((zI μ a1 x2.toNatClampNeg) - 100000) →
                  (vp_in ((zI μ a1 x2.toNatClampNeg) - 100000) 12) ∧
                  (200 ≤ (zI μ 26 2) →
                    AW E l (d + 3) nc ns mX3_run 9 [some (.ref 26), some (.ref a1), some (.int (x2 + 1)), some (.int (x3 + 1)), none] [] μ K) ∧
                  (¬ 200 ≤ (zI μ 26 2) →
                    (vp_in (zI μ 26 2) 200) ∧
                    AW E l (d + 3) nc ns mX3_run 9 [some (.ref 26), some (.ref a1), some (.int (x2 + 1)), some (.int (x3 + 1)), none] [] (sI (sI μ 28 (zI μ 26 2).toNatClampNeg (zI μ 27 ((zI μ a1 x2.toNatClampNeg) - 100000).toNatClampNeg)) 26 2 ((zI (sI μ 28 (zI μ 26 2).toNatClampNeg (zI μ 27 ((zI μ a1 x2.toNatClampNeg) - 100000).toNatClampNeg)) 26 2) + 1)) K)))) ∧
            (¬ 100000 ≤ (zI μ a1 x2.toNatClampNeg) →
              (200 ≤ (zI μ 26 2) →
                AW E l (d + 3) nc ns mX3_run 9 [some (.ref 26), some (.ref a1), some (.int (x2 + 1)), some (.int (x3 + 1)), none] [] μ K) ∧
              (¬ 200 ≤ (zI μ 26 2) →
                (vp_in (zI μ 26 2) 200) ∧
                AW E l (d + 3) nc ns mX3_run 9 [some (.ref 26), some (.ref a1), some (.int (x2 + 1)), some (.int (x3 + 1)), none] [] (sI (sI μ 28 (zI μ 26 2).toNatClampNeg (zI μ a1 x2.toNatClampNeg)) 26 2 ((zI (sI μ 28 (zI μ 26 2).toNatClampNeg (zI μ a1 x2.toNatClampNeg)) 26 2) + 1)) K))) ∧
          (¬ 0 ≤ (zI μ a1 x2.toNatClampNeg) →
            AW E l (d + 2) 0 0 mX3_work 0 (zargs 3 [.ref 26, .int (zI μ a1 x2.toNatClampNeg)]) [] μ (fun v μ20 => v = none ∧ Stat μ20 ∧ 
              AW E l (d + 3) nc ns mX3_run 9 [some (.ref 26), some (.ref a1), some (.int (x2 + 1)), some (.int (x3 + 1)), none] [] μ20 K))) ∧
        (¬ (-500) < (zI μ a1 x2.toNatClampNeg) →
          (3 ≤ ((-500) - (zI μ a1 x2.toNatClampNeg)) →
            (0 < (zI μ 26 2) →
              (vp_in (zI (sI μ 26 2 ((zI μ 26 2) - 1)) 26 2) 200) ∧
              K (some (.int ((1000 * ((-500) - (zI μ a1 x2.toNatClampNeg))) + (if (0 : Int32) < (if (zI (sI μ 26 2 ((zI μ 26 2) - 1)) 28 (zI (sI μ 26 2 ((zI μ 26 2) - 1)) 26 2).toNatClampNeg) < 100 then (zI (sI μ 26 2 ((zI μ 26 2) - 1)) 28 (zI (sI μ 26 2 ((zI μ 26 2) - 1)) 26 2).toNatClampNeg) else 100) then (if (zI (sI μ 26 2 ((zI μ 26 2) - 1)) 28 (zI (sI μ 26 2 ((zI μ 26 2) - 1)) 26 2).toNatClampNeg) < 100 then (zI (sI μ 26 2 ((zI μ 26 2) - 1)) 28 (zI (sI μ 26 2 ((zI μ 26 2) - 1)) 26 2).toNatClampNeg) else 100) else 0)))) (sI μ 26 2 ((zI μ 26 2) - 1))) ∧
            (¬ 0 < (zI μ 26 2) →
              K (some (.int ((1000 * ((-500) - (zI μ a1 x2.toNatClampNeg))) + (if (0 : Int32) < (if (0 : Int32) < 100 then 0 else 100) then (if (0 : Int32) < 100 then 0 else 100) else 0)))) μ)) ∧
          (¬ 3 ≤ ((-500) - (zI μ a1 x2.toNatClampNeg)) →
            (¬ ((-500) - (zI μ a1 x2.toNatClampNeg)) = 0 →
              K (some (.int ((1000 * ((-500) - (zI μ a1 x2.toNatClampNeg))) + 100))) μ) ∧
            (((-500) - (zI μ a1 x2.toNatClampNeg)) = 0 →
              K (some (.int 0)) μ)))) ∧
      (¬ (-1000) < (zI μ a1 x2.toNatClampNeg) →
        (0 < (zI μ 26 2) →
          (vp_in (zI (sI μ 26 2 ((zI μ 26 2) - 1)) 26 2) 200) ∧
          (¬ (zI (sI μ 26 2 ((zI μ 26 2) - 1)) 28 (zI (sI μ 26 2 ((zI μ 26 2) - 1)) 26 2).toNatClampNeg) = 0 →
            AW E l (d + 3) nc ns mX3_run 9 [some (.ref 26), some (.ref a1), some (.int (x2 + 1)), some (.int (x3 + 1)), none] [] (sI μ 26 2 ((zI μ 26 2) - 1)) K) ∧
          ((zI (sI μ 26 2 ((zI μ 26 2) - 1)) 28 (zI (sI μ 26 2 ((zI μ 26 2) - 1)) 26 2).toNatClampNeg) = 0 →
            AW E l (d + 3) nc ns mX3_run 9 [some (.ref 26), some (.ref a1), some (.int ((-1000) - (zI μ a1 x2.toNatClampNeg))), some (.int (x3 + 1)), none] [] (sI μ 26 2 ((zI μ 26 2) - 1)) K)) ∧
        (¬ 0 < (zI μ 26 2) →
          AW E l (d + 3) nc ns mX3_run 9 [some (.ref 26), some (.ref a1), some (.int ((-1000) - (zI μ a1 x2.toNatClampNeg))), some (.int (x3 + 1)), none] [] μ K))))) : AW E l (d + 3) nc ns mX3_run 9 [some (.ref 26), some (.ref a1), some (.int x2), some (.int x3), none] [] μ K := by
  obtain ⟨g1, h⟩ := h
  refine aw_iload_n (pc' := 10) (dt_X3_run 7 (9, .iload_n 3, 1) rfl) rfl rfl (aw_aload_n (pc' := 11) (dt_X3_run 8 (10, .aload_n 1, 1) rfl) rfl rfl (aw_alen (pc' := 12) (dt_X3_run 9 (11, .arraylength, 1) rfl) (by decide) (by decide) rfl g1 (aw_icmp_ge (pc' := 15) (tgt := 122) (dt_X3_run 10 (12, .if_icmp .ge 110, 3) rfl) (by decide) rfl ?_ ?_)))
  · intro q2
    have h := h.1 q2
    refine aw_iconst (pc' := 123) (v := 0) (dt_X3_run 62 (122, .iconst 0, 1) rfl) (by decide) rfl (aw_iret (dt_X3_run 63 (123, .ireturn, 1) rfl) rfl rfl ?_)
    exact h
  · intro q2
    have h := h.2 q2
    refine aw_iload_n (pc' := 16) (dt_X3_run 11 (15, .iload_n 2, 1) rfl) rfl rfl (aw_aload_n (pc' := 17) (dt_X3_run 12 (16, .aload_n 1, 1) rfl) rfl rfl (aw_alen (pc' := 18) (dt_X3_run 13 (17, .arraylength, 1) rfl) (by decide) (by decide) rfl g1 (aw_icmp_ge (pc' := 21) (tgt := 122) (dt_X3_run 14 (18, .if_icmp .ge 104, 3) rfl) (by decide) rfl ?_ ?_)))
    · intro q3
      have h := h.1 q3
      refine aw_iconst (pc' := 123) (v := 0) (dt_X3_run 62 (122, .iconst 0, 1) rfl) (by decide) rfl (aw_iret (dt_X3_run 63 (123, .ireturn, 1) rfl) rfl rfl ?_)
      exact h
    · intro q3
      have h := h.2 q3
      obtain ⟨g4, h⟩ := h
      refine aw_aload_n (pc' := 22) (dt_X3_run 15 (21, .aload_n 1, 1) rfl) rfl rfl (aw_iload_n (pc' := 23) (dt_X3_run 16 (22, .iload_n 2, 1) rfl) rfl rfl (aw_iald (pc' := 24) (dt_X3_run 17 (23, .iaload, 1) rfl) rfl g1 g4 (aw_istore (pc' := 26) (ls' := [some (.ref 26), some (.ref a1), some (.int x2), some (.int x3), some (.int (zI μ a1 x2.toNatClampNeg))]) (dt_X3_run 18 (24, .istore 4, 2) rfl) (by decide) rfl rfl (aw_iinc (pc' := 29) (v := 1) (ls' := [some (.ref 26), some (.ref a1), some (.int (x2 + 1)), some (.int x3), some (.int (zI μ a1 x2.toNatClampNeg))]) (dt_X3_run 19 (26, .iinc 2 1, 3) rfl) rfl (by decide) (by decide) rfl rfl (aw_iload (pc' := 31) (dt_X3_run 20 (29, .iload 4, 2) rfl) rfl rfl (aw_sipush (pc' := 34) (v := (-1000)) (dt_X3_run 21 (31, .sipush (-1000), 3) rfl) (by decide) rfl (aw_icmp_gt (pc' := 37) (tgt := 58) (dt_X3_run 22 (34, .if_icmp .gt 24, 3) rfl) (by decide) rfl ?_ ?_)))))))
      · intro q5
        have h := h.1 q5
        refine aw_iload (pc' := 60) (dt_X3_run 33 (58, .iload 4, 2) rfl) rfl rfl (aw_sipush (pc' := 63) (v := (-500)) (dt_X3_run 34 (60, .sipush (-500), 3) rfl) (by decide) rfl (aw_icmp_gt (pc' := 66) (tgt := 77) (dt_X3_run 35 (63, .if_icmp .gt 14, 3) rfl) (by decide) rfl ?_ ?_))
        · intro q6
          have h := h.1 q6
          refine aw_iload (pc' := 79) (dt_X3_run 42 (77, .iload 4, 2) rfl) rfl rfl (aw_if_ge (pc' := 82) (tgt := 91) (dt_X3_run 43 (79, .ifCond .ge 12, 3) rfl) (by decide) rfl ?_ ?_)
          · intro q7
            have h := h.1 q7
            refine aw_aload_n (pc' := 92) (dt_X3_run 48 (91, .aload_n 0, 1) rfl) rfl rfl (aw_iload (pc' := 94) (dt_X3_run 49 (92, .iload 4, 2) rfl) rfl rfl (aw_ldc (pc' := 96) (dt_X3_run 50 (94, .ldc 34, 2) rfl) ct_Machine_34 rfl (aw_icmp_ge (pc' := 99) (tgt := 104) (dt_X3_run 51 (96, .if_icmp .ge 8, 3) rfl) (by decide) rfl ?_ ?_)))
            · intro q8
              have h := h.1 q8
              refine aw_aload_n (pc' := 105) (dt_X3_run 54 (104, .aload_n 0, 1) rfl) rfl rfl (aw_iload (pc' := 107) (dt_X3_run 55 (105, .iload 4, 2) rfl) rfl rfl (aw_ldc (pc' := 109) (dt_X3_run 56 (107, .ldc 34, 2) rfl) ct_Machine_34 rfl (aw_isub (pc' := 110) (dt_X3_run 57 (109, .isub, 1) rfl) rfl (aw_inV (pc' := 113) (nc1 := 0) (ns1 := 0) (nc := nc) (ns := ns) (ls' := [some (.ref 26), some (.int ((zI μ a1 x2.toNatClampNeg) - 100000))]) (y2 := mX3_valueNamed) (As := [.int ((zI μ a1 x2.toNatClampNeg) - 100000)]) (rest := [.ref 26]) (a := 26) (dt_X3_run 58 (110, .invokevirtual 35, 3) rfl) ok_X3_valueNamed ln_Machine_35 im_X3_valueNamed se_X3_valueNamed pr_X3_valueNamed (Or.inl ⟨by decide, rfl⟩) rfl (Nat.le_of_ble_eq_true rfl) (Nat.le_of_ble_eq_true rfl) rfl rfl (sk_26 hS) (aw_iload_n (pc' := 1) (dt_X3_valueNamed 0 (0, .iload_n 1, 1) rfl) rfl rfl (aw_if_lt (pc' := 4) (tgt := 22) (dt_X3_valueNamed 1 (1, .ifCond .lt 21, 3) rfl) (by decide) rfl ?_ ?_))))))
              · intro q9
                have h := h.1 q9
                refine aw_iconst (pc' := 23) (v := 0) (dt_X3_valueNamed 12 (22, .iconst 0, 1) rfl) (by decide) rfl (aw_iret (dt_X3_valueNamed 13 (23, .ireturn, 1) rfl) rfl rfl (aw_stk (st' := [.int 0, .ref 26]) rfl (aw_inV (pc' := 116) (nc1 := 0) (ns1 := 0) (nc := nc) (ns := ns) (ls' := [some (.ref 26), some (.int 0)]) (y2 := mX3_push) (As := [.int 0]) (rest := []) (a := 26) (dt_X3_run 59 (113, .invokevirtual 38, 3) rfl) ok_X3_push ln_Machine_38 im_X3_push se_X3_push pr_X3_push (Or.inl ⟨by decide, rfl⟩) rfl (Nat.le_of_ble_eq_true rfl) (Nat.le_of_ble_eq_true rfl) rfl rfl (sk_26 hS) (aw_aload_n (pc' := 1) (dt_X3_push 0 (0, .aload_n 0, 1) rfl) rfl rfl (aw_getI (pc' := 4) (dt_X3_push 1 (1, .getfield 18, 3) rfl) fl_Machine_18 rfl rfl (sk_26 hS) (aw_aload_n (pc' := 5) (dt_X3_push 2 (4, .aload_n 0, 1) rfl) rfl rfl (aw_getAs (pc' := 8) (dt_X3_push 3 (5, .getfield 15, 3) rfl) fl_Machine_15 rfl rfl (sk_26 hS) (sa_26_1 hS) (aw_alens (pc' := 9) (n := 200) (v := 200) (dt_X3_push 4 (8, .arraylength, 1) rfl) (by decide) (by decide) rfl (sk_28 hS) (sl_28 hS) (by decide) (aw_icmp_ge (pc' := 12) (tgt := 32) (dt_X3_push 5 (9, .if_icmp .ge 23, 3) rfl) (by decide) rfl ?_ ?_)))))))))
                · intro q10
                  have h := h.1 q10
                  refine aw_ret (dt_X3_push 18 (32, .return_, 1) rfl) rfl (aw_stk (st' := []) rfl (aw_iinc (pc' := 119) (v := 1) (ls' := [some (.ref 26), some (.ref a1), some (.int (x2 + 1)), some (.int (x3 + 1)), some (.int (zI μ a1 x2.toNatClampNeg))]) (dt_X3_run 60 (116, .iinc 3 1, 3) rfl) rfl (by decide) (by decide) rfl rfl (aw_goto (tgt := 9) (dt_X3_run 61 (119, .goto (-110), 3) rfl) (by decide) (aw_drop (ls' := [some (.ref 26), some (.ref a1), some (.int (x2 + 1)), some (.int (x3 + 1)), none]) ⟨rfl, rfl, rfl, rfl, trivial⟩ ?_))))
                  exact h
                · intro q10
                  have h := h.2 q10
                  obtain ⟨g11, h⟩ := h
                  refine aw_aload_n (pc' := 13) (dt_X3_push 6 (12, .aload_n 0, 1) rfl) rfl rfl (aw_getAs (pc' := 16) (dt_X3_push 7 (13, .getfield 15, 3) rfl) fl_Machine_15 rfl rfl (sk_26 hS) (sa_26_1 hS) (aw_aload_n (pc' := 17) (dt_X3_push 8 (16, .aload_n 0, 1) rfl) rfl rfl (aw_getI (pc' := 20) (dt_X3_push 9 (17, .getfield 18, 3) rfl) fl_Machine_18 rfl rfl (sk_26 hS) (aw_iload_n (pc' := 21) (dt_X3_push 10 (20, .iload_n 1, 1) rfl) rfl rfl (aw_iast (pc' := 22) (dt_X3_push 11 (21, .iastore, 1) rfl) rfl (sk_28 hS) (by decide) (vin_eq (sl_28 hS) g11) (aw_aload_n (pc' := 23) (dt_X3_push 12 (22, .aload_n 0, 1) rfl) rfl rfl (aw_dup (pc' := 24) (dt_X3_push 13 (23, .dup, 1) rfl) rfl rfl (aw_getI (pc' := 27) (dt_X3_push 14 (24, .getfield 18, 3) rfl) fl_Machine_18 rfl rfl (sk_26 hS.wI) (aw_iconst (pc' := 28) (v := 1) (dt_X3_push 15 (27, .iconst 1, 1) rfl) (by decide) rfl (aw_iadd (pc' := 29) (dt_X3_push 16 (28, .iadd, 1) rfl) rfl (aw_putI (pc' := 32) (dt_X3_push 17 (29, .putfield 18, 3) rfl) fl_Machine_18 rfl (by decide +kernel) rfl (sk_26 hS.wI) (aw_ret (dt_X3_push 18 (32, .return_, 1) rfl) rfl (aw_stk (st' := []) rfl (aw_iinc (pc' := 119) (v := 1) (ls' := [some (.ref 26), some (.ref a1), some (.int (x2 + 1)), some (.int (x3 + 1)), some (.int (zI μ a1 x2.toNatClampNeg))]) (dt_X3_run 60 (116, .iinc 3 1, 3) rfl) rfl (by decide) (by decide) rfl rfl (aw_goto (tgt := 9) (dt_X3_run 61 (119, .goto (-110), 3) rfl) (by decide) (aw_drop (ls' := [some (.ref 26), some (.ref a1), some (.int (x2 + 1)), some (.int (x3 + 1)), none]) ⟨rfl, rfl, rfl, rfl, trivial⟩ ?_))))))))))))))))
                  exact h
              · intro q9
                have h := h.2 q9
                refine aw_iload_n (pc' := 5) (dt_X3_valueNamed 2 (4, .iload_n 1, 1) rfl) rfl rfl (aw_aload_n (pc' := 6) (dt_X3_valueNamed 3 (5, .aload_n 0, 1) rfl) rfl rfl (aw_getAs (pc' := 9) (dt_X3_valueNamed 4 (6, .getfield 9, 3) rfl) fl_Machine_9 rfl rfl (sk_26 hS) (sa_26_0 hS) (aw_alens (pc' := 10) (n := 12) (v := 12) (dt_X3_valueNamed 5 (9, .arraylength, 1) rfl) (by decide) (by decide) rfl (sk_27 hS) (sl_27 hS) (by decide) (aw_icmp_ge (pc' := 13) (tgt := 22) (dt_X3_valueNamed 6 (10, .if_icmp .ge 12, 3) rfl) (by decide) rfl ?_ ?_))))
                · intro q12
                  have h := h.1 q12
                  refine aw_iconst (pc' := 23) (v := 0) (dt_X3_valueNamed 12 (22, .iconst 0, 1) rfl) (by decide) rfl (aw_iret (dt_X3_valueNamed 13 (23, .ireturn, 1) rfl) rfl rfl (aw_stk (st' := [.int 0, .ref 26]) rfl (aw_inV (pc' := 116) (nc1 := 0) (ns1 := 0) (nc := nc) (ns := ns) (ls' := [some (.ref 26), some (.int 0)]) (y2 := mX3_push) (As := [.int 0]) (rest := []) (a := 26) (dt_X3_run 59 (113, .invokevirtual 38, 3) rfl) ok_X3_push ln_Machine_38 im_X3_push se_X3_push pr_X3_push (Or.inl ⟨by decide, rfl⟩) rfl (Nat.le_of_ble_eq_true rfl) (Nat.le_of_ble_eq_true rfl) rfl rfl (sk_26 hS) (aw_aload_n (pc' := 1) (dt_X3_push 0 (0, .aload_n 0, 1) rfl) rfl rfl (aw_getI (pc' := 4) (dt_X3_push 1 (1, .getfield 18, 3) rfl) fl_Machine_18 rfl rfl (sk_26 hS) (aw_aload_n (pc' := 5) (dt_X3_push 2 (4, .aload_n 0, 1) rfl) rfl rfl (aw_getAs (pc' := 8) (dt_X3_push 3 (5, .getfield 15, 3) rfl) fl_Machine_15 rfl rfl (sk_26 hS) (sa_26_1 hS) (aw_alens (pc' := 9) (n := 200) (v := 200) (dt_X3_push 4 (8, .arraylength, 1) rfl) (by decide) (by decide) rfl (sk_28 hS) (sl_28 hS) (by decide) (aw_icmp_ge (pc' := 12) (tgt := 32) (dt_X3_push 5 (9, .if_icmp .ge 23, 3) rfl) (by decide) rfl ?_ ?_)))))))))
                  · intro q13
                    have h := h.1 q13
                    refine aw_ret (dt_X3_push 18 (32, .return_, 1) rfl) rfl (aw_stk (st' := []) rfl (aw_iinc (pc' := 119) (v := 1) (ls' := [some (.ref 26), some (.ref a1), some (.int (x2 + 1)), some (.int (x3 + 1)), some (.int (zI μ a1 x2.toNatClampNeg))]) (dt_X3_run 60 (116, .iinc 3 1, 3) rfl) rfl (by decide) (by decide) rfl rfl (aw_goto (tgt := 9) (dt_X3_run 61 (119, .goto (-110), 3) rfl) (by decide) (aw_drop (ls' := [some (.ref 26), some (.ref a1), some (.int (x2 + 1)), some (.int (x3 + 1)), none]) ⟨rfl, rfl, rfl, rfl, trivial⟩ ?_))))
                    exact h
                  · intro q13
                    have h := h.2 q13
                    obtain ⟨g14, h⟩ := h
                    refine aw_aload_n (pc' := 13) (dt_X3_push 6 (12, .aload_n 0, 1) rfl) rfl rfl (aw_getAs (pc' := 16) (dt_X3_push 7 (13, .getfield 15, 3) rfl) fl_Machine_15 rfl rfl (sk_26 hS) (sa_26_1 hS) (aw_aload_n (pc' := 17) (dt_X3_push 8 (16, .aload_n 0, 1) rfl) rfl rfl (aw_getI (pc' := 20) (dt_X3_push 9 (17, .getfield 18, 3) rfl) fl_Machine_18 rfl rfl (sk_26 hS) (aw_iload_n (pc' := 21) (dt_X3_push 10 (20, .iload_n 1, 1) rfl) rfl rfl (aw_iast (pc' := 22) (dt_X3_push 11 (21, .iastore, 1) rfl) rfl (sk_28 hS) (by decide) (vin_eq (sl_28 hS) g14) (aw_aload_n (pc' := 23) (dt_X3_push 12 (22, .aload_n 0, 1) rfl) rfl rfl (aw_dup (pc' := 24) (dt_X3_push 13 (23, .dup, 1) rfl) rfl rfl (aw_getI (pc' := 27) (dt_X3_push 14 (24, .getfield 18, 3) rfl) fl_Machine_18 rfl rfl (sk_26 hS.wI) (aw_iconst (pc' := 28) (v := 1) (dt_X3_push 15 (27, .iconst 1, 1) rfl) (by decide) rfl (aw_iadd (pc' := 29) (dt_X3_push 16 (28, .iadd, 1) rfl) rfl (aw_putI (pc' := 32) (dt_X3_push 17 (29, .putfield 18, 3) rfl) fl_Machine_18 rfl (by decide +kernel) rfl (sk_26 hS.wI) (aw_ret (dt_X3_push 18 (32, .return_, 1) rfl) rfl (aw_stk (st' := []) rfl (aw_iinc (pc' := 119) (v := 1) (ls' := [some (.ref 26), some (.ref a1), some (.int (x2 + 1)), some (.int (x3 + 1)), some (.int (zI μ a1 x2.toNatClampNeg))]) (dt_X3_run 60 (116, .iinc 3 1, 3) rfl) rfl (by decide) (by decide) rfl rfl (aw_goto (tgt := 9) (dt_X3_run 61 (119, .goto (-110), 3) rfl) (by decide) (aw_drop (ls' := [some (.ref 26), some (.ref a1), some (.int (x2 + 1)), some (.int (x3 + 1)), none]) ⟨rfl, rfl, rfl, rfl, trivial⟩ ?_))))))))))))))))
                    exact h
                · intro q12
                  have h := h.2 q12
                  obtain ⟨g15, h⟩ := h
                  refine aw_aload_n (pc' := 14) (dt_X3_valueNamed 7 (13, .aload_n 0, 1) rfl) rfl rfl (aw_getAs (pc' := 17) (dt_X3_valueNamed 8 (14, .getfield 9, 3) rfl) fl_Machine_9 rfl rfl (sk_26 hS) (sa_26_0 hS) (aw_iload_n (pc' := 18) (dt_X3_valueNamed 9 (17, .iload_n 1, 1) rfl) rfl rfl (aw_iald (pc' := 19) (dt_X3_valueNamed 10 (18, .iaload, 1) rfl) rfl (sk_27 hS) (vin_eq (sl_27 hS) g15) (aw_goto (tgt := 23) (dt_X3_valueNamed 11 (19, .goto 4, 3) rfl) (by decide) (aw_iret (dt_X3_valueNamed 13 (23, .ireturn, 1) rfl) rfl rfl (aw_stk (st' := [.int (zI μ 27 ((zI μ a1 x2.toNatClampNeg) - 100000).toNatClampNeg), .ref 26]) rfl (aw_inV (pc' := 116) (nc1 := 0) (ns1 := 0) (nc := nc) (ns := ns) (ls' := [some (.ref 26), some (.int (zI μ 27 ((zI μ a1 x2.toNatClampNeg) - 100000).toNatClampNeg))]) (y2 := mX3_push) (As := [.int (zI μ 27 ((zI μ a1 x2.toNatClampNeg) - 100000).toNatClampNeg)]) (rest := []) (a := 26) (dt_X3_run 59 (113, .invokevirtual 38, 3) rfl) ok_X3_push ln_Machine_38 im_X3_push se_X3_push pr_X3_push (Or.inl ⟨by decide, rfl⟩) rfl (Nat.le_of_ble_eq_true rfl) (Nat.le_of_ble_eq_true rfl) rfl rfl (sk_26 hS) (aw_aload_n (pc' := 1) (dt_X3_push 0 (0, .aload_n 0, 1) rfl) rfl rfl (aw_getI (pc' := 4) (dt_X3_push 1 (1, .getfield 18, 3) rfl) fl_Machine_18 rfl rfl (sk_26 hS) (aw_aload_n (pc' := 5) (dt_X3_push 2 (4, .aload_n 0, 1) rfl) rfl rfl (aw_getAs (pc' := 8) (dt_X3_push 3 (5, .getfield 15, 3) rfl) fl_Machine_15 rfl rfl (sk_26 hS) (sa_26_1 hS) (aw_alens (pc' := 9) (n := 200) (v := 200) (dt_X3_push 4 (8, .arraylength, 1) rfl) (by decide) (by decide) rfl (sk_28 hS) (sl_28 hS) (by decide) (aw_icmp_ge (pc' := 12) (tgt := 32) (dt_X3_push 5 (9, .if_icmp .ge 23, 3) rfl) (by decide) rfl ?_ ?_)))))))))))))
                  · intro q16
                    have h := h.1 q16
                    refine aw_ret (dt_X3_push 18 (32, .return_, 1) rfl) rfl (aw_stk (st' := []) rfl (aw_iinc (pc' := 119) (v := 1) (ls' := [some (.ref 26), some (.ref a1), some (.int (x2 + 1)), some (.int (x3 + 1)), some (.int (zI μ a1 x2.toNatClampNeg))]) (dt_X3_run 60 (116, .iinc 3 1, 3) rfl) rfl (by decide) (by decide) rfl rfl (aw_goto (tgt := 9) (dt_X3_run 61 (119, .goto (-110), 3) rfl) (by decide) (aw_drop (ls' := [some (.ref 26), some (.ref a1), some (.int (x2 + 1)), some (.int (x3 + 1)), none]) ⟨rfl, rfl, rfl, rfl, trivial⟩ ?_))))
                    exact h
                  · intro q16
                    have h := h.2 q16
                    obtain ⟨g17, h⟩ := h
                    refine aw_aload_n (pc' := 13) (dt_X3_push 6 (12, .aload_n 0, 1) rfl) rfl rfl (aw_getAs (pc' := 16) (dt_X3_push 7 (13, .getfield 15, 3) rfl) fl_Machine_15 rfl rfl (sk_26 hS) (sa_26_1 hS) (aw_aload_n (pc' := 17) (dt_X3_push 8 (16, .aload_n 0, 1) rfl) rfl rfl (aw_getI (pc' := 20) (dt_X3_push 9 (17, .getfield 18, 3) rfl) fl_Machine_18 rfl rfl (sk_26 hS) (aw_iload_n (pc' := 21) (dt_X3_push 10 (20, .iload_n 1, 1) rfl) rfl rfl (aw_iast (pc' := 22) (dt_X3_push 11 (21, .iastore, 1) rfl) rfl (sk_28 hS) (by decide) (vin_eq (sl_28 hS) g17) (aw_aload_n (pc' := 23) (dt_X3_push 12 (22, .aload_n 0, 1) rfl) rfl rfl (aw_dup (pc' := 24) (dt_X3_push 13 (23, .dup, 1) rfl) rfl rfl (aw_getI (pc' := 27) (dt_X3_push 14 (24, .getfield 18, 3) rfl) fl_Machine_18 rfl rfl (sk_26 hS.wI) (aw_iconst (pc' := 28) (v := 1) (dt_X3_push 15 (27, .iconst 1, 1) rfl) (by decide) rfl (aw_iadd (pc' := 29) (dt_X3_push 16 (28, .iadd, 1) rfl) rfl (aw_putI (pc' := 32) (dt_X3_push 17 (29, .putfield 18, 3) rfl) fl_Machine_18 rfl (by decide +kernel) rfl (sk_26 hS.wI) (aw_ret (dt_X3_push 18 (32, .return_, 1) rfl) rfl (aw_stk (st' := []) rfl (aw_iinc (pc' := 119) (v := 1) (ls' := [some (.ref 26), some (.ref a1), some (.int (x2 + 1)), some (.int (x3 + 1)), some (.int (zI μ a1 x2.toNatClampNeg))]) (dt_X3_run 60 (116, .iinc 3 1, 3) rfl) rfl (by decide) (by decide) rfl rfl (aw_goto (tgt := 9) (dt_X3_run 61 (119, .goto (-110), 3) rfl) (by decide) (aw_drop (ls' := [some (.ref 26), some (.ref a1), some (.int (x2 + 1)), some (.int (x3 + 1)), none]) ⟨rfl, rfl, rfl, rfl, trivial⟩ ?_))))))))))))))))
                    exact h
            · intro q8
              have h := h.2 q8
              refine aw_iload (pc' := 101) (dt_X3_run 52 (99, .iload 4, 2) rfl) rfl rfl (aw_goto (tgt := 113) (dt_X3_run 53 (101, .goto 12, 3) rfl) (by decide) (aw_inV (pc' := 116) (nc1 := 0) (ns1 := 0) (nc := nc) (ns := ns) (ls' := [some (.ref 26), some (.int (zI μ a1 x2.toNatClampNeg))]) (y2 := mX3_push) (As := [.int (zI μ a1 x2.toNatClampNeg)]) (rest := []) (a := 26) (dt_X3_run 59 (113, .invokevirtual 38, 3) rfl) ok_X3_push ln_Machine_38 im_X3_push se_X3_push pr_X3_push (Or.inl ⟨by decide, rfl⟩) rfl (Nat.le_of_ble_eq_true rfl) (Nat.le_of_ble_eq_true rfl) rfl rfl (sk_26 hS) (aw_aload_n (pc' := 1) (dt_X3_push 0 (0, .aload_n 0, 1) rfl) rfl rfl (aw_getI (pc' := 4) (dt_X3_push 1 (1, .getfield 18, 3) rfl) fl_Machine_18 rfl rfl (sk_26 hS) (aw_aload_n (pc' := 5) (dt_X3_push 2 (4, .aload_n 0, 1) rfl) rfl rfl (aw_getAs (pc' := 8) (dt_X3_push 3 (5, .getfield 15, 3) rfl) fl_Machine_15 rfl rfl (sk_26 hS) (sa_26_1 hS) (aw_alens (pc' := 9) (n := 200) (v := 200) (dt_X3_push 4 (8, .arraylength, 1) rfl) (by decide) (by decide) rfl (sk_28 hS) (sl_28 hS) (by decide) (aw_icmp_ge (pc' := 12) (tgt := 32) (dt_X3_push 5 (9, .if_icmp .ge 23, 3) rfl) (by decide) rfl ?_ ?_))))))))
              · intro q18
                have h := h.1 q18
                refine aw_ret (dt_X3_push 18 (32, .return_, 1) rfl) rfl (aw_stk (st' := []) rfl (aw_iinc (pc' := 119) (v := 1) (ls' := [some (.ref 26), some (.ref a1), some (.int (x2 + 1)), some (.int (x3 + 1)), some (.int (zI μ a1 x2.toNatClampNeg))]) (dt_X3_run 60 (116, .iinc 3 1, 3) rfl) rfl (by decide) (by decide) rfl rfl (aw_goto (tgt := 9) (dt_X3_run 61 (119, .goto (-110), 3) rfl) (by decide) (aw_drop (ls' := [some (.ref 26), some (.ref a1), some (.int (x2 + 1)), some (.int (x3 + 1)), none]) ⟨rfl, rfl, rfl, rfl, trivial⟩ ?_))))
                exact h
              · intro q18
                have h := h.2 q18
                obtain ⟨g19, h⟩ := h
                refine aw_aload_n (pc' := 13) (dt_X3_push 6 (12, .aload_n 0, 1) rfl) rfl rfl (aw_getAs (pc' := 16) (dt_X3_push 7 (13, .getfield 15, 3) rfl) fl_Machine_15 rfl rfl (sk_26 hS) (sa_26_1 hS) (aw_aload_n (pc' := 17) (dt_X3_push 8 (16, .aload_n 0, 1) rfl) rfl rfl (aw_getI (pc' := 20) (dt_X3_push 9 (17, .getfield 18, 3) rfl) fl_Machine_18 rfl rfl (sk_26 hS) (aw_iload_n (pc' := 21) (dt_X3_push 10 (20, .iload_n 1, 1) rfl) rfl rfl (aw_iast (pc' := 22) (dt_X3_push 11 (21, .iastore, 1) rfl) rfl (sk_28 hS) (by decide) (vin_eq (sl_28 hS) g19) (aw_aload_n (pc' := 23) (dt_X3_push 12 (22, .aload_n 0, 1) rfl) rfl rfl (aw_dup (pc' := 24) (dt_X3_push 13 (23, .dup, 1) rfl) rfl rfl (aw_getI (pc' := 27) (dt_X3_push 14 (24, .getfield 18, 3) rfl) fl_Machine_18 rfl rfl (sk_26 hS.wI) (aw_iconst (pc' := 28) (v := 1) (dt_X3_push 15 (27, .iconst 1, 1) rfl) (by decide) rfl (aw_iadd (pc' := 29) (dt_X3_push 16 (28, .iadd, 1) rfl) rfl (aw_putI (pc' := 32) (dt_X3_push 17 (29, .putfield 18, 3) rfl) fl_Machine_18 rfl (by decide +kernel) rfl (sk_26 hS.wI) (aw_ret (dt_X3_push 18 (32, .return_, 1) rfl) rfl (aw_stk (st' := []) rfl (aw_iinc (pc' := 119) (v := 1) (ls' := [some (.ref 26), some (.ref a1), some (.int (x2 + 1)), some (.int (x3 + 1)), some (.int (zI μ a1 x2.toNatClampNeg))]) (dt_X3_run 60 (116, .iinc 3 1, 3) rfl) rfl (by decide) (by decide) rfl rfl (aw_goto (tgt := 9) (dt_X3_run 61 (119, .goto (-110), 3) rfl) (by decide) (aw_drop (ls' := [some (.ref 26), some (.ref a1), some (.int (x2 + 1)), some (.int (x3 + 1)), none]) ⟨rfl, rfl, rfl, rfl, trivial⟩ ?_))))))))))))))))
                exact h
          · intro q7
            have h := h.2 q7
            refine aw_aload_n (pc' := 83) (dt_X3_run 44 (82, .aload_n 0, 1) rfl) rfl rfl (aw_iload (pc' := 85) (dt_X3_run 45 (83, .iload 4, 2) rfl) rfl rfl (aw_callV0 (pc' := 88) (nc := nc) (ns := ns) (y2 := mX3_work) (As := [.int (zI μ a1 x2.toNatClampNeg)]) (rest := []) (a := 26) (dt_X3_run 46 (85, .invokevirtual 30, 3) rfl) ok_X3_work ln_Machine_30 im_X3_work se_X3_work pr_X3_work (Or.inl ⟨by decide, rfl⟩) rfl (Nat.le_of_ble_eq_true rfl) (Nat.le_of_ble_eq_true rfl) rfl (sk_26 hS) h ?_))
            rintro v μ20 ⟨rfl, hS21, h⟩
            refine aw_stk (st' := []) rfl ?_
            refine aw_goto (tgt := 116) (dt_X3_run 47 (88, .goto 28, 3) rfl) (by decide) (aw_iinc (pc' := 119) (v := 1) (ls' := [some (.ref 26), some (.ref a1), some (.int (x2 + 1)), some (.int (x3 + 1)), some (.int (zI μ a1 x2.toNatClampNeg))]) (dt_X3_run 60 (116, .iinc 3 1, 3) rfl) rfl (by decide) (by decide) rfl rfl (aw_goto (tgt := 9) (dt_X3_run 61 (119, .goto (-110), 3) rfl) (by decide) (aw_drop (ls' := [some (.ref 26), some (.ref a1), some (.int (x2 + 1)), some (.int (x3 + 1)), none]) ⟨rfl, rfl, rfl, rfl, trivial⟩ ?_)))
            exact h
        · intro q6
          have h := h.2 q6
          refine aw_aload_n (pc' := 67) (dt_X3_run 36 (66, .aload_n 0, 1) rfl) rfl rfl (aw_sipush (pc' := 70) (v := (-500)) (dt_X3_run 37 (67, .sipush (-500), 3) rfl) (by decide) rfl (aw_iload (pc' := 72) (dt_X3_run 38 (70, .iload 4, 2) rfl) rfl rfl (aw_isub (pc' := 73) (dt_X3_run 39 (72, .isub, 1) rfl) rfl (aw_inV (pc' := 76) (nc1 := 0) (ns1 := 0) (nc := nc) (ns := ns) (ls' := [some (.ref 26), some (.int ((-500) - (zI μ a1 x2.toNatClampNeg)))]) (y2 := mX3_given) (As := [.int ((-500) - (zI μ a1 x2.toNatClampNeg))]) (rest := []) (a := 26) (dt_X3_run 40 (73, .invokevirtual 26, 3) rfl) ok_X3_given ln_Machine_26 im_X3_given se_X3_given pr_X3_given (Or.inl ⟨by decide, rfl⟩) rfl (Nat.le_of_ble_eq_true rfl) (Nat.le_of_ble_eq_true rfl) rfl rfl (sk_26 hS) (aw_iload_n (pc' := 1) (dt_X3_given 0 (0, .iload_n 1, 1) rfl) rfl rfl (aw_iconst (pc' := 2) (v := 3) (dt_X3_given 1 (1, .iconst 3, 1) rfl) (by decide) rfl (aw_icmp_ge (pc' := 5) (tgt := 22) (dt_X3_given 2 (2, .if_icmp .ge 20, 3) rfl) (by decide) rfl ?_ ?_)))))))
          · intro q22
            have h := h.1 q22
            refine aw_sipush (pc' := 25) (v := 1000) (dt_X3_given 13 (22, .sipush 1000, 3) rfl) (by decide) rfl (aw_iload_n (pc' := 26) (dt_X3_given 14 (25, .iload_n 1, 1) rfl) rfl rfl (aw_imul (pc' := 27) (dt_X3_given 15 (26, .imul, 1) rfl) rfl (aw_iconst (pc' := 28) (v := 0) (dt_X3_given 16 (27, .iconst 0, 1) rfl) (by decide) rfl (aw_bipush (pc' := 30) (v := 100) (dt_X3_given 17 (28, .bipush 100, 2) rfl) (by decide) rfl (aw_aload_n (pc' := 31) (dt_X3_given 18 (30, .aload_n 0, 1) rfl) rfl rfl (aw_inV (pc' := 34) (nc1 := 0) (ns1 := 0) (nc := 0) (ns := 0) (ls' := [some (.ref 26)]) (y2 := mX3_pop) (As := []) (rest := [.int 100, .int 0, .int (1000 * ((-500) - (zI μ a1 x2.toNatClampNeg)))]) (a := 26) (dt_X3_given 19 (31, .invokevirtual 22, 3) rfl) ok_X3_pop ln_Machine_22 im_X3_pop se_X3_pop pr_X3_pop (Or.inl ⟨by decide, rfl⟩) rfl (Nat.le_of_ble_eq_true rfl) (Nat.le_of_ble_eq_true rfl) rfl rfl (sk_26 hS) (aw_aload_n (pc' := 1) (dt_X3_pop 0 (0, .aload_n 0, 1) rfl) rfl rfl (aw_getI (pc' := 4) (dt_X3_pop 1 (1, .getfield 18, 3) rfl) fl_Machine_18 rfl rfl (sk_26 hS) (aw_if_gt (pc' := 7) (tgt := 9) (dt_X3_pop 2 (4, .ifCond .gt 5, 3) rfl) (by decide) rfl ?_ ?_)))))))))
            · intro q23
              have h := h.1 q23
              obtain ⟨g24, h⟩ := h
              refine aw_aload_n (pc' := 10) (dt_X3_pop 5 (9, .aload_n 0, 1) rfl) rfl rfl (aw_dup (pc' := 11) (dt_X3_pop 6 (10, .dup, 1) rfl) rfl rfl (aw_getI (pc' := 14) (dt_X3_pop 7 (11, .getfield 18, 3) rfl) fl_Machine_18 rfl rfl (sk_26 hS) (aw_iconst (pc' := 15) (v := 1) (dt_X3_pop 8 (14, .iconst 1, 1) rfl) (by decide) rfl (aw_isub (pc' := 16) (dt_X3_pop 9 (15, .isub, 1) rfl) rfl (aw_putI (pc' := 19) (dt_X3_pop 10 (16, .putfield 18, 3) rfl) fl_Machine_18 rfl (by decide +kernel) rfl (sk_26 hS) (aw_aload_n (pc' := 20) (dt_X3_pop 11 (19, .aload_n 0, 1) rfl) rfl rfl (aw_getAs (pc' := 23) (dt_X3_pop 12 (20, .getfield 15, 3) rfl) fl_Machine_15 rfl rfl (sk_26 hS.wI) (sa_26_1 hS.wI) (aw_aload_n (pc' := 24) (dt_X3_pop 13 (23, .aload_n 0, 1) rfl) rfl rfl (aw_getI (pc' := 27) (dt_X3_pop 14 (24, .getfield 18, 3) rfl) fl_Machine_18 rfl rfl (sk_26 hS.wI) (aw_iald (pc' := 28) (dt_X3_pop 15 (27, .iaload, 1) rfl) rfl (sk_28 hS.wI) (vin_eq (sl_28 hS.wI) g24) (aw_iret (dt_X3_pop 16 (28, .ireturn, 1) rfl) rfl rfl (aw_stk (st' := [.int (zI (sI μ 26 2 ((zI μ 26 2) - 1)) 28 (zI (sI μ 26 2 ((zI μ 26 2) - 1)) 26 2).toNatClampNeg), .int 100, .int 0, .int (1000 * ((-500) - (zI μ a1 x2.toNatClampNeg)))]) rfl (aw_mmin (pc' := 37) (dt_X3_given 20 (34, .invokestatic 45, 3) rfl) mm_Machine_45 (Nat.le_of_ble_eq_true rfl) rfl (aw_mmax (pc' := 40) (dt_X3_given 21 (37, .invokestatic 51, 3) rfl) mm_Machine_51 (Nat.le_of_ble_eq_true rfl) rfl (aw_iadd (pc' := 41) (dt_X3_given 22 (40, .iadd, 1) rfl) rfl (aw_iret (dt_X3_given 23 (41, .ireturn, 1) rfl) rfl rfl (aw_stk (st' := [.int ((1000 * ((-500) - (zI μ a1 x2.toNatClampNeg))) + (if (0 : Int32) < (if (zI (sI μ 26 2 ((zI μ 26 2) - 1)) 28 (zI (sI μ 26 2 ((zI μ 26 2) - 1)) 26 2).toNatClampNeg) < 100 then (zI (sI μ 26 2 ((zI μ 26 2) - 1)) 28 (zI (sI μ 26 2 ((zI μ 26 2) - 1)) 26 2).toNatClampNeg) else 100) then (if (zI (sI μ 26 2 ((zI μ 26 2) - 1)) 28 (zI (sI μ 26 2 ((zI μ 26 2) - 1)) 26 2).toNatClampNeg) < 100 then (zI (sI μ 26 2 ((zI μ 26 2) - 1)) 28 (zI (sI μ 26 2 ((zI μ 26 2) - 1)) 26 2).toNatClampNeg) else 100) else 0))]) rfl (aw_iret (dt_X3_run 41 (76, .ireturn, 1) rfl) rfl rfl ?_))))))))))))))))))
              exact h
            · intro q23
              have h := h.2 q23
              refine aw_iconst (pc' := 8) (v := 0) (dt_X3_pop 3 (7, .iconst 0, 1) rfl) (by decide) rfl (aw_iret (dt_X3_pop 4 (8, .ireturn, 1) rfl) rfl rfl (aw_stk (st' := [.int 0, .int 100, .int 0, .int (1000 * ((-500) - (zI μ a1 x2.toNatClampNeg)))]) rfl (aw_mmin (pc' := 37) (dt_X3_given 20 (34, .invokestatic 45, 3) rfl) mm_Machine_45 (Nat.le_of_ble_eq_true rfl) rfl (aw_mmax (pc' := 40) (dt_X3_given 21 (37, .invokestatic 51, 3) rfl) mm_Machine_51 (Nat.le_of_ble_eq_true rfl) rfl (aw_iadd (pc' := 41) (dt_X3_given 22 (40, .iadd, 1) rfl) rfl (aw_iret (dt_X3_given 23 (41, .ireturn, 1) rfl) rfl rfl (aw_stk (st' := [.int ((1000 * ((-500) - (zI μ a1 x2.toNatClampNeg))) + (if (0 : Int32) < (if (0 : Int32) < 100 then 0 else 100) then (if (0 : Int32) < 100 then 0 else 100) else 0))]) rfl (aw_iret (dt_X3_run 41 (76, .ireturn, 1) rfl) rfl rfl ?_))))))))
              exact h
          · intro q22
            have h := h.2 q22
            refine aw_iload_n (pc' := 6) (dt_X3_given 3 (5, .iload_n 1, 1) rfl) rfl rfl (aw_if_ne (pc' := 9) (tgt := 13) (dt_X3_given 4 (6, .ifCond .ne 7, 3) rfl) (by decide) rfl ?_ ?_)
            · intro q25
              have h := h.1 q25
              refine aw_sipush (pc' := 16) (v := 1000) (dt_X3_given 7 (13, .sipush 1000, 3) rfl) (by decide) rfl (aw_iload_n (pc' := 17) (dt_X3_given 8 (16, .iload_n 1, 1) rfl) rfl rfl (aw_imul (pc' := 18) (dt_X3_given 9 (17, .imul, 1) rfl) rfl (aw_bipush (pc' := 20) (v := 100) (dt_X3_given 10 (18, .bipush 100, 2) rfl) (by decide) rfl (aw_iadd (pc' := 21) (dt_X3_given 11 (20, .iadd, 1) rfl) rfl (aw_iret (dt_X3_given 12 (21, .ireturn, 1) rfl) rfl rfl (aw_stk (st' := [.int ((1000 * ((-500) - (zI μ a1 x2.toNatClampNeg))) + 100)]) rfl (aw_iret (dt_X3_run 41 (76, .ireturn, 1) rfl) rfl rfl ?_)))))))
              exact h
            · intro q25
              have h := h.2 q25
              refine aw_iconst (pc' := 10) (v := 0) (dt_X3_given 5 (9, .iconst 0, 1) rfl) (by decide) rfl (aw_goto (tgt := 21) (dt_X3_given 6 (10, .goto 11, 3) rfl) (by decide) (aw_iret (dt_X3_given 12 (21, .ireturn, 1) rfl) rfl rfl (aw_stk (st' := [.int 0]) rfl (aw_iret (dt_X3_run 41 (76, .ireturn, 1) rfl) rfl rfl ?_))))
              exact h
      · intro q5
        have h := h.2 q5
        refine aw_aload_n (pc' := 38) (dt_X3_run 23 (37, .aload_n 0, 1) rfl) rfl rfl (aw_inV (pc' := 41) (nc1 := 0) (ns1 := 0) (nc := nc) (ns := ns) (ls' := [some (.ref 26)]) (y2 := mX3_pop) (As := []) (rest := []) (a := 26) (dt_X3_run 24 (38, .invokevirtual 22, 3) rfl) ok_X3_pop ln_Machine_22 im_X3_pop se_X3_pop pr_X3_pop (Or.inl ⟨by decide, rfl⟩) rfl (Nat.le_of_ble_eq_true rfl) (Nat.le_of_ble_eq_true rfl) rfl rfl (sk_26 hS) (aw_aload_n (pc' := 1) (dt_X3_pop 0 (0, .aload_n 0, 1) rfl) rfl rfl (aw_getI (pc' := 4) (dt_X3_pop 1 (1, .getfield 18, 3) rfl) fl_Machine_18 rfl rfl (sk_26 hS) (aw_if_gt (pc' := 7) (tgt := 9) (dt_X3_pop 2 (4, .ifCond .gt 5, 3) rfl) (by decide) rfl ?_ ?_))))
        · intro q26
          have h := h.1 q26
          obtain ⟨g27, h⟩ := h
          refine aw_aload_n (pc' := 10) (dt_X3_pop 5 (9, .aload_n 0, 1) rfl) rfl rfl (aw_dup (pc' := 11) (dt_X3_pop 6 (10, .dup, 1) rfl) rfl rfl (aw_getI (pc' := 14) (dt_X3_pop 7 (11, .getfield 18, 3) rfl) fl_Machine_18 rfl rfl (sk_26 hS) (aw_iconst (pc' := 15) (v := 1) (dt_X3_pop 8 (14, .iconst 1, 1) rfl) (by decide) rfl (aw_isub (pc' := 16) (dt_X3_pop 9 (15, .isub, 1) rfl) rfl (aw_putI (pc' := 19) (dt_X3_pop 10 (16, .putfield 18, 3) rfl) fl_Machine_18 rfl (by decide +kernel) rfl (sk_26 hS) (aw_aload_n (pc' := 20) (dt_X3_pop 11 (19, .aload_n 0, 1) rfl) rfl rfl (aw_getAs (pc' := 23) (dt_X3_pop 12 (20, .getfield 15, 3) rfl) fl_Machine_15 rfl rfl (sk_26 hS.wI) (sa_26_1 hS.wI) (aw_aload_n (pc' := 24) (dt_X3_pop 13 (23, .aload_n 0, 1) rfl) rfl rfl (aw_getI (pc' := 27) (dt_X3_pop 14 (24, .getfield 18, 3) rfl) fl_Machine_18 rfl rfl (sk_26 hS.wI) (aw_iald (pc' := 28) (dt_X3_pop 15 (27, .iaload, 1) rfl) rfl (sk_28 hS.wI) (vin_eq (sl_28 hS.wI) g27) (aw_iret (dt_X3_pop 16 (28, .ireturn, 1) rfl) rfl rfl (aw_stk (st' := [.int (zI (sI μ 26 2 ((zI μ 26 2) - 1)) 28 (zI (sI μ 26 2 ((zI μ 26 2) - 1)) 26 2).toNatClampNeg)]) rfl (aw_if_ne (pc' := 44) (tgt := 53) (dt_X3_run 25 (41, .ifCond .ne 12, 3) rfl) (by decide) rfl ?_ ?_)))))))))))))
          · intro q28
            have h := h.1 q28
            refine aw_iload_n (pc' := 54) (dt_X3_run 30 (53, .iload_n 2, 1) rfl) rfl rfl (aw_istore_n (pc' := 55) (ls' := [some (.ref 26), some (.ref a1), some (.int (x2 + 1)), some (.int x3), some (.int (zI μ a1 x2.toNatClampNeg))]) (dt_X3_run 31 (54, .istore_n 2, 1) rfl) (by decide) rfl rfl (aw_goto (tgt := 116) (dt_X3_run 32 (55, .goto 61, 3) rfl) (by decide) (aw_iinc (pc' := 119) (v := 1) (ls' := [some (.ref 26), some (.ref a1), some (.int (x2 + 1)), some (.int (x3 + 1)), some (.int (zI μ a1 x2.toNatClampNeg))]) (dt_X3_run 60 (116, .iinc 3 1, 3) rfl) rfl (by decide) (by decide) rfl rfl (aw_goto (tgt := 9) (dt_X3_run 61 (119, .goto (-110), 3) rfl) (by decide) (aw_drop (ls' := [some (.ref 26), some (.ref a1), some (.int (x2 + 1)), some (.int (x3 + 1)), none]) ⟨rfl, rfl, rfl, rfl, trivial⟩ ?_)))))
            exact h
          · intro q28
            have h := h.2 q28
            refine aw_sipush (pc' := 47) (v := (-1000)) (dt_X3_run 26 (44, .sipush (-1000), 3) rfl) (by decide) rfl (aw_iload (pc' := 49) (dt_X3_run 27 (47, .iload 4, 2) rfl) rfl rfl (aw_isub (pc' := 50) (dt_X3_run 28 (49, .isub, 1) rfl) rfl (aw_goto (tgt := 54) (dt_X3_run 29 (50, .goto 4, 3) rfl) (by decide) (aw_istore_n (pc' := 55) (ls' := [some (.ref 26), some (.ref a1), some (.int ((-1000) - (zI μ a1 x2.toNatClampNeg))), some (.int x3), some (.int (zI μ a1 x2.toNatClampNeg))]) (dt_X3_run 31 (54, .istore_n 2, 1) rfl) (by decide) rfl rfl (aw_goto (tgt := 116) (dt_X3_run 32 (55, .goto 61, 3) rfl) (by decide) (aw_iinc (pc' := 119) (v := 1) (ls' := [some (.ref 26), some (.ref a1), some (.int ((-1000) - (zI μ a1 x2.toNatClampNeg))), some (.int (x3 + 1)), some (.int (zI μ a1 x2.toNatClampNeg))]) (dt_X3_run 60 (116, .iinc 3 1, 3) rfl) rfl (by decide) (by decide) rfl rfl (aw_goto (tgt := 9) (dt_X3_run 61 (119, .goto (-110), 3) rfl) (by decide) (aw_drop (ls' := [some (.ref 26), some (.ref a1), some (.int ((-1000) - (zI μ a1 x2.toNatClampNeg))), some (.int (x3 + 1)), none]) ⟨rfl, rfl, rfl, rfl, trivial⟩ ?_))))))))
            exact h
        · intro q26
          have h := h.2 q26
          refine aw_iconst (pc' := 8) (v := 0) (dt_X3_pop 3 (7, .iconst 0, 1) rfl) (by decide) rfl (aw_iret (dt_X3_pop 4 (8, .ireturn, 1) rfl) rfl rfl (aw_stk (st' := [.int 0]) rfl (aw_if_ne_F (pc' := 44) (tgt := 53) (dt_X3_run 25 (41, .ifCond .ne 12, 3) rfl) (by decide) rfl (by decide) (aw_sipush (pc' := 47) (v := (-1000)) (dt_X3_run 26 (44, .sipush (-1000), 3) rfl) (by decide) rfl (aw_iload (pc' := 49) (dt_X3_run 27 (47, .iload 4, 2) rfl) rfl rfl (aw_isub (pc' := 50) (dt_X3_run 28 (49, .isub, 1) rfl) rfl (aw_goto (tgt := 54) (dt_X3_run 29 (50, .goto 4, 3) rfl) (by decide) (aw_istore_n (pc' := 55) (ls' := [some (.ref 26), some (.ref a1), some (.int ((-1000) - (zI μ a1 x2.toNatClampNeg))), some (.int x3), some (.int (zI μ a1 x2.toNatClampNeg))]) (dt_X3_run 31 (54, .istore_n 2, 1) rfl) (by decide) rfl rfl (aw_goto (tgt := 116) (dt_X3_run 32 (55, .goto 61, 3) rfl) (by decide) (aw_iinc (pc' := 119) (v := 1) (ls' := [some (.ref 26), some (.ref a1), some (.int ((-1000) - (zI μ a1 x2.toNatClampNeg))), some (.int (x3 + 1)), some (.int (zI μ a1 x2.toNatClampNeg))]) (dt_X3_run 60 (116, .iinc 3 1, 3) rfl) rfl (by decide) (by decide) rfl rfl (aw_goto (tgt := 9) (dt_X3_run 61 (119, .goto (-110), 3) rfl) (by decide) (aw_drop (ls' := [some (.ref 26), some (.ref a1), some (.int ((-1000) - (zI μ a1 x2.toNatClampNeg))), some (.int (x3 + 1)), none]) ⟨rfl, rfl, rfl, rfl, trivial⟩ ?_))))))))))))
          exact h

theorem t_X3_valueOf {E : ZE} {l : Launch} {d nc ns : Nat} {a1 : Nat} {μ : ZM} {K : Option Value → ZM → Prop} (hS : Stat μ) (h :
  AW E l (d + 3) 0 0 mX3_run 0 (zargs 5 [.ref 26, .ref a1]) [] μ (fun v μ1 => ∃ r3 : Int32, v = some (.int r3) ∧ Stat μ1 ∧ 
    (0 < (zI μ1 26 2) →
      (vp_in (zI (sI μ1 26 2 ((zI μ1 26 2) - 1)) 26 2) 200) ∧
      K (some (.int (zI (sI μ1 26 2 ((zI μ1 26 2) - 1)) 28 (zI (sI μ1 26 2 ((zI μ1 26 2) - 1)) 26 2).toNatClampNeg))) (sI μ1 26 2 ((zI μ1 26 2) - 1))) ∧
    (¬ 0 < (zI μ1 26 2) →
      K (some (.int 0)) μ1))) : AW E l (d + 4) nc ns mX3_valueOf 0 [some (.ref 26), some (.ref a1)] [] μ K := by
  refine aw_aload_n (pc' := 1) (dt_X3_valueOf 0 (0, .aload_n 0, 1) rfl) rfl rfl (aw_aload_n (pc' := 2) (dt_X3_valueOf 1 (1, .aload_n 1, 1) rfl) rfl rfl (aw_callV0 (pc' := 5) (nc := nc) (ns := ns) (y2 := mX3_run) (As := [.ref a1]) (rest := []) (a := 26) (dt_X3_valueOf 2 (2, .invokevirtual 41, 3) rfl) ok_X3_run ln_Machine_41 im_X3_run se_X3_run pr_X3_run (Or.inl ⟨by decide, rfl⟩) rfl (Nat.le_of_ble_eq_true rfl) (Nat.le_of_ble_eq_true rfl) rfl (sk_26 hS) h ?_))
  rintro v μ1 ⟨r3, rfl, hS2, h⟩
  refine aw_stk (st' := [.int r3]) rfl ?_
  refine aw_pop (pc' := 6) (dt_X3_valueOf 3 (5, .pop, 1) rfl) rfl rfl (aw_aload_n (pc' := 7) (dt_X3_valueOf 4 (6, .aload_n 0, 1) rfl) rfl rfl (aw_inV (pc' := 10) (nc1 := 0) (ns1 := 0) (nc := nc) (ns := ns) (ls' := [some (.ref 26)]) (y2 := mX3_pop) (As := []) (rest := []) (a := 26) (dt_X3_valueOf 5 (7, .invokevirtual 22, 3) rfl) ok_X3_pop ln_Machine_22 im_X3_pop se_X3_pop pr_X3_pop (Or.inl ⟨by decide, rfl⟩) rfl (Nat.le_of_ble_eq_true rfl) (Nat.le_of_ble_eq_true rfl) rfl rfl (sk_26 hS2) (aw_aload_n (pc' := 1) (dt_X3_pop 0 (0, .aload_n 0, 1) rfl) rfl rfl (aw_getI (pc' := 4) (dt_X3_pop 1 (1, .getfield 18, 3) rfl) fl_Machine_18 rfl rfl (sk_26 hS2) (aw_if_gt (pc' := 7) (tgt := 9) (dt_X3_pop 2 (4, .ifCond .gt 5, 3) rfl) (by decide) rfl ?_ ?_)))))
  · intro q4
    have h := h.1 q4
    obtain ⟨g5, h⟩ := h
    refine aw_aload_n (pc' := 10) (dt_X3_pop 5 (9, .aload_n 0, 1) rfl) rfl rfl (aw_dup (pc' := 11) (dt_X3_pop 6 (10, .dup, 1) rfl) rfl rfl (aw_getI (pc' := 14) (dt_X3_pop 7 (11, .getfield 18, 3) rfl) fl_Machine_18 rfl rfl (sk_26 hS2) (aw_iconst (pc' := 15) (v := 1) (dt_X3_pop 8 (14, .iconst 1, 1) rfl) (by decide) rfl (aw_isub (pc' := 16) (dt_X3_pop 9 (15, .isub, 1) rfl) rfl (aw_putI (pc' := 19) (dt_X3_pop 10 (16, .putfield 18, 3) rfl) fl_Machine_18 rfl (by decide +kernel) rfl (sk_26 hS2) (aw_aload_n (pc' := 20) (dt_X3_pop 11 (19, .aload_n 0, 1) rfl) rfl rfl (aw_getAs (pc' := 23) (dt_X3_pop 12 (20, .getfield 15, 3) rfl) fl_Machine_15 rfl rfl (sk_26 hS2.wI) (sa_26_1 hS2.wI) (aw_aload_n (pc' := 24) (dt_X3_pop 13 (23, .aload_n 0, 1) rfl) rfl rfl (aw_getI (pc' := 27) (dt_X3_pop 14 (24, .getfield 18, 3) rfl) fl_Machine_18 rfl rfl (sk_26 hS2.wI) (aw_iald (pc' := 28) (dt_X3_pop 15 (27, .iaload, 1) rfl) rfl (sk_28 hS2.wI) (vin_eq (sl_28 hS2.wI) g5) (aw_iret (dt_X3_pop 16 (28, .ireturn, 1) rfl) rfl rfl (aw_stk (st' := [.int (zI (sI μ1 26 2 ((zI μ1 26 2) - 1)) 28 (zI (sI μ1 26 2 ((zI μ1 26 2) - 1)) 26 2).toNatClampNeg)]) rfl (aw_iret (dt_X3_valueOf 6 (10, .ireturn, 1) rfl) rfl rfl ?_)))))))))))))
    exact h
  · intro q4
    have h := h.2 q4
    refine aw_iconst (pc' := 8) (v := 0) (dt_X3_pop 3 (7, .iconst 0, 1) rfl) (by decide) rfl (aw_iret (dt_X3_pop 4 (8, .ireturn, 1) rfl) rfl rfl (aw_stk (st' := [.int 0]) rfl (aw_iret (dt_X3_valueOf 6 (10, .ireturn, 1) rfl) rfl rfl ?_)))
    exact h

theorem t_X3_work {E : ZE} {l : Launch} {d nc ns : Nat} {x1 : Int32} {μ : ZM} {K : Option Value → ZM → Prop} (hS : Stat μ) (h :
  (0 < (zI μ 26 2) →
    (vp_in (zI (sI μ 26 2 ((zI μ 26 2) - 1)) 26 2) 200) ∧
    (¬ x1 = (-1) →
      (0 < (zI (sI μ 26 2 ((zI μ 26 2) - 1)) 26 2) →
        (vp_in (zI (sI (sI μ 26 2 ((zI μ 26 2) - 1)) 26 2 ((zI (sI μ 26 2 ((zI μ 26 2) - 1)) 26 2) - 1)) 26 2) 200) ∧
        AW E l (d + 1) 0 0 mX3_combined 0 (zargs 3 [.int x1, .int (zI (sI (sI μ 26 2 ((zI μ 26 2) - 1)) 26 2 ((zI (sI μ 26 2 ((zI μ 26 2) - 1)) 26 2) - 1)) 28 (zI (sI (sI μ 26 2 ((zI μ 26 2) - 1)) 26 2 ((zI (sI μ 26 2 ((zI μ 26 2) - 1)) 26 2) - 1)) 26 2).toNatClampNeg), .int (zI (sI μ 26 2 ((zI μ 26 2) - 1)) 28 (zI (sI μ 26 2 ((zI μ 26 2) - 1)) 26 2).toNatClampNeg)]) [] (sI (sI μ 26 2 ((zI μ 26 2) - 1)) 26 2 ((zI (sI μ 26 2 ((zI μ 26 2) - 1)) 26 2) - 1)) (fun v μ6 => ∃ r8 : Int32, v = some (.int r8) ∧ Stat μ6 ∧ 
          (200 ≤ (zI μ6 26 2) →
            K none μ6) ∧
          (¬ 200 ≤ (zI μ6 26 2) →
            (vp_in (zI μ6 26 2) 200) ∧
            K none (sI (sI μ6 28 (zI μ6 26 2).toNatClampNeg r8) 26 2 ((zI (sI μ6 28 (zI μ6 26 2).toNatClampNeg r8) 26 2) + 1))))) ∧
      (¬ 0 < (zI (sI μ 26 2 ((zI μ 26 2) - 1)) 26 2) →
        AW E l (d + 1) 0 0 mX3_combined 0 (zargs 3 [.int x1, .int 0, .int (zI (sI μ 26 2 ((zI μ 26 2) - 1)) 28 (zI (sI μ 26 2 ((zI μ 26 2) - 1)) 26 2).toNatClampNeg)]) [] (sI μ 26 2 ((zI μ 26 2) - 1)) (fun v μ11 => ∃ r13 : Int32, v = some (.int r13) ∧ Stat μ11 ∧ 
          (200 ≤ (zI μ11 26 2) →
            K none μ11) ∧
          (¬ 200 ≤ (zI μ11 26 2) →
            (vp_in (zI μ11 26 2) 200) ∧
            K none (sI (sI μ11 28 (zI μ11 26 2).toNatClampNeg r13) 26 2 ((zI (sI μ11 28 (zI μ11 26 2).toNatClampNeg r13) 26 2) + 1)))))) ∧
    (x1 = (-1) →
      (¬ (zI (sI μ 26 2 ((zI μ 26 2) - 1)) 28 (zI (sI μ 26 2 ((zI μ 26 2) - 1)) 26 2).toNatClampNeg) = 0 →
        (200 ≤ (zI (sI μ 26 2 ((zI μ 26 2) - 1)) 26 2) →
          K none (sI μ 26 2 ((zI μ 26 2) - 1))) ∧
        (¬ 200 ≤ (zI (sI μ 26 2 ((zI μ 26 2) - 1)) 26 2) →
          (vp_in (zI (sI μ 26 2 ((zI μ 26 2) - 1)) 26 2) 200) ∧
          K none (sI (sI (sI μ 26 2 ((zI μ 26 2) - 1)) 28 (zI (sI μ 26 2 ((zI μ 26 2) - 1)) 26 2).toNatClampNeg 0) 26 2 ((zI (sI (sI μ 26 2 ((zI μ 26 2) - 1)) 28 (zI (sI μ 26 2 ((zI μ 26 2) - 1)) 26 2).toNatClampNeg 0) 26 2) + 1)))) ∧
      ((zI (sI μ 26 2 ((zI μ 26 2) - 1)) 28 (zI (sI μ 26 2 ((zI μ 26 2) - 1)) 26 2).toNatClampNeg) = 0 →
        (200 ≤ (zI (sI μ 26 2 ((zI μ 26 2) - 1)) 26 2) →
          K none (sI μ 26 2 ((zI μ 26 2) - 1))) ∧
        (¬ 200 ≤ (zI (sI μ 26 2 ((zI μ 26 2) - 1)) 26 2) →
          (vp_in (zI (sI μ 26 2 ((zI μ 26 2) - 1)) 26 2) 200) ∧
          K none (sI (sI (sI μ 26 2 ((zI μ 26 2) - 1)) 28 (zI (sI μ 26 2 ((zI μ 26 2) - 1)) 26 2).toNatClampNeg 1) 26 2 ((zI (sI (sI μ 26 2 ((zI μ 26 2) - 1)) 28 (zI (sI μ 26 2 ((zI μ 26 2) - 1)) 26 2).toNatClampNeg 1) 26 2) + 1)))))) ∧
  (¬ 0 < (zI μ 26 2) →
    (¬ x1 = (-1) →
      (0 < (zI μ 26 2) →
        (vp_in (zI (sI μ 26 2 ((zI μ 26 2) - 1)) 26 2) 200) ∧
        AW E l (d + 1) 0 0 mX3_combined 0 (zargs 3 [.int x1, .int (zI (sI μ 26 2 ((zI μ 26 2) - 1)) 28 (zI (sI μ 26 2 ((zI μ 26 2) - 1)) 26 2).toNatClampNeg), .int 0]) [] (sI μ 26 2 ((zI μ 26 2) - 1)) (fun v μ24 => ∃ r26 : Int32, v = some (.int r26) ∧ Stat μ24 ∧ 
          (200 ≤ (zI μ24 26 2) →
            K none μ24) ∧
          (¬ 200 ≤ (zI μ24 26 2) →
            (vp_in (zI μ24 26 2) 200) ∧
            K none (sI (sI μ24 28 (zI μ24 26 2).toNatClampNeg r26) 26 2 ((zI (sI μ24 28 (zI μ24 26 2).toNatClampNeg r26) 26 2) + 1))))) ∧
      (¬ 0 < (zI μ 26 2) →
        AW E l (d + 1) 0 0 mX3_combined 0 (zargs 3 [.int x1, .int 0, .int 0]) [] μ (fun v μ29 => ∃ r31 : Int32, v = some (.int r31) ∧ Stat μ29 ∧ 
          (200 ≤ (zI μ29 26 2) →
            K none μ29) ∧
          (¬ 200 ≤ (zI μ29 26 2) →
            (vp_in (zI μ29 26 2) 200) ∧
            K none (sI (sI μ29 28 (zI μ29 26 2).toNatClampNeg r31) 26 2 ((zI (sI μ29 28 (zI μ29 26 2).toNatClampNeg r31) 26 2) + 1)))))) ∧
    (x1 = (-1) →
      (200 ≤ (zI μ 26 2) →
        K none μ) ∧
      (¬ 200 ≤ (zI μ 26 2) →
        (vp_in (zI μ 26 2) 200) ∧
        K none (sI (sI μ 28 (zI μ 26 2).toNatClampNeg 1) 26 2 ((zI (sI μ 28 (zI μ 26 2).toNatClampNeg 1) 26 2) + 1)))))) : AW E l (d + 2) nc ns mX3_work 0 [some (.ref 26), some (.int x1), none] [] μ K := by
  refine aw_aload_n (pc' := 1) (dt_X3_work 0 (0, .aload_n 0, 1) rfl) rfl rfl (aw_inV (pc' := 4) (nc1 := 0) (ns1 := 0) (nc := nc) (ns := ns) (ls' := [some (.ref 26)]) (y2 := mX3_pop) (As := []) (rest := []) (a := 26) (dt_X3_work 1 (1, .invokevirtual 22, 3) rfl) ok_X3_pop ln_Machine_22 im_X3_pop se_X3_pop pr_X3_pop (Or.inl ⟨by decide, rfl⟩) rfl (Nat.le_of_ble_eq_true rfl) (Nat.le_of_ble_eq_true rfl) rfl rfl (sk_26 hS) (aw_aload_n (pc' := 1) (dt_X3_pop 0 (0, .aload_n 0, 1) rfl) rfl rfl (aw_getI (pc' := 4) (dt_X3_pop 1 (1, .getfield 18, 3) rfl) fl_Machine_18 rfl rfl (sk_26 hS) (aw_if_gt (pc' := 7) (tgt := 9) (dt_X3_pop 2 (4, .ifCond .gt 5, 3) rfl) (by decide) rfl ?_ ?_))))
  · intro q1
    have h := h.1 q1
    obtain ⟨g2, h⟩ := h
    refine aw_aload_n (pc' := 10) (dt_X3_pop 5 (9, .aload_n 0, 1) rfl) rfl rfl (aw_dup (pc' := 11) (dt_X3_pop 6 (10, .dup, 1) rfl) rfl rfl (aw_getI (pc' := 14) (dt_X3_pop 7 (11, .getfield 18, 3) rfl) fl_Machine_18 rfl rfl (sk_26 hS) (aw_iconst (pc' := 15) (v := 1) (dt_X3_pop 8 (14, .iconst 1, 1) rfl) (by decide) rfl (aw_isub (pc' := 16) (dt_X3_pop 9 (15, .isub, 1) rfl) rfl (aw_putI (pc' := 19) (dt_X3_pop 10 (16, .putfield 18, 3) rfl) fl_Machine_18 rfl (by decide +kernel) rfl (sk_26 hS) (aw_aload_n (pc' := 20) (dt_X3_pop 11 (19, .aload_n 0, 1) rfl) rfl rfl (aw_getAs (pc' := 23) (dt_X3_pop 12 (20, .getfield 15, 3) rfl) fl_Machine_15 rfl rfl (sk_26 hS.wI) (sa_26_1 hS.wI) (aw_aload_n (pc' := 24) (dt_X3_pop 13 (23, .aload_n 0, 1) rfl) rfl rfl (aw_getI (pc' := 27) (dt_X3_pop 14 (24, .getfield 18, 3) rfl) fl_Machine_18 rfl rfl (sk_26 hS.wI) (aw_iald (pc' := 28) (dt_X3_pop 15 (27, .iaload, 1) rfl) rfl (sk_28 hS.wI) (vin_eq (sl_28 hS.wI) g2) (aw_iret (dt_X3_pop 16 (28, .ireturn, 1) rfl) rfl rfl (aw_stk (st' := [.int (zI (sI μ 26 2 ((zI μ 26 2) - 1)) 28 (zI (sI μ 26 2 ((zI μ 26 2) - 1)) 26 2).toNatClampNeg)]) rfl (aw_istore_n (pc' := 5) (ls' := [some (.ref 26), some (.int x1), some (.int (zI (sI μ 26 2 ((zI μ 26 2) - 1)) 28 (zI (sI μ 26 2 ((zI μ 26 2) - 1)) 26 2).toNatClampNeg))]) (dt_X3_work 2 (4, .istore_n 2, 1) rfl) (by decide) rfl rfl (aw_iload_n (pc' := 6) (dt_X3_work 3 (5, .iload_n 1, 1) rfl) rfl rfl (aw_iconst (pc' := 7) (v := (-1)) (dt_X3_work 4 (6, .iconst (-1), 1) rfl) (by decide) rfl (aw_icmp_ne (pc' := 10) (tgt := 27) (dt_X3_work 5 (7, .if_icmp .ne 20, 3) rfl) (by decide) rfl ?_ ?_))))))))))))))))
    · intro q3
      have h := h.1 q3
      refine aw_aload_n (pc' := 28) (dt_X3_work 15 (27, .aload_n 0, 1) rfl) rfl rfl (aw_iload_n (pc' := 29) (dt_X3_work 16 (28, .iload_n 1, 1) rfl) rfl rfl (aw_aload_n (pc' := 30) (dt_X3_work 17 (29, .aload_n 0, 1) rfl) rfl rfl (aw_inV (pc' := 33) (nc1 := 0) (ns1 := 0) (nc := nc) (ns := ns) (ls' := [some (.ref 26)]) (y2 := mX3_pop) (As := []) (rest := [.int x1, .ref 26]) (a := 26) (dt_X3_work 18 (30, .invokevirtual 22, 3) rfl) ok_X3_pop ln_Machine_22 im_X3_pop se_X3_pop pr_X3_pop (Or.inl ⟨by decide, rfl⟩) rfl (Nat.le_of_ble_eq_true rfl) (Nat.le_of_ble_eq_true rfl) rfl rfl (sk_26 hS.wI) (aw_aload_n (pc' := 1) (dt_X3_pop 0 (0, .aload_n 0, 1) rfl) rfl rfl (aw_getI (pc' := 4) (dt_X3_pop 1 (1, .getfield 18, 3) rfl) fl_Machine_18 rfl rfl (sk_26 hS.wI) (aw_if_gt (pc' := 7) (tgt := 9) (dt_X3_pop 2 (4, .ifCond .gt 5, 3) rfl) (by decide) rfl ?_ ?_))))))
      · intro q4
        have h := h.1 q4
        obtain ⟨g5, h⟩ := h
        refine aw_aload_n (pc' := 10) (dt_X3_pop 5 (9, .aload_n 0, 1) rfl) rfl rfl (aw_dup (pc' := 11) (dt_X3_pop 6 (10, .dup, 1) rfl) rfl rfl (aw_getI (pc' := 14) (dt_X3_pop 7 (11, .getfield 18, 3) rfl) fl_Machine_18 rfl rfl (sk_26 hS.wI) (aw_iconst (pc' := 15) (v := 1) (dt_X3_pop 8 (14, .iconst 1, 1) rfl) (by decide) rfl (aw_isub (pc' := 16) (dt_X3_pop 9 (15, .isub, 1) rfl) rfl (aw_putI (pc' := 19) (dt_X3_pop 10 (16, .putfield 18, 3) rfl) fl_Machine_18 rfl (by decide +kernel) rfl (sk_26 hS.wI) (aw_aload_n (pc' := 20) (dt_X3_pop 11 (19, .aload_n 0, 1) rfl) rfl rfl (aw_getAs (pc' := 23) (dt_X3_pop 12 (20, .getfield 15, 3) rfl) fl_Machine_15 rfl rfl (sk_26 hS.wI.wI) (sa_26_1 hS.wI.wI) (aw_aload_n (pc' := 24) (dt_X3_pop 13 (23, .aload_n 0, 1) rfl) rfl rfl (aw_getI (pc' := 27) (dt_X3_pop 14 (24, .getfield 18, 3) rfl) fl_Machine_18 rfl rfl (sk_26 hS.wI.wI) (aw_iald (pc' := 28) (dt_X3_pop 15 (27, .iaload, 1) rfl) rfl (sk_28 hS.wI.wI) (vin_eq (sl_28 hS.wI.wI) g5) (aw_iret (dt_X3_pop 16 (28, .ireturn, 1) rfl) rfl rfl (aw_stk (st' := [.int (zI (sI (sI μ 26 2 ((zI μ 26 2) - 1)) 26 2 ((zI (sI μ 26 2 ((zI μ 26 2) - 1)) 26 2) - 1)) 28 (zI (sI (sI μ 26 2 ((zI μ 26 2) - 1)) 26 2 ((zI (sI μ 26 2 ((zI μ 26 2) - 1)) 26 2) - 1)) 26 2).toNatClampNeg), .int x1, .ref 26]) rfl (aw_iload_n (pc' := 34) (dt_X3_work 19 (33, .iload_n 2, 1) rfl) rfl rfl (aw_callS0 (pc' := 37) (nc := nc) (ns := ns) (y2 := mX3_combined) (As := [.int x1, .int (zI (sI (sI μ 26 2 ((zI μ 26 2) - 1)) 26 2 ((zI (sI μ 26 2 ((zI μ 26 2) - 1)) 26 2) - 1)) 28 (zI (sI (sI μ 26 2 ((zI μ 26 2) - 1)) 26 2 ((zI (sI μ 26 2 ((zI μ 26 2) - 1)) 26 2) - 1)) 26 2).toNatClampNeg), .int (zI (sI μ 26 2 ((zI μ 26 2) - 1)) 28 (zI (sI μ 26 2 ((zI μ 26 2) - 1)) 26 2).toNatClampNeg)]) (rest := [.ref 26]) (dt_X3_work 20 (34, .invokestatic 58, 3) rfl) ok_X3_combined ln_Machine_58 sm_X3_combined pr_X3_combined rfl (Nat.le_of_ble_eq_true rfl) (Nat.le_of_ble_eq_true rfl) rfl  h ?_))))))))))))))
        rintro v μ6 ⟨r8, rfl, hS7, h⟩
        refine aw_stk (st' := [.int r8, .ref 26]) rfl ?_
        refine aw_inV (pc' := 40) (nc1 := 0) (ns1 := 0) (nc := nc) (ns := ns) (ls' := [some (.ref 26), some (.int r8)]) (y2 := mX3_push) (As := [.int r8]) (rest := []) (a := 26) (dt_X3_work 21 (37, .invokevirtual 38, 3) rfl) ok_X3_push ln_Machine_38 im_X3_push se_X3_push pr_X3_push (Or.inl ⟨by decide, rfl⟩) rfl (Nat.le_of_ble_eq_true rfl) (Nat.le_of_ble_eq_true rfl) rfl rfl (sk_26 hS7) (aw_aload_n (pc' := 1) (dt_X3_push 0 (0, .aload_n 0, 1) rfl) rfl rfl (aw_getI (pc' := 4) (dt_X3_push 1 (1, .getfield 18, 3) rfl) fl_Machine_18 rfl rfl (sk_26 hS7) (aw_aload_n (pc' := 5) (dt_X3_push 2 (4, .aload_n 0, 1) rfl) rfl rfl (aw_getAs (pc' := 8) (dt_X3_push 3 (5, .getfield 15, 3) rfl) fl_Machine_15 rfl rfl (sk_26 hS7) (sa_26_1 hS7) (aw_alens (pc' := 9) (n := 200) (v := 200) (dt_X3_push 4 (8, .arraylength, 1) rfl) (by decide) (by decide) rfl (sk_28 hS7) (sl_28 hS7) (by decide) (aw_icmp_ge (pc' := 12) (tgt := 32) (dt_X3_push 5 (9, .if_icmp .ge 23, 3) rfl) (by decide) rfl ?_ ?_))))))
        · intro q9
          have h := h.1 q9
          refine aw_ret (dt_X3_push 18 (32, .return_, 1) rfl) rfl (aw_stk (st' := []) rfl (aw_ret (dt_X3_work 22 (40, .return_, 1) rfl) rfl ?_))
          exact h
        · intro q9
          have h := h.2 q9
          obtain ⟨g10, h⟩ := h
          refine aw_aload_n (pc' := 13) (dt_X3_push 6 (12, .aload_n 0, 1) rfl) rfl rfl (aw_getAs (pc' := 16) (dt_X3_push 7 (13, .getfield 15, 3) rfl) fl_Machine_15 rfl rfl (sk_26 hS7) (sa_26_1 hS7) (aw_aload_n (pc' := 17) (dt_X3_push 8 (16, .aload_n 0, 1) rfl) rfl rfl (aw_getI (pc' := 20) (dt_X3_push 9 (17, .getfield 18, 3) rfl) fl_Machine_18 rfl rfl (sk_26 hS7) (aw_iload_n (pc' := 21) (dt_X3_push 10 (20, .iload_n 1, 1) rfl) rfl rfl (aw_iast (pc' := 22) (dt_X3_push 11 (21, .iastore, 1) rfl) rfl (sk_28 hS7) (by decide) (vin_eq (sl_28 hS7) g10) (aw_aload_n (pc' := 23) (dt_X3_push 12 (22, .aload_n 0, 1) rfl) rfl rfl (aw_dup (pc' := 24) (dt_X3_push 13 (23, .dup, 1) rfl) rfl rfl (aw_getI (pc' := 27) (dt_X3_push 14 (24, .getfield 18, 3) rfl) fl_Machine_18 rfl rfl (sk_26 hS7.wI) (aw_iconst (pc' := 28) (v := 1) (dt_X3_push 15 (27, .iconst 1, 1) rfl) (by decide) rfl (aw_iadd (pc' := 29) (dt_X3_push 16 (28, .iadd, 1) rfl) rfl (aw_putI (pc' := 32) (dt_X3_push 17 (29, .putfield 18, 3) rfl) fl_Machine_18 rfl (by decide +kernel) rfl (sk_26 hS7.wI) (aw_ret (dt_X3_push 18 (32, .return_, 1) rfl) rfl (aw_stk (st' := []) rfl (aw_ret (dt_X3_work 22 (40, .return_, 1) rfl) rfl ?_))))))))))))))
          exact h
      · intro q4
        have h := h.2 q4
        refine aw_iconst (pc' := 8) (v := 0) (dt_X3_pop 3 (7, .iconst 0, 1) rfl) (by decide) rfl (aw_iret (dt_X3_pop 4 (8, .ireturn, 1) rfl) rfl rfl (aw_stk (st' := [.int 0, .int x1, .ref 26]) rfl (aw_iload_n (pc' := 34) (dt_X3_work 19 (33, .iload_n 2, 1) rfl) rfl rfl (aw_callS0 (pc' := 37) (nc := nc) (ns := ns) (y2 := mX3_combined) (As := [.int x1, .int 0, .int (zI (sI μ 26 2 ((zI μ 26 2) - 1)) 28 (zI (sI μ 26 2 ((zI μ 26 2) - 1)) 26 2).toNatClampNeg)]) (rest := [.ref 26]) (dt_X3_work 20 (34, .invokestatic 58, 3) rfl) ok_X3_combined ln_Machine_58 sm_X3_combined pr_X3_combined rfl (Nat.le_of_ble_eq_true rfl) (Nat.le_of_ble_eq_true rfl) rfl  h ?_))))
        rintro v μ11 ⟨r13, rfl, hS12, h⟩
        refine aw_stk (st' := [.int r13, .ref 26]) rfl ?_
        refine aw_inV (pc' := 40) (nc1 := 0) (ns1 := 0) (nc := nc) (ns := ns) (ls' := [some (.ref 26), some (.int r13)]) (y2 := mX3_push) (As := [.int r13]) (rest := []) (a := 26) (dt_X3_work 21 (37, .invokevirtual 38, 3) rfl) ok_X3_push ln_Machine_38 im_X3_push se_X3_push pr_X3_push (Or.inl ⟨by decide, rfl⟩) rfl (Nat.le_of_ble_eq_true rfl) (Nat.le_of_ble_eq_true rfl) rfl rfl (sk_26 hS12) (aw_aload_n (pc' := 1) (dt_X3_push 0 (0, .aload_n 0, 1) rfl) rfl rfl (aw_getI (pc' := 4) (dt_X3_push 1 (1, .getfield 18, 3) rfl) fl_Machine_18 rfl rfl (sk_26 hS12) (aw_aload_n (pc' := 5) (dt_X3_push 2 (4, .aload_n 0, 1) rfl) rfl rfl (aw_getAs (pc' := 8) (dt_X3_push 3 (5, .getfield 15, 3) rfl) fl_Machine_15 rfl rfl (sk_26 hS12) (sa_26_1 hS12) (aw_alens (pc' := 9) (n := 200) (v := 200) (dt_X3_push 4 (8, .arraylength, 1) rfl) (by decide) (by decide) rfl (sk_28 hS12) (sl_28 hS12) (by decide) (aw_icmp_ge (pc' := 12) (tgt := 32) (dt_X3_push 5 (9, .if_icmp .ge 23, 3) rfl) (by decide) rfl ?_ ?_))))))
        · intro q14
          have h := h.1 q14
          refine aw_ret (dt_X3_push 18 (32, .return_, 1) rfl) rfl (aw_stk (st' := []) rfl (aw_ret (dt_X3_work 22 (40, .return_, 1) rfl) rfl ?_))
          exact h
        · intro q14
          have h := h.2 q14
          obtain ⟨g15, h⟩ := h
          refine aw_aload_n (pc' := 13) (dt_X3_push 6 (12, .aload_n 0, 1) rfl) rfl rfl (aw_getAs (pc' := 16) (dt_X3_push 7 (13, .getfield 15, 3) rfl) fl_Machine_15 rfl rfl (sk_26 hS12) (sa_26_1 hS12) (aw_aload_n (pc' := 17) (dt_X3_push 8 (16, .aload_n 0, 1) rfl) rfl rfl (aw_getI (pc' := 20) (dt_X3_push 9 (17, .getfield 18, 3) rfl) fl_Machine_18 rfl rfl (sk_26 hS12) (aw_iload_n (pc' := 21) (dt_X3_push 10 (20, .iload_n 1, 1) rfl) rfl rfl (aw_iast (pc' := 22) (dt_X3_push 11 (21, .iastore, 1) rfl) rfl (sk_28 hS12) (by decide) (vin_eq (sl_28 hS12) g15) (aw_aload_n (pc' := 23) (dt_X3_push 12 (22, .aload_n 0, 1) rfl) rfl rfl (aw_dup (pc' := 24) (dt_X3_push 13 (23, .dup, 1) rfl) rfl rfl (aw_getI (pc' := 27) (dt_X3_push 14 (24, .getfield 18, 3) rfl) fl_Machine_18 rfl rfl (sk_26 hS12.wI) (aw_iconst (pc' := 28) (v := 1) (dt_X3_push 15 (27, .iconst 1, 1) rfl) (by decide) rfl (aw_iadd (pc' := 29) (dt_X3_push 16 (28, .iadd, 1) rfl) rfl (aw_putI (pc' := 32) (dt_X3_push 17 (29, .putfield 18, 3) rfl) fl_Machine_18 rfl (by decide +kernel) rfl (sk_26 hS12.wI) (aw_ret (dt_X3_push 18 (32, .return_, 1) rfl) rfl (aw_stk (st' := []) rfl (aw_ret (dt_X3_work 22 (40, .return_, 1) rfl) rfl ?_))))))))))))))
          exact h
    · intro q3
      have h := h.2 q3
      refine aw_aload_n (pc' := 11) (dt_X3_work 6 (10, .aload_n 0, 1) rfl) rfl rfl (aw_iload_n (pc' := 12) (dt_X3_work 7 (11, .iload_n 2, 1) rfl) rfl rfl (aw_if_ne (pc' := 15) (tgt := 19) (dt_X3_work 8 (12, .ifCond .ne 7, 3) rfl) (by decide) rfl ?_ ?_))
      · intro q16
        have h := h.1 q16
        refine aw_iconst (pc' := 20) (v := 0) (dt_X3_work 11 (19, .iconst 0, 1) rfl) (by decide) rfl (aw_inSN (pc' := 23) (nc1 := 0) (ns1 := 0) (nc := nc) (ns := ns) (ls' := [some (.int 0)]) (y2 := mX10_asBit) (As := [.int 0]) (rest := [.ref 26]) (dt_X3_work 12 (20, .invokestatic 54, 3) rfl) ok_X10_asBit ln_Machine_54 sm_X10_asBit pr_X10_asBit rfl (Nat.le_of_ble_eq_true rfl) (Nat.le_of_ble_eq_true rfl) rfl rfl (aw_iload_n (pc' := 1) (dt_X10_asBit 0 (0, .iload_n 0, 1) rfl) rfl rfl (aw_if_eq_T (pc' := 4) (tgt := 8) (dt_X10_asBit 1 (1, .ifCond .eq 7, 3) rfl) (by decide) rfl (by decide) (aw_iconst (pc' := 9) (v := 0) (dt_X10_asBit 4 (8, .iconst 0, 1) rfl) (by decide) rfl (aw_iret (dt_X10_asBit 5 (9, .ireturn, 1) rfl) rfl rfl (aw_stk (st' := [.int 0, .ref 26]) rfl (aw_inV (pc' := 26) (nc1 := 0) (ns1 := 0) (nc := nc) (ns := ns) (ls' := [some (.ref 26), some (.int 0)]) (y2 := mX3_push) (As := [.int 0]) (rest := []) (a := 26) (dt_X3_work 13 (23, .invokevirtual 38, 3) rfl) ok_X3_push ln_Machine_38 im_X3_push se_X3_push pr_X3_push (Or.inl ⟨by decide, rfl⟩) rfl (Nat.le_of_ble_eq_true rfl) (Nat.le_of_ble_eq_true rfl) rfl rfl (sk_26 hS.wI) (aw_aload_n (pc' := 1) (dt_X3_push 0 (0, .aload_n 0, 1) rfl) rfl rfl (aw_getI (pc' := 4) (dt_X3_push 1 (1, .getfield 18, 3) rfl) fl_Machine_18 rfl rfl (sk_26 hS.wI) (aw_aload_n (pc' := 5) (dt_X3_push 2 (4, .aload_n 0, 1) rfl) rfl rfl (aw_getAs (pc' := 8) (dt_X3_push 3 (5, .getfield 15, 3) rfl) fl_Machine_15 rfl rfl (sk_26 hS.wI) (sa_26_1 hS.wI) (aw_alens (pc' := 9) (n := 200) (v := 200) (dt_X3_push 4 (8, .arraylength, 1) rfl) (by decide) (by decide) rfl (sk_28 hS.wI) (sl_28 hS.wI) (by decide) (aw_icmp_ge (pc' := 12) (tgt := 32) (dt_X3_push 5 (9, .if_icmp .ge 23, 3) rfl) (by decide) rfl ?_ ?_)))))))))))))
        · intro q17
          have h := h.1 q17
          refine aw_ret (dt_X3_push 18 (32, .return_, 1) rfl) rfl (aw_stk (st' := []) rfl (aw_ret (dt_X3_work 14 (26, .return_, 1) rfl) rfl ?_))
          exact h
        · intro q17
          have h := h.2 q17
          obtain ⟨g18, h⟩ := h
          refine aw_aload_n (pc' := 13) (dt_X3_push 6 (12, .aload_n 0, 1) rfl) rfl rfl (aw_getAs (pc' := 16) (dt_X3_push 7 (13, .getfield 15, 3) rfl) fl_Machine_15 rfl rfl (sk_26 hS.wI) (sa_26_1 hS.wI) (aw_aload_n (pc' := 17) (dt_X3_push 8 (16, .aload_n 0, 1) rfl) rfl rfl (aw_getI (pc' := 20) (dt_X3_push 9 (17, .getfield 18, 3) rfl) fl_Machine_18 rfl rfl (sk_26 hS.wI) (aw_iload_n (pc' := 21) (dt_X3_push 10 (20, .iload_n 1, 1) rfl) rfl rfl (aw_iast (pc' := 22) (dt_X3_push 11 (21, .iastore, 1) rfl) rfl (sk_28 hS.wI) (by decide) (vin_eq (sl_28 hS.wI) g18) (aw_aload_n (pc' := 23) (dt_X3_push 12 (22, .aload_n 0, 1) rfl) rfl rfl (aw_dup (pc' := 24) (dt_X3_push 13 (23, .dup, 1) rfl) rfl rfl (aw_getI (pc' := 27) (dt_X3_push 14 (24, .getfield 18, 3) rfl) fl_Machine_18 rfl rfl (sk_26 hS.wI.wI) (aw_iconst (pc' := 28) (v := 1) (dt_X3_push 15 (27, .iconst 1, 1) rfl) (by decide) rfl (aw_iadd (pc' := 29) (dt_X3_push 16 (28, .iadd, 1) rfl) rfl (aw_putI (pc' := 32) (dt_X3_push 17 (29, .putfield 18, 3) rfl) fl_Machine_18 rfl (by decide +kernel) rfl (sk_26 hS.wI.wI) (aw_ret (dt_X3_push 18 (32, .return_, 1) rfl) rfl (aw_stk (st' := []) rfl (aw_ret (dt_X3_work 14 (26, .return_, 1) rfl) rfl ?_))))))))))))))
          exact h
      · intro q16
        have h := h.2 q16
        refine aw_iconst (pc' := 16) (v := 1) (dt_X3_work 9 (15, .iconst 1, 1) rfl) (by decide) rfl (aw_goto (tgt := 20) (dt_X3_work 10 (16, .goto 4, 3) rfl) (by decide) (aw_inSN (pc' := 23) (nc1 := 0) (ns1 := 0) (nc := nc) (ns := ns) (ls' := [some (.int 1)]) (y2 := mX10_asBit) (As := [.int 1]) (rest := [.ref 26]) (dt_X3_work 12 (20, .invokestatic 54, 3) rfl) ok_X10_asBit ln_Machine_54 sm_X10_asBit pr_X10_asBit rfl (Nat.le_of_ble_eq_true rfl) (Nat.le_of_ble_eq_true rfl) rfl rfl (aw_iload_n (pc' := 1) (dt_X10_asBit 0 (0, .iload_n 0, 1) rfl) rfl rfl (aw_if_eq_F (pc' := 4) (tgt := 8) (dt_X10_asBit 1 (1, .ifCond .eq 7, 3) rfl) (by decide) rfl (by decide) (aw_iconst (pc' := 5) (v := 1) (dt_X10_asBit 2 (4, .iconst 1, 1) rfl) (by decide) rfl (aw_goto (tgt := 9) (dt_X10_asBit 3 (5, .goto 4, 3) rfl) (by decide) (aw_iret (dt_X10_asBit 5 (9, .ireturn, 1) rfl) rfl rfl (aw_stk (st' := [.int 1, .ref 26]) rfl (aw_inV (pc' := 26) (nc1 := 0) (ns1 := 0) (nc := nc) (ns := ns) (ls' := [some (.ref 26), some (.int 1)]) (y2 := mX3_push) (As := [.int 1]) (rest := []) (a := 26) (dt_X3_work 13 (23, .invokevirtual 38, 3) rfl) ok_X3_push ln_Machine_38 im_X3_push se_X3_push pr_X3_push (Or.inl ⟨by decide, rfl⟩) rfl (Nat.le_of_ble_eq_true rfl) (Nat.le_of_ble_eq_true rfl) rfl rfl (sk_26 hS.wI) (aw_aload_n (pc' := 1) (dt_X3_push 0 (0, .aload_n 0, 1) rfl) rfl rfl (aw_getI (pc' := 4) (dt_X3_push 1 (1, .getfield 18, 3) rfl) fl_Machine_18 rfl rfl (sk_26 hS.wI) (aw_aload_n (pc' := 5) (dt_X3_push 2 (4, .aload_n 0, 1) rfl) rfl rfl (aw_getAs (pc' := 8) (dt_X3_push 3 (5, .getfield 15, 3) rfl) fl_Machine_15 rfl rfl (sk_26 hS.wI) (sa_26_1 hS.wI) (aw_alens (pc' := 9) (n := 200) (v := 200) (dt_X3_push 4 (8, .arraylength, 1) rfl) (by decide) (by decide) rfl (sk_28 hS.wI) (sl_28 hS.wI) (by decide) (aw_icmp_ge (pc' := 12) (tgt := 32) (dt_X3_push 5 (9, .if_icmp .ge 23, 3) rfl) (by decide) rfl ?_ ?_)))))))))))))))
        · intro q19
          have h := h.1 q19
          refine aw_ret (dt_X3_push 18 (32, .return_, 1) rfl) rfl (aw_stk (st' := []) rfl (aw_ret (dt_X3_work 14 (26, .return_, 1) rfl) rfl ?_))
          exact h
        · intro q19
          have h := h.2 q19
          obtain ⟨g20, h⟩ := h
          refine aw_aload_n (pc' := 13) (dt_X3_push 6 (12, .aload_n 0, 1) rfl) rfl rfl (aw_getAs (pc' := 16) (dt_X3_push 7 (13, .getfield 15, 3) rfl) fl_Machine_15 rfl rfl (sk_26 hS.wI) (sa_26_1 hS.wI) (aw_aload_n (pc' := 17) (dt_X3_push 8 (16, .aload_n 0, 1) rfl) rfl rfl (aw_getI (pc' := 20) (dt_X3_push 9 (17, .getfield 18, 3) rfl) fl_Machine_18 rfl rfl (sk_26 hS.wI) (aw_iload_n (pc' := 21) (dt_X3_push 10 (20, .iload_n 1, 1) rfl) rfl rfl (aw_iast (pc' := 22) (dt_X3_push 11 (21, .iastore, 1) rfl) rfl (sk_28 hS.wI) (by decide) (vin_eq (sl_28 hS.wI) g20) (aw_aload_n (pc' := 23) (dt_X3_push 12 (22, .aload_n 0, 1) rfl) rfl rfl (aw_dup (pc' := 24) (dt_X3_push 13 (23, .dup, 1) rfl) rfl rfl (aw_getI (pc' := 27) (dt_X3_push 14 (24, .getfield 18, 3) rfl) fl_Machine_18 rfl rfl (sk_26 hS.wI.wI) (aw_iconst (pc' := 28) (v := 1) (dt_X3_push 15 (27, .iconst 1, 1) rfl) (by decide) rfl (aw_iadd (pc' := 29) (dt_X3_push 16 (28, .iadd, 1) rfl) rfl (aw_putI (pc' := 32) (dt_X3_push 17 (29, .putfield 18, 3) rfl) fl_Machine_18 rfl (by decide +kernel) rfl (sk_26 hS.wI.wI) (aw_ret (dt_X3_push 18 (32, .return_, 1) rfl) rfl (aw_stk (st' := []) rfl (aw_ret (dt_X3_work 14 (26, .return_, 1) rfl) rfl ?_))))))))))))))
          exact h
  · intro q1
    have h := h.2 q1
    refine aw_iconst (pc' := 8) (v := 0) (dt_X3_pop 3 (7, .iconst 0, 1) rfl) (by decide) rfl (aw_iret (dt_X3_pop 4 (8, .ireturn, 1) rfl) rfl rfl (aw_stk (st' := [.int 0]) rfl (aw_istore_n (pc' := 5) (ls' := [some (.ref 26), some (.int x1), some (.int 0)]) (dt_X3_work 2 (4, .istore_n 2, 1) rfl) (by decide) rfl rfl (aw_iload_n (pc' := 6) (dt_X3_work 3 (5, .iload_n 1, 1) rfl) rfl rfl (aw_iconst (pc' := 7) (v := (-1)) (dt_X3_work 4 (6, .iconst (-1), 1) rfl) (by decide) rfl (aw_icmp_ne (pc' := 10) (tgt := 27) (dt_X3_work 5 (7, .if_icmp .ne 20, 3) rfl) (by decide) rfl ?_ ?_))))))
    · intro q21
      have h := h.1 q21
      refine aw_aload_n (pc' := 28) (dt_X3_work 15 (27, .aload_n 0, 1) rfl) rfl rfl (aw_iload_n (pc' := 29) (dt_X3_work 16 (28, .iload_n 1, 1) rfl) rfl rfl (aw_aload_n (pc' := 30) (dt_X3_work 17 (29, .aload_n 0, 1) rfl) rfl rfl (aw_inV (pc' := 33) (nc1 := 0) (ns1 := 0) (nc := nc) (ns := ns) (ls' := [some (.ref 26)]) (y2 := mX3_pop) (As := []) (rest := [.int x1, .ref 26]) (a := 26) (dt_X3_work 18 (30, .invokevirtual 22, 3) rfl) ok_X3_pop ln_Machine_22 im_X3_pop se_X3_pop pr_X3_pop (Or.inl ⟨by decide, rfl⟩) rfl (Nat.le_of_ble_eq_true rfl) (Nat.le_of_ble_eq_true rfl) rfl rfl (sk_26 hS) (aw_aload_n (pc' := 1) (dt_X3_pop 0 (0, .aload_n 0, 1) rfl) rfl rfl (aw_getI (pc' := 4) (dt_X3_pop 1 (1, .getfield 18, 3) rfl) fl_Machine_18 rfl rfl (sk_26 hS) (aw_if_gt (pc' := 7) (tgt := 9) (dt_X3_pop 2 (4, .ifCond .gt 5, 3) rfl) (by decide) rfl ?_ ?_))))))
      · intro q22
        have h := h.1 q22
        obtain ⟨g23, h⟩ := h
        refine aw_aload_n (pc' := 10) (dt_X3_pop 5 (9, .aload_n 0, 1) rfl) rfl rfl (aw_dup (pc' := 11) (dt_X3_pop 6 (10, .dup, 1) rfl) rfl rfl (aw_getI (pc' := 14) (dt_X3_pop 7 (11, .getfield 18, 3) rfl) fl_Machine_18 rfl rfl (sk_26 hS) (aw_iconst (pc' := 15) (v := 1) (dt_X3_pop 8 (14, .iconst 1, 1) rfl) (by decide) rfl (aw_isub (pc' := 16) (dt_X3_pop 9 (15, .isub, 1) rfl) rfl (aw_putI (pc' := 19) (dt_X3_pop 10 (16, .putfield 18, 3) rfl) fl_Machine_18 rfl (by decide +kernel) rfl (sk_26 hS) (aw_aload_n (pc' := 20) (dt_X3_pop 11 (19, .aload_n 0, 1) rfl) rfl rfl (aw_getAs (pc' := 23) (dt_X3_pop 12 (20, .getfield 15, 3) rfl) fl_Machine_15 rfl rfl (sk_26 hS.wI) (sa_26_1 hS.wI) (aw_aload_n (pc' := 24) (dt_X3_pop 13 (23, .aload_n 0, 1) rfl) rfl rfl (aw_getI (pc' := 27) (dt_X3_pop 14 (24, .getfield 18, 3) rfl) fl_Machine_18 rfl rfl (sk_26 hS.wI) (aw_iald (pc' := 28) (dt_X3_pop 15 (27, .iaload, 1) rfl) rfl (sk_28 hS.wI) (vin_eq (sl_28 hS.wI) g23) (aw_iret (dt_X3_pop 16 (28, .ireturn, 1) rfl) rfl rfl (aw_stk (st' := [.int (zI (sI μ 26 2 ((zI μ 26 2) - 1)) 28 (zI (sI μ 26 2 ((zI μ 26 2) - 1)) 26 2).toNatClampNeg), .int x1, .ref 26]) rfl (aw_iload_n (pc' := 34) (dt_X3_work 19 (33, .iload_n 2, 1) rfl) rfl rfl (aw_callS0 (pc' := 37) (nc := nc) (ns := ns) (y2 := mX3_combined) (As := [.int x1, .int (zI (sI μ 26 2 ((zI μ 26 2) - 1)) 28 (zI (sI μ 26 2 ((zI μ 26 2) - 1)) 26 2).toNatClampNeg), .int 0]) (rest := [.ref 26]) (dt_X3_work 20 (34, .invokestatic 58, 3) rfl) ok_X3_combined ln_Machine_58 sm_X3_combined pr_X3_combined rfl (Nat.le_of_ble_eq_true rfl) (Nat.le_of_ble_eq_true rfl) rfl  h ?_))))))))))))))
        rintro v μ24 ⟨r26, rfl, hS25, h⟩
        refine aw_stk (st' := [.int r26, .ref 26]) rfl ?_
        refine aw_inV (pc' := 40) (nc1 := 0) (ns1 := 0) (nc := nc) (ns := ns) (ls' := [some (.ref 26), some (.int r26)]) (y2 := mX3_push) (As := [.int r26]) (rest := []) (a := 26) (dt_X3_work 21 (37, .invokevirtual 38, 3) rfl) ok_X3_push ln_Machine_38 im_X3_push se_X3_push pr_X3_push (Or.inl ⟨by decide, rfl⟩) rfl (Nat.le_of_ble_eq_true rfl) (Nat.le_of_ble_eq_true rfl) rfl rfl (sk_26 hS25) (aw_aload_n (pc' := 1) (dt_X3_push 0 (0, .aload_n 0, 1) rfl) rfl rfl (aw_getI (pc' := 4) (dt_X3_push 1 (1, .getfield 18, 3) rfl) fl_Machine_18 rfl rfl (sk_26 hS25) (aw_aload_n (pc' := 5) (dt_X3_push 2 (4, .aload_n 0, 1) rfl) rfl rfl (aw_getAs (pc' := 8) (dt_X3_push 3 (5, .getfield 15, 3) rfl) fl_Machine_15 rfl rfl (sk_26 hS25) (sa_26_1 hS25) (aw_alens (pc' := 9) (n := 200) (v := 200) (dt_X3_push 4 (8, .arraylength, 1) rfl) (by decide) (by decide) rfl (sk_28 hS25) (sl_28 hS25) (by decide) (aw_icmp_ge (pc' := 12) (tgt := 32) (dt_X3_push 5 (9, .if_icmp .ge 23, 3) rfl) (by decide) rfl ?_ ?_))))))
        · intro q27
          have h := h.1 q27
          refine aw_ret (dt_X3_push 18 (32, .return_, 1) rfl) rfl (aw_stk (st' := []) rfl (aw_ret (dt_X3_work 22 (40, .return_, 1) rfl) rfl ?_))
          exact h
        · intro q27
          have h := h.2 q27
          obtain ⟨g28, h⟩ := h
          refine aw_aload_n (pc' := 13) (dt_X3_push 6 (12, .aload_n 0, 1) rfl) rfl rfl (aw_getAs (pc' := 16) (dt_X3_push 7 (13, .getfield 15, 3) rfl) fl_Machine_15 rfl rfl (sk_26 hS25) (sa_26_1 hS25) (aw_aload_n (pc' := 17) (dt_X3_push 8 (16, .aload_n 0, 1) rfl) rfl rfl (aw_getI (pc' := 20) (dt_X3_push 9 (17, .getfield 18, 3) rfl) fl_Machine_18 rfl rfl (sk_26 hS25) (aw_iload_n (pc' := 21) (dt_X3_push 10 (20, .iload_n 1, 1) rfl) rfl rfl (aw_iast (pc' := 22) (dt_X3_push 11 (21, .iastore, 1) rfl) rfl (sk_28 hS25) (by decide) (vin_eq (sl_28 hS25) g28) (aw_aload_n (pc' := 23) (dt_X3_push 12 (22, .aload_n 0, 1) rfl) rfl rfl (aw_dup (pc' := 24) (dt_X3_push 13 (23, .dup, 1) rfl) rfl rfl (aw_getI (pc' := 27) (dt_X3_push 14 (24, .getfield 18, 3) rfl) fl_Machine_18 rfl rfl (sk_26 hS25.wI) (aw_iconst (pc' := 28) (v := 1) (dt_X3_push 15 (27, .iconst 1, 1) rfl) (by decide) rfl (aw_iadd (pc' := 29) (dt_X3_push 16 (28, .iadd, 1) rfl) rfl (aw_putI (pc' := 32) (dt_X3_push 17 (29, .putfield 18, 3) rfl) fl_Machine_18 rfl (by decide +kernel) rfl (sk_26 hS25.wI) (aw_ret (dt_X3_push 18 (32, .return_, 1) rfl) rfl (aw_stk (st' := []) rfl (aw_ret (dt_X3_work 22 (40, .return_, 1) rfl) rfl ?_))))))))))))))
          exact h
      · intro q22
        have h := h.2 q22
        refine aw_iconst (pc' := 8) (v := 0) (dt_X3_pop 3 (7, .iconst 0, 1) rfl) (by decide) rfl (aw_iret (dt_X3_pop 4 (8, .ireturn, 1) rfl) rfl rfl (aw_stk (st' := [.int 0, .int x1, .ref 26]) rfl (aw_iload_n (pc' := 34) (dt_X3_work 19 (33, .iload_n 2, 1) rfl) rfl rfl (aw_callS0 (pc' := 37) (nc := nc) (ns := ns) (y2 := mX3_combined) (As := [.int x1, .int 0, .int 0]) (rest := [.ref 26]) (dt_X3_work 20 (34, .invokestatic 58, 3) rfl) ok_X3_combined ln_Machine_58 sm_X3_combined pr_X3_combined rfl (Nat.le_of_ble_eq_true rfl) (Nat.le_of_ble_eq_true rfl) rfl  h ?_))))
        rintro v μ29 ⟨r31, rfl, hS30, h⟩
        refine aw_stk (st' := [.int r31, .ref 26]) rfl ?_
        refine aw_inV (pc' := 40) (nc1 := 0) (ns1 := 0) (nc := nc) (ns := ns) (ls' := [some (.ref 26), some (.int r31)]) (y2 := mX3_push) (As := [.int r31]) (rest := []) (a := 26) (dt_X3_work 21 (37, .invokevirtual 38, 3) rfl) ok_X3_push ln_Machine_38 im_X3_push se_X3_push pr_X3_push (Or.inl ⟨by decide, rfl⟩) rfl (Nat.le_of_ble_eq_true rfl) (Nat.le_of_ble_eq_true rfl) rfl rfl (sk_26 hS30) (aw_aload_n (pc' := 1) (dt_X3_push 0 (0, .aload_n 0, 1) rfl) rfl rfl (aw_getI (pc' := 4) (dt_X3_push 1 (1, .getfield 18, 3) rfl) fl_Machine_18 rfl rfl (sk_26 hS30) (aw_aload_n (pc' := 5) (dt_X3_push 2 (4, .aload_n 0, 1) rfl) rfl rfl (aw_getAs (pc' := 8) (dt_X3_push 3 (5, .getfield 15, 3) rfl) fl_Machine_15 rfl rfl (sk_26 hS30) (sa_26_1 hS30) (aw_alens (pc' := 9) (n := 200) (v := 200) (dt_X3_push 4 (8, .arraylength, 1) rfl) (by decide) (by decide) rfl (sk_28 hS30) (sl_28 hS30) (by decide) (aw_icmp_ge (pc' := 12) (tgt := 32) (dt_X3_push 5 (9, .if_icmp .ge 23, 3) rfl) (by decide) rfl ?_ ?_))))))
        · intro q32
          have h := h.1 q32
          refine aw_ret (dt_X3_push 18 (32, .return_, 1) rfl) rfl (aw_stk (st' := []) rfl (aw_ret (dt_X3_work 22 (40, .return_, 1) rfl) rfl ?_))
          exact h
        · intro q32
          have h := h.2 q32
          obtain ⟨g33, h⟩ := h
          refine aw_aload_n (pc' := 13) (dt_X3_push 6 (12, .aload_n 0, 1) rfl) rfl rfl (aw_getAs (pc' := 16) (dt_X3_push 7 (13, .getfield 15, 3) rfl) fl_Machine_15 rfl rfl (sk_26 hS30) (sa_26_1 hS30) (aw_aload_n (pc' := 17) (dt_X3_push 8 (16, .aload_n 0, 1) rfl) rfl rfl (aw_getI (pc' := 20) (dt_X3_push 9 (17, .getfield 18, 3) rfl) fl_Machine_18 rfl rfl (sk_26 hS30) (aw_iload_n (pc' := 21) (dt_X3_push 10 (20, .iload_n 1, 1) rfl) rfl rfl (aw_iast (pc' := 22) (dt_X3_push 11 (21, .iastore, 1) rfl) rfl (sk_28 hS30) (by decide) (vin_eq (sl_28 hS30) g33) (aw_aload_n (pc' := 23) (dt_X3_push 12 (22, .aload_n 0, 1) rfl) rfl rfl (aw_dup (pc' := 24) (dt_X3_push 13 (23, .dup, 1) rfl) rfl rfl (aw_getI (pc' := 27) (dt_X3_push 14 (24, .getfield 18, 3) rfl) fl_Machine_18 rfl rfl (sk_26 hS30.wI) (aw_iconst (pc' := 28) (v := 1) (dt_X3_push 15 (27, .iconst 1, 1) rfl) (by decide) rfl (aw_iadd (pc' := 29) (dt_X3_push 16 (28, .iadd, 1) rfl) rfl (aw_putI (pc' := 32) (dt_X3_push 17 (29, .putfield 18, 3) rfl) fl_Machine_18 rfl (by decide +kernel) rfl (sk_26 hS30.wI) (aw_ret (dt_X3_push 18 (32, .return_, 1) rfl) rfl (aw_stk (st' := []) rfl (aw_ret (dt_X3_work 22 (40, .return_, 1) rfl) rfl ?_))))))))))))))
          exact h
    · intro q21
      have h := h.2 q21
      refine aw_aload_n (pc' := 11) (dt_X3_work 6 (10, .aload_n 0, 1) rfl) rfl rfl (aw_iload_n (pc' := 12) (dt_X3_work 7 (11, .iload_n 2, 1) rfl) rfl rfl (aw_if_ne_F (pc' := 15) (tgt := 19) (dt_X3_work 8 (12, .ifCond .ne 7, 3) rfl) (by decide) rfl (by decide) (aw_iconst (pc' := 16) (v := 1) (dt_X3_work 9 (15, .iconst 1, 1) rfl) (by decide) rfl (aw_goto (tgt := 20) (dt_X3_work 10 (16, .goto 4, 3) rfl) (by decide) (aw_inSN (pc' := 23) (nc1 := 0) (ns1 := 0) (nc := nc) (ns := ns) (ls' := [some (.int 1)]) (y2 := mX10_asBit) (As := [.int 1]) (rest := [.ref 26]) (dt_X3_work 12 (20, .invokestatic 54, 3) rfl) ok_X10_asBit ln_Machine_54 sm_X10_asBit pr_X10_asBit rfl (Nat.le_of_ble_eq_true rfl) (Nat.le_of_ble_eq_true rfl) rfl rfl (aw_iload_n (pc' := 1) (dt_X10_asBit 0 (0, .iload_n 0, 1) rfl) rfl rfl (aw_if_eq_F (pc' := 4) (tgt := 8) (dt_X10_asBit 1 (1, .ifCond .eq 7, 3) rfl) (by decide) rfl (by decide) (aw_iconst (pc' := 5) (v := 1) (dt_X10_asBit 2 (4, .iconst 1, 1) rfl) (by decide) rfl (aw_goto (tgt := 9) (dt_X10_asBit 3 (5, .goto 4, 3) rfl) (by decide) (aw_iret (dt_X10_asBit 5 (9, .ireturn, 1) rfl) rfl rfl (aw_stk (st' := [.int 1, .ref 26]) rfl (aw_inV (pc' := 26) (nc1 := 0) (ns1 := 0) (nc := nc) (ns := ns) (ls' := [some (.ref 26), some (.int 1)]) (y2 := mX3_push) (As := [.int 1]) (rest := []) (a := 26) (dt_X3_work 13 (23, .invokevirtual 38, 3) rfl) ok_X3_push ln_Machine_38 im_X3_push se_X3_push pr_X3_push (Or.inl ⟨by decide, rfl⟩) rfl (Nat.le_of_ble_eq_true rfl) (Nat.le_of_ble_eq_true rfl) rfl rfl (sk_26 hS) (aw_aload_n (pc' := 1) (dt_X3_push 0 (0, .aload_n 0, 1) rfl) rfl rfl (aw_getI (pc' := 4) (dt_X3_push 1 (1, .getfield 18, 3) rfl) fl_Machine_18 rfl rfl (sk_26 hS) (aw_aload_n (pc' := 5) (dt_X3_push 2 (4, .aload_n 0, 1) rfl) rfl rfl (aw_getAs (pc' := 8) (dt_X3_push 3 (5, .getfield 15, 3) rfl) fl_Machine_15 rfl rfl (sk_26 hS) (sa_26_1 hS) (aw_alens (pc' := 9) (n := 200) (v := 200) (dt_X3_push 4 (8, .arraylength, 1) rfl) (by decide) (by decide) rfl (sk_28 hS) (sl_28 hS) (by decide) (aw_icmp_ge (pc' := 12) (tgt := 32) (dt_X3_push 5 (9, .if_icmp .ge 23, 3) rfl) (by decide) rfl ?_ ?_))))))))))))))))))
      · intro q34
        have h := h.1 q34
        refine aw_ret (dt_X3_push 18 (32, .return_, 1) rfl) rfl (aw_stk (st' := []) rfl (aw_ret (dt_X3_work 14 (26, .return_, 1) rfl) rfl ?_))
        exact h
      · intro q34
        have h := h.2 q34
        obtain ⟨g35, h⟩ := h
        refine aw_aload_n (pc' := 13) (dt_X3_push 6 (12, .aload_n 0, 1) rfl) rfl rfl (aw_getAs (pc' := 16) (dt_X3_push 7 (13, .getfield 15, 3) rfl) fl_Machine_15 rfl rfl (sk_26 hS) (sa_26_1 hS) (aw_aload_n (pc' := 17) (dt_X3_push 8 (16, .aload_n 0, 1) rfl) rfl rfl (aw_getI (pc' := 20) (dt_X3_push 9 (17, .getfield 18, 3) rfl) fl_Machine_18 rfl rfl (sk_26 hS) (aw_iload_n (pc' := 21) (dt_X3_push 10 (20, .iload_n 1, 1) rfl) rfl rfl (aw_iast (pc' := 22) (dt_X3_push 11 (21, .iastore, 1) rfl) rfl (sk_28 hS) (by decide) (vin_eq (sl_28 hS) g35) (aw_aload_n (pc' := 23) (dt_X3_push 12 (22, .aload_n 0, 1) rfl) rfl rfl (aw_dup (pc' := 24) (dt_X3_push 13 (23, .dup, 1) rfl) rfl rfl (aw_getI (pc' := 27) (dt_X3_push 14 (24, .getfield 18, 3) rfl) fl_Machine_18 rfl rfl (sk_26 hS.wI) (aw_iconst (pc' := 28) (v := 1) (dt_X3_push 15 (27, .iconst 1, 1) rfl) (by decide) rfl (aw_iadd (pc' := 29) (dt_X3_push 16 (28, .iadd, 1) rfl) rfl (aw_putI (pc' := 32) (dt_X3_push 17 (29, .putfield 18, 3) rfl) fl_Machine_18 rfl (by decide +kernel) rfl (sk_26 hS.wI) (aw_ret (dt_X3_push 18 (32, .return_, 1) rfl) rfl (aw_stk (st' := []) rfl (aw_ret (dt_X3_work 14 (26, .return_, 1) rfl) rfl ?_))))))))))))))
        exact h

theorem t_X3_combined {E : ZE} {l : Launch} {d nc ns : Nat} {x0 : Int32} {x1 : Int32} {x2 : Int32} {μ : ZM} {K : Option Value → ZM → Prop} (hS : Stat μ) (h :
  (x0 = (-62) →
    (x1 ≤ x2 →
      K (some (.int 0)) μ) ∧
    (¬ x1 ≤ x2 →
      K (some (.int 1)) μ)) ∧
  (x0 = (-61) →
    (¬ x1 = x2 →
      K (some (.int 0)) μ) ∧
    (x1 = x2 →
      K (some (.int 1)) μ)) ∧
  (x0 = (-60) →
    (x2 ≤ x1 →
      K (some (.int 0)) μ) ∧
    (¬ x2 ≤ x1 →
      K (some (.int 1)) μ)) ∧
  (x0 = (-47) →
    (¬ x2 = 0 →
      (¬ x2 = 0) ∧
      K (some (.int (x1 / x2))) μ) ∧
    (x2 = 0 →
      K (some (.int 0)) μ)) ∧
  (x0 = (-45) →
    K (some (.int (x1 - x2))) μ) ∧
  (x0 = (-43) →
    K (some (.int (x1 + x2))) μ) ∧
  (x0 = (-42) →
    K (some (.int (x1 * x2))) μ) ∧
  (x0 = (-3) →
    (¬ x1 = 0 →
      K (some (.int 1)) μ) ∧
    (x1 = 0 →
      (x2 = 0 →
        K (some (.int 0)) μ) ∧
      (¬ x2 = 0 →
        K (some (.int 1)) μ))) ∧
  (x0 = (-2) →
    (x1 = 0 →
      K (some (.int 0)) μ) ∧
    (¬ x1 = 0 →
      (x2 = 0 →
        K (some (.int 0)) μ) ∧
      (¬ x2 = 0 →
        K (some (.int 1)) μ))) ∧
  (x0 = (-62) ∨ x0 = (-61) ∨ x0 = (-60) ∨ x0 = (-47) ∨ x0 = (-45) ∨ x0 = (-43) ∨ x0 = (-42) ∨ x0 = (-3) ∨ x0 = (-2))) : AW E l (d + 1) nc ns mX3_combined 0 [some (.int x0), some (.int x1), some (.int x2)] [] μ K := by
  refine aw_iload_n (pc' := 1) (dt_X3_combined 0 (0, .iload_n 0, 1) rfl) rfl rfl ?_
  by_cases q2 : x0 = (-62)
  · have h := h.1 q2
    refine aw_lookupE (tgt := 146) (off := 145) (dt_X3_combined 1 (1, .lookupswitch 183 #[(-62, 145), (-61, 131), (-60, 117), (-47, 171), (-45, 163), (-43, 159), (-42, 167), (-3, 83), (-2, 100)], 83) rfl) (by decide) q2 (by decide) (by decide) ?_
    refine aw_iload_n (pc' := 147) (dt_X3_combined 36 (146, .iload_n 1, 1) rfl) rfl rfl (aw_iload_n (pc' := 148) (dt_X3_combined 37 (147, .iload_n 2, 1) rfl) rfl rfl (aw_icmp_le (pc' := 151) (tgt := 155) (dt_X3_combined 38 (148, .if_icmp .le 7, 3) rfl) (by decide) rfl ?_ ?_))
    · intro q1
      have h := h.1 q1
      refine aw_iconst (pc' := 156) (v := 0) (dt_X3_combined 41 (155, .iconst 0, 1) rfl) (by decide) rfl (aw_inSN (pc' := 159) (nc1 := 0) (ns1 := 0) (nc := nc) (ns := ns) (ls' := [some (.int 0)]) (y2 := mX10_asBit) (As := [.int 0]) (rest := []) (dt_X3_combined 42 (156, .invokestatic 54, 3) rfl) ok_X10_asBit ln_Machine_54 sm_X10_asBit pr_X10_asBit rfl (Nat.le_of_ble_eq_true rfl) (Nat.le_of_ble_eq_true rfl) rfl rfl (aw_iload_n (pc' := 1) (dt_X10_asBit 0 (0, .iload_n 0, 1) rfl) rfl rfl (aw_if_eq_T (pc' := 4) (tgt := 8) (dt_X10_asBit 1 (1, .ifCond .eq 7, 3) rfl) (by decide) rfl (by decide) (aw_iconst (pc' := 9) (v := 0) (dt_X10_asBit 4 (8, .iconst 0, 1) rfl) (by decide) rfl (aw_iret (dt_X10_asBit 5 (9, .ireturn, 1) rfl) rfl rfl (aw_stk (st' := [.int 0]) rfl (aw_iret (dt_X3_combined 43 (159, .ireturn, 1) rfl) rfl rfl ?_)))))))
      exact h
    · intro q1
      have h := h.2 q1
      refine aw_iconst (pc' := 152) (v := 1) (dt_X3_combined 39 (151, .iconst 1, 1) rfl) (by decide) rfl (aw_goto (tgt := 156) (dt_X3_combined 40 (152, .goto 4, 3) rfl) (by decide) (aw_inSN (pc' := 159) (nc1 := 0) (ns1 := 0) (nc := nc) (ns := ns) (ls' := [some (.int 1)]) (y2 := mX10_asBit) (As := [.int 1]) (rest := []) (dt_X3_combined 42 (156, .invokestatic 54, 3) rfl) ok_X10_asBit ln_Machine_54 sm_X10_asBit pr_X10_asBit rfl (Nat.le_of_ble_eq_true rfl) (Nat.le_of_ble_eq_true rfl) rfl rfl (aw_iload_n (pc' := 1) (dt_X10_asBit 0 (0, .iload_n 0, 1) rfl) rfl rfl (aw_if_eq_F (pc' := 4) (tgt := 8) (dt_X10_asBit 1 (1, .ifCond .eq 7, 3) rfl) (by decide) rfl (by decide) (aw_iconst (pc' := 5) (v := 1) (dt_X10_asBit 2 (4, .iconst 1, 1) rfl) (by decide) rfl (aw_goto (tgt := 9) (dt_X10_asBit 3 (5, .goto 4, 3) rfl) (by decide) (aw_iret (dt_X10_asBit 5 (9, .ireturn, 1) rfl) rfl rfl (aw_stk (st' := [.int 1]) rfl (aw_iret (dt_X3_combined 43 (159, .ireturn, 1) rfl) rfl rfl ?_)))))))))
      exact h
  by_cases q4 : x0 = (-61)
  · have h := h.2.1 q4
    refine aw_lookupE (tgt := 132) (off := 131) (dt_X3_combined 1 (1, .lookupswitch 183 #[(-62, 145), (-61, 131), (-60, 117), (-47, 171), (-45, 163), (-43, 159), (-42, 167), (-3, 83), (-2, 100)], 83) rfl) (by decide) q4 (by decide) (by decide) ?_
    refine aw_iload_n (pc' := 133) (dt_X3_combined 28 (132, .iload_n 1, 1) rfl) rfl rfl (aw_iload_n (pc' := 134) (dt_X3_combined 29 (133, .iload_n 2, 1) rfl) rfl rfl (aw_icmp_ne (pc' := 137) (tgt := 141) (dt_X3_combined 30 (134, .if_icmp .ne 7, 3) rfl) (by decide) rfl ?_ ?_))
    · intro q3
      have h := h.1 q3
      refine aw_iconst (pc' := 142) (v := 0) (dt_X3_combined 33 (141, .iconst 0, 1) rfl) (by decide) rfl (aw_inSN (pc' := 145) (nc1 := 0) (ns1 := 0) (nc := nc) (ns := ns) (ls' := [some (.int 0)]) (y2 := mX10_asBit) (As := [.int 0]) (rest := []) (dt_X3_combined 34 (142, .invokestatic 54, 3) rfl) ok_X10_asBit ln_Machine_54 sm_X10_asBit pr_X10_asBit rfl (Nat.le_of_ble_eq_true rfl) (Nat.le_of_ble_eq_true rfl) rfl rfl (aw_iload_n (pc' := 1) (dt_X10_asBit 0 (0, .iload_n 0, 1) rfl) rfl rfl (aw_if_eq_T (pc' := 4) (tgt := 8) (dt_X10_asBit 1 (1, .ifCond .eq 7, 3) rfl) (by decide) rfl (by decide) (aw_iconst (pc' := 9) (v := 0) (dt_X10_asBit 4 (8, .iconst 0, 1) rfl) (by decide) rfl (aw_iret (dt_X10_asBit 5 (9, .ireturn, 1) rfl) rfl rfl (aw_stk (st' := [.int 0]) rfl (aw_iret (dt_X3_combined 35 (145, .ireturn, 1) rfl) rfl rfl ?_)))))))
      exact h
    · intro q3
      have h := h.2 q3
      refine aw_iconst (pc' := 138) (v := 1) (dt_X3_combined 31 (137, .iconst 1, 1) rfl) (by decide) rfl (aw_goto (tgt := 142) (dt_X3_combined 32 (138, .goto 4, 3) rfl) (by decide) (aw_inSN (pc' := 145) (nc1 := 0) (ns1 := 0) (nc := nc) (ns := ns) (ls' := [some (.int 1)]) (y2 := mX10_asBit) (As := [.int 1]) (rest := []) (dt_X3_combined 34 (142, .invokestatic 54, 3) rfl) ok_X10_asBit ln_Machine_54 sm_X10_asBit pr_X10_asBit rfl (Nat.le_of_ble_eq_true rfl) (Nat.le_of_ble_eq_true rfl) rfl rfl (aw_iload_n (pc' := 1) (dt_X10_asBit 0 (0, .iload_n 0, 1) rfl) rfl rfl (aw_if_eq_F (pc' := 4) (tgt := 8) (dt_X10_asBit 1 (1, .ifCond .eq 7, 3) rfl) (by decide) rfl (by decide) (aw_iconst (pc' := 5) (v := 1) (dt_X10_asBit 2 (4, .iconst 1, 1) rfl) (by decide) rfl (aw_goto (tgt := 9) (dt_X10_asBit 3 (5, .goto 4, 3) rfl) (by decide) (aw_iret (dt_X10_asBit 5 (9, .ireturn, 1) rfl) rfl rfl (aw_stk (st' := [.int 1]) rfl (aw_iret (dt_X3_combined 35 (145, .ireturn, 1) rfl) rfl rfl ?_)))))))))
      exact h
  by_cases q6 : x0 = (-60)
  · have h := h.2.2.1 q6
    refine aw_lookupE (tgt := 118) (off := 117) (dt_X3_combined 1 (1, .lookupswitch 183 #[(-62, 145), (-61, 131), (-60, 117), (-47, 171), (-45, 163), (-43, 159), (-42, 167), (-3, 83), (-2, 100)], 83) rfl) (by decide) q6 (by decide) (by decide) ?_
    refine aw_iload_n (pc' := 119) (dt_X3_combined 20 (118, .iload_n 1, 1) rfl) rfl rfl (aw_iload_n (pc' := 120) (dt_X3_combined 21 (119, .iload_n 2, 1) rfl) rfl rfl (aw_icmp_ge (pc' := 123) (tgt := 127) (dt_X3_combined 22 (120, .if_icmp .ge 7, 3) rfl) (by decide) rfl ?_ ?_))
    · intro q5
      have h := h.1 q5
      refine aw_iconst (pc' := 128) (v := 0) (dt_X3_combined 25 (127, .iconst 0, 1) rfl) (by decide) rfl (aw_inSN (pc' := 131) (nc1 := 0) (ns1 := 0) (nc := nc) (ns := ns) (ls' := [some (.int 0)]) (y2 := mX10_asBit) (As := [.int 0]) (rest := []) (dt_X3_combined 26 (128, .invokestatic 54, 3) rfl) ok_X10_asBit ln_Machine_54 sm_X10_asBit pr_X10_asBit rfl (Nat.le_of_ble_eq_true rfl) (Nat.le_of_ble_eq_true rfl) rfl rfl (aw_iload_n (pc' := 1) (dt_X10_asBit 0 (0, .iload_n 0, 1) rfl) rfl rfl (aw_if_eq_T (pc' := 4) (tgt := 8) (dt_X10_asBit 1 (1, .ifCond .eq 7, 3) rfl) (by decide) rfl (by decide) (aw_iconst (pc' := 9) (v := 0) (dt_X10_asBit 4 (8, .iconst 0, 1) rfl) (by decide) rfl (aw_iret (dt_X10_asBit 5 (9, .ireturn, 1) rfl) rfl rfl (aw_stk (st' := [.int 0]) rfl (aw_iret (dt_X3_combined 27 (131, .ireturn, 1) rfl) rfl rfl ?_)))))))
      exact h
    · intro q5
      have h := h.2 q5
      refine aw_iconst (pc' := 124) (v := 1) (dt_X3_combined 23 (123, .iconst 1, 1) rfl) (by decide) rfl (aw_goto (tgt := 128) (dt_X3_combined 24 (124, .goto 4, 3) rfl) (by decide) (aw_inSN (pc' := 131) (nc1 := 0) (ns1 := 0) (nc := nc) (ns := ns) (ls' := [some (.int 1)]) (y2 := mX10_asBit) (As := [.int 1]) (rest := []) (dt_X3_combined 26 (128, .invokestatic 54, 3) rfl) ok_X10_asBit ln_Machine_54 sm_X10_asBit pr_X10_asBit rfl (Nat.le_of_ble_eq_true rfl) (Nat.le_of_ble_eq_true rfl) rfl rfl (aw_iload_n (pc' := 1) (dt_X10_asBit 0 (0, .iload_n 0, 1) rfl) rfl rfl (aw_if_eq_F (pc' := 4) (tgt := 8) (dt_X10_asBit 1 (1, .ifCond .eq 7, 3) rfl) (by decide) rfl (by decide) (aw_iconst (pc' := 5) (v := 1) (dt_X10_asBit 2 (4, .iconst 1, 1) rfl) (by decide) rfl (aw_goto (tgt := 9) (dt_X10_asBit 3 (5, .goto 4, 3) rfl) (by decide) (aw_iret (dt_X10_asBit 5 (9, .ireturn, 1) rfl) rfl rfl (aw_stk (st' := [.int 1]) rfl (aw_iret (dt_X3_combined 27 (131, .ireturn, 1) rfl) rfl rfl ?_)))))))))
      exact h
  by_cases q9 : x0 = (-47)
  · have h := h.2.2.2.1 q9
    refine aw_lookupE (tgt := 172) (off := 171) (dt_X3_combined 1 (1, .lookupswitch 183 #[(-62, 145), (-61, 131), (-60, 117), (-47, 171), (-45, 163), (-43, 159), (-42, 167), (-3, 83), (-2, 100)], 83) rfl) (by decide) q9 (by decide) (by decide) ?_
    refine aw_iload_n (pc' := 173) (dt_X3_combined 56 (172, .iload_n 2, 1) rfl) rfl rfl (aw_if_ne (pc' := 176) (tgt := 180) (dt_X3_combined 57 (173, .ifCond .ne 7, 3) rfl) (by decide) rfl ?_ ?_)
    · intro q7
      have h := h.1 q7
      obtain ⟨g8, h⟩ := h
      refine aw_iload_n (pc' := 181) (dt_X3_combined 60 (180, .iload_n 1, 1) rfl) rfl rfl (aw_iload_n (pc' := 182) (dt_X3_combined 61 (181, .iload_n 2, 1) rfl) rfl rfl (aw_idiv (pc' := 183) (dt_X3_combined 62 (182, .idiv, 1) rfl) g8 rfl (aw_iret (dt_X3_combined 63 (183, .ireturn, 1) rfl) rfl rfl ?_)))
      exact h
    · intro q7
      have h := h.2 q7
      refine aw_iconst (pc' := 177) (v := 0) (dt_X3_combined 58 (176, .iconst 0, 1) rfl) (by decide) rfl (aw_goto (tgt := 183) (dt_X3_combined 59 (177, .goto 6, 3) rfl) (by decide) (aw_iret (dt_X3_combined 63 (183, .ireturn, 1) rfl) rfl rfl ?_))
      exact h
  by_cases q10 : x0 = (-45)
  · have h := h.2.2.2.2.1 q10
    refine aw_lookupE (tgt := 164) (off := 163) (dt_X3_combined 1 (1, .lookupswitch 183 #[(-62, 145), (-61, 131), (-60, 117), (-47, 171), (-45, 163), (-43, 159), (-42, 167), (-3, 83), (-2, 100)], 83) rfl) (by decide) q10 (by decide) (by decide) ?_
    refine aw_iload_n (pc' := 165) (dt_X3_combined 48 (164, .iload_n 1, 1) rfl) rfl rfl (aw_iload_n (pc' := 166) (dt_X3_combined 49 (165, .iload_n 2, 1) rfl) rfl rfl (aw_isub (pc' := 167) (dt_X3_combined 50 (166, .isub, 1) rfl) rfl (aw_iret (dt_X3_combined 51 (167, .ireturn, 1) rfl) rfl rfl ?_)))
    exact h
  by_cases q11 : x0 = (-43)
  · have h := h.2.2.2.2.2.1 q11
    refine aw_lookupE (tgt := 160) (off := 159) (dt_X3_combined 1 (1, .lookupswitch 183 #[(-62, 145), (-61, 131), (-60, 117), (-47, 171), (-45, 163), (-43, 159), (-42, 167), (-3, 83), (-2, 100)], 83) rfl) (by decide) q11 (by decide) (by decide) ?_
    refine aw_iload_n (pc' := 161) (dt_X3_combined 44 (160, .iload_n 1, 1) rfl) rfl rfl (aw_iload_n (pc' := 162) (dt_X3_combined 45 (161, .iload_n 2, 1) rfl) rfl rfl (aw_iadd (pc' := 163) (dt_X3_combined 46 (162, .iadd, 1) rfl) rfl (aw_iret (dt_X3_combined 47 (163, .ireturn, 1) rfl) rfl rfl ?_)))
    exact h
  by_cases q12 : x0 = (-42)
  · have h := h.2.2.2.2.2.2.1 q12
    refine aw_lookupE (tgt := 168) (off := 167) (dt_X3_combined 1 (1, .lookupswitch 183 #[(-62, 145), (-61, 131), (-60, 117), (-47, 171), (-45, 163), (-43, 159), (-42, 167), (-3, 83), (-2, 100)], 83) rfl) (by decide) q12 (by decide) (by decide) ?_
    refine aw_iload_n (pc' := 169) (dt_X3_combined 52 (168, .iload_n 1, 1) rfl) rfl rfl (aw_iload_n (pc' := 170) (dt_X3_combined 53 (169, .iload_n 2, 1) rfl) rfl rfl (aw_imul (pc' := 171) (dt_X3_combined 54 (170, .imul, 1) rfl) rfl (aw_iret (dt_X3_combined 55 (171, .ireturn, 1) rfl) rfl rfl ?_)))
    exact h
  by_cases q15 : x0 = (-3)
  · have h := h.2.2.2.2.2.2.2.1 q15
    refine aw_lookupE (tgt := 84) (off := 83) (dt_X3_combined 1 (1, .lookupswitch 183 #[(-62, 145), (-61, 131), (-60, 117), (-47, 171), (-45, 163), (-43, 159), (-42, 167), (-3, 83), (-2, 100)], 83) rfl) (by decide) q15 (by decide) (by decide) ?_
    refine aw_iload_n (pc' := 85) (dt_X3_combined 2 (84, .iload_n 1, 1) rfl) rfl rfl (aw_if_ne (pc' := 88) (tgt := 92) (dt_X3_combined 3 (85, .ifCond .ne 7, 3) rfl) (by decide) rfl ?_ ?_)
    · intro q13
      have h := h.1 q13
      refine aw_iconst (pc' := 93) (v := 1) (dt_X3_combined 6 (92, .iconst 1, 1) rfl) (by decide) rfl (aw_goto (tgt := 97) (dt_X3_combined 7 (93, .goto 4, 3) rfl) (by decide) (aw_inSN (pc' := 100) (nc1 := 0) (ns1 := 0) (nc := nc) (ns := ns) (ls' := [some (.int 1)]) (y2 := mX10_asBit) (As := [.int 1]) (rest := []) (dt_X3_combined 9 (97, .invokestatic 54, 3) rfl) ok_X10_asBit ln_Machine_54 sm_X10_asBit pr_X10_asBit rfl (Nat.le_of_ble_eq_true rfl) (Nat.le_of_ble_eq_true rfl) rfl rfl (aw_iload_n (pc' := 1) (dt_X10_asBit 0 (0, .iload_n 0, 1) rfl) rfl rfl (aw_if_eq_F (pc' := 4) (tgt := 8) (dt_X10_asBit 1 (1, .ifCond .eq 7, 3) rfl) (by decide) rfl (by decide) (aw_iconst (pc' := 5) (v := 1) (dt_X10_asBit 2 (4, .iconst 1, 1) rfl) (by decide) rfl (aw_goto (tgt := 9) (dt_X10_asBit 3 (5, .goto 4, 3) rfl) (by decide) (aw_iret (dt_X10_asBit 5 (9, .ireturn, 1) rfl) rfl rfl (aw_stk (st' := [.int 1]) rfl (aw_iret (dt_X3_combined 10 (100, .ireturn, 1) rfl) rfl rfl ?_)))))))))
      exact h
    · intro q13
      have h := h.2 q13
      refine aw_iload_n (pc' := 89) (dt_X3_combined 4 (88, .iload_n 2, 1) rfl) rfl rfl (aw_if_eq (pc' := 92) (tgt := 96) (dt_X3_combined 5 (89, .ifCond .eq 7, 3) rfl) (by decide) rfl ?_ ?_)
      · intro q14
        have h := h.1 q14
        refine aw_iconst (pc' := 97) (v := 0) (dt_X3_combined 8 (96, .iconst 0, 1) rfl) (by decide) rfl (aw_inSN (pc' := 100) (nc1 := 0) (ns1 := 0) (nc := nc) (ns := ns) (ls' := [some (.int 0)]) (y2 := mX10_asBit) (As := [.int 0]) (rest := []) (dt_X3_combined 9 (97, .invokestatic 54, 3) rfl) ok_X10_asBit ln_Machine_54 sm_X10_asBit pr_X10_asBit rfl (Nat.le_of_ble_eq_true rfl) (Nat.le_of_ble_eq_true rfl) rfl rfl (aw_iload_n (pc' := 1) (dt_X10_asBit 0 (0, .iload_n 0, 1) rfl) rfl rfl (aw_if_eq_T (pc' := 4) (tgt := 8) (dt_X10_asBit 1 (1, .ifCond .eq 7, 3) rfl) (by decide) rfl (by decide) (aw_iconst (pc' := 9) (v := 0) (dt_X10_asBit 4 (8, .iconst 0, 1) rfl) (by decide) rfl (aw_iret (dt_X10_asBit 5 (9, .ireturn, 1) rfl) rfl rfl (aw_stk (st' := [.int 0]) rfl (aw_iret (dt_X3_combined 10 (100, .ireturn, 1) rfl) rfl rfl ?_)))))))
        exact h
      · intro q14
        have h := h.2 q14
        refine aw_iconst (pc' := 93) (v := 1) (dt_X3_combined 6 (92, .iconst 1, 1) rfl) (by decide) rfl (aw_goto (tgt := 97) (dt_X3_combined 7 (93, .goto 4, 3) rfl) (by decide) (aw_inSN (pc' := 100) (nc1 := 0) (ns1 := 0) (nc := nc) (ns := ns) (ls' := [some (.int 1)]) (y2 := mX10_asBit) (As := [.int 1]) (rest := []) (dt_X3_combined 9 (97, .invokestatic 54, 3) rfl) ok_X10_asBit ln_Machine_54 sm_X10_asBit pr_X10_asBit rfl (Nat.le_of_ble_eq_true rfl) (Nat.le_of_ble_eq_true rfl) rfl rfl (aw_iload_n (pc' := 1) (dt_X10_asBit 0 (0, .iload_n 0, 1) rfl) rfl rfl (aw_if_eq_F (pc' := 4) (tgt := 8) (dt_X10_asBit 1 (1, .ifCond .eq 7, 3) rfl) (by decide) rfl (by decide) (aw_iconst (pc' := 5) (v := 1) (dt_X10_asBit 2 (4, .iconst 1, 1) rfl) (by decide) rfl (aw_goto (tgt := 9) (dt_X10_asBit 3 (5, .goto 4, 3) rfl) (by decide) (aw_iret (dt_X10_asBit 5 (9, .ireturn, 1) rfl) rfl rfl (aw_stk (st' := [.int 1]) rfl (aw_iret (dt_X3_combined 10 (100, .ireturn, 1) rfl) rfl rfl ?_)))))))))
        exact h
  by_cases q18 : x0 = (-2)
  · have h := h.2.2.2.2.2.2.2.2.1 q18
    refine aw_lookupE (tgt := 101) (off := 100) (dt_X3_combined 1 (1, .lookupswitch 183 #[(-62, 145), (-61, 131), (-60, 117), (-47, 171), (-45, 163), (-43, 159), (-42, 167), (-3, 83), (-2, 100)], 83) rfl) (by decide) q18 (by decide) (by decide) ?_
    refine aw_iload_n (pc' := 102) (dt_X3_combined 11 (101, .iload_n 1, 1) rfl) rfl rfl (aw_if_eq (pc' := 105) (tgt := 113) (dt_X3_combined 12 (102, .ifCond .eq 11, 3) rfl) (by decide) rfl ?_ ?_)
    · intro q16
      have h := h.1 q16
      refine aw_iconst (pc' := 114) (v := 0) (dt_X3_combined 17 (113, .iconst 0, 1) rfl) (by decide) rfl (aw_inSN (pc' := 117) (nc1 := 0) (ns1 := 0) (nc := nc) (ns := ns) (ls' := [some (.int 0)]) (y2 := mX10_asBit) (As := [.int 0]) (rest := []) (dt_X3_combined 18 (114, .invokestatic 54, 3) rfl) ok_X10_asBit ln_Machine_54 sm_X10_asBit pr_X10_asBit rfl (Nat.le_of_ble_eq_true rfl) (Nat.le_of_ble_eq_true rfl) rfl rfl (aw_iload_n (pc' := 1) (dt_X10_asBit 0 (0, .iload_n 0, 1) rfl) rfl rfl (aw_if_eq_T (pc' := 4) (tgt := 8) (dt_X10_asBit 1 (1, .ifCond .eq 7, 3) rfl) (by decide) rfl (by decide) (aw_iconst (pc' := 9) (v := 0) (dt_X10_asBit 4 (8, .iconst 0, 1) rfl) (by decide) rfl (aw_iret (dt_X10_asBit 5 (9, .ireturn, 1) rfl) rfl rfl (aw_stk (st' := [.int 0]) rfl (aw_iret (dt_X3_combined 19 (117, .ireturn, 1) rfl) rfl rfl ?_)))))))
      exact h
    · intro q16
      have h := h.2 q16
      refine aw_iload_n (pc' := 106) (dt_X3_combined 13 (105, .iload_n 2, 1) rfl) rfl rfl (aw_if_eq (pc' := 109) (tgt := 113) (dt_X3_combined 14 (106, .ifCond .eq 7, 3) rfl) (by decide) rfl ?_ ?_)
      · intro q17
        have h := h.1 q17
        refine aw_iconst (pc' := 114) (v := 0) (dt_X3_combined 17 (113, .iconst 0, 1) rfl) (by decide) rfl (aw_inSN (pc' := 117) (nc1 := 0) (ns1 := 0) (nc := nc) (ns := ns) (ls' := [some (.int 0)]) (y2 := mX10_asBit) (As := [.int 0]) (rest := []) (dt_X3_combined 18 (114, .invokestatic 54, 3) rfl) ok_X10_asBit ln_Machine_54 sm_X10_asBit pr_X10_asBit rfl (Nat.le_of_ble_eq_true rfl) (Nat.le_of_ble_eq_true rfl) rfl rfl (aw_iload_n (pc' := 1) (dt_X10_asBit 0 (0, .iload_n 0, 1) rfl) rfl rfl (aw_if_eq_T (pc' := 4) (tgt := 8) (dt_X10_asBit 1 (1, .ifCond .eq 7, 3) rfl) (by decide) rfl (by decide) (aw_iconst (pc' := 9) (v := 0) (dt_X10_asBit 4 (8, .iconst 0, 1) rfl) (by decide) rfl (aw_iret (dt_X10_asBit 5 (9, .ireturn, 1) rfl) rfl rfl (aw_stk (st' := [.int 0]) rfl (aw_iret (dt_X3_combined 19 (117, .ireturn, 1) rfl) rfl rfl ?_)))))))
        exact h
      · intro q17
        have h := h.2 q17
        refine aw_iconst (pc' := 110) (v := 1) (dt_X3_combined 15 (109, .iconst 1, 1) rfl) (by decide) rfl (aw_goto (tgt := 114) (dt_X3_combined 16 (110, .goto 4, 3) rfl) (by decide) (aw_inSN (pc' := 117) (nc1 := 0) (ns1 := 0) (nc := nc) (ns := ns) (ls' := [some (.int 1)]) (y2 := mX10_asBit) (As := [.int 1]) (rest := []) (dt_X3_combined 18 (114, .invokestatic 54, 3) rfl) ok_X10_asBit ln_Machine_54 sm_X10_asBit pr_X10_asBit rfl (Nat.le_of_ble_eq_true rfl) (Nat.le_of_ble_eq_true rfl) rfl rfl (aw_iload_n (pc' := 1) (dt_X10_asBit 0 (0, .iload_n 0, 1) rfl) rfl rfl (aw_if_eq_F (pc' := 4) (tgt := 8) (dt_X10_asBit 1 (1, .ifCond .eq 7, 3) rfl) (by decide) rfl (by decide) (aw_iconst (pc' := 5) (v := 1) (dt_X10_asBit 2 (4, .iconst 1, 1) rfl) (by decide) rfl (aw_goto (tgt := 9) (dt_X10_asBit 3 (5, .goto 4, 3) rfl) (by decide) (aw_iret (dt_X10_asBit 5 (9, .ireturn, 1) rfl) rfl rfl (aw_stk (st' := [.int 1]) rfl (aw_iret (dt_X3_combined 19 (117, .ireturn, 1) rfl) rfl rfl ?_)))))))))
        exact h
  exact absurd (h.2.2.2.2.2.2.2.2.2) (by simp [q2, q4, q6, q9, q10, q11, q12, q15, q18])

theorem t_X4_priceFor {E : ZE} {l : Launch} {d nc ns : Nat} {a0 : Nat} {x1 : Int32} {μ : ZM} {K : Option Value → ZM → Prop} (hS : Stat μ) (h :
  AW E l d nc ns mX4_priceFor 7 [some (.ref a0), some (.int x1), some (.int (-1)), some (.int 0), some (.int 0)] [] μ K) : AW E l d nc ns mX4_priceFor 0 [some (.ref a0), some (.int x1), none, none, none] [] μ K := by
  refine aw_iconst (pc' := 1) (v := (-1)) (dt_X4_priceFor 0 (0, .iconst (-1), 1) rfl) (by decide) rfl (aw_istore_n (pc' := 2) (ls' := [some (.ref a0), some (.int x1), some (.int (-1)), none, none]) (dt_X4_priceFor 1 (1, .istore_n 2, 1) rfl) (by decide) rfl rfl (aw_iconst (pc' := 3) (v := 0) (dt_X4_priceFor 2 (2, .iconst 0, 1) rfl) (by decide) rfl (aw_istore_n (pc' := 4) (ls' := [some (.ref a0), some (.int x1), some (.int (-1)), some (.int 0), none]) (dt_X4_priceFor 3 (3, .istore_n 3, 1) rfl) (by decide) rfl rfl (aw_iconst (pc' := 5) (v := 0) (dt_X4_priceFor 4 (4, .iconst 0, 1) rfl) (by decide) rfl (aw_istore (pc' := 7) (ls' := [some (.ref a0), some (.int x1), some (.int (-1)), some (.int 0), some (.int 0)]) (dt_X4_priceFor 5 (5, .istore 4, 2) rfl) (by decide) rfl rfl ?_)))))
  exact h

theorem t_X4_priceFor_7 {E : ZE} {l : Launch} {d nc ns : Nat} {a0 : Nat} {x1 : Int32} {x2 : Int32} {x3 : Int32} {x4 : Int32} {μ : ZM} {K : Option Value → ZM → Prop} (hS : Stat μ) (h :
  (zK μ a0 = 4) ∧
  ((zI μ a0 6) ≤ x4 →
    K (some (.int x3)) μ) ∧
  (¬ (zI μ a0 6) ≤ x4 →
    (zA μ a0 4 = none →
      False) ∧
    (∀ b4, zA μ a0 4 = some b4 →
      (zK μ b4 = 13) ∧
      (vp_in x4 (zL μ b4)) ∧
      (x1 < (zI μ b4 x4.toNatClampNeg) →
        AW E l d nc ns mX4_priceFor 7 [some (.ref a0), some (.int x1), some (.int x2), some (.int x3), some (.int (x4 + 1))] [] μ K) ∧
      (¬ x1 < (zI μ b4 x4.toNatClampNeg) →
        (vp_in x4 (zL μ b4)) ∧
        ((zI μ b4 x4.toNatClampNeg) < x2 →
          AW E l d nc ns mX4_priceFor 7 [some (.ref a0), some (.int x1), some (.int x2), some (.int x3), some (.int (x4 + 1))] [] μ K) ∧
        (¬ (zI μ b4 x4.toNatClampNeg) < x2 →
          (vp_in x4 (zL μ b4)) ∧
          (zA μ a0 5 = none →
            False) ∧
          (∀ b12, zA μ a0 5 = some b12 →
            (zK μ b12 = 13) ∧
            (vp_in x4 (zL μ b12)) ∧
            AW E l d nc ns mX4_priceFor 7 [some (.ref a0), some (.int x1), some (.int (zI μ b4 x4.toNatClampNeg)), some (.int (zI μ b12 x4.toNatClampNeg)), some (.int (x4 + 1))] [] μ K)))))) : AW E l d nc ns mX4_priceFor 7 [some (.ref a0), some (.int x1), some (.int x2), some (.int x3), some (.int x4)] [] μ K := by
  obtain ⟨g1, h⟩ := h
  refine aw_iload (pc' := 9) (dt_X4_priceFor 6 (7, .iload 4, 2) rfl) rfl rfl (aw_aload_n (pc' := 10) (dt_X4_priceFor 7 (9, .aload_n 0, 1) rfl) rfl rfl (aw_getI (pc' := 13) (dt_X4_priceFor 8 (10, .getfield 31, 3) rfl) fl_Model_31 rfl rfl g1 (aw_icmp_ge (pc' := 16) (tgt := 60) (dt_X4_priceFor 9 (13, .if_icmp .ge 47, 3) rfl) (by decide) rfl ?_ ?_)))
  · intro q2
    have h := h.1 q2
    refine aw_iload_n (pc' := 61) (dt_X4_priceFor 34 (60, .iload_n 3, 1) rfl) rfl rfl (aw_iret (dt_X4_priceFor 35 (61, .ireturn, 1) rfl) rfl rfl ?_)
    exact h
  · intro q2
    have h := h.2 q2
    refine aw_aload_n (pc' := 17) (dt_X4_priceFor 10 (16, .aload_n 0, 1) rfl) rfl rfl (aw_getA (pc' := 20) (dt_X4_priceFor 11 (17, .getfield 9, 3) rfl) fl_Model_9 rfl rfl g1 ?_ ?_)
    · intro e3
      have h := h.1 e3
      refine aw_iload (pc' := 22) (dt_X4_priceFor 12 (20, .iload 4, 2) rfl) rfl rfl ?_
      exact h.elim
    · intro b4 e3
      have h := h.2 b4 e3
      obtain ⟨g5, h⟩ := h
      obtain ⟨g6, h⟩ := h
      refine aw_iload (pc' := 22) (dt_X4_priceFor 12 (20, .iload 4, 2) rfl) rfl rfl (aw_iald (pc' := 23) (dt_X4_priceFor 13 (22, .iaload, 1) rfl) rfl g5 g6 (aw_iload_n (pc' := 24) (dt_X4_priceFor 14 (23, .iload_n 1, 1) rfl) rfl rfl (aw_icmp_gt (pc' := 27) (tgt := 54) (dt_X4_priceFor 15 (24, .if_icmp .gt 30, 3) rfl) (by decide) rfl ?_ ?_)))
      · intro q7
        have h := h.1 q7
        refine aw_iinc (pc' := 57) (v := 1) (ls' := [some (.ref a0), some (.int x1), some (.int x2), some (.int x3), some (.int (x4 + 1))]) (dt_X4_priceFor 32 (54, .iinc 4 1, 3) rfl) rfl (by decide) (by decide) rfl rfl (aw_goto (tgt := 7) (dt_X4_priceFor 33 (57, .goto (-50), 3) rfl) (by decide) ?_)
        exact h
      · intro q7
        have h := h.2 q7
        obtain ⟨g8, h⟩ := h
        refine aw_aload_n (pc' := 28) (dt_X4_priceFor 16 (27, .aload_n 0, 1) rfl) rfl rfl (aw_getAs (pc' := 31) (dt_X4_priceFor 17 (28, .getfield 9, 3) rfl) fl_Model_9 rfl rfl g1 e3 (aw_iload (pc' := 33) (dt_X4_priceFor 18 (31, .iload 4, 2) rfl) rfl rfl (aw_iald (pc' := 34) (dt_X4_priceFor 19 (33, .iaload, 1) rfl) rfl g5 g8 (aw_iload_n (pc' := 35) (dt_X4_priceFor 20 (34, .iload_n 2, 1) rfl) rfl rfl (aw_icmp_lt (pc' := 38) (tgt := 54) (dt_X4_priceFor 21 (35, .if_icmp .lt 19, 3) rfl) (by decide) rfl ?_ ?_)))))
        · intro q9
          have h := h.1 q9
          refine aw_iinc (pc' := 57) (v := 1) (ls' := [some (.ref a0), some (.int x1), some (.int x2), some (.int x3), some (.int (x4 + 1))]) (dt_X4_priceFor 32 (54, .iinc 4 1, 3) rfl) rfl (by decide) (by decide) rfl rfl (aw_goto (tgt := 7) (dt_X4_priceFor 33 (57, .goto (-50), 3) rfl) (by decide) ?_)
          exact h
        · intro q9
          have h := h.2 q9
          obtain ⟨g10, h⟩ := h
          refine aw_aload_n (pc' := 39) (dt_X4_priceFor 22 (38, .aload_n 0, 1) rfl) rfl rfl (aw_getAs (pc' := 42) (dt_X4_priceFor 23 (39, .getfield 9, 3) rfl) fl_Model_9 rfl rfl g1 e3 (aw_iload (pc' := 44) (dt_X4_priceFor 24 (42, .iload 4, 2) rfl) rfl rfl (aw_iald (pc' := 45) (dt_X4_priceFor 25 (44, .iaload, 1) rfl) rfl g5 g10 (aw_istore_n (pc' := 46) (ls' := [some (.ref a0), some (.int x1), some (.int (zI μ b4 x4.toNatClampNeg)), some (.int x3), some (.int x4)]) (dt_X4_priceFor 26 (45, .istore_n 2, 1) rfl) (by decide) rfl rfl (aw_aload_n (pc' := 47) (dt_X4_priceFor 27 (46, .aload_n 0, 1) rfl) rfl rfl (aw_getA (pc' := 50) (dt_X4_priceFor 28 (47, .getfield 15, 3) rfl) fl_Model_15 rfl rfl g1 ?_ ?_))))))
          · intro e11
            have h := h.1 e11
            refine aw_iload (pc' := 52) (dt_X4_priceFor 29 (50, .iload 4, 2) rfl) rfl rfl ?_
            exact h.elim
          · intro b12 e11
            have h := h.2 b12 e11
            obtain ⟨g13, h⟩ := h
            obtain ⟨g14, h⟩ := h
            refine aw_iload (pc' := 52) (dt_X4_priceFor 29 (50, .iload 4, 2) rfl) rfl rfl (aw_iald (pc' := 53) (dt_X4_priceFor 30 (52, .iaload, 1) rfl) rfl g13 g14 (aw_istore_n (pc' := 54) (ls' := [some (.ref a0), some (.int x1), some (.int (zI μ b4 x4.toNatClampNeg)), some (.int (zI μ b12 x4.toNatClampNeg)), some (.int x4)]) (dt_X4_priceFor 31 (53, .istore_n 3, 1) rfl) (by decide) rfl rfl (aw_iinc (pc' := 57) (v := 1) (ls' := [some (.ref a0), some (.int x1), some (.int (zI μ b4 x4.toNatClampNeg)), some (.int (zI μ b12 x4.toNatClampNeg)), some (.int (x4 + 1))]) (dt_X4_priceFor 32 (54, .iinc 4 1, 3) rfl) rfl (by decide) (by decide) rfl rfl (aw_goto (tgt := 7) (dt_X4_priceFor 33 (57, .goto (-50), 3) rfl) (by decide) ?_))))
            exact h

theorem t_X4_takeUsed {E : ZE} {l : Launch} {d nc ns : Nat} {a0 : Nat} {μ : ZM} {K : Option Value → ZM → Prop} (hS : Stat μ) (h :
  (zK μ a0 = 4) ∧
  (zA μ a0 11 = none →
    K (some .null) μ) ∧
  (∀ b3, zA μ a0 11 = some b3 →
    (zK μ b3 = 7) ∧
    (zA μ b3 19 = none →
      (zA (sA μ a0 11 none) a0 11 = none →
        K (some (.ref b3)) (sI (sA (sA μ a0 11 none) a0 12 none) a0 8 ((zI (sA (sA μ a0 11 none) a0 12 none) a0 8) - 1))) ∧
      (∀ b8, zA (sA μ a0 11 none) a0 11 = some b8 →
        K (some (.ref b3)) (sI (sA μ a0 11 none) a0 8 ((zI (sA μ a0 11 none) a0 8) - 1)))) ∧
    (∀ b6, zA μ b3 19 = some b6 →
      (zA (sA μ a0 11 (some b6)) a0 11 = none →
        K (some (.ref b3)) (sI (sA (sA μ a0 11 (some b6)) a0 12 none) a0 8 ((zI (sA (sA μ a0 11 (some b6)) a0 12 none) a0 8) - 1))) ∧
      (∀ b10, zA (sA μ a0 11 (some b6)) a0 11 = some b10 →
        K (some (.ref b3)) (sI (sA μ a0 11 (some b6)) a0 8 ((zI (sA μ a0 11 (some b6)) a0 8) - 1)))))) : AW E l d nc ns mX4_takeUsed 0 [some (.ref a0), none] [] μ K := by
  obtain ⟨g1, h⟩ := h
  refine aw_aload_n (pc' := 1) (dt_X4_takeUsed 0 (0, .aload_n 0, 1) rfl) rfl rfl (aw_getA (pc' := 4) (dt_X4_takeUsed 1 (1, .getfield 51, 3) rfl) fl_Model_51 rfl rfl g1 ?_ ?_)
  · intro e2
    have h := h.1 e2
    refine aw_astore_nN (pc' := 5) (ls' := [some (.ref a0), some (.null)]) (dt_X4_takeUsed 2 (4, .astore_n 1, 1) rfl) (by decide) rfl rfl (aw_aload_nN (pc' := 6) (dt_X4_takeUsed 3 (5, .aload_n 1, 1) rfl) rfl rfl (aw_ifnonnullN (pc' := 9) (dt_X4_takeUsed 4 (6, .ifnonnull 5, 3) rfl) rfl (aw_null (pc' := 10) (dt_X4_takeUsed 5 (9, .aconst_null, 1) rfl) rfl (aw_aretN (dt_X4_takeUsed 6 (10, .areturn, 1) rfl) rfl rfl ?_))))
    exact h
  · intro b3 e2
    have h := h.2 b3 e2
    obtain ⟨g4, h⟩ := h
    refine aw_astore_n (pc' := 5) (ls' := [some (.ref a0), some (.ref b3)]) (dt_X4_takeUsed 2 (4, .astore_n 1, 1) rfl) (by decide) rfl rfl (aw_aload_n (pc' := 6) (dt_X4_takeUsed 3 (5, .aload_n 1, 1) rfl) rfl rfl (aw_ifnonnull (tgt := 11) (dt_X4_takeUsed 4 (6, .ifnonnull 5, 3) rfl) (by decide) (aw_aload_n (pc' := 12) (dt_X4_takeUsed 7 (11, .aload_n 0, 1) rfl) rfl rfl (aw_aload_n (pc' := 13) (dt_X4_takeUsed 8 (12, .aload_n 1, 1) rfl) rfl rfl (aw_getA (pc' := 16) (dt_X4_takeUsed 9 (13, .getfield 54, 3) rfl) fl_Model_54 rfl rfl g4 ?_ ?_)))))
    · intro e5
      have h := h.1 e5
      refine aw_putAN (pc' := 19) (dt_X4_takeUsed 10 (16, .putfield 51, 3) rfl) fl_Model_51 rfl (by decide +kernel) rfl g1 (aw_aload_n (pc' := 20) (dt_X4_takeUsed 11 (19, .aload_n 0, 1) rfl) rfl rfl (aw_getA (pc' := 23) (dt_X4_takeUsed 12 (20, .getfield 51, 3) rfl) fl_Model_51 rfl rfl g1 ?_ ?_))
      · intro e7
        have h := h.1 e7
        refine aw_ifnonnullN (pc' := 26) (dt_X4_takeUsed 13 (23, .ifnonnull 8, 3) rfl) rfl (aw_aload_n (pc' := 27) (dt_X4_takeUsed 14 (26, .aload_n 0, 1) rfl) rfl rfl (aw_null (pc' := 28) (dt_X4_takeUsed 15 (27, .aconst_null, 1) rfl) rfl (aw_putAN (pc' := 31) (dt_X4_takeUsed 16 (28, .putfield 47, 3) rfl) fl_Model_47 rfl (by decide +kernel) rfl g1 (aw_aload_n (pc' := 32) (dt_X4_takeUsed 17 (31, .aload_n 0, 1) rfl) rfl rfl (aw_dup (pc' := 33) (dt_X4_takeUsed 18 (32, .dup, 1) rfl) rfl rfl (aw_getI (pc' := 36) (dt_X4_takeUsed 19 (33, .getfield 59, 3) rfl) fl_Model_59 rfl rfl g1 (aw_iconst (pc' := 37) (v := 1) (dt_X4_takeUsed 20 (36, .iconst 1, 1) rfl) (by decide) rfl (aw_isub (pc' := 38) (dt_X4_takeUsed 21 (37, .isub, 1) rfl) rfl (aw_putI (pc' := 41) (dt_X4_takeUsed 22 (38, .putfield 59, 3) rfl) fl_Model_59 rfl (by decide +kernel) rfl g1 (aw_aload_n (pc' := 42) (dt_X4_takeUsed 23 (41, .aload_n 1, 1) rfl) rfl rfl (aw_aret (dt_X4_takeUsed 24 (42, .areturn, 1) rfl) rfl rfl ?_)))))))))))
        exact h
      · intro b8 e7
        have h := h.2 b8 e7
        refine aw_ifnonnull (tgt := 31) (dt_X4_takeUsed 13 (23, .ifnonnull 8, 3) rfl) (by decide) (aw_aload_n (pc' := 32) (dt_X4_takeUsed 17 (31, .aload_n 0, 1) rfl) rfl rfl (aw_dup (pc' := 33) (dt_X4_takeUsed 18 (32, .dup, 1) rfl) rfl rfl (aw_getI (pc' := 36) (dt_X4_takeUsed 19 (33, .getfield 59, 3) rfl) fl_Model_59 rfl rfl g1 (aw_iconst (pc' := 37) (v := 1) (dt_X4_takeUsed 20 (36, .iconst 1, 1) rfl) (by decide) rfl (aw_isub (pc' := 38) (dt_X4_takeUsed 21 (37, .isub, 1) rfl) rfl (aw_putI (pc' := 41) (dt_X4_takeUsed 22 (38, .putfield 59, 3) rfl) fl_Model_59 rfl (by decide +kernel) rfl g1 (aw_aload_n (pc' := 42) (dt_X4_takeUsed 23 (41, .aload_n 1, 1) rfl) rfl rfl (aw_aret (dt_X4_takeUsed 24 (42, .areturn, 1) rfl) rfl rfl ?_))))))))
        exact h
    · intro b6 e5
      have h := h.2 b6 e5
      refine aw_putA (pc' := 19) (dt_X4_takeUsed 10 (16, .putfield 51, 3) rfl) fl_Model_51 rfl (by decide +kernel) rfl g1 (aw_aload_n (pc' := 20) (dt_X4_takeUsed 11 (19, .aload_n 0, 1) rfl) rfl rfl (aw_getA (pc' := 23) (dt_X4_takeUsed 12 (20, .getfield 51, 3) rfl) fl_Model_51 rfl rfl g1 ?_ ?_))
      · intro e9
        have h := h.1 e9
        refine aw_ifnonnullN (pc' := 26) (dt_X4_takeUsed 13 (23, .ifnonnull 8, 3) rfl) rfl (aw_aload_n (pc' := 27) (dt_X4_takeUsed 14 (26, .aload_n 0, 1) rfl) rfl rfl (aw_null (pc' := 28) (dt_X4_takeUsed 15 (27, .aconst_null, 1) rfl) rfl (aw_putAN (pc' := 31) (dt_X4_takeUsed 16 (28, .putfield 47, 3) rfl) fl_Model_47 rfl (by decide +kernel) rfl g1 (aw_aload_n (pc' := 32) (dt_X4_takeUsed 17 (31, .aload_n 0, 1) rfl) rfl rfl (aw_dup (pc' := 33) (dt_X4_takeUsed 18 (32, .dup, 1) rfl) rfl rfl (aw_getI (pc' := 36) (dt_X4_takeUsed 19 (33, .getfield 59, 3) rfl) fl_Model_59 rfl rfl g1 (aw_iconst (pc' := 37) (v := 1) (dt_X4_takeUsed 20 (36, .iconst 1, 1) rfl) (by decide) rfl (aw_isub (pc' := 38) (dt_X4_takeUsed 21 (37, .isub, 1) rfl) rfl (aw_putI (pc' := 41) (dt_X4_takeUsed 22 (38, .putfield 59, 3) rfl) fl_Model_59 rfl (by decide +kernel) rfl g1 (aw_aload_n (pc' := 42) (dt_X4_takeUsed 23 (41, .aload_n 1, 1) rfl) rfl rfl (aw_aret (dt_X4_takeUsed 24 (42, .areturn, 1) rfl) rfl rfl ?_)))))))))))
        exact h
      · intro b10 e9
        have h := h.2 b10 e9
        refine aw_ifnonnull (tgt := 31) (dt_X4_takeUsed 13 (23, .ifnonnull 8, 3) rfl) (by decide) (aw_aload_n (pc' := 32) (dt_X4_takeUsed 17 (31, .aload_n 0, 1) rfl) rfl rfl (aw_dup (pc' := 33) (dt_X4_takeUsed 18 (32, .dup, 1) rfl) rfl rfl (aw_getI (pc' := 36) (dt_X4_takeUsed 19 (33, .getfield 59, 3) rfl) fl_Model_59 rfl rfl g1 (aw_iconst (pc' := 37) (v := 1) (dt_X4_takeUsed 20 (36, .iconst 1, 1) rfl) (by decide) rfl (aw_isub (pc' := 38) (dt_X4_takeUsed 21 (37, .isub, 1) rfl) rfl (aw_putI (pc' := 41) (dt_X4_takeUsed 22 (38, .putfield 59, 3) rfl) fl_Model_59 rfl (by decide +kernel) rfl g1 (aw_aload_n (pc' := 42) (dt_X4_takeUsed 23 (41, .aload_n 1, 1) rfl) rfl rfl (aw_aret (dt_X4_takeUsed 24 (42, .areturn, 1) rfl) rfl rfl ?_))))))))
        exact h

theorem t_X5_onAllNotes {E : ZE} {l : Launch} {d nc ns : Nat}  {μ : ZM} {K : Option Value → ZM → Prop} (hS : Stat μ) (h :
  AW E l d nc ns mX5_onAllNotes 4 [some (.ref 17), some (.int 0), some (.int 0)] [] μ K) : AW E l d nc ns mX5_onAllNotes 0 [some (.ref 17), none, none] [] μ K := by
  refine aw_iconst (pc' := 1) (v := 0) (dt_X5_onAllNotes 0 (0, .iconst 0, 1) rfl) (by decide) rfl (aw_istore_n (pc' := 2) (ls' := [some (.ref 17), some (.int 0), none]) (dt_X5_onAllNotes 1 (1, .istore_n 1, 1) rfl) (by decide) rfl rfl (aw_iconst (pc' := 3) (v := 0) (dt_X5_onAllNotes 2 (2, .iconst 0, 1) rfl) (by decide) rfl (aw_istore_n (pc' := 4) (ls' := [some (.ref 17), some (.int 0), some (.int 0)]) (dt_X5_onAllNotes 3 (3, .istore_n 2, 1) rfl) (by decide) rfl rfl ?_)))
  exact h

theorem t_X5_onAllNotes_4 {E : ZE} {l : Launch} {d nc ns : Nat} {x1 : Int32} {x2 : Int32} {μ : ZM} {K : Option Value → ZM → Prop} (hS : Stat μ) (h :
  ((zI μ 17 1) ≤ x2 →
    K (some (.int x1)) μ) ∧
  (¬ (zI μ 17 1) ≤ x2 →
    (vp_in x2 200) ∧
    AW E l d nc ns mX5_onAllNotes 4 [some (.ref 17), some (.int (x1 + (zI μ 18 x2.toNatClampNeg))), some (.int (x2 + 1))] [] μ K)) : AW E l d nc ns mX5_onAllNotes 4 [some (.ref 17), some (.int x1), some (.int x2)] [] μ K := by
  refine aw_iload_n (pc' := 5) (dt_X5_onAllNotes 4 (4, .iload_n 2, 1) rfl) rfl rfl (aw_aload_n (pc' := 6) (dt_X5_onAllNotes 5 (5, .aload_n 0, 1) rfl) rfl rfl (aw_getI (pc' := 9) (dt_X5_onAllNotes 6 (6, .getfield 15, 3) rfl) fl_Purse_15 rfl rfl (sk_17 hS) (aw_icmp_ge (pc' := 12) (tgt := 27) (dt_X5_onAllNotes 7 (9, .if_icmp .ge 18, 3) rfl) (by decide) rfl ?_ ?_)))
  · intro q1
    have h := h.1 q1
    refine aw_iload_n (pc' := 28) (dt_X5_onAllNotes 17 (27, .iload_n 1, 1) rfl) rfl rfl (aw_iret (dt_X5_onAllNotes 18 (28, .ireturn, 1) rfl) rfl rfl ?_)
    exact h
  · intro q1
    have h := h.2 q1
    obtain ⟨g2, h⟩ := h
    refine aw_iload_n (pc' := 13) (dt_X5_onAllNotes 8 (12, .iload_n 1, 1) rfl) rfl rfl (aw_aload_n (pc' := 14) (dt_X5_onAllNotes 9 (13, .aload_n 0, 1) rfl) rfl rfl (aw_getAs (pc' := 17) (dt_X5_onAllNotes 10 (14, .getfield 9, 3) rfl) fl_Purse_9 rfl rfl (sk_17 hS) (sa_17_0 hS) (aw_iload_n (pc' := 18) (dt_X5_onAllNotes 11 (17, .iload_n 2, 1) rfl) rfl rfl (aw_iald (pc' := 19) (dt_X5_onAllNotes 12 (18, .iaload, 1) rfl) rfl (sk_18 hS) (vin_eq (sl_18 hS) g2) (aw_iadd (pc' := 20) (dt_X5_onAllNotes 13 (19, .iadd, 1) rfl) rfl (aw_istore_n (pc' := 21) (ls' := [some (.ref 17), some (.int (x1 + (zI μ 18 x2.toNatClampNeg))), some (.int x2)]) (dt_X5_onAllNotes 14 (20, .istore_n 1, 1) rfl) (by decide) rfl rfl (aw_iinc (pc' := 24) (v := 1) (ls' := [some (.ref 17), some (.int (x1 + (zI μ 18 x2.toNatClampNeg))), some (.int (x2 + 1))]) (dt_X5_onAllNotes 15 (21, .iinc 2 1, 3) rfl) rfl (by decide) (by decide) rfl rfl (aw_goto (tgt := 4) (dt_X5_onAllNotes 16 (24, .goto (-20), 3) rfl) (by decide) ?_))))))))
    exact h

theorem t_X9_init {E : ZE} {l : Launch} {d nc ns : Nat} {a0 : Nat} {x1 : Int32} {x2 : Int32} {x3 : Int32} {x4 : Int32} {a5 : Nat} {μ : ZM} {K : Option Value → ZM → Prop} (hS : Stat μ) (h :
  (zK μ a0 = 9) ∧
  AW E l (d + 1) nc ns mX9_init 37 [some (.ref a0), none, none, none, none, some (.ref a5), some (.int 0), some (.int 0)] [] (sA (sI (sI (sI (sI μ a0 0 x1) a0 1 x2) a0 2 x3) a0 3 x4) a0 4 (some a5)) K) : AW E l (d + 1) nc ns mX9_init 0 [some (.ref a0), some (.int x1), some (.int x2), some (.int x3), some (.int x4), some (.ref a5), none, none] [] μ K := by
  obtain ⟨g1, h⟩ := h
  refine aw_aload_n (pc' := 1) (dt_X9_init 0 (0, .aload_n 0, 1) rfl) rfl rfl (aw_objInit (pc' := 4) (dt_X9_init 1 (1, .invokespecial 3, 3) rfl) oi_Text_3 (Nat.le_of_ble_eq_true rfl) rfl (aw_aload_n (pc' := 5) (dt_X9_init 2 (4, .aload_n 0, 1) rfl) rfl rfl (aw_iload_n (pc' := 6) (dt_X9_init 3 (5, .iload_n 1, 1) rfl) rfl rfl (aw_putI (pc' := 9) (dt_X9_init 4 (6, .putfield 9, 3) rfl) fl_Text_9 rfl (by decide +kernel) rfl g1 (aw_aload_n (pc' := 10) (dt_X9_init 5 (9, .aload_n 0, 1) rfl) rfl rfl (aw_iload_n (pc' := 11) (dt_X9_init 6 (10, .iload_n 2, 1) rfl) rfl rfl (aw_putI (pc' := 14) (dt_X9_init 7 (11, .putfield 15, 3) rfl) fl_Text_15 rfl (by decide +kernel) rfl g1 (aw_aload_n (pc' := 15) (dt_X9_init 8 (14, .aload_n 0, 1) rfl) rfl rfl (aw_iload_n (pc' := 16) (dt_X9_init 9 (15, .iload_n 3, 1) rfl) rfl rfl (aw_putI (pc' := 19) (dt_X9_init 10 (16, .putfield 18, 3) rfl) fl_Text_18 rfl (by decide +kernel) rfl g1 (aw_aload_n (pc' := 20) (dt_X9_init 11 (19, .aload_n 0, 1) rfl) rfl rfl (aw_iload (pc' := 22) (dt_X9_init 12 (20, .iload 4, 2) rfl) rfl rfl (aw_putI (pc' := 25) (dt_X9_init 13 (22, .putfield 21, 3) rfl) fl_Text_21 rfl (by decide +kernel) rfl g1 (aw_aload_n (pc' := 26) (dt_X9_init 14 (25, .aload_n 0, 1) rfl) rfl rfl (aw_aload (pc' := 28) (dt_X9_init 15 (26, .aload 5, 2) rfl) rfl rfl (aw_putA (pc' := 31) (dt_X9_init 16 (28, .putfield 24, 3) rfl) fl_Text_24 rfl (by decide +kernel) rfl g1 (aw_iconst (pc' := 32) (v := 0) (dt_X9_init 17 (31, .iconst 0, 1) rfl) (by decide) rfl (aw_istore (pc' := 34) (ls' := [some (.ref a0), some (.int x1), some (.int x2), some (.int x3), some (.int x4), some (.ref a5), some (.int 0), none]) (dt_X9_init 18 (32, .istore 6, 2) rfl) (by decide) rfl rfl (aw_iconst (pc' := 35) (v := 0) (dt_X9_init 19 (34, .iconst 0, 1) rfl) (by decide) rfl (aw_istore (pc' := 37) (ls' := [some (.ref a0), some (.int x1), some (.int x2), some (.int x3), some (.int x4), some (.ref a5), some (.int 0), some (.int 0)]) (dt_X9_init 20 (35, .istore 7, 2) rfl) (by decide) rfl rfl (aw_drop (ls' := [some (.ref a0), none, none, none, none, some (.ref a5), some (.int 0), some (.int 0)]) ⟨rfl, rfl, rfl, rfl, trivial⟩ ?_)))))))))))))))))))))
  exact h

theorem t_X9_init_37 {E : ZE} {l : Launch} {d nc ns : Nat} {a0 : Nat} {a5 : Nat} {x6 : Int32} {x7 : Int32} {μ : ZM} {K : Option Value → ZM → Prop} (hS : Stat μ) (h :
  (zK μ a5 = 13) ∧
  ((nI (zL μ a5)) ≤ x7 →
    (zK μ a0 = 9) ∧
    K none (sI μ a0 5 x6)) ∧
  (¬ (nI (zL μ a5)) ≤ x7 →
    (vp_in x7 (zL μ a5)) ∧
    ((zI μ a5 x7.toNatClampNeg) < 100000 →
      AW E l (d + 1) nc ns mX9_init 37 [some (.ref a0), none, none, none, none, some (.ref a5), some (.int (x6 ||| 0)), some (.int (x7 + 1))] [] μ K) ∧
    (¬ (zI μ a5 x7.toNatClampNeg) < 100000 →
      (vp_in x7 (zL μ a5)) ∧
      AW E l (d + 1) nc ns mX9_init 37 [some (.ref a0), none, none, none, none, some (.ref a5), some (.int (x6 ||| ((1 : Int32) <<< (((zI μ a5 x7.toNatClampNeg) - 100000) &&& 31)))), some (.int (x7 + 1))] [] μ K))) : AW E l (d + 1) nc ns mX9_init 37 [some (.ref a0), none, none, none, none, some (.ref a5), some (.int x6), some (.int x7)] [] μ K := by
  obtain ⟨g1, h⟩ := h
  refine aw_iload (pc' := 39) (dt_X9_init 21 (37, .iload 7, 2) rfl) rfl rfl (aw_aload (pc' := 41) (dt_X9_init 22 (39, .aload 5, 2) rfl) rfl rfl (aw_alen (pc' := 42) (dt_X9_init 23 (41, .arraylength, 1) rfl) (by decide) (by decide) rfl g1 (aw_icmp_ge (pc' := 45) (tgt := 80) (dt_X9_init 24 (42, .if_icmp .ge 38, 3) rfl) (by decide) rfl ?_ ?_)))
  · intro q2
    have h := h.1 q2
    obtain ⟨g3, h⟩ := h
    refine aw_aload_n (pc' := 81) (dt_X9_init 44 (80, .aload_n 0, 1) rfl) rfl rfl (aw_iload (pc' := 83) (dt_X9_init 45 (81, .iload 6, 2) rfl) rfl rfl (aw_putI (pc' := 86) (dt_X9_init 46 (83, .putfield 29, 3) rfl) fl_Text_29 rfl (by decide +kernel) rfl g3 (aw_ret (dt_X9_init 47 (86, .return_, 1) rfl) rfl ?_)))
    exact h
  · intro q2
    have h := h.2 q2
    obtain ⟨g4, h⟩ := h
    refine aw_iload (pc' := 47) (dt_X9_init 25 (45, .iload 6, 2) rfl) rfl rfl (aw_aload (pc' := 49) (dt_X9_init 26 (47, .aload 5, 2) rfl) rfl rfl (aw_iload (pc' := 51) (dt_X9_init 27 (49, .iload 7, 2) rfl) rfl rfl (aw_iald (pc' := 52) (dt_X9_init 28 (51, .iaload, 1) rfl) rfl g1 g4 (aw_ldc (pc' := 54) (dt_X9_init 29 (52, .ldc 28, 2) rfl) ct_Text_28 rfl (aw_icmp_lt (pc' := 57) (tgt := 70) (dt_X9_init 30 (54, .if_icmp .lt 16, 3) rfl) (by decide) rfl ?_ ?_)))))
    · intro q5
      have h := h.1 q5
      refine aw_iconst (pc' := 71) (v := 0) (dt_X9_init 39 (70, .iconst 0, 1) rfl) (by decide) rfl (aw_ior (pc' := 72) (dt_X9_init 40 (71, .ior, 1) rfl) rfl (aw_istore (pc' := 74) (ls' := [some (.ref a0), none, none, none, none, some (.ref a5), some (.int (x6 ||| 0)), some (.int x7)]) (dt_X9_init 41 (72, .istore 6, 2) rfl) (by decide) rfl rfl (aw_iinc (pc' := 77) (v := 1) (ls' := [some (.ref a0), none, none, none, none, some (.ref a5), some (.int (x6 ||| 0)), some (.int (x7 + 1))]) (dt_X9_init 42 (74, .iinc 7 1, 3) rfl) rfl (by decide) (by decide) rfl rfl (aw_goto (tgt := 37) (dt_X9_init 43 (77, .goto (-40), 3) rfl) (by decide) ?_))))
      exact h
    · intro q5
      have h := h.2 q5
      obtain ⟨g6, h⟩ := h
      refine aw_iconst (pc' := 58) (v := 1) (dt_X9_init 31 (57, .iconst 1, 1) rfl) (by decide) rfl (aw_aload (pc' := 60) (dt_X9_init 32 (58, .aload 5, 2) rfl) rfl rfl (aw_iload (pc' := 62) (dt_X9_init 33 (60, .iload 7, 2) rfl) rfl rfl (aw_iald (pc' := 63) (dt_X9_init 34 (62, .iaload, 1) rfl) rfl g1 g6 (aw_ldc (pc' := 65) (dt_X9_init 35 (63, .ldc 28, 2) rfl) ct_Text_28 rfl (aw_isub (pc' := 66) (dt_X9_init 36 (65, .isub, 1) rfl) rfl (aw_ishl (pc' := 67) (dt_X9_init 37 (66, .ishl, 1) rfl) rfl (aw_goto (tgt := 71) (dt_X9_init 38 (67, .goto 4, 3) rfl) (by decide) (aw_ior (pc' := 72) (dt_X9_init 40 (71, .ior, 1) rfl) rfl (aw_istore (pc' := 74) (ls' := [some (.ref a0), none, none, none, none, some (.ref a5), some (.int (x6 ||| ((1 : Int32) <<< (((zI μ a5 x7.toNatClampNeg) - 100000) &&& 31)))), some (.int x7)]) (dt_X9_init 41 (72, .istore 6, 2) rfl) (by decide) rfl rfl (aw_iinc (pc' := 77) (v := 1) (ls' := [some (.ref a0), none, none, none, none, some (.ref a5), some (.int (x6 ||| ((1 : Int32) <<< (((zI μ a5 x7.toNatClampNeg) - 100000) &&& 31)))), some (.int (x7 + 1))]) (dt_X9_init 42 (74, .iinc 7 1, 3) rfl) rfl (by decide) (by decide) rfl rfl (aw_goto (tgt := 37) (dt_X9_init 43 (77, .goto (-40), 3) rfl) (by decide) ?_)))))))))))
      exact h

