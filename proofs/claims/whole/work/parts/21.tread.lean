theorem t_X6_readText {E : ZE} {l : Launch} {d nc ns : Nat}  {μ : ZM} {K : Option Value → ZM → Prop} (hS : Stat μ) (h :
  AW E l (d + 8) 0 0 mX6_start 0 (zargs 2 [.ref 19, .ref 1]) [] μ (fun v μ1 => v = none ∧ Stat μ1 ∧ 
    AW E l (d + 8) 0 0 mX6_readRule 0 (zargs 2 [.ref 19]) [] μ1 (fun v μ3 => ∃ r5 : Int32, v = some (.int r5) ∧ Stat μ3 ∧ 
      AW E l (d + 9) nc ns mX6_readText 13 [some (.ref 19), some (.int r5), some (.int 0)] [] μ3 K))) : AW E l (d + 9) nc ns mX6_readText 0 [some (.ref 19), none, none] [] μ K := by
  refine aw_aload_n (pc' := 1) (dt_X6_readText 0 (0, .aload_n 0, 1) rfl) rfl rfl (aw_ldcS (pc' := 3) (i := 0) (dt_X6_readText 1 (1, .ldc 26, 2) rfl) rfl rfl (aw_callV0 (pc' := 6) (nc := nc) (ns := ns) (y2 := mX6_start) (As := [.ref 1]) (rest := []) (a := 19) (dt_X6_readText 2 (3, .invokevirtual 28, 3) rfl) ok_X6_start ln_Reader_28 im_X6_start se_X6_start pr_X6_start (Or.inl ⟨by decide, rfl⟩) rfl (Nat.le_of_ble_eq_true rfl) (Nat.le_of_ble_eq_true rfl) rfl (sk_19 hS) h ?_))
  rintro v μ1 ⟨rfl, hS2, h⟩
  refine aw_stk (st' := []) rfl ?_
  refine aw_aload_n (pc' := 7) (dt_X6_readText 3 (6, .aload_n 0, 1) rfl) rfl rfl (aw_callV0 (pc' := 10) (nc := nc) (ns := ns) (y2 := mX6_readRule) (As := []) (rest := []) (a := 19) (dt_X6_readText 4 (7, .invokevirtual 32, 3) rfl) ok_X6_readRule ln_Reader_32 im_X6_readRule se_X6_readRule pr_X6_readRule (Or.inl ⟨by decide, rfl⟩) rfl (Nat.le_of_ble_eq_true rfl) (Nat.le_of_ble_eq_true rfl) rfl (sk_19 hS2) h ?_)
  rintro v μ3 ⟨r5, rfl, hS4, h⟩
  refine aw_stk (st' := [.int r5]) rfl ?_
  refine aw_istore_n (pc' := 11) (ls' := [some (.ref 19), some (.int r5), none]) (dt_X6_readText 5 (10, .istore_n 1, 1) rfl) (by decide) rfl rfl (aw_iconst (pc' := 12) (v := 0) (dt_X6_readText 6 (11, .iconst 0, 1) rfl) (by decide) rfl (aw_istore_n (pc' := 13) (ls' := [some (.ref 19), some (.int r5), some (.int 0)]) (dt_X6_readText 7 (12, .istore_n 2, 1) rfl) (by decide) rfl rfl ?_))
  exact h

theorem t_X6_readText_13 {E : ZE} {l : Launch} {d nc ns : Nat} {x1 : Int32} {x2 : Int32} {μ : ZM} {K : Option Value → ZM → Prop} (hS : Stat μ) (h :
  (200 ≤ x2 →
    (x1 = 0 →
      K (some (.int 0)) μ) ∧
    (¬ x1 = 0 →
      (¬ (zI μ 19 4) = 23 →
        K (some (.int 0)) μ) ∧
      ((zI μ 19 4) = 23 →
        K (some (.int 1)) μ))) ∧
  (¬ 200 ≤ x2 →
    (x1 = 0 →
      (x1 = 0 →
        K (some (.int 0)) μ) ∧
      (¬ x1 = 0 →
        (¬ (zI μ 19 4) = 23 →
          K (some (.int 0)) μ) ∧
        ((zI μ 19 4) = 23 →
          K (some (.int 1)) μ))) ∧
    (¬ x1 = 0 →
      (¬ (zI μ 19 4) = 59 →
        (x1 = 0 →
          K (some (.int 0)) μ) ∧
        (¬ x1 = 0 →
          (¬ (zI μ 19 4) = 23 →
            K (some (.int 0)) μ) ∧
          ((zI μ 19 4) = 23 →
            K (some (.int 1)) μ))) ∧
      ((zI μ 19 4) = 59 →
        ((zI μ 20 5) ≤ ((zI μ 19 3) + 1) →
          AW E l (d + 8) 0 0 mX6_readRule 0 (zargs 2 [.ref 19]) [] μ (fun v μ11 => ∃ r13 : Int32, v = some (.int r13) ∧ Stat μ11 ∧ 
            AW E l (d + 9) nc ns mX6_readText 13 [some (.ref 19), some (.int r13), some (.int (x2 + 1))] [] μ11 K)) ∧
        (¬ (zI μ 20 5) ≤ ((zI μ 19 3) + 1) →
          (201 ≤ ((zI μ 19 3) + 1) →
            AW E l (d + 8) 0 0 mX6_readRule 0 (zargs 2 [.ref 19]) [] μ (fun v μ15 => ∃ r17 : Int32, v = some (.int r17) ∧ Stat μ15 ∧ 
              AW E l (d + 9) nc ns mX6_readText 13 [some (.ref 19), some (.int r17), some (.int (x2 + 1))] [] μ15 K)) ∧
          (¬ 201 ≤ ((zI μ 19 3) + 1) →
            (vp_in (zI (sI μ 19 3 ((zI μ 19 3) + 1)) 19 3) 201) ∧
            AW E l (d + 8) 0 0 mX6_readRule 0 (zargs 2 [.ref 19]) [] (sI (sI μ 19 3 ((zI μ 19 3) + 1)) 19 4 (zI (sI μ 19 3 ((zI μ 19 3) + 1)) 22 (zI (sI μ 19 3 ((zI μ 19 3) + 1)) 19 3).toNatClampNeg)) (fun v μ19 => ∃ r21 : Int32, v = some (.int r21) ∧ Stat μ19 ∧ 
              AW E l (d + 9) nc ns mX6_readText 13 [some (.ref 19), some (.int r21), some (.int (x2 + 1))] [] μ19 K))))))) : AW E l (d + 9) nc ns mX6_readText 13 [some (.ref 19), some (.int x1), some (.int x2)] [] μ K := by
  refine aw_iload_n (pc' := 14) (dt_X6_readText 8 (13, .iload_n 2, 1) rfl) rfl rfl (aw_sipush (pc' := 17) (v := 200) (dt_X6_readText 9 (14, .sipush 200, 3) rfl) (by decide) rfl (aw_icmp_ge (pc' := 20) (tgt := 48) (dt_X6_readText 10 (17, .if_icmp .ge 31, 3) rfl) (by decide) rfl ?_ ?_))
  · intro q1
    have h := h.1 q1
    refine aw_iload_n (pc' := 49) (dt_X6_readText 24 (48, .iload_n 1, 1) rfl) rfl rfl (aw_if_eq (pc' := 52) (tgt := 65) (dt_X6_readText 25 (49, .ifCond .eq 16, 3) rfl) (by decide) rfl ?_ ?_)
    · intro q2
      have h := h.1 q2
      refine aw_iconst (pc' := 66) (v := 0) (dt_X6_readText 32 (65, .iconst 0, 1) rfl) (by decide) rfl (aw_iret (dt_X6_readText 33 (66, .ireturn, 1) rfl) rfl rfl ?_)
      exact h
    · intro q2
      have h := h.2 q2
      refine aw_aload_n (pc' := 53) (dt_X6_readText 26 (52, .aload_n 0, 1) rfl) rfl rfl (aw_getI (pc' := 56) (dt_X6_readText 27 (53, .getfield 22, 3) rfl) fl_Reader_22 rfl rfl (sk_19 hS) (aw_bipush (pc' := 58) (v := 23) (dt_X6_readText 28 (56, .bipush 23, 2) rfl) (by decide) rfl (aw_icmp_ne (pc' := 61) (tgt := 65) (dt_X6_readText 29 (58, .if_icmp .ne 7, 3) rfl) (by decide) rfl ?_ ?_)))
      · intro q3
        have h := h.1 q3
        refine aw_iconst (pc' := 66) (v := 0) (dt_X6_readText 32 (65, .iconst 0, 1) rfl) (by decide) rfl (aw_iret (dt_X6_readText 33 (66, .ireturn, 1) rfl) rfl rfl ?_)
        exact h
      · intro q3
        have h := h.2 q3
        refine aw_iconst (pc' := 62) (v := 1) (dt_X6_readText 30 (61, .iconst 1, 1) rfl) (by decide) rfl (aw_goto (tgt := 66) (dt_X6_readText 31 (62, .goto 4, 3) rfl) (by decide) (aw_iret (dt_X6_readText 33 (66, .ireturn, 1) rfl) rfl rfl ?_))
        exact h
  · intro q1
    have h := h.2 q1
    refine aw_iload_n (pc' := 21) (dt_X6_readText 11 (20, .iload_n 1, 1) rfl) rfl rfl (aw_if_eq (pc' := 24) (tgt := 48) (dt_X6_readText 12 (21, .ifCond .eq 27, 3) rfl) (by decide) rfl ?_ ?_)
    · intro q4
      have h := h.1 q4
      refine aw_iload_n (pc' := 49) (dt_X6_readText 24 (48, .iload_n 1, 1) rfl) rfl rfl (aw_if_eq (pc' := 52) (tgt := 65) (dt_X6_readText 25 (49, .ifCond .eq 16, 3) rfl) (by decide) rfl ?_ ?_)
      · intro q5
        have h := h.1 q5
        refine aw_iconst (pc' := 66) (v := 0) (dt_X6_readText 32 (65, .iconst 0, 1) rfl) (by decide) rfl (aw_iret (dt_X6_readText 33 (66, .ireturn, 1) rfl) rfl rfl ?_)
        exact h
      · intro q5
        have h := h.2 q5
        refine aw_aload_n (pc' := 53) (dt_X6_readText 26 (52, .aload_n 0, 1) rfl) rfl rfl (aw_getI (pc' := 56) (dt_X6_readText 27 (53, .getfield 22, 3) rfl) fl_Reader_22 rfl rfl (sk_19 hS) (aw_bipush (pc' := 58) (v := 23) (dt_X6_readText 28 (56, .bipush 23, 2) rfl) (by decide) rfl (aw_icmp_ne (pc' := 61) (tgt := 65) (dt_X6_readText 29 (58, .if_icmp .ne 7, 3) rfl) (by decide) rfl ?_ ?_)))
        · intro q6
          have h := h.1 q6
          refine aw_iconst (pc' := 66) (v := 0) (dt_X6_readText 32 (65, .iconst 0, 1) rfl) (by decide) rfl (aw_iret (dt_X6_readText 33 (66, .ireturn, 1) rfl) rfl rfl ?_)
          exact h
        · intro q6
          have h := h.2 q6
          refine aw_iconst (pc' := 62) (v := 1) (dt_X6_readText 30 (61, .iconst 1, 1) rfl) (by decide) rfl (aw_goto (tgt := 66) (dt_X6_readText 31 (62, .goto 4, 3) rfl) (by decide) (aw_iret (dt_X6_readText 33 (66, .ireturn, 1) rfl) rfl rfl ?_))
          exact h
    · intro q4
      have h := h.2 q4
      refine aw_aload_n (pc' := 25) (dt_X6_readText 13 (24, .aload_n 0, 1) rfl) rfl rfl (aw_getI (pc' := 28) (dt_X6_readText 14 (25, .getfield 22, 3) rfl) fl_Reader_22 rfl rfl (sk_19 hS) (aw_bipush (pc' := 30) (v := 59) (dt_X6_readText 15 (28, .bipush 59, 2) rfl) (by decide) rfl (aw_icmp_ne (pc' := 33) (tgt := 48) (dt_X6_readText 16 (30, .if_icmp .ne 18, 3) rfl) (by decide) rfl ?_ ?_)))
      · intro q7
        have h := h.1 q7
        refine aw_iload_n (pc' := 49) (dt_X6_readText 24 (48, .iload_n 1, 1) rfl) rfl rfl (aw_if_eq (pc' := 52) (tgt := 65) (dt_X6_readText 25 (49, .ifCond .eq 16, 3) rfl) (by decide) rfl ?_ ?_)
        · intro q8
          have h := h.1 q8
          refine aw_iconst (pc' := 66) (v := 0) (dt_X6_readText 32 (65, .iconst 0, 1) rfl) (by decide) rfl (aw_iret (dt_X6_readText 33 (66, .ireturn, 1) rfl) rfl rfl ?_)
          exact h
        · intro q8
          have h := h.2 q8
          refine aw_aload_n (pc' := 53) (dt_X6_readText 26 (52, .aload_n 0, 1) rfl) rfl rfl (aw_getI (pc' := 56) (dt_X6_readText 27 (53, .getfield 22, 3) rfl) fl_Reader_22 rfl rfl (sk_19 hS) (aw_bipush (pc' := 58) (v := 23) (dt_X6_readText 28 (56, .bipush 23, 2) rfl) (by decide) rfl (aw_icmp_ne (pc' := 61) (tgt := 65) (dt_X6_readText 29 (58, .if_icmp .ne 7, 3) rfl) (by decide) rfl ?_ ?_)))
          · intro q9
            have h := h.1 q9
            refine aw_iconst (pc' := 66) (v := 0) (dt_X6_readText 32 (65, .iconst 0, 1) rfl) (by decide) rfl (aw_iret (dt_X6_readText 33 (66, .ireturn, 1) rfl) rfl rfl ?_)
            exact h
          · intro q9
            have h := h.2 q9
            refine aw_iconst (pc' := 62) (v := 1) (dt_X6_readText 30 (61, .iconst 1, 1) rfl) (by decide) rfl (aw_goto (tgt := 66) (dt_X6_readText 31 (62, .goto 4, 3) rfl) (by decide) (aw_iret (dt_X6_readText 33 (66, .ireturn, 1) rfl) rfl rfl ?_))
            exact h
      · intro q7
        have h := h.2 q7
        refine aw_aload_n (pc' := 34) (dt_X6_readText 17 (33, .aload_n 0, 1) rfl) rfl rfl (aw_inV (pc' := 37) (nc1 := 0) (ns1 := 0) (nc := nc) (ns := ns) (ls' := [some (.ref 19)]) (y2 := mX6_step) (As := []) (rest := []) (a := 19) (dt_X6_readText 18 (34, .invokevirtual 36, 3) rfl) ok_X6_step ln_Reader_36 im_X6_step se_X6_step pr_X6_step (Or.inl ⟨by decide, rfl⟩) rfl (Nat.le_of_ble_eq_true rfl) (Nat.le_of_ble_eq_true rfl) rfl rfl (sk_19 hS) (aw_aload_n (pc' := 1) (dt_X6_step 0 (0, .aload_n 0, 1) rfl) rfl rfl (aw_getI (pc' := 4) (dt_X6_step 1 (1, .getfield 45, 3) rfl) fl_Reader_45 rfl rfl (sk_19 hS) (aw_iconst (pc' := 5) (v := 1) (dt_X6_step 2 (4, .iconst 1, 1) rfl) (by decide) rfl (aw_iadd (pc' := 6) (dt_X6_step 3 (5, .iadd, 1) rfl) rfl (aw_aload_n (pc' := 7) (dt_X6_step 4 (6, .aload_n 0, 1) rfl) rfl rfl (aw_getAs (pc' := 10) (dt_X6_step 5 (7, .getfield 12, 3) rfl) fl_Reader_12 rfl rfl (sk_19 hS) (sa_19_0 hS) (aw_getI (pc' := 13) (dt_X6_step 6 (10, .getfield 69, 3) rfl) fl_Reader_69 rfl rfl (sk_20 hS) (aw_icmp_ge (pc' := 16) (tgt := 59) (dt_X6_step 7 (13, .if_icmp .ge 46, 3) rfl) (by decide) rfl ?_ ?_)))))))))
        · intro q10
          have h := h.1 q10
          refine aw_ret (dt_X6_step 31 (59, .return_, 1) rfl) rfl (aw_stk (st' := []) rfl (aw_aload_n (pc' := 38) (dt_X6_readText 19 (37, .aload_n 0, 1) rfl) rfl rfl (aw_callV0 (pc' := 41) (nc := nc) (ns := ns) (y2 := mX6_readRule) (As := []) (rest := []) (a := 19) (dt_X6_readText 20 (38, .invokevirtual 32, 3) rfl) ok_X6_readRule ln_Reader_32 im_X6_readRule se_X6_readRule pr_X6_readRule (Or.inl ⟨by decide, rfl⟩) rfl (Nat.le_of_ble_eq_true rfl) (Nat.le_of_ble_eq_true rfl) rfl (sk_19 hS) h ?_)))
          rintro v μ11 ⟨r13, rfl, hS12, h⟩
          refine aw_stk (st' := [.int r13]) rfl ?_
          refine aw_istore_n (pc' := 42) (ls' := [some (.ref 19), some (.int r13), some (.int x2)]) (dt_X6_readText 21 (41, .istore_n 1, 1) rfl) (by decide) rfl rfl (aw_iinc (pc' := 45) (v := 1) (ls' := [some (.ref 19), some (.int r13), some (.int (x2 + 1))]) (dt_X6_readText 22 (42, .iinc 2 1, 3) rfl) rfl (by decide) (by decide) rfl rfl (aw_goto (tgt := 13) (dt_X6_readText 23 (45, .goto (-32), 3) rfl) (by decide) ?_))
          exact h
        · intro q10
          have h := h.2 q10
          refine aw_aload_n (pc' := 17) (dt_X6_step 8 (16, .aload_n 0, 1) rfl) rfl rfl (aw_getI (pc' := 20) (dt_X6_step 9 (17, .getfield 45, 3) rfl) fl_Reader_45 rfl rfl (sk_19 hS) (aw_iconst (pc' := 21) (v := 1) (dt_X6_step 10 (20, .iconst 1, 1) rfl) (by decide) rfl (aw_iadd (pc' := 22) (dt_X6_step 11 (21, .iadd, 1) rfl) rfl (aw_aload_n (pc' := 23) (dt_X6_step 12 (22, .aload_n 0, 1) rfl) rfl rfl (aw_getAs (pc' := 26) (dt_X6_step 13 (23, .getfield 12, 3) rfl) fl_Reader_12 rfl rfl (sk_19 hS) (sa_19_0 hS) (aw_getAs (pc' := 29) (dt_X6_step 14 (26, .getfield 66, 3) rfl) fl_Reader_66 rfl rfl (sk_20 hS) (sa_20_2 hS) (aw_alens (pc' := 30) (n := 201) (v := 201) (dt_X6_step 15 (29, .arraylength, 1) rfl) (by decide) (by decide) rfl (sk_22 hS) (sl_22 hS) (by decide) (aw_icmp_ge (pc' := 33) (tgt := 59) (dt_X6_step 16 (30, .if_icmp .ge 29, 3) rfl) (by decide) rfl ?_ ?_))))))))
          · intro q14
            have h := h.1 q14
            refine aw_ret (dt_X6_step 31 (59, .return_, 1) rfl) rfl (aw_stk (st' := []) rfl (aw_aload_n (pc' := 38) (dt_X6_readText 19 (37, .aload_n 0, 1) rfl) rfl rfl (aw_callV0 (pc' := 41) (nc := nc) (ns := ns) (y2 := mX6_readRule) (As := []) (rest := []) (a := 19) (dt_X6_readText 20 (38, .invokevirtual 32, 3) rfl) ok_X6_readRule ln_Reader_32 im_X6_readRule se_X6_readRule pr_X6_readRule (Or.inl ⟨by decide, rfl⟩) rfl (Nat.le_of_ble_eq_true rfl) (Nat.le_of_ble_eq_true rfl) rfl (sk_19 hS) h ?_)))
            rintro v μ15 ⟨r17, rfl, hS16, h⟩
            refine aw_stk (st' := [.int r17]) rfl ?_
            refine aw_istore_n (pc' := 42) (ls' := [some (.ref 19), some (.int r17), some (.int x2)]) (dt_X6_readText 21 (41, .istore_n 1, 1) rfl) (by decide) rfl rfl (aw_iinc (pc' := 45) (v := 1) (ls' := [some (.ref 19), some (.int r17), some (.int (x2 + 1))]) (dt_X6_readText 22 (42, .iinc 2 1, 3) rfl) rfl (by decide) (by decide) rfl rfl (aw_goto (tgt := 13) (dt_X6_readText 23 (45, .goto (-32), 3) rfl) (by decide) ?_))
            exact h
          · intro q14
            have h := h.2 q14
            obtain ⟨g18, h⟩ := h
            refine aw_aload_n (pc' := 34) (dt_X6_step 17 (33, .aload_n 0, 1) rfl) rfl rfl (aw_dup (pc' := 35) (dt_X6_step 18 (34, .dup, 1) rfl) rfl rfl (aw_getI (pc' := 38) (dt_X6_step 19 (35, .getfield 45, 3) rfl) fl_Reader_45 rfl rfl (sk_19 hS) (aw_iconst (pc' := 39) (v := 1) (dt_X6_step 20 (38, .iconst 1, 1) rfl) (by decide) rfl (aw_iadd (pc' := 40) (dt_X6_step 21 (39, .iadd, 1) rfl) rfl (aw_putI (pc' := 43) (dt_X6_step 22 (40, .putfield 45, 3) rfl) fl_Reader_45 rfl (by decide +kernel) rfl (sk_19 hS) (aw_aload_n (pc' := 44) (dt_X6_step 23 (43, .aload_n 0, 1) rfl) rfl rfl (aw_aload_n (pc' := 45) (dt_X6_step 24 (44, .aload_n 0, 1) rfl) rfl rfl (aw_getAs (pc' := 48) (dt_X6_step 25 (45, .getfield 12, 3) rfl) fl_Reader_12 rfl rfl (sk_19 hS.wI) (sa_19_0 hS.wI) (aw_getAs (pc' := 51) (dt_X6_step 26 (48, .getfield 66, 3) rfl) fl_Reader_66 rfl rfl (sk_20 hS.wI) (sa_20_2 hS.wI) (aw_aload_n (pc' := 52) (dt_X6_step 27 (51, .aload_n 0, 1) rfl) rfl rfl (aw_getI (pc' := 55) (dt_X6_step 28 (52, .getfield 45, 3) rfl) fl_Reader_45 rfl rfl (sk_19 hS.wI) (aw_iald (pc' := 56) (dt_X6_step 29 (55, .iaload, 1) rfl) rfl (sk_22 hS.wI) (vin_eq (sl_22 hS.wI) g18) (aw_putI (pc' := 59) (dt_X6_step 30 (56, .putfield 22, 3) rfl) fl_Reader_22 rfl (by decide +kernel) rfl (sk_19 hS.wI) (aw_ret (dt_X6_step 31 (59, .return_, 1) rfl) rfl (aw_stk (st' := []) rfl (aw_aload_n (pc' := 38) (dt_X6_readText 19 (37, .aload_n 0, 1) rfl) rfl rfl (aw_callV0 (pc' := 41) (nc := nc) (ns := ns) (y2 := mX6_readRule) (As := []) (rest := []) (a := 19) (dt_X6_readText 20 (38, .invokevirtual 32, 3) rfl) ok_X6_readRule ln_Reader_32 im_X6_readRule se_X6_readRule pr_X6_readRule (Or.inl ⟨by decide, rfl⟩) rfl (Nat.le_of_ble_eq_true rfl) (Nat.le_of_ble_eq_true rfl) rfl (sk_19 hS.wI.wI) h ?_)))))))))))))))))
            rintro v μ19 ⟨r21, rfl, hS20, h⟩
            refine aw_stk (st' := [.int r21]) rfl ?_
            refine aw_istore_n (pc' := 42) (ls' := [some (.ref 19), some (.int r21), some (.int x2)]) (dt_X6_readText 21 (41, .istore_n 1, 1) rfl) (by decide) rfl rfl (aw_iinc (pc' := 45) (v := 1) (ls' := [some (.ref 19), some (.int r21), some (.int (x2 + 1))]) (dt_X6_readText 22 (42, .iinc 2 1, 3) rfl) rfl (by decide) (by decide) rfl rfl (aw_goto (tgt := 13) (dt_X6_readText 23 (45, .goto (-32), 3) rfl) (by decide) ?_))
            exact h

theorem t_X6_readLimit {E : ZE} {l : Launch} {d nc ns : Nat}  {μ : ZM} {K : Option Value → ZM → Prop} (hS : Stat μ) (h :
  AW E l (d + 8) 0 0 mX6_start 0 (zargs 2 [.ref 19, .ref 4]) [] μ (fun v μ1 => v = none ∧ Stat μ1 ∧ 
    AW E l (d + 8) 0 0 mX6_readAny 0 (zargs 4 [.ref 19, .int 0]) [] μ1 (fun v μ3 => ∃ r5 : Int32, v = some (.int r5) ∧ Stat μ3 ∧ 
      (r5 = 0 →
        K (some (.int 0)) μ3) ∧
      (¬ r5 = 0 →
        (¬ (zI μ3 19 4) = 23 →
          K (some (.int 0)) μ3) ∧
        ((zI μ3 19 4) = 23 →
          K (some (.int 1)) μ3))))) : AW E l (d + 9) nc ns mX6_readLimit 0 [some (.ref 19)] [] μ K := by
  refine aw_aload_n (pc' := 1) (dt_X6_readLimit 0 (0, .aload_n 0, 1) rfl) rfl rfl (aw_ldcS (pc' := 3) (i := 3) (dt_X6_readLimit 1 (1, .ldc 39, 2) rfl) rfl rfl (aw_callV0 (pc' := 6) (nc := nc) (ns := ns) (y2 := mX6_start) (As := [.ref 4]) (rest := []) (a := 19) (dt_X6_readLimit 2 (3, .invokevirtual 28, 3) rfl) ok_X6_start ln_Reader_28 im_X6_start se_X6_start pr_X6_start (Or.inl ⟨by decide, rfl⟩) rfl (Nat.le_of_ble_eq_true rfl) (Nat.le_of_ble_eq_true rfl) rfl (sk_19 hS) h ?_))
  rintro v μ1 ⟨rfl, hS2, h⟩
  refine aw_stk (st' := []) rfl ?_
  refine aw_aload_n (pc' := 7) (dt_X6_readLimit 3 (6, .aload_n 0, 1) rfl) rfl rfl (aw_iconst (pc' := 8) (v := 0) (dt_X6_readLimit 4 (7, .iconst 0, 1) rfl) (by decide) rfl (aw_callV0 (pc' := 11) (nc := nc) (ns := ns) (y2 := mX6_readAny) (As := [.int 0]) (rest := []) (a := 19) (dt_X6_readLimit 5 (8, .invokevirtual 41, 3) rfl) ok_X6_readAny ln_Reader_41 im_X6_readAny se_X6_readAny pr_X6_readAny (Or.inl ⟨by decide, rfl⟩) rfl (Nat.le_of_ble_eq_true rfl) (Nat.le_of_ble_eq_true rfl) rfl (sk_19 hS2) h ?_))
  rintro v μ3 ⟨r5, rfl, hS4, h⟩
  refine aw_stk (st' := [.int r5]) rfl ?_
  refine aw_if_eq (pc' := 14) (tgt := 27) (dt_X6_readLimit 6 (11, .ifCond .eq 16, 3) rfl) (by decide) rfl ?_ ?_
  · intro q6
    have h := h.1 q6
    refine aw_iconst (pc' := 28) (v := 0) (dt_X6_readLimit 13 (27, .iconst 0, 1) rfl) (by decide) rfl (aw_iret (dt_X6_readLimit 14 (28, .ireturn, 1) rfl) rfl rfl ?_)
    exact h
  · intro q6
    have h := h.2 q6
    refine aw_aload_n (pc' := 15) (dt_X6_readLimit 7 (14, .aload_n 0, 1) rfl) rfl rfl (aw_getI (pc' := 18) (dt_X6_readLimit 8 (15, .getfield 22, 3) rfl) fl_Reader_22 rfl rfl (sk_19 hS4) (aw_bipush (pc' := 20) (v := 23) (dt_X6_readLimit 9 (18, .bipush 23, 2) rfl) (by decide) rfl (aw_icmp_ne (pc' := 23) (tgt := 27) (dt_X6_readLimit 10 (20, .if_icmp .ne 7, 3) rfl) (by decide) rfl ?_ ?_)))
    · intro q7
      have h := h.1 q7
      refine aw_iconst (pc' := 28) (v := 0) (dt_X6_readLimit 13 (27, .iconst 0, 1) rfl) (by decide) rfl (aw_iret (dt_X6_readLimit 14 (28, .ireturn, 1) rfl) rfl rfl ?_)
      exact h
    · intro q7
      have h := h.2 q7
      refine aw_iconst (pc' := 24) (v := 1) (dt_X6_readLimit 11 (23, .iconst 1, 1) rfl) (by decide) rfl (aw_goto (tgt := 28) (dt_X6_readLimit 12 (24, .goto 4, 3) rfl) (by decide) (aw_iret (dt_X6_readLimit 14 (28, .ireturn, 1) rfl) rfl rfl ?_))
      exact h

theorem t_X6_start {E : ZE} {l : Launch} {d nc ns : Nat} {a1 : Nat} {μ : ZM} {K : Option Value → ZM → Prop} (hS : Stat μ) (h :
  AW E l (d + 7) 0 0 mX8_split 0 (zargs 6 [.ref 20, .ref a1]) [] μ (fun v μ1 => v = none ∧ Stat μ1 ∧ 
    K none (sI (sI (sI μ1 19 2 0) 19 3 0) 19 4 (zI (sI (sI μ1 19 2 0) 19 3 0) 22 0)))) : AW E l (d + 8) nc ns mX6_start 0 [some (.ref 19), some (.ref a1)] [] μ K := by
  refine aw_aload_n (pc' := 1) (dt_X6_start 0 (0, .aload_n 0, 1) rfl) rfl rfl (aw_getAs (pc' := 4) (dt_X6_start 1 (1, .getfield 12, 3) rfl) fl_Reader_12 rfl rfl (sk_19 hS) (sa_19_0 hS) (aw_aload_n (pc' := 5) (dt_X6_start 2 (4, .aload_n 1, 1) rfl) rfl rfl (aw_callV0 (pc' := 8) (nc := nc) (ns := ns) (y2 := mX8_split) (As := [.ref a1]) (rest := []) (a := 20) (dt_X6_start 3 (5, .invokevirtual 63, 3) rfl) ok_X8_split ln_Reader_63 im_X8_split se_X8_split pr_X8_split (Or.inl ⟨by decide, rfl⟩) rfl (Nat.le_of_ble_eq_true rfl) (Nat.le_of_ble_eq_true rfl) rfl (sk_20 hS) h ?_)))
  rintro v μ1 ⟨rfl, hS2, h⟩
  refine aw_stk (st' := []) rfl ?_
  refine aw_aload_n (pc' := 9) (dt_X6_start 4 (8, .aload_n 0, 1) rfl) rfl rfl (aw_iconst (pc' := 10) (v := 0) (dt_X6_start 5 (9, .iconst 0, 1) rfl) (by decide) rfl (aw_putI (pc' := 13) (dt_X6_start 6 (10, .putfield 54, 3) rfl) fl_Reader_54 rfl (by decide +kernel) rfl (sk_19 hS2) (aw_aload_n (pc' := 14) (dt_X6_start 7 (13, .aload_n 0, 1) rfl) rfl rfl (aw_iconst (pc' := 15) (v := 0) (dt_X6_start 8 (14, .iconst 0, 1) rfl) (by decide) rfl (aw_putI (pc' := 18) (dt_X6_start 9 (15, .putfield 45, 3) rfl) fl_Reader_45 rfl (by decide +kernel) rfl (sk_19 hS2.wI) (aw_aload_n (pc' := 19) (dt_X6_start 10 (18, .aload_n 0, 1) rfl) rfl rfl (aw_aload_n (pc' := 20) (dt_X6_start 11 (19, .aload_n 0, 1) rfl) rfl rfl (aw_getAs (pc' := 23) (dt_X6_start 12 (20, .getfield 12, 3) rfl) fl_Reader_12 rfl rfl (sk_19 hS2.wI.wI) (sa_19_0 hS2.wI.wI) (aw_getAs (pc' := 26) (dt_X6_start 13 (23, .getfield 66, 3) rfl) fl_Reader_66 rfl rfl (sk_20 hS2.wI.wI) (sa_20_2 hS2.wI.wI) (aw_iconst (pc' := 27) (v := 0) (dt_X6_start 14 (26, .iconst 0, 1) rfl) (by decide) rfl (aw_iald (pc' := 28) (dt_X6_start 15 (27, .iaload, 1) rfl) rfl (sk_22 hS2.wI.wI) (vin_eq (sl_22 hS2.wI.wI) (vlit (by decide))) (aw_putI (pc' := 31) (dt_X6_start 16 (28, .putfield 22, 3) rfl) fl_Reader_22 rfl (by decide +kernel) rfl (sk_19 hS2.wI.wI) (aw_ret (dt_X6_start 17 (31, .return_, 1) rfl) rfl ?_)))))))))))))
  exact h

theorem t_X6_readRule {E : ZE} {l : Launch} {d nc ns : Nat}  {μ : ZM} {K : Option Value → ZM → Prop} (hS : Stat μ) (h :
  (4 < (zI μ 19 4) →
    AW E l (d + 2) 0 0 mX6_readAny 0 (zargs 4 [.ref 19, .int 0]) [] μ (fun v μ2 => ∃ r4 : Int32, v = some (.int r4) ∧ Stat μ2 ∧ 
      (r4 = 0 →
        K (some (.int 0)) μ2) ∧
      (¬ r4 = 0 →
        ((zI μ2 19 4) = 58 →
          (400 ≤ (zI μ2 19 2) →
            ((zI μ2 20 5) ≤ ((zI μ2 19 3) + 1) →
              AW E l (d + 2) 0 0 mX6_readOut 0 (zargs 2 [.ref 19]) [] μ2 (fun v μ9 => ∃ r11 : Int32, v = some (.int r11) ∧ Stat μ9 ∧ 
                (¬ r11 = 0 →
                  (400 ≤ (zI μ2 19 2) →
                    K (some (.int 1)) μ9) ∧
                  (¬ 400 ≤ (zI μ2 19 2) →
                    (vp_in (zI μ2 19 2) 400) ∧
                    K (some (.int 1)) (sI μ9 25 (zI μ2 19 2).toNatClampNeg ((-1000) - (zI μ9 19 2))))) ∧
                (r11 = 0 →
                  K (some (.int 0)) μ9))) ∧
            (¬ (zI μ2 20 5) ≤ ((zI μ2 19 3) + 1) →
              (201 ≤ ((zI μ2 19 3) + 1) →
                AW E l (d + 2) 0 0 mX6_readOut 0 (zargs 2 [.ref 19]) [] μ2 (fun v μ16 => ∃ r18 : Int32, v = some (.int r18) ∧ Stat μ16 ∧ 
                  (¬ r18 = 0 →
                    (400 ≤ (zI μ2 19 2) →
                      K (some (.int 1)) μ16) ∧
                    (¬ 400 ≤ (zI μ2 19 2) →
                      (vp_in (zI μ2 19 2) 400) ∧
                      K (some (.int 1)) (sI μ16 25 (zI μ2 19 2).toNatClampNeg ((-1000) - (zI μ16 19 2))))) ∧
                  (r18 = 0 →
                    K (some (.int 0)) μ16))) ∧
              (¬ 201 ≤ ((zI μ2 19 3) + 1) →
                (vp_in (zI (sI μ2 19 3 ((zI μ2 19 3) + 1)) 19 3) 201) ∧
                AW E l (d + 2) 0 0 mX6_readOut 0 (zargs 2 [.ref 19]) [] (sI (sI μ2 19 3 ((zI μ2 19 3) + 1)) 19 4 (zI (sI μ2 19 3 ((zI μ2 19 3) + 1)) 22 (zI (sI μ2 19 3 ((zI μ2 19 3) + 1)) 19 3).toNatClampNeg)) (fun v μ23 => ∃ r25 : Int32, v = some (.int r25) ∧ Stat μ23 ∧ 
                  (¬ r25 = 0 →
                    (400 ≤ (zI μ2 19 2) →
                      K (some (.int 1)) μ23) ∧
                    (¬ 400 ≤ (zI μ2 19 2) →
                      (vp_in (zI μ2 19 2) 400) ∧
                      K (some (.int 1)) (sI μ23 25 (zI μ2 19 2).toNatClampNeg ((-1000) - (zI μ23 19 2))))) ∧
                  (r25 = 0 →
                    K (some (.int 0)) μ23))))) ∧
          (¬ 400 ≤ (zI μ2 19 2) →
            (vp_in (zI μ2 19 2) 400) ∧
            ((zI (sI (sI μ2 25 (zI μ2 19 2).toNatClampNeg (-1000)) 19 2 ((zI (sI μ2 25 (zI μ2 19 2).toNatClampNeg (-1000)) 19 2) + 1)) 20 5) ≤ ((zI (sI (sI μ2 25 (zI μ2 19 2).toNatClampNeg (-1000)) 19 2 ((zI (sI μ2 25 (zI μ2 19 2).toNatClampNeg (-1000)) 19 2) + 1)) 19 3) + 1) →
              AW E l (d + 2) 0 0 mX6_readOut 0 (zargs 2 [.ref 19]) [] (sI (sI μ2 25 (zI μ2 19 2).toNatClampNeg (-1000)) 19 2 ((zI (sI μ2 25 (zI μ2 19 2).toNatClampNeg (-1000)) 19 2) + 1)) (fun v μ31 => ∃ r33 : Int32, v = some (.int r33) ∧ Stat μ31 ∧ 
                (¬ r33 = 0 →
                  (400 ≤ (zI μ2 19 2) →
                    K (some (.int 1)) μ31) ∧
                  (¬ 400 ≤ (zI μ2 19 2) →
                    (vp_in (zI μ2 19 2) 400) ∧
                    K (some (.int 1)) (sI μ31 25 (zI μ2 19 2).toNatClampNeg ((-1000) - (zI μ31 19 2))))) ∧
                (r33 = 0 →
                  K (some (.int 0)) μ31))) ∧
            (¬ (zI (sI (sI μ2 25 (zI μ2 19 2).toNatClampNeg (-1000)) 19 2 ((zI (sI μ2 25 (zI μ2 19 2).toNatClampNeg (-1000)) 19 2) + 1)) 20 5) ≤ ((zI (sI (sI μ2 25 (zI μ2 19 2).toNatClampNeg (-1000)) 19 2 ((zI (sI μ2 25 (zI μ2 19 2).toNatClampNeg (-1000)) 19 2) + 1)) 19 3) + 1) →
              (201 ≤ ((zI (sI (sI μ2 25 (zI μ2 19 2).toNatClampNeg (-1000)) 19 2 ((zI (sI μ2 25 (zI μ2 19 2).toNatClampNeg (-1000)) 19 2) + 1)) 19 3) + 1) →
                AW E l (d + 2) 0 0 mX6_readOut 0 (zargs 2 [.ref 19]) [] (sI (sI μ2 25 (zI μ2 19 2).toNatClampNeg (-1000)) 19 2 ((zI (sI μ2 25 (zI μ2 19 2).toNatClampNeg (-1000)) 19 2) + 1)) (fun v μ38 => ∃ r40 : Int32, v = some (.int r40) ∧ Stat μ38 ∧ 
                  (¬ r40 = 0 →
                    (400 ≤ (zI μ2 19 2) →
                      K (some (.int 1)) μ38) ∧
                    (¬ 400 ≤ (zI μ2 19 2) →
                      (vp_in (zI μ2 19 2) 400) ∧
                      K (some (.int 1)) (sI μ38 25 (zI μ2 19 2).toNatClampNeg ((-1000) - (zI μ38 19 2))))) ∧
                  (r40 = 0 →
                    K (some (.int 0)) μ38))) ∧
              (¬ 201 ≤ ((zI (sI (sI μ2 25 (zI μ2 19 2).toNatClampNeg (-1000)) 19 2 ((zI (sI μ2 25 (zI μ2 19 2).toNatClampNeg (-1000)) 19 2) + 1)) 19 3) + 1) →
                ∀ μ44, μ44 = (sI (sI (sI μ2 25 (zI μ2 19 2).toNatClampNeg (-1000)) 19 2 ((zI (sI μ2 25 (zI μ2 19 2).toNatClampNeg (-1000)) 19 2) + 1)) 19 3 ((zI (sI (sI μ2 25 (zI μ2 19 2).toNatClampNeg (-1000)) 19 2 ((zI (sI μ2 25 (zI μ2 19 2).toNatClampNeg (-1000)) 19 2) + 1)) 19 3) + 1)) →
                (vp_in (zI μ44 19 3) 201) ∧
                AW E l (d + 2) 0 0 mX6_readOut 0 (zargs 2 [.ref 19]) [] (sI μ44 19 4 (zI μ44 22 (zI μ44 19 3).toNatClampNeg)) (fun v μ48 => ∃ r50 : Int32, v = some (.int r50) ∧ Stat μ48 ∧ 
                  (¬ r50 = 0 →
                    (400 ≤ (zI μ2 19 2) →
                      K (some (.int 1)) μ48) ∧
                    (¬ 400 ≤ (zI μ2 19 2) →
                      (vp_in (zI μ2 19 2) 400) ∧
                      K (some (.int 1)) (sI μ48 25 (zI μ2 19 2).toNatClampNeg ((-1000) - (zI μ48 19 2))))) ∧
                  (r50 = 0 →
                    K (some (.int 0)) μ48)))))) ∧
        (¬ (zI μ2 19 4) = 58 →
          K (some (.int 0)) μ2)))) ∧
  (¬ 4 < (zI μ 19 4) →
    AW E l (d + 2) 0 0 mX6_readOut 0 (zargs 2 [.ref 19]) [] μ (fun v μ54 => ∃ r56 : Int32, v = some (.int r56) ∧ Stat μ54 ∧ 
      (r56 = 0 ∨ r56 = 1) ∧
      K (some (.int r56)) μ54))) : AW E l (d + 3) nc ns mX6_readRule 0 [some (.ref 19), none] [] μ K := by
  refine aw_aload_n (pc' := 1) (dt_X6_readRule 0 (0, .aload_n 0, 1) rfl) rfl rfl (aw_getI (pc' := 4) (dt_X6_readRule 1 (1, .getfield 22, 3) rfl) fl_Reader_22 rfl rfl (sk_19 hS) (aw_iconst (pc' := 5) (v := 4) (dt_X6_readRule 2 (4, .iconst 4, 1) rfl) (by decide) rfl (aw_icmp_gt (pc' := 8) (tgt := 13) (dt_X6_readRule 3 (5, .if_icmp .gt 8, 3) rfl) (by decide) rfl ?_ ?_)))
  · intro q1
    have h := h.1 q1
    refine aw_aload_n (pc' := 14) (dt_X6_readRule 7 (13, .aload_n 0, 1) rfl) rfl rfl (aw_iconst (pc' := 15) (v := 0) (dt_X6_readRule 8 (14, .iconst 0, 1) rfl) (by decide) rfl (aw_callV0 (pc' := 18) (nc := nc) (ns := ns) (y2 := mX6_readAny) (As := [.int 0]) (rest := []) (a := 19) (dt_X6_readRule 9 (15, .invokevirtual 41, 3) rfl) ok_X6_readAny ln_Reader_41 im_X6_readAny se_X6_readAny pr_X6_readAny (Or.inl ⟨by decide, rfl⟩) rfl (Nat.le_of_ble_eq_true rfl) (Nat.le_of_ble_eq_true rfl) rfl (sk_19 hS) h ?_))
    rintro v μ2 ⟨r4, rfl, hS3, h⟩
    refine aw_stk (st' := [.int r4]) rfl ?_
    refine aw_if_eq (pc' := 21) (tgt := 30) (dt_X6_readRule 10 (18, .ifCond .eq 12, 3) rfl) (by decide) rfl ?_ ?_
    · intro q5
      have h := h.1 q5
      refine aw_iconst (pc' := 31) (v := 0) (dt_X6_readRule 15 (30, .iconst 0, 1) rfl) (by decide) rfl (aw_iret (dt_X6_readRule 16 (31, .ireturn, 1) rfl) rfl rfl ?_)
      exact h
    · intro q5
      have h := h.2 q5
      refine aw_aload_n (pc' := 22) (dt_X6_readRule 11 (21, .aload_n 0, 1) rfl) rfl rfl (aw_getI (pc' := 25) (dt_X6_readRule 12 (22, .getfield 22, 3) rfl) fl_Reader_22 rfl rfl (sk_19 hS3) (aw_bipush (pc' := 27) (v := 58) (dt_X6_readRule 13 (25, .bipush 58, 2) rfl) (by decide) rfl (aw_icmp_eq (pc' := 30) (tgt := 32) (dt_X6_readRule 14 (27, .if_icmp .eq 5, 3) rfl) (by decide) rfl ?_ ?_)))
      · intro q6
        have h := h.1 q6
        refine aw_aload_n (pc' := 33) (dt_X6_readRule 17 (32, .aload_n 0, 1) rfl) rfl rfl (aw_getI (pc' := 36) (dt_X6_readRule 18 (33, .getfield 54, 3) rfl) fl_Reader_54 rfl rfl (sk_19 hS3) (aw_istore_n (pc' := 37) (ls' := [some (.ref 19), some (.int (zI μ2 19 2))]) (dt_X6_readRule 19 (36, .istore_n 1, 1) rfl) (by decide) rfl rfl (aw_aload_n (pc' := 38) (dt_X6_readRule 20 (37, .aload_n 0, 1) rfl) rfl rfl (aw_sipush (pc' := 41) (v := (-1000)) (dt_X6_readRule 21 (38, .sipush (-1000), 3) rfl) (by decide) rfl (aw_inV (pc' := 44) (nc1 := 0) (ns1 := 0) (nc := nc) (ns := ns) (ls' := [some (.ref 19), some (.int (-1000))]) (y2 := mX6_write) (As := [.int (-1000)]) (rest := []) (a := 19) (dt_X6_readRule 22 (41, .invokevirtual 75, 3) rfl) ok_X6_write ln_Reader_75 im_X6_write se_X6_write pr_X6_write (Or.inl ⟨by decide, rfl⟩) rfl (Nat.le_of_ble_eq_true rfl) (Nat.le_of_ble_eq_true rfl) rfl rfl (sk_19 hS3) (aw_aload_n (pc' := 1) (dt_X6_write 0 (0, .aload_n 0, 1) rfl) rfl rfl (aw_getI (pc' := 4) (dt_X6_write 1 (1, .getfield 54, 3) rfl) fl_Reader_54 rfl rfl (sk_19 hS3) (aw_aload_n (pc' := 5) (dt_X6_write 2 (4, .aload_n 0, 1) rfl) rfl rfl (aw_getAs (pc' := 8) (dt_X6_write 3 (5, .getfield 18, 3) rfl) fl_Reader_18 rfl rfl (sk_19 hS3) (sa_19_1 hS3) (aw_alens (pc' := 9) (n := 400) (v := 400) (dt_X6_write 4 (8, .arraylength, 1) rfl) (by decide) (by decide) rfl (sk_25 hS3) (sl_25 hS3) (by decide) (aw_icmp_ge (pc' := 12) (tgt := 32) (dt_X6_write 5 (9, .if_icmp .ge 23, 3) rfl) (by decide) rfl ?_ ?_)))))))))))
        · intro q7
          have h := h.1 q7
          refine aw_ret (dt_X6_write 18 (32, .return_, 1) rfl) rfl (aw_stk (st' := []) rfl (aw_aload_n (pc' := 45) (dt_X6_readRule 23 (44, .aload_n 0, 1) rfl) rfl rfl (aw_inV (pc' := 48) (nc1 := 0) (ns1 := 0) (nc := nc) (ns := ns) (ls' := [some (.ref 19)]) (y2 := mX6_step) (As := []) (rest := []) (a := 19) (dt_X6_readRule 24 (45, .invokevirtual 36, 3) rfl) ok_X6_step ln_Reader_36 im_X6_step se_X6_step pr_X6_step (Or.inl ⟨by decide, rfl⟩) rfl (Nat.le_of_ble_eq_true rfl) (Nat.le_of_ble_eq_true rfl) rfl rfl (sk_19 hS3) (aw_aload_n (pc' := 1) (dt_X6_step 0 (0, .aload_n 0, 1) rfl) rfl rfl (aw_getI (pc' := 4) (dt_X6_step 1 (1, .getfield 45, 3) rfl) fl_Reader_45 rfl rfl (sk_19 hS3) (aw_iconst (pc' := 5) (v := 1) (dt_X6_step 2 (4, .iconst 1, 1) rfl) (by decide) rfl (aw_iadd (pc' := 6) (dt_X6_step 3 (5, .iadd, 1) rfl) rfl (aw_aload_n (pc' := 7) (dt_X6_step 4 (6, .aload_n 0, 1) rfl) rfl rfl (aw_getAs (pc' := 10) (dt_X6_step 5 (7, .getfield 12, 3) rfl) fl_Reader_12 rfl rfl (sk_19 hS3) (sa_19_0 hS3) (aw_getI (pc' := 13) (dt_X6_step 6 (10, .getfield 69, 3) rfl) fl_Reader_69 rfl rfl (sk_20 hS3) (aw_icmp_ge (pc' := 16) (tgt := 59) (dt_X6_step 7 (13, .if_icmp .ge 46, 3) rfl) (by decide) rfl ?_ ?_)))))))))))
          · intro q8
            have h := h.1 q8
            refine aw_ret (dt_X6_step 31 (59, .return_, 1) rfl) rfl (aw_stk (st' := []) rfl (aw_aload_n (pc' := 49) (dt_X6_readRule 25 (48, .aload_n 0, 1) rfl) rfl rfl (aw_callV0 (pc' := 52) (nc := nc) (ns := ns) (y2 := mX6_readOut) (As := []) (rest := []) (a := 19) (dt_X6_readRule 26 (49, .invokevirtual 72, 3) rfl) ok_X6_readOut ln_Reader_72 im_X6_readOut se_X6_readOut pr_X6_readOut (Or.inl ⟨by decide, rfl⟩) rfl (Nat.le_of_ble_eq_true rfl) (Nat.le_of_ble_eq_true rfl) rfl (sk_19 hS3) h ?_)))
            rintro v μ9 ⟨r11, rfl, hS10, h⟩
            refine aw_stk (st' := [.int r11]) rfl ?_
            refine aw_if_ne (pc' := 55) (tgt := 57) (dt_X6_readRule 27 (52, .ifCond .ne 5, 3) rfl) (by decide) rfl ?_ ?_
            · intro q12
              have h := h.1 q12
              refine aw_iload_n (pc' := 58) (dt_X6_readRule 30 (57, .iload_n 1, 1) rfl) rfl rfl (aw_aload_n (pc' := 59) (dt_X6_readRule 31 (58, .aload_n 0, 1) rfl) rfl rfl (aw_getAs (pc' := 62) (dt_X6_readRule 32 (59, .getfield 18, 3) rfl) fl_Reader_18 rfl rfl (sk_19 hS10) (sa_19_1 hS10) (aw_alens (pc' := 63) (n := 400) (v := 400) (dt_X6_readRule 33 (62, .arraylength, 1) rfl) (by decide) (by decide) rfl (sk_25 hS10) (sl_25 hS10) (by decide) (aw_icmp_ge (pc' := 66) (tgt := 80) (dt_X6_readRule 34 (63, .if_icmp .ge 17, 3) rfl) (by decide) rfl ?_ ?_))))
              · intro q13
                have h := h.1 q13
                refine aw_iconst (pc' := 81) (v := 1) (dt_X6_readRule 43 (80, .iconst 1, 1) rfl) (by decide) rfl (aw_iret (dt_X6_readRule 44 (81, .ireturn, 1) rfl) rfl rfl ?_)
                exact h
              · intro q13
                have h := h.2 q13
                obtain ⟨g14, h⟩ := h
                refine aw_aload_n (pc' := 67) (dt_X6_readRule 35 (66, .aload_n 0, 1) rfl) rfl rfl (aw_getAs (pc' := 70) (dt_X6_readRule 36 (67, .getfield 18, 3) rfl) fl_Reader_18 rfl rfl (sk_19 hS10) (sa_19_1 hS10) (aw_iload_n (pc' := 71) (dt_X6_readRule 37 (70, .iload_n 1, 1) rfl) rfl rfl (aw_sipush (pc' := 74) (v := (-1000)) (dt_X6_readRule 38 (71, .sipush (-1000), 3) rfl) (by decide) rfl (aw_aload_n (pc' := 75) (dt_X6_readRule 39 (74, .aload_n 0, 1) rfl) rfl rfl (aw_getI (pc' := 78) (dt_X6_readRule 40 (75, .getfield 54, 3) rfl) fl_Reader_54 rfl rfl (sk_19 hS10) (aw_isub (pc' := 79) (dt_X6_readRule 41 (78, .isub, 1) rfl) rfl (aw_iast (pc' := 80) (dt_X6_readRule 42 (79, .iastore, 1) rfl) rfl (sk_25 hS10) (by decide) (vin_eq (sl_25 hS10) g14) (aw_iconst (pc' := 81) (v := 1) (dt_X6_readRule 43 (80, .iconst 1, 1) rfl) (by decide) rfl (aw_iret (dt_X6_readRule 44 (81, .ireturn, 1) rfl) rfl rfl ?_)))))))))
                exact h
            · intro q12
              have h := h.2 q12
              refine aw_iconst (pc' := 56) (v := 0) (dt_X6_readRule 28 (55, .iconst 0, 1) rfl) (by decide) rfl (aw_iret (dt_X6_readRule 29 (56, .ireturn, 1) rfl) rfl rfl ?_)
              exact h
          · intro q8
            have h := h.2 q8
            refine aw_aload_n (pc' := 17) (dt_X6_step 8 (16, .aload_n 0, 1) rfl) rfl rfl (aw_getI (pc' := 20) (dt_X6_step 9 (17, .getfield 45, 3) rfl) fl_Reader_45 rfl rfl (sk_19 hS3) (aw_iconst (pc' := 21) (v := 1) (dt_X6_step 10 (20, .iconst 1, 1) rfl) (by decide) rfl (aw_iadd (pc' := 22) (dt_X6_step 11 (21, .iadd, 1) rfl) rfl (aw_aload_n (pc' := 23) (dt_X6_step 12 (22, .aload_n 0, 1) rfl) rfl rfl (aw_getAs (pc' := 26) (dt_X6_step 13 (23, .getfield 12, 3) rfl) fl_Reader_12 rfl rfl (sk_19 hS3) (sa_19_0 hS3) (aw_getAs (pc' := 29) (dt_X6_step 14 (26, .getfield 66, 3) rfl) fl_Reader_66 rfl rfl (sk_20 hS3) (sa_20_2 hS3) (aw_alens (pc' := 30) (n := 201) (v := 201) (dt_X6_step 15 (29, .arraylength, 1) rfl) (by decide) (by decide) rfl (sk_22 hS3) (sl_22 hS3) (by decide) (aw_icmp_ge (pc' := 33) (tgt := 59) (dt_X6_step 16 (30, .if_icmp .ge 29, 3) rfl) (by decide) rfl ?_ ?_))))))))
            · intro q15
              have h := h.1 q15
              refine aw_ret (dt_X6_step 31 (59, .return_, 1) rfl) rfl (aw_stk (st' := []) rfl (aw_aload_n (pc' := 49) (dt_X6_readRule 25 (48, .aload_n 0, 1) rfl) rfl rfl (aw_callV0 (pc' := 52) (nc := nc) (ns := ns) (y2 := mX6_readOut) (As := []) (rest := []) (a := 19) (dt_X6_readRule 26 (49, .invokevirtual 72, 3) rfl) ok_X6_readOut ln_Reader_72 im_X6_readOut se_X6_readOut pr_X6_readOut (Or.inl ⟨by decide, rfl⟩) rfl (Nat.le_of_ble_eq_true rfl) (Nat.le_of_ble_eq_true rfl) rfl (sk_19 hS3) h ?_)))
              rintro v μ16 ⟨r18, rfl, hS17, h⟩
              refine aw_stk (st' := [.int r18]) rfl ?_
              refine aw_if_ne (pc' := 55) (tgt := 57) (dt_X6_readRule 27 (52, .ifCond .ne 5, 3) rfl) (by decide) rfl ?_ ?_
              · intro q19
                have h := h.1 q19
                refine aw_iload_n (pc' := 58) (dt_X6_readRule 30 (57, .iload_n 1, 1) rfl) rfl rfl (aw_aload_n (pc' := 59) (dt_X6_readRule 31 (58, .aload_n 0, 1) rfl) rfl rfl (aw_getAs (pc' := 62) (dt_X6_readRule 32 (59, .getfield 18, 3) rfl) fl_Reader_18 rfl rfl (sk_19 hS17) (sa_19_1 hS17) (aw_alens (pc' := 63) (n := 400) (v := 400) (dt_X6_readRule 33 (62, .arraylength, 1) rfl) (by decide) (by decide) rfl (sk_25 hS17) (sl_25 hS17) (by decide) (aw_icmp_ge (pc' := 66) (tgt := 80) (dt_X6_readRule 34 (63, .if_icmp .ge 17, 3) rfl) (by decide) rfl ?_ ?_))))
                · intro q20
                  have h := h.1 q20
                  refine aw_iconst (pc' := 81) (v := 1) (dt_X6_readRule 43 (80, .iconst 1, 1) rfl) (by decide) rfl (aw_iret (dt_X6_readRule 44 (81, .ireturn, 1) rfl) rfl rfl ?_)
                  exact h
                · intro q20
                  have h := h.2 q20
                  obtain ⟨g21, h⟩ := h
                  refine aw_aload_n (pc' := 67) (dt_X6_readRule 35 (66, .aload_n 0, 1) rfl) rfl rfl (aw_getAs (pc' := 70) (dt_X6_readRule 36 (67, .getfield 18, 3) rfl) fl_Reader_18 rfl rfl (sk_19 hS17) (sa_19_1 hS17) (aw_iload_n (pc' := 71) (dt_X6_readRule 37 (70, .iload_n 1, 1) rfl) rfl rfl (aw_sipush (pc' := 74) (v := (-1000)) (dt_X6_readRule 38 (71, .sipush (-1000), 3) rfl) (by decide) rfl (aw_aload_n (pc' := 75) (dt_X6_readRule 39 (74, .aload_n 0, 1) rfl) rfl rfl (aw_getI (pc' := 78) (dt_X6_readRule 40 (75, .getfield 54, 3) rfl) fl_Reader_54 rfl rfl (sk_19 hS17) (aw_isub (pc' := 79) (dt_X6_readRule 41 (78, .isub, 1) rfl) rfl (aw_iast (pc' := 80) (dt_X6_readRule 42 (79, .iastore, 1) rfl) rfl (sk_25 hS17) (by decide) (vin_eq (sl_25 hS17) g21) (aw_iconst (pc' := 81) (v := 1) (dt_X6_readRule 43 (80, .iconst 1, 1) rfl) (by decide) rfl (aw_iret (dt_X6_readRule 44 (81, .ireturn, 1) rfl) rfl rfl ?_)))))))))
                  exact h
              · intro q19
                have h := h.2 q19
                refine aw_iconst (pc' := 56) (v := 0) (dt_X6_readRule 28 (55, .iconst 0, 1) rfl) (by decide) rfl (aw_iret (dt_X6_readRule 29 (56, .ireturn, 1) rfl) rfl rfl ?_)
                exact h
            · intro q15
              have h := h.2 q15
              obtain ⟨g22, h⟩ := h
              refine aw_aload_n (pc' := 34) (dt_X6_step 17 (33, .aload_n 0, 1) rfl) rfl rfl (aw_dup (pc' := 35) (dt_X6_step 18 (34, .dup, 1) rfl) rfl rfl (aw_getI (pc' := 38) (dt_X6_step 19 (35, .getfield 45, 3) rfl) fl_Reader_45 rfl rfl (sk_19 hS3) (aw_iconst (pc' := 39) (v := 1) (dt_X6_step 20 (38, .iconst 1, 1) rfl) (by decide) rfl (aw_iadd (pc' := 40) (dt_X6_step 21 (39, .iadd, 1) rfl) rfl (aw_putI (pc' := 43) (dt_X6_step 22 (40, .putfield 45, 3) rfl) fl_Reader_45 rfl (by decide +kernel) rfl (sk_19 hS3) (aw_aload_n (pc' := 44) (dt_X6_step 23 (43, .aload_n 0, 1) rfl) rfl rfl (aw_aload_n (pc' := 45) (dt_X6_step 24 (44, .aload_n 0, 1) rfl) rfl rfl (aw_getAs (pc' := 48) (dt_X6_step 25 (45, .getfield 12, 3) rfl) fl_Reader_12 rfl rfl (sk_19 hS3.wI) (sa_19_0 hS3.wI) (aw_getAs (pc' := 51) (dt_X6_step 26 (48, .getfield 66, 3) rfl) fl_Reader_66 rfl rfl (sk_20 hS3.wI) (sa_20_2 hS3.wI) (aw_aload_n (pc' := 52) (dt_X6_step 27 (51, .aload_n 0, 1) rfl) rfl rfl (aw_getI (pc' := 55) (dt_X6_step 28 (52, .getfield 45, 3) rfl) fl_Reader_45 rfl rfl (sk_19 hS3.wI) (aw_iald (pc' := 56) (dt_X6_step 29 (55, .iaload, 1) rfl) rfl (sk_22 hS3.wI) (vin_eq (sl_22 hS3.wI) g22) (aw_putI (pc' := 59) (dt_X6_step 30 (56, .putfield 22, 3) rfl) fl_Reader_22 rfl (by decide +kernel) rfl (sk_19 hS3.wI) (aw_ret (dt_X6_step 31 (59, .return_, 1) rfl) rfl (aw_stk (st' := []) rfl (aw_aload_n (pc' := 49) (dt_X6_readRule 25 (48, .aload_n 0, 1) rfl) rfl rfl (aw_callV0 (pc' := 52) (nc := nc) (ns := ns) (y2 := mX6_readOut) (As := []) (rest := []) (a := 19) (dt_X6_readRule 26 (49, .invokevirtual 72, 3) rfl) ok_X6_readOut ln_Reader_72 im_X6_readOut se_X6_readOut pr_X6_readOut (Or.inl ⟨by decide, rfl⟩) rfl (Nat.le_of_ble_eq_true rfl) (Nat.le_of_ble_eq_true rfl) rfl (sk_19 hS3.wI.wI) h ?_)))))))))))))))))
              rintro v μ23 ⟨r25, rfl, hS24, h⟩
              refine aw_stk (st' := [.int r25]) rfl ?_
              refine aw_if_ne (pc' := 55) (tgt := 57) (dt_X6_readRule 27 (52, .ifCond .ne 5, 3) rfl) (by decide) rfl ?_ ?_
              · intro q26
                have h := h.1 q26
                refine aw_iload_n (pc' := 58) (dt_X6_readRule 30 (57, .iload_n 1, 1) rfl) rfl rfl (aw_aload_n (pc' := 59) (dt_X6_readRule 31 (58, .aload_n 0, 1) rfl) rfl rfl (aw_getAs (pc' := 62) (dt_X6_readRule 32 (59, .getfield 18, 3) rfl) fl_Reader_18 rfl rfl (sk_19 hS24) (sa_19_1 hS24) (aw_alens (pc' := 63) (n := 400) (v := 400) (dt_X6_readRule 33 (62, .arraylength, 1) rfl) (by decide) (by decide) rfl (sk_25 hS24) (sl_25 hS24) (by decide) (aw_icmp_ge (pc' := 66) (tgt := 80) (dt_X6_readRule 34 (63, .if_icmp .ge 17, 3) rfl) (by decide) rfl ?_ ?_))))
                · intro q27
                  have h := h.1 q27
                  refine aw_iconst (pc' := 81) (v := 1) (dt_X6_readRule 43 (80, .iconst 1, 1) rfl) (by decide) rfl (aw_iret (dt_X6_readRule 44 (81, .ireturn, 1) rfl) rfl rfl ?_)
                  exact h
                · intro q27
                  have h := h.2 q27
                  obtain ⟨g28, h⟩ := h
                  refine aw_aload_n (pc' := 67) (dt_X6_readRule 35 (66, .aload_n 0, 1) rfl) rfl rfl (aw_getAs (pc' := 70) (dt_X6_readRule 36 (67, .getfield 18, 3) rfl) fl_Reader_18 rfl rfl (sk_19 hS24) (sa_19_1 hS24) (aw_iload_n (pc' := 71) (dt_X6_readRule 37 (70, .iload_n 1, 1) rfl) rfl rfl (aw_sipush (pc' := 74) (v := (-1000)) (dt_X6_readRule 38 (71, .sipush (-1000), 3) rfl) (by decide) rfl (aw_aload_n (pc' := 75) (dt_X6_readRule 39 (74, .aload_n 0, 1) rfl) rfl rfl (aw_getI (pc' := 78) (dt_X6_readRule 40 (75, .getfield 54, 3) rfl) fl_Reader_54 rfl rfl (sk_19 hS24) (aw_isub (pc' := 79) (dt_X6_readRule 41 (78, .isub, 1) rfl) rfl (aw_iast (pc' := 80) (dt_X6_readRule 42 (79, .iastore, 1) rfl) rfl (sk_25 hS24) (by decide) (vin_eq (sl_25 hS24) g28) (aw_iconst (pc' := 81) (v := 1) (dt_X6_readRule 43 (80, .iconst 1, 1) rfl) (by decide) rfl (aw_iret (dt_X6_readRule 44 (81, .ireturn, 1) rfl) rfl rfl ?_)))))))))
                  exact h
              · intro q26
                have h := h.2 q26
                refine aw_iconst (pc' := 56) (v := 0) (dt_X6_readRule 28 (55, .iconst 0, 1) rfl) (by decide) rfl (aw_iret (dt_X6_readRule 29 (56, .ireturn, 1) rfl) rfl rfl ?_)
                exact h
        · intro q7
          have h := h.2 q7
          obtain ⟨g29, h⟩ := h
          refine aw_aload_n (pc' := 13) (dt_X6_write 6 (12, .aload_n 0, 1) rfl) rfl rfl (aw_getAs (pc' := 16) (dt_X6_write 7 (13, .getfield 18, 3) rfl) fl_Reader_18 rfl rfl (sk_19 hS3) (sa_19_1 hS3) (aw_aload_n (pc' := 17) (dt_X6_write 8 (16, .aload_n 0, 1) rfl) rfl rfl (aw_getI (pc' := 20) (dt_X6_write 9 (17, .getfield 54, 3) rfl) fl_Reader_54 rfl rfl (sk_19 hS3) (aw_iload_n (pc' := 21) (dt_X6_write 10 (20, .iload_n 1, 1) rfl) rfl rfl (aw_iast (pc' := 22) (dt_X6_write 11 (21, .iastore, 1) rfl) rfl (sk_25 hS3) (by decide) (vin_eq (sl_25 hS3) g29) (aw_aload_n (pc' := 23) (dt_X6_write 12 (22, .aload_n 0, 1) rfl) rfl rfl (aw_dup (pc' := 24) (dt_X6_write 13 (23, .dup, 1) rfl) rfl rfl (aw_getI (pc' := 27) (dt_X6_write 14 (24, .getfield 54, 3) rfl) fl_Reader_54 rfl rfl (sk_19 hS3.wI) (aw_iconst (pc' := 28) (v := 1) (dt_X6_write 15 (27, .iconst 1, 1) rfl) (by decide) rfl (aw_iadd (pc' := 29) (dt_X6_write 16 (28, .iadd, 1) rfl) rfl (aw_putI (pc' := 32) (dt_X6_write 17 (29, .putfield 54, 3) rfl) fl_Reader_54 rfl (by decide +kernel) rfl (sk_19 hS3.wI) (aw_ret (dt_X6_write 18 (32, .return_, 1) rfl) rfl (aw_stk (st' := []) rfl (aw_aload_n (pc' := 45) (dt_X6_readRule 23 (44, .aload_n 0, 1) rfl) rfl rfl (aw_inV (pc' := 48) (nc1 := 0) (ns1 := 0) (nc := nc) (ns := ns) (ls' := [some (.ref 19)]) (y2 := mX6_step) (As := []) (rest := []) (a := 19) (dt_X6_readRule 24 (45, .invokevirtual 36, 3) rfl) ok_X6_step ln_Reader_36 im_X6_step se_X6_step pr_X6_step (Or.inl ⟨by decide, rfl⟩) rfl (Nat.le_of_ble_eq_true rfl) (Nat.le_of_ble_eq_true rfl) rfl rfl (sk_19 hS3.wI.wI) (aw_aload_n (pc' := 1) (dt_X6_step 0 (0, .aload_n 0, 1) rfl) rfl rfl (aw_getI (pc' := 4) (dt_X6_step 1 (1, .getfield 45, 3) rfl) fl_Reader_45 rfl rfl (sk_19 hS3.wI.wI) (aw_iconst (pc' := 5) (v := 1) (dt_X6_step 2 (4, .iconst 1, 1) rfl) (by decide) rfl (aw_iadd (pc' := 6) (dt_X6_step 3 (5, .iadd, 1) rfl) rfl (aw_aload_n (pc' := 7) (dt_X6_step 4 (6, .aload_n 0, 1) rfl) rfl rfl (aw_getAs (pc' := 10) (dt_X6_step 5 (7, .getfield 12, 3) rfl) fl_Reader_12 rfl rfl (sk_19 hS3.wI.wI) (sa_19_0 hS3.wI.wI) (aw_getI (pc' := 13) (dt_X6_step 6 (10, .getfield 69, 3) rfl) fl_Reader_69 rfl rfl (sk_20 hS3.wI.wI) (aw_icmp_ge (pc' := 16) (tgt := 59) (dt_X6_step 7 (13, .if_icmp .ge 46, 3) rfl) (by decide) rfl ?_ ?_)))))))))))))))))))))))
          · intro q30
            have h := h.1 q30
            refine aw_ret (dt_X6_step 31 (59, .return_, 1) rfl) rfl (aw_stk (st' := []) rfl (aw_aload_n (pc' := 49) (dt_X6_readRule 25 (48, .aload_n 0, 1) rfl) rfl rfl (aw_callV0 (pc' := 52) (nc := nc) (ns := ns) (y2 := mX6_readOut) (As := []) (rest := []) (a := 19) (dt_X6_readRule 26 (49, .invokevirtual 72, 3) rfl) ok_X6_readOut ln_Reader_72 im_X6_readOut se_X6_readOut pr_X6_readOut (Or.inl ⟨by decide, rfl⟩) rfl (Nat.le_of_ble_eq_true rfl) (Nat.le_of_ble_eq_true rfl) rfl (sk_19 hS3.wI.wI) h ?_)))
            rintro v μ31 ⟨r33, rfl, hS32, h⟩
            refine aw_stk (st' := [.int r33]) rfl ?_
            refine aw_if_ne (pc' := 55) (tgt := 57) (dt_X6_readRule 27 (52, .ifCond .ne 5, 3) rfl) (by decide) rfl ?_ ?_
            · intro q34
              have h := h.1 q34
              refine aw_iload_n (pc' := 58) (dt_X6_readRule 30 (57, .iload_n 1, 1) rfl) rfl rfl (aw_aload_n (pc' := 59) (dt_X6_readRule 31 (58, .aload_n 0, 1) rfl) rfl rfl (aw_getAs (pc' := 62) (dt_X6_readRule 32 (59, .getfield 18, 3) rfl) fl_Reader_18 rfl rfl (sk_19 hS32) (sa_19_1 hS32) (aw_alens (pc' := 63) (n := 400) (v := 400) (dt_X6_readRule 33 (62, .arraylength, 1) rfl) (by decide) (by decide) rfl (sk_25 hS32) (sl_25 hS32) (by decide) (aw_icmp_ge (pc' := 66) (tgt := 80) (dt_X6_readRule 34 (63, .if_icmp .ge 17, 3) rfl) (by decide) rfl ?_ ?_))))
              · intro q35
                have h := h.1 q35
                refine aw_iconst (pc' := 81) (v := 1) (dt_X6_readRule 43 (80, .iconst 1, 1) rfl) (by decide) rfl (aw_iret (dt_X6_readRule 44 (81, .ireturn, 1) rfl) rfl rfl ?_)
                exact h
              · intro q35
                have h := h.2 q35
                obtain ⟨g36, h⟩ := h
                refine aw_aload_n (pc' := 67) (dt_X6_readRule 35 (66, .aload_n 0, 1) rfl) rfl rfl (aw_getAs (pc' := 70) (dt_X6_readRule 36 (67, .getfield 18, 3) rfl) fl_Reader_18 rfl rfl (sk_19 hS32) (sa_19_1 hS32) (aw_iload_n (pc' := 71) (dt_X6_readRule 37 (70, .iload_n 1, 1) rfl) rfl rfl (aw_sipush (pc' := 74) (v := (-1000)) (dt_X6_readRule 38 (71, .sipush (-1000), 3) rfl) (by decide) rfl (aw_aload_n (pc' := 75) (dt_X6_readRule 39 (74, .aload_n 0, 1) rfl) rfl rfl (aw_getI (pc' := 78) (dt_X6_readRule 40 (75, .getfield 54, 3) rfl) fl_Reader_54 rfl rfl (sk_19 hS32) (aw_isub (pc' := 79) (dt_X6_readRule 41 (78, .isub, 1) rfl) rfl (aw_iast (pc' := 80) (dt_X6_readRule 42 (79, .iastore, 1) rfl) rfl (sk_25 hS32) (by decide) (vin_eq (sl_25 hS32) g36) (aw_iconst (pc' := 81) (v := 1) (dt_X6_readRule 43 (80, .iconst 1, 1) rfl) (by decide) rfl (aw_iret (dt_X6_readRule 44 (81, .ireturn, 1) rfl) rfl rfl ?_)))))))))
                exact h
            · intro q34
              have h := h.2 q34
              refine aw_iconst (pc' := 56) (v := 0) (dt_X6_readRule 28 (55, .iconst 0, 1) rfl) (by decide) rfl (aw_iret (dt_X6_readRule 29 (56, .ireturn, 1) rfl) rfl rfl ?_)
              exact h
          · intro q30
            have h := h.2 q30
            refine aw_aload_n (pc' := 17) (dt_X6_step 8 (16, .aload_n 0, 1) rfl) rfl rfl (aw_getI (pc' := 20) (dt_X6_step 9 (17, .getfield 45, 3) rfl) fl_Reader_45 rfl rfl (sk_19 hS3.wI.wI) (aw_iconst (pc' := 21) (v := 1) (dt_X6_step 10 (20, .iconst 1, 1) rfl) (by decide) rfl (aw_iadd (pc' := 22) (dt_X6_step 11 (21, .iadd, 1) rfl) rfl (aw_aload_n (pc' := 23) (dt_X6_step 12 (22, .aload_n 0, 1) rfl) rfl rfl (aw_getAs (pc' := 26) (dt_X6_step 13 (23, .getfield 12, 3) rfl) fl_Reader_12 rfl rfl (sk_19 hS3.wI.wI) (sa_19_0 hS3.wI.wI) (aw_getAs (pc' := 29) (dt_X6_step 14 (26, .getfield 66, 3) rfl) fl_Reader_66 rfl rfl (sk_20 hS3.wI.wI) (sa_20_2 hS3.wI.wI) (aw_alens (pc' := 30) (n := 201) (v := 201) (dt_X6_step 15 (29, .arraylength, 1) rfl) (by decide) (by decide) rfl (sk_22 hS3.wI.wI) (sl_22 hS3.wI.wI) (by decide) (aw_icmp_ge (pc' := 33) (tgt := 59) (dt_X6_step 16 (30, .if_icmp .ge 29, 3) rfl) (by decide) rfl ?_ ?_))))))))
            · intro q37
              have h := h.1 q37
              refine aw_ret (dt_X6_step 31 (59, .return_, 1) rfl) rfl (aw_stk (st' := []) rfl (aw_aload_n (pc' := 49) (dt_X6_readRule 25 (48, .aload_n 0, 1) rfl) rfl rfl (aw_callV0 (pc' := 52) (nc := nc) (ns := ns) (y2 := mX6_readOut) (As := []) (rest := []) (a := 19) (dt_X6_readRule 26 (49, .invokevirtual 72, 3) rfl) ok_X6_readOut ln_Reader_72 im_X6_readOut se_X6_readOut pr_X6_readOut (Or.inl ⟨by decide, rfl⟩) rfl (Nat.le_of_ble_eq_true rfl) (Nat.le_of_ble_eq_true rfl) rfl (sk_19 hS3.wI.wI) h ?_)))
              rintro v μ38 ⟨r40, rfl, hS39, h⟩
              refine aw_stk (st' := [.int r40]) rfl ?_
              refine aw_if_ne (pc' := 55) (tgt := 57) (dt_X6_readRule 27 (52, .ifCond .ne 5, 3) rfl) (by decide) rfl ?_ ?_
              · intro q41
                have h := h.1 q41
                refine aw_iload_n (pc' := 58) (dt_X6_readRule 30 (57, .iload_n 1, 1) rfl) rfl rfl (aw_aload_n (pc' := 59) (dt_X6_readRule 31 (58, .aload_n 0, 1) rfl) rfl rfl (aw_getAs (pc' := 62) (dt_X6_readRule 32 (59, .getfield 18, 3) rfl) fl_Reader_18 rfl rfl (sk_19 hS39) (sa_19_1 hS39) (aw_alens (pc' := 63) (n := 400) (v := 400) (dt_X6_readRule 33 (62, .arraylength, 1) rfl) (by decide) (by decide) rfl (sk_25 hS39) (sl_25 hS39) (by decide) (aw_icmp_ge (pc' := 66) (tgt := 80) (dt_X6_readRule 34 (63, .if_icmp .ge 17, 3) rfl) (by decide) rfl ?_ ?_))))
                · intro q42
                  have h := h.1 q42
                  refine aw_iconst (pc' := 81) (v := 1) (dt_X6_readRule 43 (80, .iconst 1, 1) rfl) (by decide) rfl (aw_iret (dt_X6_readRule 44 (81, .ireturn, 1) rfl) rfl rfl ?_)
                  exact h
                · intro q42
                  have h := h.2 q42
                  obtain ⟨g43, h⟩ := h
                  refine aw_aload_n (pc' := 67) (dt_X6_readRule 35 (66, .aload_n 0, 1) rfl) rfl rfl (aw_getAs (pc' := 70) (dt_X6_readRule 36 (67, .getfield 18, 3) rfl) fl_Reader_18 rfl rfl (sk_19 hS39) (sa_19_1 hS39) (aw_iload_n (pc' := 71) (dt_X6_readRule 37 (70, .iload_n 1, 1) rfl) rfl rfl (aw_sipush (pc' := 74) (v := (-1000)) (dt_X6_readRule 38 (71, .sipush (-1000), 3) rfl) (by decide) rfl (aw_aload_n (pc' := 75) (dt_X6_readRule 39 (74, .aload_n 0, 1) rfl) rfl rfl (aw_getI (pc' := 78) (dt_X6_readRule 40 (75, .getfield 54, 3) rfl) fl_Reader_54 rfl rfl (sk_19 hS39) (aw_isub (pc' := 79) (dt_X6_readRule 41 (78, .isub, 1) rfl) rfl (aw_iast (pc' := 80) (dt_X6_readRule 42 (79, .iastore, 1) rfl) rfl (sk_25 hS39) (by decide) (vin_eq (sl_25 hS39) g43) (aw_iconst (pc' := 81) (v := 1) (dt_X6_readRule 43 (80, .iconst 1, 1) rfl) (by decide) rfl (aw_iret (dt_X6_readRule 44 (81, .ireturn, 1) rfl) rfl rfl ?_)))))))))
                  exact h
              · intro q41
                have h := h.2 q41
                refine aw_iconst (pc' := 56) (v := 0) (dt_X6_readRule 28 (55, .iconst 0, 1) rfl) (by decide) rfl (aw_iret (dt_X6_readRule 29 (56, .ireturn, 1) rfl) rfl rfl ?_)
                exact h
            · intro q37
              have h := h.2 q37
              refine aw_aload_n (pc' := 34) (dt_X6_step 17 (33, .aload_n 0, 1) rfl) rfl rfl (aw_dup (pc' := 35) (dt_X6_step 18 (34, .dup, 1) rfl) rfl rfl (aw_getI (pc' := 38) (dt_X6_step 19 (35, .getfield 45, 3) rfl) fl_Reader_45 rfl rfl (sk_19 hS3.wI.wI) (aw_iconst (pc' := 39) (v := 1) (dt_X6_step 20 (38, .iconst 1, 1) rfl) (by decide) rfl (aw_iadd (pc' := 40) (dt_X6_step 21 (39, .iadd, 1) rfl) rfl (aw_putI (pc' := 43) (dt_X6_step 22 (40, .putfield 45, 3) rfl) fl_Reader_45 rfl (by decide +kernel) rfl (sk_19 hS3.wI.wI) ?_)))))
              refine aw_mem (fun μ44 eμ45 => ?_)
              have h := h μ44 eμ45
              have hS46 : Stat μ44 := by rw [eμ45]; exact hS3.wI.wI.wI
              obtain ⟨g47, h⟩ := h
              refine aw_aload_n (pc' := 44) (dt_X6_step 23 (43, .aload_n 0, 1) rfl) rfl rfl (aw_aload_n (pc' := 45) (dt_X6_step 24 (44, .aload_n 0, 1) rfl) rfl rfl (aw_getAs (pc' := 48) (dt_X6_step 25 (45, .getfield 12, 3) rfl) fl_Reader_12 rfl rfl (sk_19 hS46) (sa_19_0 hS46) (aw_getAs (pc' := 51) (dt_X6_step 26 (48, .getfield 66, 3) rfl) fl_Reader_66 rfl rfl (sk_20 hS46) (sa_20_2 hS46) (aw_aload_n (pc' := 52) (dt_X6_step 27 (51, .aload_n 0, 1) rfl) rfl rfl (aw_getI (pc' := 55) (dt_X6_step 28 (52, .getfield 45, 3) rfl) fl_Reader_45 rfl rfl (sk_19 hS46) (aw_iald (pc' := 56) (dt_X6_step 29 (55, .iaload, 1) rfl) rfl (sk_22 hS46) (vin_eq (sl_22 hS46) g47) (aw_putI (pc' := 59) (dt_X6_step 30 (56, .putfield 22, 3) rfl) fl_Reader_22 rfl (by decide +kernel) rfl (sk_19 hS46) (aw_ret (dt_X6_step 31 (59, .return_, 1) rfl) rfl (aw_stk (st' := []) rfl (aw_aload_n (pc' := 49) (dt_X6_readRule 25 (48, .aload_n 0, 1) rfl) rfl rfl (aw_callV0 (pc' := 52) (nc := nc) (ns := ns) (y2 := mX6_readOut) (As := []) (rest := []) (a := 19) (dt_X6_readRule 26 (49, .invokevirtual 72, 3) rfl) ok_X6_readOut ln_Reader_72 im_X6_readOut se_X6_readOut pr_X6_readOut (Or.inl ⟨by decide, rfl⟩) rfl (Nat.le_of_ble_eq_true rfl) (Nat.le_of_ble_eq_true rfl) rfl (sk_19 hS46.wI) h ?_)))))))))))
              rintro v μ48 ⟨r50, rfl, hS49, h⟩
              refine aw_stk (st' := [.int r50]) rfl ?_
              refine aw_if_ne (pc' := 55) (tgt := 57) (dt_X6_readRule 27 (52, .ifCond .ne 5, 3) rfl) (by decide) rfl ?_ ?_
              · intro q51
                have h := h.1 q51
                refine aw_iload_n (pc' := 58) (dt_X6_readRule 30 (57, .iload_n 1, 1) rfl) rfl rfl (aw_aload_n (pc' := 59) (dt_X6_readRule 31 (58, .aload_n 0, 1) rfl) rfl rfl (aw_getAs (pc' := 62) (dt_X6_readRule 32 (59, .getfield 18, 3) rfl) fl_Reader_18 rfl rfl (sk_19 hS49) (sa_19_1 hS49) (aw_alens (pc' := 63) (n := 400) (v := 400) (dt_X6_readRule 33 (62, .arraylength, 1) rfl) (by decide) (by decide) rfl (sk_25 hS49) (sl_25 hS49) (by decide) (aw_icmp_ge (pc' := 66) (tgt := 80) (dt_X6_readRule 34 (63, .if_icmp .ge 17, 3) rfl) (by decide) rfl ?_ ?_))))
                · intro q52
                  have h := h.1 q52
                  refine aw_iconst (pc' := 81) (v := 1) (dt_X6_readRule 43 (80, .iconst 1, 1) rfl) (by decide) rfl (aw_iret (dt_X6_readRule 44 (81, .ireturn, 1) rfl) rfl rfl ?_)
                  exact h
                · intro q52
                  have h := h.2 q52
                  obtain ⟨g53, h⟩ := h
                  refine aw_aload_n (pc' := 67) (dt_X6_readRule 35 (66, .aload_n 0, 1) rfl) rfl rfl (aw_getAs (pc' := 70) (dt_X6_readRule 36 (67, .getfield 18, 3) rfl) fl_Reader_18 rfl rfl (sk_19 hS49) (sa_19_1 hS49) (aw_iload_n (pc' := 71) (dt_X6_readRule 37 (70, .iload_n 1, 1) rfl) rfl rfl (aw_sipush (pc' := 74) (v := (-1000)) (dt_X6_readRule 38 (71, .sipush (-1000), 3) rfl) (by decide) rfl (aw_aload_n (pc' := 75) (dt_X6_readRule 39 (74, .aload_n 0, 1) rfl) rfl rfl (aw_getI (pc' := 78) (dt_X6_readRule 40 (75, .getfield 54, 3) rfl) fl_Reader_54 rfl rfl (sk_19 hS49) (aw_isub (pc' := 79) (dt_X6_readRule 41 (78, .isub, 1) rfl) rfl (aw_iast (pc' := 80) (dt_X6_readRule 42 (79, .iastore, 1) rfl) rfl (sk_25 hS49) (by decide) (vin_eq (sl_25 hS49) g53) (aw_iconst (pc' := 81) (v := 1) (dt_X6_readRule 43 (80, .iconst 1, 1) rfl) (by decide) rfl (aw_iret (dt_X6_readRule 44 (81, .ireturn, 1) rfl) rfl rfl ?_)))))))))
                  exact h
              · intro q51
                have h := h.2 q51
                refine aw_iconst (pc' := 56) (v := 0) (dt_X6_readRule 28 (55, .iconst 0, 1) rfl) (by decide) rfl (aw_iret (dt_X6_readRule 29 (56, .ireturn, 1) rfl) rfl rfl ?_)
                exact h
      · intro q6
        have h := h.2 q6
        refine aw_iconst (pc' := 31) (v := 0) (dt_X6_readRule 15 (30, .iconst 0, 1) rfl) (by decide) rfl (aw_iret (dt_X6_readRule 16 (31, .ireturn, 1) rfl) rfl rfl ?_)
        exact h
  · intro q1
    have h := h.2 q1
    refine aw_aload_n (pc' := 9) (dt_X6_readRule 4 (8, .aload_n 0, 1) rfl) rfl rfl (aw_callV0 (pc' := 12) (nc := nc) (ns := ns) (y2 := mX6_readOut) (As := []) (rest := []) (a := 19) (dt_X6_readRule 5 (9, .invokevirtual 72, 3) rfl) ok_X6_readOut ln_Reader_72 im_X6_readOut se_X6_readOut pr_X6_readOut (Or.inl ⟨by decide, rfl⟩) rfl (Nat.le_of_ble_eq_true rfl) (Nat.le_of_ble_eq_true rfl) rfl (sk_19 hS) h ?_)
    rintro v μ54 ⟨r56, rfl, hS55, h⟩
    refine aw_stk (st' := [.int r56]) rfl ?_
    obtain ⟨g57, h⟩ := h
    refine aw_iret (dt_X6_readRule 6 (12, .ireturn, 1) rfl) rfl (nb01 g57) ?_
    exact h

theorem t_X6_readOut {E : ZE} {l : Launch} {d nc ns : Nat}  {μ : ZM} {K : Option Value → ZM → Prop} (hS : Stat μ) (h :
  ((zI μ 19 4) ≤ 4 →
    ((zI μ 20 5) ≤ ((zI μ 19 3) + 1) →
      ((zI μ 19 4) < 3 →
        (400 ≤ (zI μ 19 2) →
          K (some (.int 1)) μ) ∧
        (¬ 400 ≤ (zI μ 19 2) →
          (vp_in (zI μ 19 2) 400) ∧
          K (some (.int 1)) (sI (sI μ 25 (zI μ 19 2).toNatClampNeg ((-500) - (zI μ 19 4))) 19 2 ((zI (sI μ 25 (zI μ 19 2).toNatClampNeg ((-500) - (zI μ 19 4))) 19 2) + 1)))) ∧
      (¬ (zI μ 19 4) < 3 →
        AW E l (d + 1) 0 0 mX6_readSum 0 (zargs 5 [.ref 19, .int 0]) [] μ (fun v μ6 => ∃ r8 : Int32, v = some (.int r8) ∧ Stat μ6 ∧ 
          (¬ r8 = 0 →
            (400 ≤ (zI μ6 19 2) →
              K (some (.int 1)) μ6) ∧
            (¬ 400 ≤ (zI μ6 19 2) →
              (vp_in (zI μ6 19 2) 400) ∧
              K (some (.int 1)) (sI (sI μ6 25 (zI μ6 19 2).toNatClampNeg ((-500) - (zI μ 19 4))) 19 2 ((zI (sI μ6 25 (zI μ6 19 2).toNatClampNeg ((-500) - (zI μ 19 4))) 19 2) + 1)))) ∧
          (r8 = 0 →
            K (some (.int 0)) μ6)))) ∧
    (¬ (zI μ 20 5) ≤ ((zI μ 19 3) + 1) →
      (201 ≤ ((zI μ 19 3) + 1) →
        ((zI μ 19 4) < 3 →
          (400 ≤ (zI μ 19 2) →
            K (some (.int 1)) μ) ∧
          (¬ 400 ≤ (zI μ 19 2) →
            (vp_in (zI μ 19 2) 400) ∧
            K (some (.int 1)) (sI (sI μ 25 (zI μ 19 2).toNatClampNeg ((-500) - (zI μ 19 4))) 19 2 ((zI (sI μ 25 (zI μ 19 2).toNatClampNeg ((-500) - (zI μ 19 4))) 19 2) + 1)))) ∧
        (¬ (zI μ 19 4) < 3 →
          AW E l (d + 1) 0 0 mX6_readSum 0 (zargs 5 [.ref 19, .int 0]) [] μ (fun v μ16 => ∃ r18 : Int32, v = some (.int r18) ∧ Stat μ16 ∧ 
            (¬ r18 = 0 →
              (400 ≤ (zI μ16 19 2) →
                K (some (.int 1)) μ16) ∧
              (¬ 400 ≤ (zI μ16 19 2) →
                (vp_in (zI μ16 19 2) 400) ∧
                K (some (.int 1)) (sI (sI μ16 25 (zI μ16 19 2).toNatClampNeg ((-500) - (zI μ 19 4))) 19 2 ((zI (sI μ16 25 (zI μ16 19 2).toNatClampNeg ((-500) - (zI μ 19 4))) 19 2) + 1)))) ∧
            (r18 = 0 →
              K (some (.int 0)) μ16)))) ∧
      (¬ 201 ≤ ((zI μ 19 3) + 1) →
        (vp_in (zI (sI μ 19 3 ((zI μ 19 3) + 1)) 19 3) 201) ∧
        ((zI μ 19 4) < 3 →
          (400 ≤ (zI (sI (sI μ 19 3 ((zI μ 19 3) + 1)) 19 4 (zI (sI μ 19 3 ((zI μ 19 3) + 1)) 22 (zI (sI μ 19 3 ((zI μ 19 3) + 1)) 19 3).toNatClampNeg)) 19 2) →
            K (some (.int 1)) (sI (sI μ 19 3 ((zI μ 19 3) + 1)) 19 4 (zI (sI μ 19 3 ((zI μ 19 3) + 1)) 22 (zI (sI μ 19 3 ((zI μ 19 3) + 1)) 19 3).toNatClampNeg))) ∧
          (¬ 400 ≤ (zI (sI (sI μ 19 3 ((zI μ 19 3) + 1)) 19 4 (zI (sI μ 19 3 ((zI μ 19 3) + 1)) 22 (zI (sI μ 19 3 ((zI μ 19 3) + 1)) 19 3).toNatClampNeg)) 19 2) →
            (vp_in (zI (sI (sI μ 19 3 ((zI μ 19 3) + 1)) 19 4 (zI (sI μ 19 3 ((zI μ 19 3) + 1)) 22 (zI (sI μ 19 3 ((zI μ 19 3) + 1)) 19 3).toNatClampNeg)) 19 2) 400) ∧
            ∀ μ26, μ26 = (sI (sI (sI μ 19 3 ((zI μ 19 3) + 1)) 19 4 (zI (sI μ 19 3 ((zI μ 19 3) + 1)) 22 (zI (sI μ 19 3 ((zI μ 19 3) + 1)) 19 3).toNatClampNeg)) 25 (zI (sI (sI μ 19 3 ((zI μ 19 3) + 1)) 19 4 (zI (sI μ 19 3 ((zI μ 19 3) + 1)) 22 (zI (sI μ 19 3 ((zI μ 19 3) + 1)) 19 3).toNatClampNeg)) 19 2).toNatClampNeg ((-500) - (zI μ 19 4))) →
            K (some (.int 1)) (sI μ26 19 2 ((zI μ26 19 2) + 1)))) ∧
        (¬ (zI μ 19 4) < 3 →
          AW E l (d + 1) 0 0 mX6_readSum 0 (zargs 5 [.ref 19, .int 0]) [] (sI (sI μ 19 3 ((zI μ 19 3) + 1)) 19 4 (zI (sI μ 19 3 ((zI μ 19 3) + 1)) 22 (zI (sI μ 19 3 ((zI μ 19 3) + 1)) 19 3).toNatClampNeg)) (fun v μ29 => ∃ r31 : Int32, v = some (.int r31) ∧ Stat μ29 ∧ 
            (¬ r31 = 0 →
              (400 ≤ (zI μ29 19 2) →
                K (some (.int 1)) μ29) ∧
              (¬ 400 ≤ (zI μ29 19 2) →
                (vp_in (zI μ29 19 2) 400) ∧
                K (some (.int 1)) (sI (sI μ29 25 (zI μ29 19 2).toNatClampNeg ((-500) - (zI μ 19 4))) 19 2 ((zI (sI μ29 25 (zI μ29 19 2).toNatClampNeg ((-500) - (zI μ 19 4))) 19 2) + 1)))) ∧
            (r31 = 0 →
              K (some (.int 0)) μ29)))))) ∧
  (¬ (zI μ 19 4) ≤ 4 →
    K (some (.int 0)) μ)) : AW E l (d + 2) nc ns mX6_readOut 0 [some (.ref 19), none] [] μ K := by
  refine aw_aload_n (pc' := 1) (dt_X6_readOut 0 (0, .aload_n 0, 1) rfl) rfl rfl (aw_getI (pc' := 4) (dt_X6_readOut 1 (1, .getfield 22, 3) rfl) fl_Reader_22 rfl rfl (sk_19 hS) (aw_istore_n (pc' := 5) (ls' := [some (.ref 19), some (.int (zI μ 19 4))]) (dt_X6_readOut 2 (4, .istore_n 1, 1) rfl) (by decide) rfl rfl (aw_iload_n (pc' := 6) (dt_X6_readOut 3 (5, .iload_n 1, 1) rfl) rfl rfl (aw_iconst (pc' := 7) (v := 4) (dt_X6_readOut 4 (6, .iconst 4, 1) rfl) (by decide) rfl (aw_icmp_le (pc' := 10) (tgt := 12) (dt_X6_readOut 5 (7, .if_icmp .le 5, 3) rfl) (by decide) rfl ?_ ?_)))))
  · intro q1
    have h := h.1 q1
    refine aw_aload_n (pc' := 13) (dt_X6_readOut 8 (12, .aload_n 0, 1) rfl) rfl rfl (aw_inV (pc' := 16) (nc1 := 0) (ns1 := 0) (nc := nc) (ns := ns) (ls' := [some (.ref 19)]) (y2 := mX6_step) (As := []) (rest := []) (a := 19) (dt_X6_readOut 9 (13, .invokevirtual 36, 3) rfl) ok_X6_step ln_Reader_36 im_X6_step se_X6_step pr_X6_step (Or.inl ⟨by decide, rfl⟩) rfl (Nat.le_of_ble_eq_true rfl) (Nat.le_of_ble_eq_true rfl) rfl rfl (sk_19 hS) (aw_aload_n (pc' := 1) (dt_X6_step 0 (0, .aload_n 0, 1) rfl) rfl rfl (aw_getI (pc' := 4) (dt_X6_step 1 (1, .getfield 45, 3) rfl) fl_Reader_45 rfl rfl (sk_19 hS) (aw_iconst (pc' := 5) (v := 1) (dt_X6_step 2 (4, .iconst 1, 1) rfl) (by decide) rfl (aw_iadd (pc' := 6) (dt_X6_step 3 (5, .iadd, 1) rfl) rfl (aw_aload_n (pc' := 7) (dt_X6_step 4 (6, .aload_n 0, 1) rfl) rfl rfl (aw_getAs (pc' := 10) (dt_X6_step 5 (7, .getfield 12, 3) rfl) fl_Reader_12 rfl rfl (sk_19 hS) (sa_19_0 hS) (aw_getI (pc' := 13) (dt_X6_step 6 (10, .getfield 69, 3) rfl) fl_Reader_69 rfl rfl (sk_20 hS) (aw_icmp_ge (pc' := 16) (tgt := 59) (dt_X6_step 7 (13, .if_icmp .ge 46, 3) rfl) (by decide) rfl ?_ ?_)))))))))
    · intro q2
      have h := h.1 q2
      refine aw_ret (dt_X6_step 31 (59, .return_, 1) rfl) rfl (aw_stk (st' := []) rfl (aw_iload_n (pc' := 17) (dt_X6_readOut 10 (16, .iload_n 1, 1) rfl) rfl rfl (aw_iconst (pc' := 18) (v := 3) (dt_X6_readOut 11 (17, .iconst 3, 1) rfl) (by decide) rfl (aw_icmp_lt (pc' := 21) (tgt := 31) (dt_X6_readOut 12 (18, .if_icmp .lt 13, 3) rfl) (by decide) rfl ?_ ?_))))
      · intro q3
        have h := h.1 q3
        refine aw_aload_n (pc' := 32) (dt_X6_readOut 19 (31, .aload_n 0, 1) rfl) rfl rfl (aw_sipush (pc' := 35) (v := (-500)) (dt_X6_readOut 20 (32, .sipush (-500), 3) rfl) (by decide) rfl (aw_iload_n (pc' := 36) (dt_X6_readOut 21 (35, .iload_n 1, 1) rfl) rfl rfl (aw_isub (pc' := 37) (dt_X6_readOut 22 (36, .isub, 1) rfl) rfl (aw_inV (pc' := 40) (nc1 := 0) (ns1 := 0) (nc := nc) (ns := ns) (ls' := [some (.ref 19), some (.int ((-500) - (zI μ 19 4)))]) (y2 := mX6_write) (As := [.int ((-500) - (zI μ 19 4))]) (rest := []) (a := 19) (dt_X6_readOut 23 (37, .invokevirtual 75, 3) rfl) ok_X6_write ln_Reader_75 im_X6_write se_X6_write pr_X6_write (Or.inl ⟨by decide, rfl⟩) rfl (Nat.le_of_ble_eq_true rfl) (Nat.le_of_ble_eq_true rfl) rfl rfl (sk_19 hS) (aw_aload_n (pc' := 1) (dt_X6_write 0 (0, .aload_n 0, 1) rfl) rfl rfl (aw_getI (pc' := 4) (dt_X6_write 1 (1, .getfield 54, 3) rfl) fl_Reader_54 rfl rfl (sk_19 hS) (aw_aload_n (pc' := 5) (dt_X6_write 2 (4, .aload_n 0, 1) rfl) rfl rfl (aw_getAs (pc' := 8) (dt_X6_write 3 (5, .getfield 18, 3) rfl) fl_Reader_18 rfl rfl (sk_19 hS) (sa_19_1 hS) (aw_alens (pc' := 9) (n := 400) (v := 400) (dt_X6_write 4 (8, .arraylength, 1) rfl) (by decide) (by decide) rfl (sk_25 hS) (sl_25 hS) (by decide) (aw_icmp_ge (pc' := 12) (tgt := 32) (dt_X6_write 5 (9, .if_icmp .ge 23, 3) rfl) (by decide) rfl ?_ ?_))))))))))
        · intro q4
          have h := h.1 q4
          refine aw_ret (dt_X6_write 18 (32, .return_, 1) rfl) rfl (aw_stk (st' := []) rfl (aw_iconst (pc' := 41) (v := 1) (dt_X6_readOut 24 (40, .iconst 1, 1) rfl) (by decide) rfl (aw_iret (dt_X6_readOut 25 (41, .ireturn, 1) rfl) rfl rfl ?_)))
          exact h
        · intro q4
          have h := h.2 q4
          obtain ⟨g5, h⟩ := h
          refine aw_aload_n (pc' := 13) (dt_X6_write 6 (12, .aload_n 0, 1) rfl) rfl rfl (aw_getAs (pc' := 16) (dt_X6_write 7 (13, .getfield 18, 3) rfl) fl_Reader_18 rfl rfl (sk_19 hS) (sa_19_1 hS) (aw_aload_n (pc' := 17) (dt_X6_write 8 (16, .aload_n 0, 1) rfl) rfl rfl (aw_getI (pc' := 20) (dt_X6_write 9 (17, .getfield 54, 3) rfl) fl_Reader_54 rfl rfl (sk_19 hS) (aw_iload_n (pc' := 21) (dt_X6_write 10 (20, .iload_n 1, 1) rfl) rfl rfl (aw_iast (pc' := 22) (dt_X6_write 11 (21, .iastore, 1) rfl) rfl (sk_25 hS) (by decide) (vin_eq (sl_25 hS) g5) (aw_aload_n (pc' := 23) (dt_X6_write 12 (22, .aload_n 0, 1) rfl) rfl rfl (aw_dup (pc' := 24) (dt_X6_write 13 (23, .dup, 1) rfl) rfl rfl (aw_getI (pc' := 27) (dt_X6_write 14 (24, .getfield 54, 3) rfl) fl_Reader_54 rfl rfl (sk_19 hS.wI) (aw_iconst (pc' := 28) (v := 1) (dt_X6_write 15 (27, .iconst 1, 1) rfl) (by decide) rfl (aw_iadd (pc' := 29) (dt_X6_write 16 (28, .iadd, 1) rfl) rfl (aw_putI (pc' := 32) (dt_X6_write 17 (29, .putfield 54, 3) rfl) fl_Reader_54 rfl (by decide +kernel) rfl (sk_19 hS.wI) (aw_ret (dt_X6_write 18 (32, .return_, 1) rfl) rfl (aw_stk (st' := []) rfl (aw_iconst (pc' := 41) (v := 1) (dt_X6_readOut 24 (40, .iconst 1, 1) rfl) (by decide) rfl (aw_iret (dt_X6_readOut 25 (41, .ireturn, 1) rfl) rfl rfl ?_)))))))))))))))
          exact h
      · intro q3
        have h := h.2 q3
        refine aw_aload_n (pc' := 22) (dt_X6_readOut 13 (21, .aload_n 0, 1) rfl) rfl rfl (aw_iconst (pc' := 23) (v := 0) (dt_X6_readOut 14 (22, .iconst 0, 1) rfl) (by decide) rfl (aw_callV0 (pc' := 26) (nc := nc) (ns := ns) (y2 := mX6_readSum) (As := [.int 0]) (rest := []) (a := 19) (dt_X6_readOut 15 (23, .invokevirtual 79, 3) rfl) ok_X6_readSum ln_Reader_79 im_X6_readSum se_X6_readSum pr_X6_readSum (Or.inl ⟨by decide, rfl⟩) rfl (Nat.le_of_ble_eq_true rfl) (Nat.le_of_ble_eq_true rfl) rfl (sk_19 hS) h ?_))
        rintro v μ6 ⟨r8, rfl, hS7, h⟩
        refine aw_stk (st' := [.int r8]) rfl ?_
        refine aw_if_ne (pc' := 29) (tgt := 31) (dt_X6_readOut 16 (26, .ifCond .ne 5, 3) rfl) (by decide) rfl ?_ ?_
        · intro q9
          have h := h.1 q9
          refine aw_aload_n (pc' := 32) (dt_X6_readOut 19 (31, .aload_n 0, 1) rfl) rfl rfl (aw_sipush (pc' := 35) (v := (-500)) (dt_X6_readOut 20 (32, .sipush (-500), 3) rfl) (by decide) rfl (aw_iload_n (pc' := 36) (dt_X6_readOut 21 (35, .iload_n 1, 1) rfl) rfl rfl (aw_isub (pc' := 37) (dt_X6_readOut 22 (36, .isub, 1) rfl) rfl (aw_inV (pc' := 40) (nc1 := 0) (ns1 := 0) (nc := nc) (ns := ns) (ls' := [some (.ref 19), some (.int ((-500) - (zI μ 19 4)))]) (y2 := mX6_write) (As := [.int ((-500) - (zI μ 19 4))]) (rest := []) (a := 19) (dt_X6_readOut 23 (37, .invokevirtual 75, 3) rfl) ok_X6_write ln_Reader_75 im_X6_write se_X6_write pr_X6_write (Or.inl ⟨by decide, rfl⟩) rfl (Nat.le_of_ble_eq_true rfl) (Nat.le_of_ble_eq_true rfl) rfl rfl (sk_19 hS7) (aw_aload_n (pc' := 1) (dt_X6_write 0 (0, .aload_n 0, 1) rfl) rfl rfl (aw_getI (pc' := 4) (dt_X6_write 1 (1, .getfield 54, 3) rfl) fl_Reader_54 rfl rfl (sk_19 hS7) (aw_aload_n (pc' := 5) (dt_X6_write 2 (4, .aload_n 0, 1) rfl) rfl rfl (aw_getAs (pc' := 8) (dt_X6_write 3 (5, .getfield 18, 3) rfl) fl_Reader_18 rfl rfl (sk_19 hS7) (sa_19_1 hS7) (aw_alens (pc' := 9) (n := 400) (v := 400) (dt_X6_write 4 (8, .arraylength, 1) rfl) (by decide) (by decide) rfl (sk_25 hS7) (sl_25 hS7) (by decide) (aw_icmp_ge (pc' := 12) (tgt := 32) (dt_X6_write 5 (9, .if_icmp .ge 23, 3) rfl) (by decide) rfl ?_ ?_))))))))))
          · intro q10
            have h := h.1 q10
            refine aw_ret (dt_X6_write 18 (32, .return_, 1) rfl) rfl (aw_stk (st' := []) rfl (aw_iconst (pc' := 41) (v := 1) (dt_X6_readOut 24 (40, .iconst 1, 1) rfl) (by decide) rfl (aw_iret (dt_X6_readOut 25 (41, .ireturn, 1) rfl) rfl rfl ?_)))
            exact h
          · intro q10
            have h := h.2 q10
            obtain ⟨g11, h⟩ := h
            refine aw_aload_n (pc' := 13) (dt_X6_write 6 (12, .aload_n 0, 1) rfl) rfl rfl (aw_getAs (pc' := 16) (dt_X6_write 7 (13, .getfield 18, 3) rfl) fl_Reader_18 rfl rfl (sk_19 hS7) (sa_19_1 hS7) (aw_aload_n (pc' := 17) (dt_X6_write 8 (16, .aload_n 0, 1) rfl) rfl rfl (aw_getI (pc' := 20) (dt_X6_write 9 (17, .getfield 54, 3) rfl) fl_Reader_54 rfl rfl (sk_19 hS7) (aw_iload_n (pc' := 21) (dt_X6_write 10 (20, .iload_n 1, 1) rfl) rfl rfl (aw_iast (pc' := 22) (dt_X6_write 11 (21, .iastore, 1) rfl) rfl (sk_25 hS7) (by decide) (vin_eq (sl_25 hS7) g11) (aw_aload_n (pc' := 23) (dt_X6_write 12 (22, .aload_n 0, 1) rfl) rfl rfl (aw_dup (pc' := 24) (dt_X6_write 13 (23, .dup, 1) rfl) rfl rfl (aw_getI (pc' := 27) (dt_X6_write 14 (24, .getfield 54, 3) rfl) fl_Reader_54 rfl rfl (sk_19 hS7.wI) (aw_iconst (pc' := 28) (v := 1) (dt_X6_write 15 (27, .iconst 1, 1) rfl) (by decide) rfl (aw_iadd (pc' := 29) (dt_X6_write 16 (28, .iadd, 1) rfl) rfl (aw_putI (pc' := 32) (dt_X6_write 17 (29, .putfield 54, 3) rfl) fl_Reader_54 rfl (by decide +kernel) rfl (sk_19 hS7.wI) (aw_ret (dt_X6_write 18 (32, .return_, 1) rfl) rfl (aw_stk (st' := []) rfl (aw_iconst (pc' := 41) (v := 1) (dt_X6_readOut 24 (40, .iconst 1, 1) rfl) (by decide) rfl (aw_iret (dt_X6_readOut 25 (41, .ireturn, 1) rfl) rfl rfl ?_)))))))))))))))
            exact h
        · intro q9
          have h := h.2 q9
          refine aw_iconst (pc' := 30) (v := 0) (dt_X6_readOut 17 (29, .iconst 0, 1) rfl) (by decide) rfl (aw_iret (dt_X6_readOut 18 (30, .ireturn, 1) rfl) rfl rfl ?_)
          exact h
    · intro q2
      have h := h.2 q2
      refine aw_aload_n (pc' := 17) (dt_X6_step 8 (16, .aload_n 0, 1) rfl) rfl rfl (aw_getI (pc' := 20) (dt_X6_step 9 (17, .getfield 45, 3) rfl) fl_Reader_45 rfl rfl (sk_19 hS) (aw_iconst (pc' := 21) (v := 1) (dt_X6_step 10 (20, .iconst 1, 1) rfl) (by decide) rfl (aw_iadd (pc' := 22) (dt_X6_step 11 (21, .iadd, 1) rfl) rfl (aw_aload_n (pc' := 23) (dt_X6_step 12 (22, .aload_n 0, 1) rfl) rfl rfl (aw_getAs (pc' := 26) (dt_X6_step 13 (23, .getfield 12, 3) rfl) fl_Reader_12 rfl rfl (sk_19 hS) (sa_19_0 hS) (aw_getAs (pc' := 29) (dt_X6_step 14 (26, .getfield 66, 3) rfl) fl_Reader_66 rfl rfl (sk_20 hS) (sa_20_2 hS) (aw_alens (pc' := 30) (n := 201) (v := 201) (dt_X6_step 15 (29, .arraylength, 1) rfl) (by decide) (by decide) rfl (sk_22 hS) (sl_22 hS) (by decide) (aw_icmp_ge (pc' := 33) (tgt := 59) (dt_X6_step 16 (30, .if_icmp .ge 29, 3) rfl) (by decide) rfl ?_ ?_))))))))
      · intro q12
        have h := h.1 q12
        refine aw_ret (dt_X6_step 31 (59, .return_, 1) rfl) rfl (aw_stk (st' := []) rfl (aw_iload_n (pc' := 17) (dt_X6_readOut 10 (16, .iload_n 1, 1) rfl) rfl rfl (aw_iconst (pc' := 18) (v := 3) (dt_X6_readOut 11 (17, .iconst 3, 1) rfl) (by decide) rfl (aw_icmp_lt (pc' := 21) (tgt := 31) (dt_X6_readOut 12 (18, .if_icmp .lt 13, 3) rfl) (by decide) rfl ?_ ?_))))
        · intro q13
          have h := h.1 q13
          refine aw_aload_n (pc' := 32) (dt_X6_readOut 19 (31, .aload_n 0, 1) rfl) rfl rfl (aw_sipush (pc' := 35) (v := (-500)) (dt_X6_readOut 20 (32, .sipush (-500), 3) rfl) (by decide) rfl (aw_iload_n (pc' := 36) (dt_X6_readOut 21 (35, .iload_n 1, 1) rfl) rfl rfl (aw_isub (pc' := 37) (dt_X6_readOut 22 (36, .isub, 1) rfl) rfl (aw_inV (pc' := 40) (nc1 := 0) (ns1 := 0) (nc := nc) (ns := ns) (ls' := [some (.ref 19), some (.int ((-500) - (zI μ 19 4)))]) (y2 := mX6_write) (As := [.int ((-500) - (zI μ 19 4))]) (rest := []) (a := 19) (dt_X6_readOut 23 (37, .invokevirtual 75, 3) rfl) ok_X6_write ln_Reader_75 im_X6_write se_X6_write pr_X6_write (Or.inl ⟨by decide, rfl⟩) rfl (Nat.le_of_ble_eq_true rfl) (Nat.le_of_ble_eq_true rfl) rfl rfl (sk_19 hS) (aw_aload_n (pc' := 1) (dt_X6_write 0 (0, .aload_n 0, 1) rfl) rfl rfl (aw_getI (pc' := 4) (dt_X6_write 1 (1, .getfield 54, 3) rfl) fl_Reader_54 rfl rfl (sk_19 hS) (aw_aload_n (pc' := 5) (dt_X6_write 2 (4, .aload_n 0, 1) rfl) rfl rfl (aw_getAs (pc' := 8) (dt_X6_write 3 (5, .getfield 18, 3) rfl) fl_Reader_18 rfl rfl (sk_19 hS) (sa_19_1 hS) (aw_alens (pc' := 9) (n := 400) (v := 400) (dt_X6_write 4 (8, .arraylength, 1) rfl) (by decide) (by decide) rfl (sk_25 hS) (sl_25 hS) (by decide) (aw_icmp_ge (pc' := 12) (tgt := 32) (dt_X6_write 5 (9, .if_icmp .ge 23, 3) rfl) (by decide) rfl ?_ ?_))))))))))
          · intro q14
            have h := h.1 q14
            refine aw_ret (dt_X6_write 18 (32, .return_, 1) rfl) rfl (aw_stk (st' := []) rfl (aw_iconst (pc' := 41) (v := 1) (dt_X6_readOut 24 (40, .iconst 1, 1) rfl) (by decide) rfl (aw_iret (dt_X6_readOut 25 (41, .ireturn, 1) rfl) rfl rfl ?_)))
            exact h
          · intro q14
            have h := h.2 q14
            obtain ⟨g15, h⟩ := h
            refine aw_aload_n (pc' := 13) (dt_X6_write 6 (12, .aload_n 0, 1) rfl) rfl rfl (aw_getAs (pc' := 16) (dt_X6_write 7 (13, .getfield 18, 3) rfl) fl_Reader_18 rfl rfl (sk_19 hS) (sa_19_1 hS) (aw_aload_n (pc' := 17) (dt_X6_write 8 (16, .aload_n 0, 1) rfl) rfl rfl (aw_getI (pc' := 20) (dt_X6_write 9 (17, .getfield 54, 3) rfl) fl_Reader_54 rfl rfl (sk_19 hS) (aw_iload_n (pc' := 21) (dt_X6_write 10 (20, .iload_n 1, 1) rfl) rfl rfl (aw_iast (pc' := 22) (dt_X6_write 11 (21, .iastore, 1) rfl) rfl (sk_25 hS) (by decide) (vin_eq (sl_25 hS) g15) (aw_aload_n (pc' := 23) (dt_X6_write 12 (22, .aload_n 0, 1) rfl) rfl rfl (aw_dup (pc' := 24) (dt_X6_write 13 (23, .dup, 1) rfl) rfl rfl (aw_getI (pc' := 27) (dt_X6_write 14 (24, .getfield 54, 3) rfl) fl_Reader_54 rfl rfl (sk_19 hS.wI) (aw_iconst (pc' := 28) (v := 1) (dt_X6_write 15 (27, .iconst 1, 1) rfl) (by decide) rfl (aw_iadd (pc' := 29) (dt_X6_write 16 (28, .iadd, 1) rfl) rfl (aw_putI (pc' := 32) (dt_X6_write 17 (29, .putfield 54, 3) rfl) fl_Reader_54 rfl (by decide +kernel) rfl (sk_19 hS.wI) (aw_ret (dt_X6_write 18 (32, .return_, 1) rfl) rfl (aw_stk (st' := []) rfl (aw_iconst (pc' := 41) (v := 1) (dt_X6_readOut 24 (40, .iconst 1, 1) rfl) (by decide) rfl (aw_iret (dt_X6_readOut 25 (41, .ireturn, 1) rfl) rfl rfl ?_)))))))))))))))
            exact h
        · intro q13
          have h := h.2 q13
          refine aw_aload_n (pc' := 22) (dt_X6_readOut 13 (21, .aload_n 0, 1) rfl) rfl rfl (aw_iconst (pc' := 23) (v := 0) (dt_X6_readOut 14 (22, .iconst 0, 1) rfl) (by decide) rfl (aw_callV0 (pc' := 26) (nc := nc) (ns := ns) (y2 := mX6_readSum) (As := [.int 0]) (rest := []) (a := 19) (dt_X6_readOut 15 (23, .invokevirtual 79, 3) rfl) ok_X6_readSum ln_Reader_79 im_X6_readSum se_X6_readSum pr_X6_readSum (Or.inl ⟨by decide, rfl⟩) rfl (Nat.le_of_ble_eq_true rfl) (Nat.le_of_ble_eq_true rfl) rfl (sk_19 hS) h ?_))
          rintro v μ16 ⟨r18, rfl, hS17, h⟩
          refine aw_stk (st' := [.int r18]) rfl ?_
          refine aw_if_ne (pc' := 29) (tgt := 31) (dt_X6_readOut 16 (26, .ifCond .ne 5, 3) rfl) (by decide) rfl ?_ ?_
          · intro q19
            have h := h.1 q19
            refine aw_aload_n (pc' := 32) (dt_X6_readOut 19 (31, .aload_n 0, 1) rfl) rfl rfl (aw_sipush (pc' := 35) (v := (-500)) (dt_X6_readOut 20 (32, .sipush (-500), 3) rfl) (by decide) rfl (aw_iload_n (pc' := 36) (dt_X6_readOut 21 (35, .iload_n 1, 1) rfl) rfl rfl (aw_isub (pc' := 37) (dt_X6_readOut 22 (36, .isub, 1) rfl) rfl (aw_inV (pc' := 40) (nc1 := 0) (ns1 := 0) (nc := nc) (ns := ns) (ls' := [some (.ref 19), some (.int ((-500) - (zI μ 19 4)))]) (y2 := mX6_write) (As := [.int ((-500) - (zI μ 19 4))]) (rest := []) (a := 19) (dt_X6_readOut 23 (37, .invokevirtual 75, 3) rfl) ok_X6_write ln_Reader_75 im_X6_write se_X6_write pr_X6_write (Or.inl ⟨by decide, rfl⟩) rfl (Nat.le_of_ble_eq_true rfl) (Nat.le_of_ble_eq_true rfl) rfl rfl (sk_19 hS17) (aw_aload_n (pc' := 1) (dt_X6_write 0 (0, .aload_n 0, 1) rfl) rfl rfl (aw_getI (pc' := 4) (dt_X6_write 1 (1, .getfield 54, 3) rfl) fl_Reader_54 rfl rfl (sk_19 hS17) (aw_aload_n (pc' := 5) (dt_X6_write 2 (4, .aload_n 0, 1) rfl) rfl rfl (aw_getAs (pc' := 8) (dt_X6_write 3 (5, .getfield 18, 3) rfl) fl_Reader_18 rfl rfl (sk_19 hS17) (sa_19_1 hS17) (aw_alens (pc' := 9) (n := 400) (v := 400) (dt_X6_write 4 (8, .arraylength, 1) rfl) (by decide) (by decide) rfl (sk_25 hS17) (sl_25 hS17) (by decide) (aw_icmp_ge (pc' := 12) (tgt := 32) (dt_X6_write 5 (9, .if_icmp .ge 23, 3) rfl) (by decide) rfl ?_ ?_))))))))))
            · intro q20
              have h := h.1 q20
              refine aw_ret (dt_X6_write 18 (32, .return_, 1) rfl) rfl (aw_stk (st' := []) rfl (aw_iconst (pc' := 41) (v := 1) (dt_X6_readOut 24 (40, .iconst 1, 1) rfl) (by decide) rfl (aw_iret (dt_X6_readOut 25 (41, .ireturn, 1) rfl) rfl rfl ?_)))
              exact h
            · intro q20
              have h := h.2 q20
              obtain ⟨g21, h⟩ := h
              refine aw_aload_n (pc' := 13) (dt_X6_write 6 (12, .aload_n 0, 1) rfl) rfl rfl (aw_getAs (pc' := 16) (dt_X6_write 7 (13, .getfield 18, 3) rfl) fl_Reader_18 rfl rfl (sk_19 hS17) (sa_19_1 hS17) (aw_aload_n (pc' := 17) (dt_X6_write 8 (16, .aload_n 0, 1) rfl) rfl rfl (aw_getI (pc' := 20) (dt_X6_write 9 (17, .getfield 54, 3) rfl) fl_Reader_54 rfl rfl (sk_19 hS17) (aw_iload_n (pc' := 21) (dt_X6_write 10 (20, .iload_n 1, 1) rfl) rfl rfl (aw_iast (pc' := 22) (dt_X6_write 11 (21, .iastore, 1) rfl) rfl (sk_25 hS17) (by decide) (vin_eq (sl_25 hS17) g21) (aw_aload_n (pc' := 23) (dt_X6_write 12 (22, .aload_n 0, 1) rfl) rfl rfl (aw_dup (pc' := 24) (dt_X6_write 13 (23, .dup, 1) rfl) rfl rfl (aw_getI (pc' := 27) (dt_X6_write 14 (24, .getfield 54, 3) rfl) fl_Reader_54 rfl rfl (sk_19 hS17.wI) (aw_iconst (pc' := 28) (v := 1) (dt_X6_write 15 (27, .iconst 1, 1) rfl) (by decide) rfl (aw_iadd (pc' := 29) (dt_X6_write 16 (28, .iadd, 1) rfl) rfl (aw_putI (pc' := 32) (dt_X6_write 17 (29, .putfield 54, 3) rfl) fl_Reader_54 rfl (by decide +kernel) rfl (sk_19 hS17.wI) (aw_ret (dt_X6_write 18 (32, .return_, 1) rfl) rfl (aw_stk (st' := []) rfl (aw_iconst (pc' := 41) (v := 1) (dt_X6_readOut 24 (40, .iconst 1, 1) rfl) (by decide) rfl (aw_iret (dt_X6_readOut 25 (41, .ireturn, 1) rfl) rfl rfl ?_)))))))))))))))
              exact h
          · intro q19
            have h := h.2 q19
            refine aw_iconst (pc' := 30) (v := 0) (dt_X6_readOut 17 (29, .iconst 0, 1) rfl) (by decide) rfl (aw_iret (dt_X6_readOut 18 (30, .ireturn, 1) rfl) rfl rfl ?_)
            exact h
      · intro q12
        have h := h.2 q12
        obtain ⟨g22, h⟩ := h
        refine aw_aload_n (pc' := 34) (dt_X6_step 17 (33, .aload_n 0, 1) rfl) rfl rfl (aw_dup (pc' := 35) (dt_X6_step 18 (34, .dup, 1) rfl) rfl rfl (aw_getI (pc' := 38) (dt_X6_step 19 (35, .getfield 45, 3) rfl) fl_Reader_45 rfl rfl (sk_19 hS) (aw_iconst (pc' := 39) (v := 1) (dt_X6_step 20 (38, .iconst 1, 1) rfl) (by decide) rfl (aw_iadd (pc' := 40) (dt_X6_step 21 (39, .iadd, 1) rfl) rfl (aw_putI (pc' := 43) (dt_X6_step 22 (40, .putfield 45, 3) rfl) fl_Reader_45 rfl (by decide +kernel) rfl (sk_19 hS) (aw_aload_n (pc' := 44) (dt_X6_step 23 (43, .aload_n 0, 1) rfl) rfl rfl (aw_aload_n (pc' := 45) (dt_X6_step 24 (44, .aload_n 0, 1) rfl) rfl rfl (aw_getAs (pc' := 48) (dt_X6_step 25 (45, .getfield 12, 3) rfl) fl_Reader_12 rfl rfl (sk_19 hS.wI) (sa_19_0 hS.wI) (aw_getAs (pc' := 51) (dt_X6_step 26 (48, .getfield 66, 3) rfl) fl_Reader_66 rfl rfl (sk_20 hS.wI) (sa_20_2 hS.wI) (aw_aload_n (pc' := 52) (dt_X6_step 27 (51, .aload_n 0, 1) rfl) rfl rfl (aw_getI (pc' := 55) (dt_X6_step 28 (52, .getfield 45, 3) rfl) fl_Reader_45 rfl rfl (sk_19 hS.wI) (aw_iald (pc' := 56) (dt_X6_step 29 (55, .iaload, 1) rfl) rfl (sk_22 hS.wI) (vin_eq (sl_22 hS.wI) g22) (aw_putI (pc' := 59) (dt_X6_step 30 (56, .putfield 22, 3) rfl) fl_Reader_22 rfl (by decide +kernel) rfl (sk_19 hS.wI) (aw_ret (dt_X6_step 31 (59, .return_, 1) rfl) rfl (aw_stk (st' := []) rfl (aw_iload_n (pc' := 17) (dt_X6_readOut 10 (16, .iload_n 1, 1) rfl) rfl rfl (aw_iconst (pc' := 18) (v := 3) (dt_X6_readOut 11 (17, .iconst 3, 1) rfl) (by decide) rfl (aw_icmp_lt (pc' := 21) (tgt := 31) (dt_X6_readOut 12 (18, .if_icmp .lt 13, 3) rfl) (by decide) rfl ?_ ?_))))))))))))))))))
        · intro q23
          have h := h.1 q23
          refine aw_aload_n (pc' := 32) (dt_X6_readOut 19 (31, .aload_n 0, 1) rfl) rfl rfl (aw_sipush (pc' := 35) (v := (-500)) (dt_X6_readOut 20 (32, .sipush (-500), 3) rfl) (by decide) rfl (aw_iload_n (pc' := 36) (dt_X6_readOut 21 (35, .iload_n 1, 1) rfl) rfl rfl (aw_isub (pc' := 37) (dt_X6_readOut 22 (36, .isub, 1) rfl) rfl (aw_inV (pc' := 40) (nc1 := 0) (ns1 := 0) (nc := nc) (ns := ns) (ls' := [some (.ref 19), some (.int ((-500) - (zI μ 19 4)))]) (y2 := mX6_write) (As := [.int ((-500) - (zI μ 19 4))]) (rest := []) (a := 19) (dt_X6_readOut 23 (37, .invokevirtual 75, 3) rfl) ok_X6_write ln_Reader_75 im_X6_write se_X6_write pr_X6_write (Or.inl ⟨by decide, rfl⟩) rfl (Nat.le_of_ble_eq_true rfl) (Nat.le_of_ble_eq_true rfl) rfl rfl (sk_19 hS.wI.wI) (aw_aload_n (pc' := 1) (dt_X6_write 0 (0, .aload_n 0, 1) rfl) rfl rfl (aw_getI (pc' := 4) (dt_X6_write 1 (1, .getfield 54, 3) rfl) fl_Reader_54 rfl rfl (sk_19 hS.wI.wI) (aw_aload_n (pc' := 5) (dt_X6_write 2 (4, .aload_n 0, 1) rfl) rfl rfl (aw_getAs (pc' := 8) (dt_X6_write 3 (5, .getfield 18, 3) rfl) fl_Reader_18 rfl rfl (sk_19 hS.wI.wI) (sa_19_1 hS.wI.wI) (aw_alens (pc' := 9) (n := 400) (v := 400) (dt_X6_write 4 (8, .arraylength, 1) rfl) (by decide) (by decide) rfl (sk_25 hS.wI.wI) (sl_25 hS.wI.wI) (by decide) (aw_icmp_ge (pc' := 12) (tgt := 32) (dt_X6_write 5 (9, .if_icmp .ge 23, 3) rfl) (by decide) rfl ?_ ?_))))))))))
          · intro q24
            have h := h.1 q24
            refine aw_ret (dt_X6_write 18 (32, .return_, 1) rfl) rfl (aw_stk (st' := []) rfl (aw_iconst (pc' := 41) (v := 1) (dt_X6_readOut 24 (40, .iconst 1, 1) rfl) (by decide) rfl (aw_iret (dt_X6_readOut 25 (41, .ireturn, 1) rfl) rfl rfl ?_)))
            exact h
          · intro q24
            have h := h.2 q24
            obtain ⟨g25, h⟩ := h
            refine aw_aload_n (pc' := 13) (dt_X6_write 6 (12, .aload_n 0, 1) rfl) rfl rfl (aw_getAs (pc' := 16) (dt_X6_write 7 (13, .getfield 18, 3) rfl) fl_Reader_18 rfl rfl (sk_19 hS.wI.wI) (sa_19_1 hS.wI.wI) (aw_aload_n (pc' := 17) (dt_X6_write 8 (16, .aload_n 0, 1) rfl) rfl rfl (aw_getI (pc' := 20) (dt_X6_write 9 (17, .getfield 54, 3) rfl) fl_Reader_54 rfl rfl (sk_19 hS.wI.wI) (aw_iload_n (pc' := 21) (dt_X6_write 10 (20, .iload_n 1, 1) rfl) rfl rfl (aw_iast (pc' := 22) (dt_X6_write 11 (21, .iastore, 1) rfl) rfl (sk_25 hS.wI.wI) (by decide) (vin_eq (sl_25 hS.wI.wI) g25) ?_)))))
            refine aw_mem (fun μ26 eμ27 => ?_)
            have h := h μ26 eμ27
            have hS28 : Stat μ26 := by rw [eμ27]; exact hS.wI.wI.wI
            refine aw_aload_n (pc' := 23) (dt_X6_write 12 (22, .aload_n 0, 1) rfl) rfl rfl (aw_dup (pc' := 24) (dt_X6_write 13 (23, .dup, 1) rfl) rfl rfl (aw_getI (pc' := 27) (dt_X6_write 14 (24, .getfield 54, 3) rfl) fl_Reader_54 rfl rfl (sk_19 hS28) (aw_iconst (pc' := 28) (v := 1) (dt_X6_write 15 (27, .iconst 1, 1) rfl) (by decide) rfl (aw_iadd (pc' := 29) (dt_X6_write 16 (28, .iadd, 1) rfl) rfl (aw_putI (pc' := 32) (dt_X6_write 17 (29, .putfield 54, 3) rfl) fl_Reader_54 rfl (by decide +kernel) rfl (sk_19 hS28) (aw_ret (dt_X6_write 18 (32, .return_, 1) rfl) rfl (aw_stk (st' := []) rfl (aw_iconst (pc' := 41) (v := 1) (dt_X6_readOut 24 (40, .iconst 1, 1) rfl) (by decide) rfl (aw_iret (dt_X6_readOut 25 (41, .ireturn, 1) rfl) rfl rfl ?_)))))))))
            exact h
        · intro q23
          have h := h.2 q23
          refine aw_aload_n (pc' := 22) (dt_X6_readOut 13 (21, .aload_n 0, 1) rfl) rfl rfl (aw_iconst (pc' := 23) (v := 0) (dt_X6_readOut 14 (22, .iconst 0, 1) rfl) (by decide) rfl (aw_callV0 (pc' := 26) (nc := nc) (ns := ns) (y2 := mX6_readSum) (As := [.int 0]) (rest := []) (a := 19) (dt_X6_readOut 15 (23, .invokevirtual 79, 3) rfl) ok_X6_readSum ln_Reader_79 im_X6_readSum se_X6_readSum pr_X6_readSum (Or.inl ⟨by decide, rfl⟩) rfl (Nat.le_of_ble_eq_true rfl) (Nat.le_of_ble_eq_true rfl) rfl (sk_19 hS.wI.wI) h ?_))
          rintro v μ29 ⟨r31, rfl, hS30, h⟩
          refine aw_stk (st' := [.int r31]) rfl ?_
          refine aw_if_ne (pc' := 29) (tgt := 31) (dt_X6_readOut 16 (26, .ifCond .ne 5, 3) rfl) (by decide) rfl ?_ ?_
          · intro q32
            have h := h.1 q32
            refine aw_aload_n (pc' := 32) (dt_X6_readOut 19 (31, .aload_n 0, 1) rfl) rfl rfl (aw_sipush (pc' := 35) (v := (-500)) (dt_X6_readOut 20 (32, .sipush (-500), 3) rfl) (by decide) rfl (aw_iload_n (pc' := 36) (dt_X6_readOut 21 (35, .iload_n 1, 1) rfl) rfl rfl (aw_isub (pc' := 37) (dt_X6_readOut 22 (36, .isub, 1) rfl) rfl (aw_inV (pc' := 40) (nc1 := 0) (ns1 := 0) (nc := nc) (ns := ns) (ls' := [some (.ref 19), some (.int ((-500) - (zI μ 19 4)))]) (y2 := mX6_write) (As := [.int ((-500) - (zI μ 19 4))]) (rest := []) (a := 19) (dt_X6_readOut 23 (37, .invokevirtual 75, 3) rfl) ok_X6_write ln_Reader_75 im_X6_write se_X6_write pr_X6_write (Or.inl ⟨by decide, rfl⟩) rfl (Nat.le_of_ble_eq_true rfl) (Nat.le_of_ble_eq_true rfl) rfl rfl (sk_19 hS30) (aw_aload_n (pc' := 1) (dt_X6_write 0 (0, .aload_n 0, 1) rfl) rfl rfl (aw_getI (pc' := 4) (dt_X6_write 1 (1, .getfield 54, 3) rfl) fl_Reader_54 rfl rfl (sk_19 hS30) (aw_aload_n (pc' := 5) (dt_X6_write 2 (4, .aload_n 0, 1) rfl) rfl rfl (aw_getAs (pc' := 8) (dt_X6_write 3 (5, .getfield 18, 3) rfl) fl_Reader_18 rfl rfl (sk_19 hS30) (sa_19_1 hS30) (aw_alens (pc' := 9) (n := 400) (v := 400) (dt_X6_write 4 (8, .arraylength, 1) rfl) (by decide) (by decide) rfl (sk_25 hS30) (sl_25 hS30) (by decide) (aw_icmp_ge (pc' := 12) (tgt := 32) (dt_X6_write 5 (9, .if_icmp .ge 23, 3) rfl) (by decide) rfl ?_ ?_))))))))))
            · intro q33
              have h := h.1 q33
              refine aw_ret (dt_X6_write 18 (32, .return_, 1) rfl) rfl (aw_stk (st' := []) rfl (aw_iconst (pc' := 41) (v := 1) (dt_X6_readOut 24 (40, .iconst 1, 1) rfl) (by decide) rfl (aw_iret (dt_X6_readOut 25 (41, .ireturn, 1) rfl) rfl rfl ?_)))
              exact h
            · intro q33
              have h := h.2 q33
              obtain ⟨g34, h⟩ := h
              refine aw_aload_n (pc' := 13) (dt_X6_write 6 (12, .aload_n 0, 1) rfl) rfl rfl (aw_getAs (pc' := 16) (dt_X6_write 7 (13, .getfield 18, 3) rfl) fl_Reader_18 rfl rfl (sk_19 hS30) (sa_19_1 hS30) (aw_aload_n (pc' := 17) (dt_X6_write 8 (16, .aload_n 0, 1) rfl) rfl rfl (aw_getI (pc' := 20) (dt_X6_write 9 (17, .getfield 54, 3) rfl) fl_Reader_54 rfl rfl (sk_19 hS30) (aw_iload_n (pc' := 21) (dt_X6_write 10 (20, .iload_n 1, 1) rfl) rfl rfl (aw_iast (pc' := 22) (dt_X6_write 11 (21, .iastore, 1) rfl) rfl (sk_25 hS30) (by decide) (vin_eq (sl_25 hS30) g34) (aw_aload_n (pc' := 23) (dt_X6_write 12 (22, .aload_n 0, 1) rfl) rfl rfl (aw_dup (pc' := 24) (dt_X6_write 13 (23, .dup, 1) rfl) rfl rfl (aw_getI (pc' := 27) (dt_X6_write 14 (24, .getfield 54, 3) rfl) fl_Reader_54 rfl rfl (sk_19 hS30.wI) (aw_iconst (pc' := 28) (v := 1) (dt_X6_write 15 (27, .iconst 1, 1) rfl) (by decide) rfl (aw_iadd (pc' := 29) (dt_X6_write 16 (28, .iadd, 1) rfl) rfl (aw_putI (pc' := 32) (dt_X6_write 17 (29, .putfield 54, 3) rfl) fl_Reader_54 rfl (by decide +kernel) rfl (sk_19 hS30.wI) (aw_ret (dt_X6_write 18 (32, .return_, 1) rfl) rfl (aw_stk (st' := []) rfl (aw_iconst (pc' := 41) (v := 1) (dt_X6_readOut 24 (40, .iconst 1, 1) rfl) (by decide) rfl (aw_iret (dt_X6_readOut 25 (41, .ireturn, 1) rfl) rfl rfl ?_)))))))))))))))
              exact h
          · intro q32
            have h := h.2 q32
            refine aw_iconst (pc' := 30) (v := 0) (dt_X6_readOut 17 (29, .iconst 0, 1) rfl) (by decide) rfl (aw_iret (dt_X6_readOut 18 (30, .ireturn, 1) rfl) rfl rfl ?_)
            exact h
  · intro q1
    have h := h.2 q1
    refine aw_iconst (pc' := 11) (v := 0) (dt_X6_readOut 6 (10, .iconst 0, 1) rfl) (by decide) rfl (aw_iret (dt_X6_readOut 7 (11, .ireturn, 1) rfl) rfl rfl ?_)
    exact h

theorem t_X6_readAny {E : ZE} {l : Launch} {d nc ns : Nat} {x1 : Int32} {μ : ZM} {K : Option Value → ZM → Prop} (hS : Stat μ) (h :
  AW E l d 0 0 mX6_readAll 0 (zargs 4 [.ref 19, .int x1]) [] μ (fun v μ1 => ∃ r3 : Int32, v = some (.int r3) ∧ Stat μ1 ∧ 
    AW E l (d + 1) nc ns mX6_readAny 8 [some (.ref 19), some (.int x1), some (.int r3), some (.int 0)] [] μ1 K)) : AW E l (d + 1) nc ns mX6_readAny 0 [some (.ref 19), some (.int x1), none, none] [] μ K := by
  refine aw_aload_n (pc' := 1) (dt_X6_readAny 0 (0, .aload_n 0, 1) rfl) rfl rfl (aw_iload_n (pc' := 2) (dt_X6_readAny 1 (1, .iload_n 1, 1) rfl) rfl rfl (aw_callV0 (pc' := 5) (nc := nc) (ns := ns) (y2 := mX6_readAll) (As := [.int x1]) (rest := []) (a := 19) (dt_X6_readAny 2 (2, .invokevirtual 82, 3) rfl) ok_X6_readAll ln_Reader_82 im_X6_readAll se_X6_readAll pr_X6_readAll (Or.inl ⟨by decide, rfl⟩) rfl (Nat.le_of_ble_eq_true rfl) (Nat.le_of_ble_eq_true rfl) rfl (sk_19 hS) h ?_))
  rintro v μ1 ⟨r3, rfl, hS2, h⟩
  refine aw_stk (st' := [.int r3]) rfl ?_
  refine aw_istore_n (pc' := 6) (ls' := [some (.ref 19), some (.int x1), some (.int r3), none]) (dt_X6_readAny 3 (5, .istore_n 2, 1) rfl) (by decide) rfl rfl (aw_iconst (pc' := 7) (v := 0) (dt_X6_readAny 4 (6, .iconst 0, 1) rfl) (by decide) rfl (aw_istore_n (pc' := 8) (ls' := [some (.ref 19), some (.int x1), some (.int r3), some (.int 0)]) (dt_X6_readAny 5 (7, .istore_n 3, 1) rfl) (by decide) rfl rfl ?_))
  exact h

theorem t_X6_readAny_8 {E : ZE} {l : Launch} {d nc ns : Nat} {x1 : Int32} {x2 : Int32} {x3 : Int32} {μ : ZM} {K : Option Value → ZM → Prop} (hS : Stat μ) (h :
  (200 ≤ x3 →
    (x2 = 0 ∨ x2 = 1) ∧
    K (some (.int x2)) μ) ∧
  (¬ 200 ≤ x3 →
    (x2 = 0 →
      (x2 = 0 ∨ x2 = 1) ∧
      K (some (.int x2)) μ) ∧
    (¬ x2 = 0 →
      (¬ (zI μ 19 4) = 5 →
        (x2 = 0 ∨ x2 = 1) ∧
        K (some (.int x2)) μ) ∧
      ((zI μ 19 4) = 5 →
        ((zI μ 20 5) ≤ ((zI μ 19 3) + 1) →
          AW E l d 0 0 mX6_readAll 0 (zargs 4 [.ref 19, .int x1]) [] μ (fun v μ8 => ∃ r10 : Int32, v = some (.int r10) ∧ Stat μ8 ∧ 
            (400 ≤ (zI μ8 19 2) →
              AW E l (d + 1) nc ns mX6_readAny 8 [some (.ref 19), some (.int x1), some (.int r10), some (.int (x3 + 1))] [] μ8 K) ∧
            (¬ 400 ≤ (zI μ8 19 2) →
              (vp_in (zI μ8 19 2) 400) ∧
              AW E l (d + 1) nc ns mX6_readAny 8 [some (.ref 19), some (.int x1), some (.int r10), some (.int (x3 + 1))] [] (sI (sI μ8 25 (zI μ8 19 2).toNatClampNeg (-3)) 19 2 ((zI (sI μ8 25 (zI μ8 19 2).toNatClampNeg (-3)) 19 2) + 1)) K))) ∧
        (¬ (zI μ 20 5) ≤ ((zI μ 19 3) + 1) →
          (201 ≤ ((zI μ 19 3) + 1) →
            AW E l d 0 0 mX6_readAll 0 (zargs 4 [.ref 19, .int x1]) [] μ (fun v μ14 => ∃ r16 : Int32, v = some (.int r16) ∧ Stat μ14 ∧ 
              (400 ≤ (zI μ14 19 2) →
                AW E l (d + 1) nc ns mX6_readAny 8 [some (.ref 19), some (.int x1), some (.int r16), some (.int (x3 + 1))] [] μ14 K) ∧
              (¬ 400 ≤ (zI μ14 19 2) →
                (vp_in (zI μ14 19 2) 400) ∧
                AW E l (d + 1) nc ns mX6_readAny 8 [some (.ref 19), some (.int x1), some (.int r16), some (.int (x3 + 1))] [] (sI (sI μ14 25 (zI μ14 19 2).toNatClampNeg (-3)) 19 2 ((zI (sI μ14 25 (zI μ14 19 2).toNatClampNeg (-3)) 19 2) + 1)) K))) ∧
          (¬ 201 ≤ ((zI μ 19 3) + 1) →
            (vp_in (zI (sI μ 19 3 ((zI μ 19 3) + 1)) 19 3) 201) ∧
            AW E l d 0 0 mX6_readAll 0 (zargs 4 [.ref 19, .int x1]) [] (sI (sI μ 19 3 ((zI μ 19 3) + 1)) 19 4 (zI (sI μ 19 3 ((zI μ 19 3) + 1)) 22 (zI (sI μ 19 3 ((zI μ 19 3) + 1)) 19 3).toNatClampNeg)) (fun v μ20 => ∃ r22 : Int32, v = some (.int r22) ∧ Stat μ20 ∧ 
              (400 ≤ (zI μ20 19 2) →
                AW E l (d + 1) nc ns mX6_readAny 8 [some (.ref 19), some (.int x1), some (.int r22), some (.int (x3 + 1))] [] μ20 K) ∧
              (¬ 400 ≤ (zI μ20 19 2) →
                (vp_in (zI μ20 19 2) 400) ∧
                AW E l (d + 1) nc ns mX6_readAny 8 [some (.ref 19), some (.int x1), some (.int r22), some (.int (x3 + 1))] [] (sI (sI μ20 25 (zI μ20 19 2).toNatClampNeg (-3)) 19 2 ((zI (sI μ20 25 (zI μ20 19 2).toNatClampNeg (-3)) 19 2) + 1)) K)))))))) : AW E l (d + 1) nc ns mX6_readAny 8 [some (.ref 19), some (.int x1), some (.int x2), some (.int x3)] [] μ K := by
  refine aw_iload_n (pc' := 9) (dt_X6_readAny 6 (8, .iload_n 3, 1) rfl) rfl rfl (aw_sipush (pc' := 12) (v := 200) (dt_X6_readAny 7 (9, .sipush 200, 3) rfl) (by decide) rfl (aw_icmp_ge (pc' := 15) (tgt := 49) (dt_X6_readAny 8 (12, .if_icmp .ge 37, 3) rfl) (by decide) rfl ?_ ?_))
  · intro q1
    have h := h.1 q1
    obtain ⟨g2, h⟩ := h
    refine aw_iload_n (pc' := 50) (dt_X6_readAny 26 (49, .iload_n 2, 1) rfl) rfl rfl (aw_iret (dt_X6_readAny 27 (50, .ireturn, 1) rfl) rfl (nb01 g2) ?_)
    exact h
  · intro q1
    have h := h.2 q1
    refine aw_iload_n (pc' := 16) (dt_X6_readAny 9 (15, .iload_n 2, 1) rfl) rfl rfl (aw_if_eq (pc' := 19) (tgt := 49) (dt_X6_readAny 10 (16, .ifCond .eq 33, 3) rfl) (by decide) rfl ?_ ?_)
    · intro q3
      have h := h.1 q3
      obtain ⟨g4, h⟩ := h
      refine aw_iload_n (pc' := 50) (dt_X6_readAny 26 (49, .iload_n 2, 1) rfl) rfl rfl (aw_iret (dt_X6_readAny 27 (50, .ireturn, 1) rfl) rfl (nb01 g4) ?_)
      exact h
    · intro q3
      have h := h.2 q3
      refine aw_aload_n (pc' := 20) (dt_X6_readAny 11 (19, .aload_n 0, 1) rfl) rfl rfl (aw_getI (pc' := 23) (dt_X6_readAny 12 (20, .getfield 22, 3) rfl) fl_Reader_22 rfl rfl (sk_19 hS) (aw_iconst (pc' := 24) (v := 5) (dt_X6_readAny 13 (23, .iconst 5, 1) rfl) (by decide) rfl (aw_icmp_ne (pc' := 27) (tgt := 49) (dt_X6_readAny 14 (24, .if_icmp .ne 25, 3) rfl) (by decide) rfl ?_ ?_)))
      · intro q5
        have h := h.1 q5
        obtain ⟨g6, h⟩ := h
        refine aw_iload_n (pc' := 50) (dt_X6_readAny 26 (49, .iload_n 2, 1) rfl) rfl rfl (aw_iret (dt_X6_readAny 27 (50, .ireturn, 1) rfl) rfl (nb01 g6) ?_)
        exact h
      · intro q5
        have h := h.2 q5
        refine aw_aload_n (pc' := 28) (dt_X6_readAny 15 (27, .aload_n 0, 1) rfl) rfl rfl (aw_inV (pc' := 31) (nc1 := 0) (ns1 := 0) (nc := nc) (ns := ns) (ls' := [some (.ref 19)]) (y2 := mX6_step) (As := []) (rest := []) (a := 19) (dt_X6_readAny 16 (28, .invokevirtual 36, 3) rfl) ok_X6_step ln_Reader_36 im_X6_step se_X6_step pr_X6_step (Or.inl ⟨by decide, rfl⟩) rfl (Nat.le_of_ble_eq_true rfl) (Nat.le_of_ble_eq_true rfl) rfl rfl (sk_19 hS) (aw_aload_n (pc' := 1) (dt_X6_step 0 (0, .aload_n 0, 1) rfl) rfl rfl (aw_getI (pc' := 4) (dt_X6_step 1 (1, .getfield 45, 3) rfl) fl_Reader_45 rfl rfl (sk_19 hS) (aw_iconst (pc' := 5) (v := 1) (dt_X6_step 2 (4, .iconst 1, 1) rfl) (by decide) rfl (aw_iadd (pc' := 6) (dt_X6_step 3 (5, .iadd, 1) rfl) rfl (aw_aload_n (pc' := 7) (dt_X6_step 4 (6, .aload_n 0, 1) rfl) rfl rfl (aw_getAs (pc' := 10) (dt_X6_step 5 (7, .getfield 12, 3) rfl) fl_Reader_12 rfl rfl (sk_19 hS) (sa_19_0 hS) (aw_getI (pc' := 13) (dt_X6_step 6 (10, .getfield 69, 3) rfl) fl_Reader_69 rfl rfl (sk_20 hS) (aw_icmp_ge (pc' := 16) (tgt := 59) (dt_X6_step 7 (13, .if_icmp .ge 46, 3) rfl) (by decide) rfl ?_ ?_)))))))))
        · intro q7
          have h := h.1 q7
          refine aw_ret (dt_X6_step 31 (59, .return_, 1) rfl) rfl (aw_stk (st' := []) rfl (aw_aload_n (pc' := 32) (dt_X6_readAny 17 (31, .aload_n 0, 1) rfl) rfl rfl (aw_iload_n (pc' := 33) (dt_X6_readAny 18 (32, .iload_n 1, 1) rfl) rfl rfl (aw_callV0 (pc' := 36) (nc := nc) (ns := ns) (y2 := mX6_readAll) (As := [.int x1]) (rest := []) (a := 19) (dt_X6_readAny 19 (33, .invokevirtual 82, 3) rfl) ok_X6_readAll ln_Reader_82 im_X6_readAll se_X6_readAll pr_X6_readAll (Or.inl ⟨by decide, rfl⟩) rfl (Nat.le_of_ble_eq_true rfl) (Nat.le_of_ble_eq_true rfl) rfl (sk_19 hS) h ?_))))
          rintro v μ8 ⟨r10, rfl, hS9, h⟩
          refine aw_stk (st' := [.int r10]) rfl ?_
          refine aw_istore_n (pc' := 37) (ls' := [some (.ref 19), some (.int x1), some (.int r10), some (.int x3)]) (dt_X6_readAny 20 (36, .istore_n 2, 1) rfl) (by decide) rfl rfl (aw_aload_n (pc' := 38) (dt_X6_readAny 21 (37, .aload_n 0, 1) rfl) rfl rfl (aw_bipush (pc' := 40) (v := (-3)) (dt_X6_readAny 22 (38, .bipush (-3), 2) rfl) (by decide) rfl (aw_inV (pc' := 43) (nc1 := 0) (ns1 := 0) (nc := nc) (ns := ns) (ls' := [some (.ref 19), some (.int (-3))]) (y2 := mX6_write) (As := [.int (-3)]) (rest := []) (a := 19) (dt_X6_readAny 23 (40, .invokevirtual 75, 3) rfl) ok_X6_write ln_Reader_75 im_X6_write se_X6_write pr_X6_write (Or.inl ⟨by decide, rfl⟩) rfl (Nat.le_of_ble_eq_true rfl) (Nat.le_of_ble_eq_true rfl) rfl rfl (sk_19 hS9) (aw_aload_n (pc' := 1) (dt_X6_write 0 (0, .aload_n 0, 1) rfl) rfl rfl (aw_getI (pc' := 4) (dt_X6_write 1 (1, .getfield 54, 3) rfl) fl_Reader_54 rfl rfl (sk_19 hS9) (aw_aload_n (pc' := 5) (dt_X6_write 2 (4, .aload_n 0, 1) rfl) rfl rfl (aw_getAs (pc' := 8) (dt_X6_write 3 (5, .getfield 18, 3) rfl) fl_Reader_18 rfl rfl (sk_19 hS9) (sa_19_1 hS9) (aw_alens (pc' := 9) (n := 400) (v := 400) (dt_X6_write 4 (8, .arraylength, 1) rfl) (by decide) (by decide) rfl (sk_25 hS9) (sl_25 hS9) (by decide) (aw_icmp_ge (pc' := 12) (tgt := 32) (dt_X6_write 5 (9, .if_icmp .ge 23, 3) rfl) (by decide) rfl ?_ ?_)))))))))
          · intro q11
            have h := h.1 q11
            refine aw_ret (dt_X6_write 18 (32, .return_, 1) rfl) rfl (aw_stk (st' := []) rfl (aw_iinc (pc' := 46) (v := 1) (ls' := [some (.ref 19), some (.int x1), some (.int r10), some (.int (x3 + 1))]) (dt_X6_readAny 24 (43, .iinc 3 1, 3) rfl) rfl (by decide) (by decide) rfl rfl (aw_goto (tgt := 8) (dt_X6_readAny 25 (46, .goto (-38), 3) rfl) (by decide) ?_)))
            exact h
          · intro q11
            have h := h.2 q11
            obtain ⟨g12, h⟩ := h
            refine aw_aload_n (pc' := 13) (dt_X6_write 6 (12, .aload_n 0, 1) rfl) rfl rfl (aw_getAs (pc' := 16) (dt_X6_write 7 (13, .getfield 18, 3) rfl) fl_Reader_18 rfl rfl (sk_19 hS9) (sa_19_1 hS9) (aw_aload_n (pc' := 17) (dt_X6_write 8 (16, .aload_n 0, 1) rfl) rfl rfl (aw_getI (pc' := 20) (dt_X6_write 9 (17, .getfield 54, 3) rfl) fl_Reader_54 rfl rfl (sk_19 hS9) (aw_iload_n (pc' := 21) (dt_X6_write 10 (20, .iload_n 1, 1) rfl) rfl rfl (aw_iast (pc' := 22) (dt_X6_write 11 (21, .iastore, 1) rfl) rfl (sk_25 hS9) (by decide) (vin_eq (sl_25 hS9) g12) (aw_aload_n (pc' := 23) (dt_X6_write 12 (22, .aload_n 0, 1) rfl) rfl rfl (aw_dup (pc' := 24) (dt_X6_write 13 (23, .dup, 1) rfl) rfl rfl (aw_getI (pc' := 27) (dt_X6_write 14 (24, .getfield 54, 3) rfl) fl_Reader_54 rfl rfl (sk_19 hS9.wI) (aw_iconst (pc' := 28) (v := 1) (dt_X6_write 15 (27, .iconst 1, 1) rfl) (by decide) rfl (aw_iadd (pc' := 29) (dt_X6_write 16 (28, .iadd, 1) rfl) rfl (aw_putI (pc' := 32) (dt_X6_write 17 (29, .putfield 54, 3) rfl) fl_Reader_54 rfl (by decide +kernel) rfl (sk_19 hS9.wI) (aw_ret (dt_X6_write 18 (32, .return_, 1) rfl) rfl (aw_stk (st' := []) rfl (aw_iinc (pc' := 46) (v := 1) (ls' := [some (.ref 19), some (.int x1), some (.int r10), some (.int (x3 + 1))]) (dt_X6_readAny 24 (43, .iinc 3 1, 3) rfl) rfl (by decide) (by decide) rfl rfl (aw_goto (tgt := 8) (dt_X6_readAny 25 (46, .goto (-38), 3) rfl) (by decide) ?_)))))))))))))))
            exact h
        · intro q7
          have h := h.2 q7
          refine aw_aload_n (pc' := 17) (dt_X6_step 8 (16, .aload_n 0, 1) rfl) rfl rfl (aw_getI (pc' := 20) (dt_X6_step 9 (17, .getfield 45, 3) rfl) fl_Reader_45 rfl rfl (sk_19 hS) (aw_iconst (pc' := 21) (v := 1) (dt_X6_step 10 (20, .iconst 1, 1) rfl) (by decide) rfl (aw_iadd (pc' := 22) (dt_X6_step 11 (21, .iadd, 1) rfl) rfl (aw_aload_n (pc' := 23) (dt_X6_step 12 (22, .aload_n 0, 1) rfl) rfl rfl (aw_getAs (pc' := 26) (dt_X6_step 13 (23, .getfield 12, 3) rfl) fl_Reader_12 rfl rfl (sk_19 hS) (sa_19_0 hS) (aw_getAs (pc' := 29) (dt_X6_step 14 (26, .getfield 66, 3) rfl) fl_Reader_66 rfl rfl (sk_20 hS) (sa_20_2 hS) (aw_alens (pc' := 30) (n := 201) (v := 201) (dt_X6_step 15 (29, .arraylength, 1) rfl) (by decide) (by decide) rfl (sk_22 hS) (sl_22 hS) (by decide) (aw_icmp_ge (pc' := 33) (tgt := 59) (dt_X6_step 16 (30, .if_icmp .ge 29, 3) rfl) (by decide) rfl ?_ ?_))))))))
          · intro q13
            have h := h.1 q13
            refine aw_ret (dt_X6_step 31 (59, .return_, 1) rfl) rfl (aw_stk (st' := []) rfl (aw_aload_n (pc' := 32) (dt_X6_readAny 17 (31, .aload_n 0, 1) rfl) rfl rfl (aw_iload_n (pc' := 33) (dt_X6_readAny 18 (32, .iload_n 1, 1) rfl) rfl rfl (aw_callV0 (pc' := 36) (nc := nc) (ns := ns) (y2 := mX6_readAll) (As := [.int x1]) (rest := []) (a := 19) (dt_X6_readAny 19 (33, .invokevirtual 82, 3) rfl) ok_X6_readAll ln_Reader_82 im_X6_readAll se_X6_readAll pr_X6_readAll (Or.inl ⟨by decide, rfl⟩) rfl (Nat.le_of_ble_eq_true rfl) (Nat.le_of_ble_eq_true rfl) rfl (sk_19 hS) h ?_))))
            rintro v μ14 ⟨r16, rfl, hS15, h⟩
            refine aw_stk (st' := [.int r16]) rfl ?_
            refine aw_istore_n (pc' := 37) (ls' := [some (.ref 19), some (.int x1), some (.int r16), some (.int x3)]) (dt_X6_readAny 20 (36, .istore_n 2, 1) rfl) (by decide) rfl rfl (aw_aload_n (pc' := 38) (dt_X6_readAny 21 (37, .aload_n 0, 1) rfl) rfl rfl (aw_bipush (pc' := 40) (v := (-3)) (dt_X6_readAny 22 (38, .bipush (-3), 2) rfl) (by decide) rfl (aw_inV (pc' := 43) (nc1 := 0) (ns1 := 0) (nc := nc) (ns := ns) (ls' := [some (.ref 19), some (.int (-3))]) (y2 := mX6_write) (As := [.int (-3)]) (rest := []) (a := 19) (dt_X6_readAny 23 (40, .invokevirtual 75, 3) rfl) ok_X6_write ln_Reader_75 im_X6_write se_X6_write pr_X6_write (Or.inl ⟨by decide, rfl⟩) rfl (Nat.le_of_ble_eq_true rfl) (Nat.le_of_ble_eq_true rfl) rfl rfl (sk_19 hS15) (aw_aload_n (pc' := 1) (dt_X6_write 0 (0, .aload_n 0, 1) rfl) rfl rfl (aw_getI (pc' := 4) (dt_X6_write 1 (1, .getfield 54, 3) rfl) fl_Reader_54 rfl rfl (sk_19 hS15) (aw_aload_n (pc' := 5) (dt_X6_write 2 (4, .aload_n 0, 1) rfl) rfl rfl (aw_getAs (pc' := 8) (dt_X6_write 3 (5, .getfield 18, 3) rfl) fl_Reader_18 rfl rfl (sk_19 hS15) (sa_19_1 hS15) (aw_alens (pc' := 9) (n := 400) (v := 400) (dt_X6_write 4 (8, .arraylength, 1) rfl) (by decide) (by decide) rfl (sk_25 hS15) (sl_25 hS15) (by decide) (aw_icmp_ge (pc' := 12) (tgt := 32) (dt_X6_write 5 (9, .if_icmp .ge 23, 3) rfl) (by decide) rfl ?_ ?_)))))))))
            · intro q17
              have h := h.1 q17
              refine aw_ret (dt_X6_write 18 (32, .return_, 1) rfl) rfl (aw_stk (st' := []) rfl (aw_iinc (pc' := 46) (v := 1) (ls' := [some (.ref 19), some (.int x1), some (.int r16), some (.int (x3 + 1))]) (dt_X6_readAny 24 (43, .iinc 3 1, 3) rfl) rfl (by decide) (by decide) rfl rfl (aw_goto (tgt := 8) (dt_X6_readAny 25 (46, .goto (-38), 3) rfl) (by decide) ?_)))
              exact h
            · intro q17
              have h := h.2 q17
              obtain ⟨g18, h⟩ := h
              refine aw_aload_n (pc' := 13) (dt_X6_write 6 (12, .aload_n 0, 1) rfl) rfl rfl (aw_getAs (pc' := 16) (dt_X6_write 7 (13, .getfield 18, 3) rfl) fl_Reader_18 rfl rfl (sk_19 hS15) (sa_19_1 hS15) (aw_aload_n (pc' := 17) (dt_X6_write 8 (16, .aload_n 0, 1) rfl) rfl rfl (aw_getI (pc' := 20) (dt_X6_write 9 (17, .getfield 54, 3) rfl) fl_Reader_54 rfl rfl (sk_19 hS15) (aw_iload_n (pc' := 21) (dt_X6_write 10 (20, .iload_n 1, 1) rfl) rfl rfl (aw_iast (pc' := 22) (dt_X6_write 11 (21, .iastore, 1) rfl) rfl (sk_25 hS15) (by decide) (vin_eq (sl_25 hS15) g18) (aw_aload_n (pc' := 23) (dt_X6_write 12 (22, .aload_n 0, 1) rfl) rfl rfl (aw_dup (pc' := 24) (dt_X6_write 13 (23, .dup, 1) rfl) rfl rfl (aw_getI (pc' := 27) (dt_X6_write 14 (24, .getfield 54, 3) rfl) fl_Reader_54 rfl rfl (sk_19 hS15.wI) (aw_iconst (pc' := 28) (v := 1) (dt_X6_write 15 (27, .iconst 1, 1) rfl) (by decide) rfl (aw_iadd (pc' := 29) (dt_X6_write 16 (28, .iadd, 1) rfl) rfl (aw_putI (pc' := 32) (dt_X6_write 17 (29, .putfield 54, 3) rfl) fl_Reader_54 rfl (by decide +kernel) rfl (sk_19 hS15.wI) (aw_ret (dt_X6_write 18 (32, .return_, 1) rfl) rfl (aw_stk (st' := []) rfl (aw_iinc (pc' := 46) (v := 1) (ls' := [some (.ref 19), some (.int x1), some (.int r16), some (.int (x3 + 1))]) (dt_X6_readAny 24 (43, .iinc 3 1, 3) rfl) rfl (by decide) (by decide) rfl rfl (aw_goto (tgt := 8) (dt_X6_readAny 25 (46, .goto (-38), 3) rfl) (by decide) ?_)))))))))))))))
              exact h
          · intro q13
            have h := h.2 q13
            obtain ⟨g19, h⟩ := h
            refine aw_aload_n (pc' := 34) (dt_X6_step 17 (33, .aload_n 0, 1) rfl) rfl rfl (aw_dup (pc' := 35) (dt_X6_step 18 (34, .dup, 1) rfl) rfl rfl (aw_getI (pc' := 38) (dt_X6_step 19 (35, .getfield 45, 3) rfl) fl_Reader_45 rfl rfl (sk_19 hS) (aw_iconst (pc' := 39) (v := 1) (dt_X6_step 20 (38, .iconst 1, 1) rfl) (by decide) rfl (aw_iadd (pc' := 40) (dt_X6_step 21 (39, .iadd, 1) rfl) rfl (aw_putI (pc' := 43) (dt_X6_step 22 (40, .putfield 45, 3) rfl) fl_Reader_45 rfl (by decide +kernel) rfl (sk_19 hS) (aw_aload_n (pc' := 44) (dt_X6_step 23 (43, .aload_n 0, 1) rfl) rfl rfl (aw_aload_n (pc' := 45) (dt_X6_step 24 (44, .aload_n 0, 1) rfl) rfl rfl (aw_getAs (pc' := 48) (dt_X6_step 25 (45, .getfield 12, 3) rfl) fl_Reader_12 rfl rfl (sk_19 hS.wI) (sa_19_0 hS.wI) (aw_getAs (pc' := 51) (dt_X6_step 26 (48, .getfield 66, 3) rfl) fl_Reader_66 rfl rfl (sk_20 hS.wI) (sa_20_2 hS.wI) (aw_aload_n (pc' := 52) (dt_X6_step 27 (51, .aload_n 0, 1) rfl) rfl rfl (aw_getI (pc' := 55) (dt_X6_step 28 (52, .getfield 45, 3) rfl) fl_Reader_45 rfl rfl (sk_19 hS.wI) (aw_iald (pc' := 56) (dt_X6_step 29 (55, .iaload, 1) rfl) rfl (sk_22 hS.wI) (vin_eq (sl_22 hS.wI) g19) (aw_putI (pc' := 59) (dt_X6_step 30 (56, .putfield 22, 3) rfl) fl_Reader_22 rfl (by decide +kernel) rfl (sk_19 hS.wI) (aw_ret (dt_X6_step 31 (59, .return_, 1) rfl) rfl (aw_stk (st' := []) rfl (aw_aload_n (pc' := 32) (dt_X6_readAny 17 (31, .aload_n 0, 1) rfl) rfl rfl (aw_iload_n (pc' := 33) (dt_X6_readAny 18 (32, .iload_n 1, 1) rfl) rfl rfl (aw_callV0 (pc' := 36) (nc := nc) (ns := ns) (y2 := mX6_readAll) (As := [.int x1]) (rest := []) (a := 19) (dt_X6_readAny 19 (33, .invokevirtual 82, 3) rfl) ok_X6_readAll ln_Reader_82 im_X6_readAll se_X6_readAll pr_X6_readAll (Or.inl ⟨by decide, rfl⟩) rfl (Nat.le_of_ble_eq_true rfl) (Nat.le_of_ble_eq_true rfl) rfl (sk_19 hS.wI.wI) h ?_))))))))))))))))))
            rintro v μ20 ⟨r22, rfl, hS21, h⟩
            refine aw_stk (st' := [.int r22]) rfl ?_
            refine aw_istore_n (pc' := 37) (ls' := [some (.ref 19), some (.int x1), some (.int r22), some (.int x3)]) (dt_X6_readAny 20 (36, .istore_n 2, 1) rfl) (by decide) rfl rfl (aw_aload_n (pc' := 38) (dt_X6_readAny 21 (37, .aload_n 0, 1) rfl) rfl rfl (aw_bipush (pc' := 40) (v := (-3)) (dt_X6_readAny 22 (38, .bipush (-3), 2) rfl) (by decide) rfl (aw_inV (pc' := 43) (nc1 := 0) (ns1 := 0) (nc := nc) (ns := ns) (ls' := [some (.ref 19), some (.int (-3))]) (y2 := mX6_write) (As := [.int (-3)]) (rest := []) (a := 19) (dt_X6_readAny 23 (40, .invokevirtual 75, 3) rfl) ok_X6_write ln_Reader_75 im_X6_write se_X6_write pr_X6_write (Or.inl ⟨by decide, rfl⟩) rfl (Nat.le_of_ble_eq_true rfl) (Nat.le_of_ble_eq_true rfl) rfl rfl (sk_19 hS21) (aw_aload_n (pc' := 1) (dt_X6_write 0 (0, .aload_n 0, 1) rfl) rfl rfl (aw_getI (pc' := 4) (dt_X6_write 1 (1, .getfield 54, 3) rfl) fl_Reader_54 rfl rfl (sk_19 hS21) (aw_aload_n (pc' := 5) (dt_X6_write 2 (4, .aload_n 0, 1) rfl) rfl rfl (aw_getAs (pc' := 8) (dt_X6_write 3 (5, .getfield 18, 3) rfl) fl_Reader_18 rfl rfl (sk_19 hS21) (sa_19_1 hS21) (aw_alens (pc' := 9) (n := 400) (v := 400) (dt_X6_write 4 (8, .arraylength, 1) rfl) (by decide) (by decide) rfl (sk_25 hS21) (sl_25 hS21) (by decide) (aw_icmp_ge (pc' := 12) (tgt := 32) (dt_X6_write 5 (9, .if_icmp .ge 23, 3) rfl) (by decide) rfl ?_ ?_)))))))))
            · intro q23
              have h := h.1 q23
              refine aw_ret (dt_X6_write 18 (32, .return_, 1) rfl) rfl (aw_stk (st' := []) rfl (aw_iinc (pc' := 46) (v := 1) (ls' := [some (.ref 19), some (.int x1), some (.int r22), some (.int (x3 + 1))]) (dt_X6_readAny 24 (43, .iinc 3 1, 3) rfl) rfl (by decide) (by decide) rfl rfl (aw_goto (tgt := 8) (dt_X6_readAny 25 (46, .goto (-38), 3) rfl) (by decide) ?_)))
              exact h
            · intro q23
              have h := h.2 q23
              obtain ⟨g24, h⟩ := h
              refine aw_aload_n (pc' := 13) (dt_X6_write 6 (12, .aload_n 0, 1) rfl) rfl rfl (aw_getAs (pc' := 16) (dt_X6_write 7 (13, .getfield 18, 3) rfl) fl_Reader_18 rfl rfl (sk_19 hS21) (sa_19_1 hS21) (aw_aload_n (pc' := 17) (dt_X6_write 8 (16, .aload_n 0, 1) rfl) rfl rfl (aw_getI (pc' := 20) (dt_X6_write 9 (17, .getfield 54, 3) rfl) fl_Reader_54 rfl rfl (sk_19 hS21) (aw_iload_n (pc' := 21) (dt_X6_write 10 (20, .iload_n 1, 1) rfl) rfl rfl (aw_iast (pc' := 22) (dt_X6_write 11 (21, .iastore, 1) rfl) rfl (sk_25 hS21) (by decide) (vin_eq (sl_25 hS21) g24) (aw_aload_n (pc' := 23) (dt_X6_write 12 (22, .aload_n 0, 1) rfl) rfl rfl (aw_dup (pc' := 24) (dt_X6_write 13 (23, .dup, 1) rfl) rfl rfl (aw_getI (pc' := 27) (dt_X6_write 14 (24, .getfield 54, 3) rfl) fl_Reader_54 rfl rfl (sk_19 hS21.wI) (aw_iconst (pc' := 28) (v := 1) (dt_X6_write 15 (27, .iconst 1, 1) rfl) (by decide) rfl (aw_iadd (pc' := 29) (dt_X6_write 16 (28, .iadd, 1) rfl) rfl (aw_putI (pc' := 32) (dt_X6_write 17 (29, .putfield 54, 3) rfl) fl_Reader_54 rfl (by decide +kernel) rfl (sk_19 hS21.wI) (aw_ret (dt_X6_write 18 (32, .return_, 1) rfl) rfl (aw_stk (st' := []) rfl (aw_iinc (pc' := 46) (v := 1) (ls' := [some (.ref 19), some (.int x1), some (.int r22), some (.int (x3 + 1))]) (dt_X6_readAny 24 (43, .iinc 3 1, 3) rfl) rfl (by decide) (by decide) rfl rfl (aw_goto (tgt := 8) (dt_X6_readAny 25 (46, .goto (-38), 3) rfl) (by decide) ?_)))))))))))))))
              exact h

theorem t_X6_readAll {E : ZE} {l : Launch} {d nc ns : Nat} {x1 : Int32} {μ : ZM} {K : Option Value → ZM → Prop} (hS : Stat μ) (h :
  AW E l d 0 0 mX6_readTest 0 (zargs 4 [.ref 19, .int x1]) [] μ (fun v μ1 => ∃ r3 : Int32, v = some (.int r3) ∧ Stat μ1 ∧ 
    AW E l (d + 1) nc ns mX6_readAll 8 [some (.ref 19), some (.int x1), some (.int r3), some (.int 0)] [] μ1 K)) : AW E l (d + 1) nc ns mX6_readAll 0 [some (.ref 19), some (.int x1), none, none] [] μ K := by
  refine aw_aload_n (pc' := 1) (dt_X6_readAll 0 (0, .aload_n 0, 1) rfl) rfl rfl (aw_iload_n (pc' := 2) (dt_X6_readAll 1 (1, .iload_n 1, 1) rfl) rfl rfl (aw_callV0 (pc' := 5) (nc := nc) (ns := ns) (y2 := mX6_readTest) (As := [.int x1]) (rest := []) (a := 19) (dt_X6_readAll 2 (2, .invokevirtual 85, 3) rfl) ok_X6_readTest ln_Reader_85 im_X6_readTest se_X6_readTest pr_X6_readTest (Or.inl ⟨by decide, rfl⟩) rfl (Nat.le_of_ble_eq_true rfl) (Nat.le_of_ble_eq_true rfl) rfl (sk_19 hS) h ?_))
  rintro v μ1 ⟨r3, rfl, hS2, h⟩
  refine aw_stk (st' := [.int r3]) rfl ?_
  refine aw_istore_n (pc' := 6) (ls' := [some (.ref 19), some (.int x1), some (.int r3), none]) (dt_X6_readAll 3 (5, .istore_n 2, 1) rfl) (by decide) rfl rfl (aw_iconst (pc' := 7) (v := 0) (dt_X6_readAll 4 (6, .iconst 0, 1) rfl) (by decide) rfl (aw_istore_n (pc' := 8) (ls' := [some (.ref 19), some (.int x1), some (.int r3), some (.int 0)]) (dt_X6_readAll 5 (7, .istore_n 3, 1) rfl) (by decide) rfl rfl ?_))
  exact h

theorem t_X6_readAll_8 {E : ZE} {l : Launch} {d nc ns : Nat} {x1 : Int32} {x2 : Int32} {x3 : Int32} {μ : ZM} {K : Option Value → ZM → Prop} (hS : Stat μ) (h :
  (200 ≤ x3 →
    (x2 = 0 ∨ x2 = 1) ∧
    K (some (.int x2)) μ) ∧
  (¬ 200 ≤ x3 →
    (x2 = 0 →
      (x2 = 0 ∨ x2 = 1) ∧
      K (some (.int x2)) μ) ∧
    (¬ x2 = 0 →
      (¬ (zI μ 19 4) = 6 →
        (x2 = 0 ∨ x2 = 1) ∧
        K (some (.int x2)) μ) ∧
      ((zI μ 19 4) = 6 →
        ((zI μ 20 5) ≤ ((zI μ 19 3) + 1) →
          AW E l d 0 0 mX6_readTest 0 (zargs 4 [.ref 19, .int x1]) [] μ (fun v μ8 => ∃ r10 : Int32, v = some (.int r10) ∧ Stat μ8 ∧ 
            (400 ≤ (zI μ8 19 2) →
              AW E l (d + 1) nc ns mX6_readAll 8 [some (.ref 19), some (.int x1), some (.int r10), some (.int (x3 + 1))] [] μ8 K) ∧
            (¬ 400 ≤ (zI μ8 19 2) →
              (vp_in (zI μ8 19 2) 400) ∧
              AW E l (d + 1) nc ns mX6_readAll 8 [some (.ref 19), some (.int x1), some (.int r10), some (.int (x3 + 1))] [] (sI (sI μ8 25 (zI μ8 19 2).toNatClampNeg (-2)) 19 2 ((zI (sI μ8 25 (zI μ8 19 2).toNatClampNeg (-2)) 19 2) + 1)) K))) ∧
        (¬ (zI μ 20 5) ≤ ((zI μ 19 3) + 1) →
          (201 ≤ ((zI μ 19 3) + 1) →
            AW E l d 0 0 mX6_readTest 0 (zargs 4 [.ref 19, .int x1]) [] μ (fun v μ14 => ∃ r16 : Int32, v = some (.int r16) ∧ Stat μ14 ∧ 
              (400 ≤ (zI μ14 19 2) →
                AW E l (d + 1) nc ns mX6_readAll 8 [some (.ref 19), some (.int x1), some (.int r16), some (.int (x3 + 1))] [] μ14 K) ∧
              (¬ 400 ≤ (zI μ14 19 2) →
                (vp_in (zI μ14 19 2) 400) ∧
                AW E l (d + 1) nc ns mX6_readAll 8 [some (.ref 19), some (.int x1), some (.int r16), some (.int (x3 + 1))] [] (sI (sI μ14 25 (zI μ14 19 2).toNatClampNeg (-2)) 19 2 ((zI (sI μ14 25 (zI μ14 19 2).toNatClampNeg (-2)) 19 2) + 1)) K))) ∧
          (¬ 201 ≤ ((zI μ 19 3) + 1) →
            (vp_in (zI (sI μ 19 3 ((zI μ 19 3) + 1)) 19 3) 201) ∧
            AW E l d 0 0 mX6_readTest 0 (zargs 4 [.ref 19, .int x1]) [] (sI (sI μ 19 3 ((zI μ 19 3) + 1)) 19 4 (zI (sI μ 19 3 ((zI μ 19 3) + 1)) 22 (zI (sI μ 19 3 ((zI μ 19 3) + 1)) 19 3).toNatClampNeg)) (fun v μ20 => ∃ r22 : Int32, v = some (.int r22) ∧ Stat μ20 ∧ 
              (400 ≤ (zI μ20 19 2) →
                AW E l (d + 1) nc ns mX6_readAll 8 [some (.ref 19), some (.int x1), some (.int r22), some (.int (x3 + 1))] [] μ20 K) ∧
              (¬ 400 ≤ (zI μ20 19 2) →
                (vp_in (zI μ20 19 2) 400) ∧
                AW E l (d + 1) nc ns mX6_readAll 8 [some (.ref 19), some (.int x1), some (.int r22), some (.int (x3 + 1))] [] (sI (sI μ20 25 (zI μ20 19 2).toNatClampNeg (-2)) 19 2 ((zI (sI μ20 25 (zI μ20 19 2).toNatClampNeg (-2)) 19 2) + 1)) K)))))))) : AW E l (d + 1) nc ns mX6_readAll 8 [some (.ref 19), some (.int x1), some (.int x2), some (.int x3)] [] μ K := by
  refine aw_iload_n (pc' := 9) (dt_X6_readAll 6 (8, .iload_n 3, 1) rfl) rfl rfl (aw_sipush (pc' := 12) (v := 200) (dt_X6_readAll 7 (9, .sipush 200, 3) rfl) (by decide) rfl (aw_icmp_ge (pc' := 15) (tgt := 50) (dt_X6_readAll 8 (12, .if_icmp .ge 38, 3) rfl) (by decide) rfl ?_ ?_))
  · intro q1
    have h := h.1 q1
    obtain ⟨g2, h⟩ := h
    refine aw_iload_n (pc' := 51) (dt_X6_readAll 26 (50, .iload_n 2, 1) rfl) rfl rfl (aw_iret (dt_X6_readAll 27 (51, .ireturn, 1) rfl) rfl (nb01 g2) ?_)
    exact h
  · intro q1
    have h := h.2 q1
    refine aw_iload_n (pc' := 16) (dt_X6_readAll 9 (15, .iload_n 2, 1) rfl) rfl rfl (aw_if_eq (pc' := 19) (tgt := 50) (dt_X6_readAll 10 (16, .ifCond .eq 34, 3) rfl) (by decide) rfl ?_ ?_)
    · intro q3
      have h := h.1 q3
      obtain ⟨g4, h⟩ := h
      refine aw_iload_n (pc' := 51) (dt_X6_readAll 26 (50, .iload_n 2, 1) rfl) rfl rfl (aw_iret (dt_X6_readAll 27 (51, .ireturn, 1) rfl) rfl (nb01 g4) ?_)
      exact h
    · intro q3
      have h := h.2 q3
      refine aw_aload_n (pc' := 20) (dt_X6_readAll 11 (19, .aload_n 0, 1) rfl) rfl rfl (aw_getI (pc' := 23) (dt_X6_readAll 12 (20, .getfield 22, 3) rfl) fl_Reader_22 rfl rfl (sk_19 hS) (aw_bipush (pc' := 25) (v := 6) (dt_X6_readAll 13 (23, .bipush 6, 2) rfl) (by decide) rfl (aw_icmp_ne (pc' := 28) (tgt := 50) (dt_X6_readAll 14 (25, .if_icmp .ne 25, 3) rfl) (by decide) rfl ?_ ?_)))
      · intro q5
        have h := h.1 q5
        obtain ⟨g6, h⟩ := h
        refine aw_iload_n (pc' := 51) (dt_X6_readAll 26 (50, .iload_n 2, 1) rfl) rfl rfl (aw_iret (dt_X6_readAll 27 (51, .ireturn, 1) rfl) rfl (nb01 g6) ?_)
        exact h
      · intro q5
        have h := h.2 q5
        refine aw_aload_n (pc' := 29) (dt_X6_readAll 15 (28, .aload_n 0, 1) rfl) rfl rfl (aw_inV (pc' := 32) (nc1 := 0) (ns1 := 0) (nc := nc) (ns := ns) (ls' := [some (.ref 19)]) (y2 := mX6_step) (As := []) (rest := []) (a := 19) (dt_X6_readAll 16 (29, .invokevirtual 36, 3) rfl) ok_X6_step ln_Reader_36 im_X6_step se_X6_step pr_X6_step (Or.inl ⟨by decide, rfl⟩) rfl (Nat.le_of_ble_eq_true rfl) (Nat.le_of_ble_eq_true rfl) rfl rfl (sk_19 hS) (aw_aload_n (pc' := 1) (dt_X6_step 0 (0, .aload_n 0, 1) rfl) rfl rfl (aw_getI (pc' := 4) (dt_X6_step 1 (1, .getfield 45, 3) rfl) fl_Reader_45 rfl rfl (sk_19 hS) (aw_iconst (pc' := 5) (v := 1) (dt_X6_step 2 (4, .iconst 1, 1) rfl) (by decide) rfl (aw_iadd (pc' := 6) (dt_X6_step 3 (5, .iadd, 1) rfl) rfl (aw_aload_n (pc' := 7) (dt_X6_step 4 (6, .aload_n 0, 1) rfl) rfl rfl (aw_getAs (pc' := 10) (dt_X6_step 5 (7, .getfield 12, 3) rfl) fl_Reader_12 rfl rfl (sk_19 hS) (sa_19_0 hS) (aw_getI (pc' := 13) (dt_X6_step 6 (10, .getfield 69, 3) rfl) fl_Reader_69 rfl rfl (sk_20 hS) (aw_icmp_ge (pc' := 16) (tgt := 59) (dt_X6_step 7 (13, .if_icmp .ge 46, 3) rfl) (by decide) rfl ?_ ?_)))))))))
        · intro q7
          have h := h.1 q7
          refine aw_ret (dt_X6_step 31 (59, .return_, 1) rfl) rfl (aw_stk (st' := []) rfl (aw_aload_n (pc' := 33) (dt_X6_readAll 17 (32, .aload_n 0, 1) rfl) rfl rfl (aw_iload_n (pc' := 34) (dt_X6_readAll 18 (33, .iload_n 1, 1) rfl) rfl rfl (aw_callV0 (pc' := 37) (nc := nc) (ns := ns) (y2 := mX6_readTest) (As := [.int x1]) (rest := []) (a := 19) (dt_X6_readAll 19 (34, .invokevirtual 85, 3) rfl) ok_X6_readTest ln_Reader_85 im_X6_readTest se_X6_readTest pr_X6_readTest (Or.inl ⟨by decide, rfl⟩) rfl (Nat.le_of_ble_eq_true rfl) (Nat.le_of_ble_eq_true rfl) rfl (sk_19 hS) h ?_))))
          rintro v μ8 ⟨r10, rfl, hS9, h⟩
          refine aw_stk (st' := [.int r10]) rfl ?_
          refine aw_istore_n (pc' := 38) (ls' := [some (.ref 19), some (.int x1), some (.int r10), some (.int x3)]) (dt_X6_readAll 20 (37, .istore_n 2, 1) rfl) (by decide) rfl rfl (aw_aload_n (pc' := 39) (dt_X6_readAll 21 (38, .aload_n 0, 1) rfl) rfl rfl (aw_bipush (pc' := 41) (v := (-2)) (dt_X6_readAll 22 (39, .bipush (-2), 2) rfl) (by decide) rfl (aw_inV (pc' := 44) (nc1 := 0) (ns1 := 0) (nc := nc) (ns := ns) (ls' := [some (.ref 19), some (.int (-2))]) (y2 := mX6_write) (As := [.int (-2)]) (rest := []) (a := 19) (dt_X6_readAll 23 (41, .invokevirtual 75, 3) rfl) ok_X6_write ln_Reader_75 im_X6_write se_X6_write pr_X6_write (Or.inl ⟨by decide, rfl⟩) rfl (Nat.le_of_ble_eq_true rfl) (Nat.le_of_ble_eq_true rfl) rfl rfl (sk_19 hS9) (aw_aload_n (pc' := 1) (dt_X6_write 0 (0, .aload_n 0, 1) rfl) rfl rfl (aw_getI (pc' := 4) (dt_X6_write 1 (1, .getfield 54, 3) rfl) fl_Reader_54 rfl rfl (sk_19 hS9) (aw_aload_n (pc' := 5) (dt_X6_write 2 (4, .aload_n 0, 1) rfl) rfl rfl (aw_getAs (pc' := 8) (dt_X6_write 3 (5, .getfield 18, 3) rfl) fl_Reader_18 rfl rfl (sk_19 hS9) (sa_19_1 hS9) (aw_alens (pc' := 9) (n := 400) (v := 400) (dt_X6_write 4 (8, .arraylength, 1) rfl) (by decide) (by decide) rfl (sk_25 hS9) (sl_25 hS9) (by decide) (aw_icmp_ge (pc' := 12) (tgt := 32) (dt_X6_write 5 (9, .if_icmp .ge 23, 3) rfl) (by decide) rfl ?_ ?_)))))))))
          · intro q11
            have h := h.1 q11
            refine aw_ret (dt_X6_write 18 (32, .return_, 1) rfl) rfl (aw_stk (st' := []) rfl (aw_iinc (pc' := 47) (v := 1) (ls' := [some (.ref 19), some (.int x1), some (.int r10), some (.int (x3 + 1))]) (dt_X6_readAll 24 (44, .iinc 3 1, 3) rfl) rfl (by decide) (by decide) rfl rfl (aw_goto (tgt := 8) (dt_X6_readAll 25 (47, .goto (-39), 3) rfl) (by decide) ?_)))
            exact h
          · intro q11
            have h := h.2 q11
            obtain ⟨g12, h⟩ := h
            refine aw_aload_n (pc' := 13) (dt_X6_write 6 (12, .aload_n 0, 1) rfl) rfl rfl (aw_getAs (pc' := 16) (dt_X6_write 7 (13, .getfield 18, 3) rfl) fl_Reader_18 rfl rfl (sk_19 hS9) (sa_19_1 hS9) (aw_aload_n (pc' := 17) (dt_X6_write 8 (16, .aload_n 0, 1) rfl) rfl rfl (aw_getI (pc' := 20) (dt_X6_write 9 (17, .getfield 54, 3) rfl) fl_Reader_54 rfl rfl (sk_19 hS9) (aw_iload_n (pc' := 21) (dt_X6_write 10 (20, .iload_n 1, 1) rfl) rfl rfl (aw_iast (pc' := 22) (dt_X6_write 11 (21, .iastore, 1) rfl) rfl (sk_25 hS9) (by decide) (vin_eq (sl_25 hS9) g12) (aw_aload_n (pc' := 23) (dt_X6_write 12 (22, .aload_n 0, 1) rfl) rfl rfl (aw_dup (pc' := 24) (dt_X6_write 13 (23, .dup, 1) rfl) rfl rfl (aw_getI (pc' := 27) (dt_X6_write 14 (24, .getfield 54, 3) rfl) fl_Reader_54 rfl rfl (sk_19 hS9.wI) (aw_iconst (pc' := 28) (v := 1) (dt_X6_write 15 (27, .iconst 1, 1) rfl) (by decide) rfl (aw_iadd (pc' := 29) (dt_X6_write 16 (28, .iadd, 1) rfl) rfl (aw_putI (pc' := 32) (dt_X6_write 17 (29, .putfield 54, 3) rfl) fl_Reader_54 rfl (by decide +kernel) rfl (sk_19 hS9.wI) (aw_ret (dt_X6_write 18 (32, .return_, 1) rfl) rfl (aw_stk (st' := []) rfl (aw_iinc (pc' := 47) (v := 1) (ls' := [some (.ref 19), some (.int x1), some (.int r10), some (.int (x3 + 1))]) (dt_X6_readAll 24 (44, .iinc 3 1, 3) rfl) rfl (by decide) (by decide) rfl rfl (aw_goto (tgt := 8) (dt_X6_readAll 25 (47, .goto (-39), 3) rfl) (by decide) ?_)))))))))))))))
            exact h
        · intro q7
          have h := h.2 q7
          refine aw_aload_n (pc' := 17) (dt_X6_step 8 (16, .aload_n 0, 1) rfl) rfl rfl (aw_getI (pc' := 20) (dt_X6_step 9 (17, .getfield 45, 3) rfl) fl_Reader_45 rfl rfl (sk_19 hS) (aw_iconst (pc' := 21) (v := 1) (dt_X6_step 10 (20, .iconst 1, 1) rfl) (by decide) rfl (aw_iadd (pc' := 22) (dt_X6_step 11 (21, .iadd, 1) rfl) rfl (aw_aload_n (pc' := 23) (dt_X6_step 12 (22, .aload_n 0, 1) rfl) rfl rfl (aw_getAs (pc' := 26) (dt_X6_step 13 (23, .getfield 12, 3) rfl) fl_Reader_12 rfl rfl (sk_19 hS) (sa_19_0 hS) (aw_getAs (pc' := 29) (dt_X6_step 14 (26, .getfield 66, 3) rfl) fl_Reader_66 rfl rfl (sk_20 hS) (sa_20_2 hS) (aw_alens (pc' := 30) (n := 201) (v := 201) (dt_X6_step 15 (29, .arraylength, 1) rfl) (by decide) (by decide) rfl (sk_22 hS) (sl_22 hS) (by decide) (aw_icmp_ge (pc' := 33) (tgt := 59) (dt_X6_step 16 (30, .if_icmp .ge 29, 3) rfl) (by decide) rfl ?_ ?_))))))))
          · intro q13
            have h := h.1 q13
            refine aw_ret (dt_X6_step 31 (59, .return_, 1) rfl) rfl (aw_stk (st' := []) rfl (aw_aload_n (pc' := 33) (dt_X6_readAll 17 (32, .aload_n 0, 1) rfl) rfl rfl (aw_iload_n (pc' := 34) (dt_X6_readAll 18 (33, .iload_n 1, 1) rfl) rfl rfl (aw_callV0 (pc' := 37) (nc := nc) (ns := ns) (y2 := mX6_readTest) (As := [.int x1]) (rest := []) (a := 19) (dt_X6_readAll 19 (34, .invokevirtual 85, 3) rfl) ok_X6_readTest ln_Reader_85 im_X6_readTest se_X6_readTest pr_X6_readTest (Or.inl ⟨by decide, rfl⟩) rfl (Nat.le_of_ble_eq_true rfl) (Nat.le_of_ble_eq_true rfl) rfl (sk_19 hS) h ?_))))
            rintro v μ14 ⟨r16, rfl, hS15, h⟩
            refine aw_stk (st' := [.int r16]) rfl ?_
            refine aw_istore_n (pc' := 38) (ls' := [some (.ref 19), some (.int x1), some (.int r16), some (.int x3)]) (dt_X6_readAll 20 (37, .istore_n 2, 1) rfl) (by decide) rfl rfl (aw_aload_n (pc' := 39) (dt_X6_readAll 21 (38, .aload_n 0, 1) rfl) rfl rfl (aw_bipush (pc' := 41) (v := (-2)) (dt_X6_readAll 22 (39, .bipush (-2), 2) rfl) (by decide) rfl (aw_inV (pc' := 44) (nc1 := 0) (ns1 := 0) (nc := nc) (ns := ns) (ls' := [some (.ref 19), some (.int (-2))]) (y2 := mX6_write) (As := [.int (-2)]) (rest := []) (a := 19) (dt_X6_readAll 23 (41, .invokevirtual 75, 3) rfl) ok_X6_write ln_Reader_75 im_X6_write se_X6_write pr_X6_write (Or.inl ⟨by decide, rfl⟩) rfl (Nat.le_of_ble_eq_true rfl) (Nat.le_of_ble_eq_true rfl) rfl rfl (sk_19 hS15) (aw_aload_n (pc' := 1) (dt_X6_write 0 (0, .aload_n 0, 1) rfl) rfl rfl (aw_getI (pc' := 4) (dt_X6_write 1 (1, .getfield 54, 3) rfl) fl_Reader_54 rfl rfl (sk_19 hS15) (aw_aload_n (pc' := 5) (dt_X6_write 2 (4, .aload_n 0, 1) rfl) rfl rfl (aw_getAs (pc' := 8) (dt_X6_write 3 (5, .getfield 18, 3) rfl) fl_Reader_18 rfl rfl (sk_19 hS15) (sa_19_1 hS15) (aw_alens (pc' := 9) (n := 400) (v := 400) (dt_X6_write 4 (8, .arraylength, 1) rfl) (by decide) (by decide) rfl (sk_25 hS15) (sl_25 hS15) (by decide) (aw_icmp_ge (pc' := 12) (tgt := 32) (dt_X6_write 5 (9, .if_icmp .ge 23, 3) rfl) (by decide) rfl ?_ ?_)))))))))
            · intro q17
              have h := h.1 q17
              refine aw_ret (dt_X6_write 18 (32, .return_, 1) rfl) rfl (aw_stk (st' := []) rfl (aw_iinc (pc' := 47) (v := 1) (ls' := [some (.ref 19), some (.int x1), some (.int r16), some (.int (x3 + 1))]) (dt_X6_readAll 24 (44, .iinc 3 1, 3) rfl) rfl (by decide) (by decide) rfl rfl (aw_goto (tgt := 8) (dt_X6_readAll 25 (47, .goto (-39), 3) rfl) (by decide) ?_)))
              exact h
            · intro q17
              have h := h.2 q17
              obtain ⟨g18, h⟩ := h
              refine aw_aload_n (pc' := 13) (dt_X6_write 6 (12, .aload_n 0, 1) rfl) rfl rfl (aw_getAs (pc' := 16) (dt_X6_write 7 (13, .getfield 18, 3) rfl) fl_Reader_18 rfl rfl (sk_19 hS15) (sa_19_1 hS15) (aw_aload_n (pc' := 17) (dt_X6_write 8 (16, .aload_n 0, 1) rfl) rfl rfl (aw_getI (pc' := 20) (dt_X6_write 9 (17, .getfield 54, 3) rfl) fl_Reader_54 rfl rfl (sk_19 hS15) (aw_iload_n (pc' := 21) (dt_X6_write 10 (20, .iload_n 1, 1) rfl) rfl rfl (aw_iast (pc' := 22) (dt_X6_write 11 (21, .iastore, 1) rfl) rfl (sk_25 hS15) (by decide) (vin_eq (sl_25 hS15) g18) (aw_aload_n (pc' := 23) (dt_X6_write 12 (22, .aload_n 0, 1) rfl) rfl rfl (aw_dup (pc' := 24) (dt_X6_write 13 (23, .dup, 1) rfl) rfl rfl (aw_getI (pc' := 27) (dt_X6_write 14 (24, .getfield 54, 3) rfl) fl_Reader_54 rfl rfl (sk_19 hS15.wI) (aw_iconst (pc' := 28) (v := 1) (dt_X6_write 15 (27, .iconst 1, 1) rfl) (by decide) rfl (aw_iadd (pc' := 29) (dt_X6_write 16 (28, .iadd, 1) rfl) rfl (aw_putI (pc' := 32) (dt_X6_write 17 (29, .putfield 54, 3) rfl) fl_Reader_54 rfl (by decide +kernel) rfl (sk_19 hS15.wI) (aw_ret (dt_X6_write 18 (32, .return_, 1) rfl) rfl (aw_stk (st' := []) rfl (aw_iinc (pc' := 47) (v := 1) (ls' := [some (.ref 19), some (.int x1), some (.int r16), some (.int (x3 + 1))]) (dt_X6_readAll 24 (44, .iinc 3 1, 3) rfl) rfl (by decide) (by decide) rfl rfl (aw_goto (tgt := 8) (dt_X6_readAll 25 (47, .goto (-39), 3) rfl) (by decide) ?_)))))))))))))))
              exact h
          · intro q13
            have h := h.2 q13
            obtain ⟨g19, h⟩ := h
            refine aw_aload_n (pc' := 34) (dt_X6_step 17 (33, .aload_n 0, 1) rfl) rfl rfl (aw_dup (pc' := 35) (dt_X6_step 18 (34, .dup, 1) rfl) rfl rfl (aw_getI (pc' := 38) (dt_X6_step 19 (35, .getfield 45, 3) rfl) fl_Reader_45 rfl rfl (sk_19 hS) (aw_iconst (pc' := 39) (v := 1) (dt_X6_step 20 (38, .iconst 1, 1) rfl) (by decide) rfl (aw_iadd (pc' := 40) (dt_X6_step 21 (39, .iadd, 1) rfl) rfl (aw_putI (pc' := 43) (dt_X6_step 22 (40, .putfield 45, 3) rfl) fl_Reader_45 rfl (by decide +kernel) rfl (sk_19 hS) (aw_aload_n (pc' := 44) (dt_X6_step 23 (43, .aload_n 0, 1) rfl) rfl rfl (aw_aload_n (pc' := 45) (dt_X6_step 24 (44, .aload_n 0, 1) rfl) rfl rfl (aw_getAs (pc' := 48) (dt_X6_step 25 (45, .getfield 12, 3) rfl) fl_Reader_12 rfl rfl (sk_19 hS.wI) (sa_19_0 hS.wI) (aw_getAs (pc' := 51) (dt_X6_step 26 (48, .getfield 66, 3) rfl) fl_Reader_66 rfl rfl (sk_20 hS.wI) (sa_20_2 hS.wI) (aw_aload_n (pc' := 52) (dt_X6_step 27 (51, .aload_n 0, 1) rfl) rfl rfl (aw_getI (pc' := 55) (dt_X6_step 28 (52, .getfield 45, 3) rfl) fl_Reader_45 rfl rfl (sk_19 hS.wI) (aw_iald (pc' := 56) (dt_X6_step 29 (55, .iaload, 1) rfl) rfl (sk_22 hS.wI) (vin_eq (sl_22 hS.wI) g19) (aw_putI (pc' := 59) (dt_X6_step 30 (56, .putfield 22, 3) rfl) fl_Reader_22 rfl (by decide +kernel) rfl (sk_19 hS.wI) (aw_ret (dt_X6_step 31 (59, .return_, 1) rfl) rfl (aw_stk (st' := []) rfl (aw_aload_n (pc' := 33) (dt_X6_readAll 17 (32, .aload_n 0, 1) rfl) rfl rfl (aw_iload_n (pc' := 34) (dt_X6_readAll 18 (33, .iload_n 1, 1) rfl) rfl rfl (aw_callV0 (pc' := 37) (nc := nc) (ns := ns) (y2 := mX6_readTest) (As := [.int x1]) (rest := []) (a := 19) (dt_X6_readAll 19 (34, .invokevirtual 85, 3) rfl) ok_X6_readTest ln_Reader_85 im_X6_readTest se_X6_readTest pr_X6_readTest (Or.inl ⟨by decide, rfl⟩) rfl (Nat.le_of_ble_eq_true rfl) (Nat.le_of_ble_eq_true rfl) rfl (sk_19 hS.wI.wI) h ?_))))))))))))))))))
            rintro v μ20 ⟨r22, rfl, hS21, h⟩
            refine aw_stk (st' := [.int r22]) rfl ?_
            refine aw_istore_n (pc' := 38) (ls' := [some (.ref 19), some (.int x1), some (.int r22), some (.int x3)]) (dt_X6_readAll 20 (37, .istore_n 2, 1) rfl) (by decide) rfl rfl (aw_aload_n (pc' := 39) (dt_X6_readAll 21 (38, .aload_n 0, 1) rfl) rfl rfl (aw_bipush (pc' := 41) (v := (-2)) (dt_X6_readAll 22 (39, .bipush (-2), 2) rfl) (by decide) rfl (aw_inV (pc' := 44) (nc1 := 0) (ns1 := 0) (nc := nc) (ns := ns) (ls' := [some (.ref 19), some (.int (-2))]) (y2 := mX6_write) (As := [.int (-2)]) (rest := []) (a := 19) (dt_X6_readAll 23 (41, .invokevirtual 75, 3) rfl) ok_X6_write ln_Reader_75 im_X6_write se_X6_write pr_X6_write (Or.inl ⟨by decide, rfl⟩) rfl (Nat.le_of_ble_eq_true rfl) (Nat.le_of_ble_eq_true rfl) rfl rfl (sk_19 hS21) (aw_aload_n (pc' := 1) (dt_X6_write 0 (0, .aload_n 0, 1) rfl) rfl rfl (aw_getI (pc' := 4) (dt_X6_write 1 (1, .getfield 54, 3) rfl) fl_Reader_54 rfl rfl (sk_19 hS21) (aw_aload_n (pc' := 5) (dt_X6_write 2 (4, .aload_n 0, 1) rfl) rfl rfl (aw_getAs (pc' := 8) (dt_X6_write 3 (5, .getfield 18, 3) rfl) fl_Reader_18 rfl rfl (sk_19 hS21) (sa_19_1 hS21) (aw_alens (pc' := 9) (n := 400) (v := 400) (dt_X6_write 4 (8, .arraylength, 1) rfl) (by decide) (by decide) rfl (sk_25 hS21) (sl_25 hS21) (by decide) (aw_icmp_ge (pc' := 12) (tgt := 32) (dt_X6_write 5 (9, .if_icmp .ge 23, 3) rfl) (by decide) rfl ?_ ?_)))))))))
            · intro q23
              have h := h.1 q23
              refine aw_ret (dt_X6_write 18 (32, .return_, 1) rfl) rfl (aw_stk (st' := []) rfl (aw_iinc (pc' := 47) (v := 1) (ls' := [some (.ref 19), some (.int x1), some (.int r22), some (.int (x3 + 1))]) (dt_X6_readAll 24 (44, .iinc 3 1, 3) rfl) rfl (by decide) (by decide) rfl rfl (aw_goto (tgt := 8) (dt_X6_readAll 25 (47, .goto (-39), 3) rfl) (by decide) ?_)))
              exact h
            · intro q23
              have h := h.2 q23
              obtain ⟨g24, h⟩ := h
              refine aw_aload_n (pc' := 13) (dt_X6_write 6 (12, .aload_n 0, 1) rfl) rfl rfl (aw_getAs (pc' := 16) (dt_X6_write 7 (13, .getfield 18, 3) rfl) fl_Reader_18 rfl rfl (sk_19 hS21) (sa_19_1 hS21) (aw_aload_n (pc' := 17) (dt_X6_write 8 (16, .aload_n 0, 1) rfl) rfl rfl (aw_getI (pc' := 20) (dt_X6_write 9 (17, .getfield 54, 3) rfl) fl_Reader_54 rfl rfl (sk_19 hS21) (aw_iload_n (pc' := 21) (dt_X6_write 10 (20, .iload_n 1, 1) rfl) rfl rfl (aw_iast (pc' := 22) (dt_X6_write 11 (21, .iastore, 1) rfl) rfl (sk_25 hS21) (by decide) (vin_eq (sl_25 hS21) g24) (aw_aload_n (pc' := 23) (dt_X6_write 12 (22, .aload_n 0, 1) rfl) rfl rfl (aw_dup (pc' := 24) (dt_X6_write 13 (23, .dup, 1) rfl) rfl rfl (aw_getI (pc' := 27) (dt_X6_write 14 (24, .getfield 54, 3) rfl) fl_Reader_54 rfl rfl (sk_19 hS21.wI) (aw_iconst (pc' := 28) (v := 1) (dt_X6_write 15 (27, .iconst 1, 1) rfl) (by decide) rfl (aw_iadd (pc' := 29) (dt_X6_write 16 (28, .iadd, 1) rfl) rfl (aw_putI (pc' := 32) (dt_X6_write 17 (29, .putfield 54, 3) rfl) fl_Reader_54 rfl (by decide +kernel) rfl (sk_19 hS21.wI) (aw_ret (dt_X6_write 18 (32, .return_, 1) rfl) rfl (aw_stk (st' := []) rfl (aw_iinc (pc' := 47) (v := 1) (ls' := [some (.ref 19), some (.int x1), some (.int r22), some (.int (x3 + 1))]) (dt_X6_readAll 24 (44, .iinc 3 1, 3) rfl) rfl (by decide) (by decide) rfl rfl (aw_goto (tgt := 8) (dt_X6_readAll 25 (47, .goto (-39), 3) rfl) (by decide) ?_)))))))))))))))
              exact h

theorem t_X6_readTest {E : ZE} {l : Launch} {d nc ns : Nat} {x1 : Int32} {μ : ZM} {K : Option Value → ZM → Prop} (hS : Stat μ) (h :
  (¬ (zI μ 19 4) = 7 →
    AW E l d 0 0 mX6_readSum 0 (zargs 5 [.ref 19, .int x1]) [] μ (fun v μ2 => ∃ r4 : Int32, v = some (.int r4) ∧ Stat μ2 ∧ 
      (r4 = 0 →
        (r4 = 0 ∨ r4 = 1) ∧
        K (some (.int r4)) μ2) ∧
      (¬ r4 = 0 →
        ((zI μ2 19 4) = 60 →
          AW E l (d + 1) nc ns mX6_readTest 52 [some (.ref 19), some (.int x1), none, none] [] μ2 K) ∧
        (¬ (zI μ2 19 4) = 60 →
          ((zI μ2 19 4) = 61 →
            AW E l (d + 1) nc ns mX6_readTest 52 [some (.ref 19), some (.int x1), none, none] [] μ2 K) ∧
          (¬ (zI μ2 19 4) = 61 →
            (¬ (zI μ2 19 4) = 62 →
              (r4 = 0 ∨ r4 = 1) ∧
              K (some (.int r4)) μ2) ∧
            ((zI μ2 19 4) = 62 →
              AW E l (d + 1) nc ns mX6_readTest 52 [some (.ref 19), some (.int x1), none, none] [] μ2 K)))))) ∧
  ((zI μ 19 4) = 7 →
    AW E l d 0 0 mX6_readNot 0 (zargs 3 [.ref 19, .int x1]) [] μ (fun v μ11 => ∃ r13 : Int32, v = some (.int r13) ∧ Stat μ11 ∧ 
      (r13 = 0 ∨ r13 = 1) ∧
      K (some (.int r13)) μ11))) : AW E l (d + 1) nc ns mX6_readTest 0 [some (.ref 19), some (.int x1), none, none] [] μ K := by
  refine aw_aload_n (pc' := 1) (dt_X6_readTest 0 (0, .aload_n 0, 1) rfl) rfl rfl (aw_getI (pc' := 4) (dt_X6_readTest 1 (1, .getfield 22, 3) rfl) fl_Reader_22 rfl rfl (sk_19 hS) (aw_bipush (pc' := 6) (v := 7) (dt_X6_readTest 2 (4, .bipush 7, 2) rfl) (by decide) rfl (aw_icmp_ne (pc' := 9) (tgt := 15) (dt_X6_readTest 3 (6, .if_icmp .ne 9, 3) rfl) (by decide) rfl ?_ ?_)))
  · intro q1
    have h := h.1 q1
    refine aw_aload_n (pc' := 16) (dt_X6_readTest 8 (15, .aload_n 0, 1) rfl) rfl rfl (aw_iload_n (pc' := 17) (dt_X6_readTest 9 (16, .iload_n 1, 1) rfl) rfl rfl (aw_callV0 (pc' := 20) (nc := nc) (ns := ns) (y2 := mX6_readSum) (As := [.int x1]) (rest := []) (a := 19) (dt_X6_readTest 10 (17, .invokevirtual 79, 3) rfl) ok_X6_readSum ln_Reader_79 im_X6_readSum se_X6_readSum pr_X6_readSum (Or.inl ⟨by decide, rfl⟩) rfl (Nat.le_of_ble_eq_true rfl) (Nat.le_of_ble_eq_true rfl) rfl (sk_19 hS) h ?_))
    rintro v μ2 ⟨r4, rfl, hS3, h⟩
    refine aw_stk (st' := [.int r4]) rfl ?_
    refine aw_istore_n (pc' := 21) (ls' := [some (.ref 19), some (.int x1), some (.int r4), none]) (dt_X6_readTest 11 (20, .istore_n 2, 1) rfl) (by decide) rfl rfl (aw_iload_n (pc' := 22) (dt_X6_readTest 12 (21, .iload_n 2, 1) rfl) rfl rfl (aw_if_eq (pc' := 25) (tgt := 73) (dt_X6_readTest 13 (22, .ifCond .eq 51, 3) rfl) (by decide) rfl ?_ ?_))
    · intro q5
      have h := h.1 q5
      obtain ⟨g6, h⟩ := h
      refine aw_iload_n (pc' := 74) (dt_X6_readTest 39 (73, .iload_n 2, 1) rfl) rfl rfl (aw_iret (dt_X6_readTest 40 (74, .ireturn, 1) rfl) rfl (nb01 g6) ?_)
      exact h
    · intro q5
      have h := h.2 q5
      refine aw_aload_n (pc' := 26) (dt_X6_readTest 14 (25, .aload_n 0, 1) rfl) rfl rfl (aw_getI (pc' := 29) (dt_X6_readTest 15 (26, .getfield 22, 3) rfl) fl_Reader_22 rfl rfl (sk_19 hS3) (aw_bipush (pc' := 31) (v := 60) (dt_X6_readTest 16 (29, .bipush 60, 2) rfl) (by decide) rfl (aw_icmp_eq (pc' := 34) (tgt := 52) (dt_X6_readTest 17 (31, .if_icmp .eq 21, 3) rfl) (by decide) rfl ?_ ?_)))
      · intro q7
        have h := h.1 q7
        refine aw_drop (ls' := [some (.ref 19), some (.int x1), none, none]) ⟨rfl, rfl, trivial⟩ ?_
        exact h
      · intro q7
        have h := h.2 q7
        refine aw_aload_n (pc' := 35) (dt_X6_readTest 18 (34, .aload_n 0, 1) rfl) rfl rfl (aw_getI (pc' := 38) (dt_X6_readTest 19 (35, .getfield 22, 3) rfl) fl_Reader_22 rfl rfl (sk_19 hS3) (aw_bipush (pc' := 40) (v := 61) (dt_X6_readTest 20 (38, .bipush 61, 2) rfl) (by decide) rfl (aw_icmp_eq (pc' := 43) (tgt := 52) (dt_X6_readTest 21 (40, .if_icmp .eq 12, 3) rfl) (by decide) rfl ?_ ?_)))
        · intro q8
          have h := h.1 q8
          refine aw_drop (ls' := [some (.ref 19), some (.int x1), none, none]) ⟨rfl, rfl, trivial⟩ ?_
          exact h
        · intro q8
          have h := h.2 q8
          refine aw_aload_n (pc' := 44) (dt_X6_readTest 22 (43, .aload_n 0, 1) rfl) rfl rfl (aw_getI (pc' := 47) (dt_X6_readTest 23 (44, .getfield 22, 3) rfl) fl_Reader_22 rfl rfl (sk_19 hS3) (aw_bipush (pc' := 49) (v := 62) (dt_X6_readTest 24 (47, .bipush 62, 2) rfl) (by decide) rfl (aw_icmp_ne (pc' := 52) (tgt := 73) (dt_X6_readTest 25 (49, .if_icmp .ne 24, 3) rfl) (by decide) rfl ?_ ?_)))
          · intro q9
            have h := h.1 q9
            obtain ⟨g10, h⟩ := h
            refine aw_iload_n (pc' := 74) (dt_X6_readTest 39 (73, .iload_n 2, 1) rfl) rfl rfl (aw_iret (dt_X6_readTest 40 (74, .ireturn, 1) rfl) rfl (nb01 g10) ?_)
            exact h
          · intro q9
            have h := h.2 q9
            refine aw_drop (ls' := [some (.ref 19), some (.int x1), none, none]) ⟨rfl, rfl, trivial⟩ ?_
            exact h
  · intro q1
    have h := h.2 q1
    refine aw_aload_n (pc' := 10) (dt_X6_readTest 4 (9, .aload_n 0, 1) rfl) rfl rfl (aw_iload_n (pc' := 11) (dt_X6_readTest 5 (10, .iload_n 1, 1) rfl) rfl rfl (aw_callV0 (pc' := 14) (nc := nc) (ns := ns) (y2 := mX6_readNot) (As := [.int x1]) (rest := []) (a := 19) (dt_X6_readTest 6 (11, .invokevirtual 88, 3) rfl) ok_X6_readNot ln_Reader_88 im_X6_readNot se_X6_readNot pr_X6_readNot (Or.inl ⟨by decide, rfl⟩) rfl (Nat.le_of_ble_eq_true rfl) (Nat.le_of_ble_eq_true rfl) rfl (sk_19 hS) h ?_))
    rintro v μ11 ⟨r13, rfl, hS12, h⟩
    refine aw_stk (st' := [.int r13]) rfl ?_
    obtain ⟨g14, h⟩ := h
    refine aw_iret (dt_X6_readTest 7 (14, .ireturn, 1) rfl) rfl (nb01 g14) ?_
    exact h

theorem t_X6_readTest_52 {E : ZE} {l : Launch} {d nc ns : Nat} {x1 : Int32} {μ : ZM} {K : Option Value → ZM → Prop} (hS : Stat μ) (h :
  ((zI μ 20 5) ≤ ((zI μ 19 3) + 1) →
    AW E l d 0 0 mX6_readSum 0 (zargs 5 [.ref 19, .int x1]) [] μ (fun v μ2 => ∃ r4 : Int32, v = some (.int r4) ∧ Stat μ2 ∧ 
      (400 ≤ (zI μ2 19 2) →
        (r4 = 0 ∨ r4 = 1) ∧
        K (some (.int r4)) μ2) ∧
      (¬ 400 ≤ (zI μ2 19 2) →
        (vp_in (zI μ2 19 2) 400) ∧
        (r4 = 0 ∨ r4 = 1) ∧
        K (some (.int r4)) (sI (sI μ2 25 (zI μ2 19 2).toNatClampNeg (-(zI μ 19 4))) 19 2 ((zI (sI μ2 25 (zI μ2 19 2).toNatClampNeg (-(zI μ 19 4))) 19 2) + 1))))) ∧
  (¬ (zI μ 20 5) ≤ ((zI μ 19 3) + 1) →
    (201 ≤ ((zI μ 19 3) + 1) →
      AW E l d 0 0 mX6_readSum 0 (zargs 5 [.ref 19, .int x1]) [] μ (fun v μ10 => ∃ r12 : Int32, v = some (.int r12) ∧ Stat μ10 ∧ 
        (400 ≤ (zI μ10 19 2) →
          (r12 = 0 ∨ r12 = 1) ∧
          K (some (.int r12)) μ10) ∧
        (¬ 400 ≤ (zI μ10 19 2) →
          (vp_in (zI μ10 19 2) 400) ∧
          (r12 = 0 ∨ r12 = 1) ∧
          K (some (.int r12)) (sI (sI μ10 25 (zI μ10 19 2).toNatClampNeg (-(zI μ 19 4))) 19 2 ((zI (sI μ10 25 (zI μ10 19 2).toNatClampNeg (-(zI μ 19 4))) 19 2) + 1))))) ∧
    (¬ 201 ≤ ((zI μ 19 3) + 1) →
      (vp_in (zI (sI μ 19 3 ((zI μ 19 3) + 1)) 19 3) 201) ∧
      AW E l d 0 0 mX6_readSum 0 (zargs 5 [.ref 19, .int x1]) [] (sI (sI μ 19 3 ((zI μ 19 3) + 1)) 19 4 (zI (sI μ 19 3 ((zI μ 19 3) + 1)) 22 (zI (sI μ 19 3 ((zI μ 19 3) + 1)) 19 3).toNatClampNeg)) (fun v μ18 => ∃ r20 : Int32, v = some (.int r20) ∧ Stat μ18 ∧ 
        (400 ≤ (zI μ18 19 2) →
          (r20 = 0 ∨ r20 = 1) ∧
          K (some (.int r20)) μ18) ∧
        (¬ 400 ≤ (zI μ18 19 2) →
          (vp_in (zI μ18 19 2) 400) ∧
          (r20 = 0 ∨ r20 = 1) ∧
          K (some (.int r20)) (sI (sI μ18 25 (zI μ18 19 2).toNatClampNeg (-(zI μ 19 4))) 19 2 ((zI (sI μ18 25 (zI μ18 19 2).toNatClampNeg (-(zI μ 19 4))) 19 2) + 1))))))) : AW E l (d + 1) nc ns mX6_readTest 52 [some (.ref 19), some (.int x1), none, none] [] μ K := by
  refine aw_aload_n (pc' := 53) (dt_X6_readTest 26 (52, .aload_n 0, 1) rfl) rfl rfl (aw_getI (pc' := 56) (dt_X6_readTest 27 (53, .getfield 22, 3) rfl) fl_Reader_22 rfl rfl (sk_19 hS) (aw_istore_n (pc' := 57) (ls' := [some (.ref 19), some (.int x1), none, some (.int (zI μ 19 4))]) (dt_X6_readTest 28 (56, .istore_n 3, 1) rfl) (by decide) rfl rfl (aw_aload_n (pc' := 58) (dt_X6_readTest 29 (57, .aload_n 0, 1) rfl) rfl rfl (aw_inV (pc' := 61) (nc1 := 0) (ns1 := 0) (nc := nc) (ns := ns) (ls' := [some (.ref 19)]) (y2 := mX6_step) (As := []) (rest := []) (a := 19) (dt_X6_readTest 30 (58, .invokevirtual 36, 3) rfl) ok_X6_step ln_Reader_36 im_X6_step se_X6_step pr_X6_step (Or.inl ⟨by decide, rfl⟩) rfl (Nat.le_of_ble_eq_true rfl) (Nat.le_of_ble_eq_true rfl) rfl rfl (sk_19 hS) (aw_aload_n (pc' := 1) (dt_X6_step 0 (0, .aload_n 0, 1) rfl) rfl rfl (aw_getI (pc' := 4) (dt_X6_step 1 (1, .getfield 45, 3) rfl) fl_Reader_45 rfl rfl (sk_19 hS) (aw_iconst (pc' := 5) (v := 1) (dt_X6_step 2 (4, .iconst 1, 1) rfl) (by decide) rfl (aw_iadd (pc' := 6) (dt_X6_step 3 (5, .iadd, 1) rfl) rfl (aw_aload_n (pc' := 7) (dt_X6_step 4 (6, .aload_n 0, 1) rfl) rfl rfl (aw_getAs (pc' := 10) (dt_X6_step 5 (7, .getfield 12, 3) rfl) fl_Reader_12 rfl rfl (sk_19 hS) (sa_19_0 hS) (aw_getI (pc' := 13) (dt_X6_step 6 (10, .getfield 69, 3) rfl) fl_Reader_69 rfl rfl (sk_20 hS) (aw_icmp_ge (pc' := 16) (tgt := 59) (dt_X6_step 7 (13, .if_icmp .ge 46, 3) rfl) (by decide) rfl ?_ ?_))))))))))))
  · intro q1
    have h := h.1 q1
    refine aw_ret (dt_X6_step 31 (59, .return_, 1) rfl) rfl (aw_stk (st' := []) rfl (aw_aload_n (pc' := 62) (dt_X6_readTest 31 (61, .aload_n 0, 1) rfl) rfl rfl (aw_iload_n (pc' := 63) (dt_X6_readTest 32 (62, .iload_n 1, 1) rfl) rfl rfl (aw_callV0 (pc' := 66) (nc := nc) (ns := ns) (y2 := mX6_readSum) (As := [.int x1]) (rest := []) (a := 19) (dt_X6_readTest 33 (63, .invokevirtual 79, 3) rfl) ok_X6_readSum ln_Reader_79 im_X6_readSum se_X6_readSum pr_X6_readSum (Or.inl ⟨by decide, rfl⟩) rfl (Nat.le_of_ble_eq_true rfl) (Nat.le_of_ble_eq_true rfl) rfl (sk_19 hS) h ?_))))
    rintro v μ2 ⟨r4, rfl, hS3, h⟩
    refine aw_stk (st' := [.int r4]) rfl ?_
    refine aw_istore_n (pc' := 67) (ls' := [some (.ref 19), some (.int x1), some (.int r4), some (.int (zI μ 19 4))]) (dt_X6_readTest 34 (66, .istore_n 2, 1) rfl) (by decide) rfl rfl (aw_aload_n (pc' := 68) (dt_X6_readTest 35 (67, .aload_n 0, 1) rfl) rfl rfl (aw_iload_n (pc' := 69) (dt_X6_readTest 36 (68, .iload_n 3, 1) rfl) rfl rfl (aw_ineg (pc' := 70) (dt_X6_readTest 37 (69, .ineg, 1) rfl) rfl (aw_inV (pc' := 73) (nc1 := 0) (ns1 := 0) (nc := nc) (ns := ns) (ls' := [some (.ref 19), some (.int (-(zI μ 19 4)))]) (y2 := mX6_write) (As := [.int (-(zI μ 19 4))]) (rest := []) (a := 19) (dt_X6_readTest 38 (70, .invokevirtual 75, 3) rfl) ok_X6_write ln_Reader_75 im_X6_write se_X6_write pr_X6_write (Or.inl ⟨by decide, rfl⟩) rfl (Nat.le_of_ble_eq_true rfl) (Nat.le_of_ble_eq_true rfl) rfl rfl (sk_19 hS3) (aw_aload_n (pc' := 1) (dt_X6_write 0 (0, .aload_n 0, 1) rfl) rfl rfl (aw_getI (pc' := 4) (dt_X6_write 1 (1, .getfield 54, 3) rfl) fl_Reader_54 rfl rfl (sk_19 hS3) (aw_aload_n (pc' := 5) (dt_X6_write 2 (4, .aload_n 0, 1) rfl) rfl rfl (aw_getAs (pc' := 8) (dt_X6_write 3 (5, .getfield 18, 3) rfl) fl_Reader_18 rfl rfl (sk_19 hS3) (sa_19_1 hS3) (aw_alens (pc' := 9) (n := 400) (v := 400) (dt_X6_write 4 (8, .arraylength, 1) rfl) (by decide) (by decide) rfl (sk_25 hS3) (sl_25 hS3) (by decide) (aw_icmp_ge (pc' := 12) (tgt := 32) (dt_X6_write 5 (9, .if_icmp .ge 23, 3) rfl) (by decide) rfl ?_ ?_))))))))))
    · intro q5
      have h := h.1 q5
      obtain ⟨g6, h⟩ := h
      refine aw_ret (dt_X6_write 18 (32, .return_, 1) rfl) rfl (aw_stk (st' := []) rfl (aw_iload_n (pc' := 74) (dt_X6_readTest 39 (73, .iload_n 2, 1) rfl) rfl rfl (aw_iret (dt_X6_readTest 40 (74, .ireturn, 1) rfl) rfl (nb01 g6) ?_)))
      exact h
    · intro q5
      have h := h.2 q5
      obtain ⟨g7, h⟩ := h
      obtain ⟨g8, h⟩ := h
      refine aw_aload_n (pc' := 13) (dt_X6_write 6 (12, .aload_n 0, 1) rfl) rfl rfl (aw_getAs (pc' := 16) (dt_X6_write 7 (13, .getfield 18, 3) rfl) fl_Reader_18 rfl rfl (sk_19 hS3) (sa_19_1 hS3) (aw_aload_n (pc' := 17) (dt_X6_write 8 (16, .aload_n 0, 1) rfl) rfl rfl (aw_getI (pc' := 20) (dt_X6_write 9 (17, .getfield 54, 3) rfl) fl_Reader_54 rfl rfl (sk_19 hS3) (aw_iload_n (pc' := 21) (dt_X6_write 10 (20, .iload_n 1, 1) rfl) rfl rfl (aw_iast (pc' := 22) (dt_X6_write 11 (21, .iastore, 1) rfl) rfl (sk_25 hS3) (by decide) (vin_eq (sl_25 hS3) g7) (aw_aload_n (pc' := 23) (dt_X6_write 12 (22, .aload_n 0, 1) rfl) rfl rfl (aw_dup (pc' := 24) (dt_X6_write 13 (23, .dup, 1) rfl) rfl rfl (aw_getI (pc' := 27) (dt_X6_write 14 (24, .getfield 54, 3) rfl) fl_Reader_54 rfl rfl (sk_19 hS3.wI) (aw_iconst (pc' := 28) (v := 1) (dt_X6_write 15 (27, .iconst 1, 1) rfl) (by decide) rfl (aw_iadd (pc' := 29) (dt_X6_write 16 (28, .iadd, 1) rfl) rfl (aw_putI (pc' := 32) (dt_X6_write 17 (29, .putfield 54, 3) rfl) fl_Reader_54 rfl (by decide +kernel) rfl (sk_19 hS3.wI) (aw_ret (dt_X6_write 18 (32, .return_, 1) rfl) rfl (aw_stk (st' := []) rfl (aw_iload_n (pc' := 74) (dt_X6_readTest 39 (73, .iload_n 2, 1) rfl) rfl rfl (aw_iret (dt_X6_readTest 40 (74, .ireturn, 1) rfl) rfl (nb01 g8) ?_)))))))))))))))
      exact h
  · intro q1
    have h := h.2 q1
    refine aw_aload_n (pc' := 17) (dt_X6_step 8 (16, .aload_n 0, 1) rfl) rfl rfl (aw_getI (pc' := 20) (dt_X6_step 9 (17, .getfield 45, 3) rfl) fl_Reader_45 rfl rfl (sk_19 hS) (aw_iconst (pc' := 21) (v := 1) (dt_X6_step 10 (20, .iconst 1, 1) rfl) (by decide) rfl (aw_iadd (pc' := 22) (dt_X6_step 11 (21, .iadd, 1) rfl) rfl (aw_aload_n (pc' := 23) (dt_X6_step 12 (22, .aload_n 0, 1) rfl) rfl rfl (aw_getAs (pc' := 26) (dt_X6_step 13 (23, .getfield 12, 3) rfl) fl_Reader_12 rfl rfl (sk_19 hS) (sa_19_0 hS) (aw_getAs (pc' := 29) (dt_X6_step 14 (26, .getfield 66, 3) rfl) fl_Reader_66 rfl rfl (sk_20 hS) (sa_20_2 hS) (aw_alens (pc' := 30) (n := 201) (v := 201) (dt_X6_step 15 (29, .arraylength, 1) rfl) (by decide) (by decide) rfl (sk_22 hS) (sl_22 hS) (by decide) (aw_icmp_ge (pc' := 33) (tgt := 59) (dt_X6_step 16 (30, .if_icmp .ge 29, 3) rfl) (by decide) rfl ?_ ?_))))))))
    · intro q9
      have h := h.1 q9
      refine aw_ret (dt_X6_step 31 (59, .return_, 1) rfl) rfl (aw_stk (st' := []) rfl (aw_aload_n (pc' := 62) (dt_X6_readTest 31 (61, .aload_n 0, 1) rfl) rfl rfl (aw_iload_n (pc' := 63) (dt_X6_readTest 32 (62, .iload_n 1, 1) rfl) rfl rfl (aw_callV0 (pc' := 66) (nc := nc) (ns := ns) (y2 := mX6_readSum) (As := [.int x1]) (rest := []) (a := 19) (dt_X6_readTest 33 (63, .invokevirtual 79, 3) rfl) ok_X6_readSum ln_Reader_79 im_X6_readSum se_X6_readSum pr_X6_readSum (Or.inl ⟨by decide, rfl⟩) rfl (Nat.le_of_ble_eq_true rfl) (Nat.le_of_ble_eq_true rfl) rfl (sk_19 hS) h ?_))))
      rintro v μ10 ⟨r12, rfl, hS11, h⟩
      refine aw_stk (st' := [.int r12]) rfl ?_
      refine aw_istore_n (pc' := 67) (ls' := [some (.ref 19), some (.int x1), some (.int r12), some (.int (zI μ 19 4))]) (dt_X6_readTest 34 (66, .istore_n 2, 1) rfl) (by decide) rfl rfl (aw_aload_n (pc' := 68) (dt_X6_readTest 35 (67, .aload_n 0, 1) rfl) rfl rfl (aw_iload_n (pc' := 69) (dt_X6_readTest 36 (68, .iload_n 3, 1) rfl) rfl rfl (aw_ineg (pc' := 70) (dt_X6_readTest 37 (69, .ineg, 1) rfl) rfl (aw_inV (pc' := 73) (nc1 := 0) (ns1 := 0) (nc := nc) (ns := ns) (ls' := [some (.ref 19), some (.int (-(zI μ 19 4)))]) (y2 := mX6_write) (As := [.int (-(zI μ 19 4))]) (rest := []) (a := 19) (dt_X6_readTest 38 (70, .invokevirtual 75, 3) rfl) ok_X6_write ln_Reader_75 im_X6_write se_X6_write pr_X6_write (Or.inl ⟨by decide, rfl⟩) rfl (Nat.le_of_ble_eq_true rfl) (Nat.le_of_ble_eq_true rfl) rfl rfl (sk_19 hS11) (aw_aload_n (pc' := 1) (dt_X6_write 0 (0, .aload_n 0, 1) rfl) rfl rfl (aw_getI (pc' := 4) (dt_X6_write 1 (1, .getfield 54, 3) rfl) fl_Reader_54 rfl rfl (sk_19 hS11) (aw_aload_n (pc' := 5) (dt_X6_write 2 (4, .aload_n 0, 1) rfl) rfl rfl (aw_getAs (pc' := 8) (dt_X6_write 3 (5, .getfield 18, 3) rfl) fl_Reader_18 rfl rfl (sk_19 hS11) (sa_19_1 hS11) (aw_alens (pc' := 9) (n := 400) (v := 400) (dt_X6_write 4 (8, .arraylength, 1) rfl) (by decide) (by decide) rfl (sk_25 hS11) (sl_25 hS11) (by decide) (aw_icmp_ge (pc' := 12) (tgt := 32) (dt_X6_write 5 (9, .if_icmp .ge 23, 3) rfl) (by decide) rfl ?_ ?_))))))))))
      · intro q13
        have h := h.1 q13
        obtain ⟨g14, h⟩ := h
        refine aw_ret (dt_X6_write 18 (32, .return_, 1) rfl) rfl (aw_stk (st' := []) rfl (aw_iload_n (pc' := 74) (dt_X6_readTest 39 (73, .iload_n 2, 1) rfl) rfl rfl (aw_iret (dt_X6_readTest 40 (74, .ireturn, 1) rfl) rfl (nb01 g14) ?_)))
        exact h
      · intro q13
        have h := h.2 q13
        obtain ⟨g15, h⟩ := h
        obtain ⟨g16, h⟩ := h
        refine aw_aload_n (pc' := 13) (dt_X6_write 6 (12, .aload_n 0, 1) rfl) rfl rfl (aw_getAs (pc' := 16) (dt_X6_write 7 (13, .getfield 18, 3) rfl) fl_Reader_18 rfl rfl (sk_19 hS11) (sa_19_1 hS11) (aw_aload_n (pc' := 17) (dt_X6_write 8 (16, .aload_n 0, 1) rfl) rfl rfl (aw_getI (pc' := 20) (dt_X6_write 9 (17, .getfield 54, 3) rfl) fl_Reader_54 rfl rfl (sk_19 hS11) (aw_iload_n (pc' := 21) (dt_X6_write 10 (20, .iload_n 1, 1) rfl) rfl rfl (aw_iast (pc' := 22) (dt_X6_write 11 (21, .iastore, 1) rfl) rfl (sk_25 hS11) (by decide) (vin_eq (sl_25 hS11) g15) (aw_aload_n (pc' := 23) (dt_X6_write 12 (22, .aload_n 0, 1) rfl) rfl rfl (aw_dup (pc' := 24) (dt_X6_write 13 (23, .dup, 1) rfl) rfl rfl (aw_getI (pc' := 27) (dt_X6_write 14 (24, .getfield 54, 3) rfl) fl_Reader_54 rfl rfl (sk_19 hS11.wI) (aw_iconst (pc' := 28) (v := 1) (dt_X6_write 15 (27, .iconst 1, 1) rfl) (by decide) rfl (aw_iadd (pc' := 29) (dt_X6_write 16 (28, .iadd, 1) rfl) rfl (aw_putI (pc' := 32) (dt_X6_write 17 (29, .putfield 54, 3) rfl) fl_Reader_54 rfl (by decide +kernel) rfl (sk_19 hS11.wI) (aw_ret (dt_X6_write 18 (32, .return_, 1) rfl) rfl (aw_stk (st' := []) rfl (aw_iload_n (pc' := 74) (dt_X6_readTest 39 (73, .iload_n 2, 1) rfl) rfl rfl (aw_iret (dt_X6_readTest 40 (74, .ireturn, 1) rfl) rfl (nb01 g16) ?_)))))))))))))))
        exact h
    · intro q9
      have h := h.2 q9
      obtain ⟨g17, h⟩ := h
      refine aw_aload_n (pc' := 34) (dt_X6_step 17 (33, .aload_n 0, 1) rfl) rfl rfl (aw_dup (pc' := 35) (dt_X6_step 18 (34, .dup, 1) rfl) rfl rfl (aw_getI (pc' := 38) (dt_X6_step 19 (35, .getfield 45, 3) rfl) fl_Reader_45 rfl rfl (sk_19 hS) (aw_iconst (pc' := 39) (v := 1) (dt_X6_step 20 (38, .iconst 1, 1) rfl) (by decide) rfl (aw_iadd (pc' := 40) (dt_X6_step 21 (39, .iadd, 1) rfl) rfl (aw_putI (pc' := 43) (dt_X6_step 22 (40, .putfield 45, 3) rfl) fl_Reader_45 rfl (by decide +kernel) rfl (sk_19 hS) (aw_aload_n (pc' := 44) (dt_X6_step 23 (43, .aload_n 0, 1) rfl) rfl rfl (aw_aload_n (pc' := 45) (dt_X6_step 24 (44, .aload_n 0, 1) rfl) rfl rfl (aw_getAs (pc' := 48) (dt_X6_step 25 (45, .getfield 12, 3) rfl) fl_Reader_12 rfl rfl (sk_19 hS.wI) (sa_19_0 hS.wI) (aw_getAs (pc' := 51) (dt_X6_step 26 (48, .getfield 66, 3) rfl) fl_Reader_66 rfl rfl (sk_20 hS.wI) (sa_20_2 hS.wI) (aw_aload_n (pc' := 52) (dt_X6_step 27 (51, .aload_n 0, 1) rfl) rfl rfl (aw_getI (pc' := 55) (dt_X6_step 28 (52, .getfield 45, 3) rfl) fl_Reader_45 rfl rfl (sk_19 hS.wI) (aw_iald (pc' := 56) (dt_X6_step 29 (55, .iaload, 1) rfl) rfl (sk_22 hS.wI) (vin_eq (sl_22 hS.wI) g17) (aw_putI (pc' := 59) (dt_X6_step 30 (56, .putfield 22, 3) rfl) fl_Reader_22 rfl (by decide +kernel) rfl (sk_19 hS.wI) (aw_ret (dt_X6_step 31 (59, .return_, 1) rfl) rfl (aw_stk (st' := []) rfl (aw_aload_n (pc' := 62) (dt_X6_readTest 31 (61, .aload_n 0, 1) rfl) rfl rfl (aw_iload_n (pc' := 63) (dt_X6_readTest 32 (62, .iload_n 1, 1) rfl) rfl rfl (aw_callV0 (pc' := 66) (nc := nc) (ns := ns) (y2 := mX6_readSum) (As := [.int x1]) (rest := []) (a := 19) (dt_X6_readTest 33 (63, .invokevirtual 79, 3) rfl) ok_X6_readSum ln_Reader_79 im_X6_readSum se_X6_readSum pr_X6_readSum (Or.inl ⟨by decide, rfl⟩) rfl (Nat.le_of_ble_eq_true rfl) (Nat.le_of_ble_eq_true rfl) rfl (sk_19 hS.wI.wI) h ?_))))))))))))))))))
      rintro v μ18 ⟨r20, rfl, hS19, h⟩
      refine aw_stk (st' := [.int r20]) rfl ?_
      refine aw_istore_n (pc' := 67) (ls' := [some (.ref 19), some (.int x1), some (.int r20), some (.int (zI μ 19 4))]) (dt_X6_readTest 34 (66, .istore_n 2, 1) rfl) (by decide) rfl rfl (aw_aload_n (pc' := 68) (dt_X6_readTest 35 (67, .aload_n 0, 1) rfl) rfl rfl (aw_iload_n (pc' := 69) (dt_X6_readTest 36 (68, .iload_n 3, 1) rfl) rfl rfl (aw_ineg (pc' := 70) (dt_X6_readTest 37 (69, .ineg, 1) rfl) rfl (aw_inV (pc' := 73) (nc1 := 0) (ns1 := 0) (nc := nc) (ns := ns) (ls' := [some (.ref 19), some (.int (-(zI μ 19 4)))]) (y2 := mX6_write) (As := [.int (-(zI μ 19 4))]) (rest := []) (a := 19) (dt_X6_readTest 38 (70, .invokevirtual 75, 3) rfl) ok_X6_write ln_Reader_75 im_X6_write se_X6_write pr_X6_write (Or.inl ⟨by decide, rfl⟩) rfl (Nat.le_of_ble_eq_true rfl) (Nat.le_of_ble_eq_true rfl) rfl rfl (sk_19 hS19) (aw_aload_n (pc' := 1) (dt_X6_write 0 (0, .aload_n 0, 1) rfl) rfl rfl (aw_getI (pc' := 4) (dt_X6_write 1 (1, .getfield 54, 3) rfl) fl_Reader_54 rfl rfl (sk_19 hS19) (aw_aload_n (pc' := 5) (dt_X6_write 2 (4, .aload_n 0, 1) rfl) rfl rfl (aw_getAs (pc' := 8) (dt_X6_write 3 (5, .getfield 18, 3) rfl) fl_Reader_18 rfl rfl (sk_19 hS19) (sa_19_1 hS19) (aw_alens (pc' := 9) (n := 400) (v := 400) (dt_X6_write 4 (8, .arraylength, 1) rfl) (by decide) (by decide) rfl (sk_25 hS19) (sl_25 hS19) (by decide) (aw_icmp_ge (pc' := 12) (tgt := 32) (dt_X6_write 5 (9, .if_icmp .ge 23, 3) rfl) (by decide) rfl ?_ ?_))))))))))
      · intro q21
        have h := h.1 q21
        obtain ⟨g22, h⟩ := h
        refine aw_ret (dt_X6_write 18 (32, .return_, 1) rfl) rfl (aw_stk (st' := []) rfl (aw_iload_n (pc' := 74) (dt_X6_readTest 39 (73, .iload_n 2, 1) rfl) rfl rfl (aw_iret (dt_X6_readTest 40 (74, .ireturn, 1) rfl) rfl (nb01 g22) ?_)))
        exact h
      · intro q21
        have h := h.2 q21
        obtain ⟨g23, h⟩ := h
        obtain ⟨g24, h⟩ := h
        refine aw_aload_n (pc' := 13) (dt_X6_write 6 (12, .aload_n 0, 1) rfl) rfl rfl (aw_getAs (pc' := 16) (dt_X6_write 7 (13, .getfield 18, 3) rfl) fl_Reader_18 rfl rfl (sk_19 hS19) (sa_19_1 hS19) (aw_aload_n (pc' := 17) (dt_X6_write 8 (16, .aload_n 0, 1) rfl) rfl rfl (aw_getI (pc' := 20) (dt_X6_write 9 (17, .getfield 54, 3) rfl) fl_Reader_54 rfl rfl (sk_19 hS19) (aw_iload_n (pc' := 21) (dt_X6_write 10 (20, .iload_n 1, 1) rfl) rfl rfl (aw_iast (pc' := 22) (dt_X6_write 11 (21, .iastore, 1) rfl) rfl (sk_25 hS19) (by decide) (vin_eq (sl_25 hS19) g23) (aw_aload_n (pc' := 23) (dt_X6_write 12 (22, .aload_n 0, 1) rfl) rfl rfl (aw_dup (pc' := 24) (dt_X6_write 13 (23, .dup, 1) rfl) rfl rfl (aw_getI (pc' := 27) (dt_X6_write 14 (24, .getfield 54, 3) rfl) fl_Reader_54 rfl rfl (sk_19 hS19.wI) (aw_iconst (pc' := 28) (v := 1) (dt_X6_write 15 (27, .iconst 1, 1) rfl) (by decide) rfl (aw_iadd (pc' := 29) (dt_X6_write 16 (28, .iadd, 1) rfl) rfl (aw_putI (pc' := 32) (dt_X6_write 17 (29, .putfield 54, 3) rfl) fl_Reader_54 rfl (by decide +kernel) rfl (sk_19 hS19.wI) (aw_ret (dt_X6_write 18 (32, .return_, 1) rfl) rfl (aw_stk (st' := []) rfl (aw_iload_n (pc' := 74) (dt_X6_readTest 39 (73, .iload_n 2, 1) rfl) rfl rfl (aw_iret (dt_X6_readTest 40 (74, .ireturn, 1) rfl) rfl (nb01 g24) ?_)))))))))))))))
        exact h

theorem t_X6_readNot {E : ZE} {l : Launch} {d nc ns : Nat} {x1 : Int32} {μ : ZM} {K : Option Value → ZM → Prop} (hS : Stat μ) (h :
  (x1 < 10 →
    ((zI μ 20 5) ≤ ((zI μ 19 3) + 1) →
      AW E l d 0 0 mX6_readTest 0 (zargs 4 [.ref 19, .int (x1 + 1)]) [] μ (fun v μ3 => ∃ r5 : Int32, v = some (.int r5) ∧ Stat μ3 ∧ 
        (400 ≤ (zI μ3 19 2) →
          (r5 = 0 ∨ r5 = 1) ∧
          K (some (.int r5)) μ3) ∧
        (¬ 400 ≤ (zI μ3 19 2) →
          (vp_in (zI μ3 19 2) 400) ∧
          (r5 = 0 ∨ r5 = 1) ∧
          K (some (.int r5)) (sI (sI μ3 25 (zI μ3 19 2).toNatClampNeg (-1)) 19 2 ((zI (sI μ3 25 (zI μ3 19 2).toNatClampNeg (-1)) 19 2) + 1))))) ∧
    (¬ (zI μ 20 5) ≤ ((zI μ 19 3) + 1) →
      (201 ≤ ((zI μ 19 3) + 1) →
        AW E l d 0 0 mX6_readTest 0 (zargs 4 [.ref 19, .int (x1 + 1)]) [] μ (fun v μ11 => ∃ r13 : Int32, v = some (.int r13) ∧ Stat μ11 ∧ 
          (400 ≤ (zI μ11 19 2) →
            (r13 = 0 ∨ r13 = 1) ∧
            K (some (.int r13)) μ11) ∧
          (¬ 400 ≤ (zI μ11 19 2) →
            (vp_in (zI μ11 19 2) 400) ∧
            (r13 = 0 ∨ r13 = 1) ∧
            K (some (.int r13)) (sI (sI μ11 25 (zI μ11 19 2).toNatClampNeg (-1)) 19 2 ((zI (sI μ11 25 (zI μ11 19 2).toNatClampNeg (-1)) 19 2) + 1))))) ∧
      (¬ 201 ≤ ((zI μ 19 3) + 1) →
        (vp_in (zI (sI μ 19 3 ((zI μ 19 3) + 1)) 19 3) 201) ∧
        AW E l d 0 0 mX6_readTest 0 (zargs 4 [.ref 19, .int (x1 + 1)]) [] (sI (sI μ 19 3 ((zI μ 19 3) + 1)) 19 4 (zI (sI μ 19 3 ((zI μ 19 3) + 1)) 22 (zI (sI μ 19 3 ((zI μ 19 3) + 1)) 19 3).toNatClampNeg)) (fun v μ19 => ∃ r21 : Int32, v = some (.int r21) ∧ Stat μ19 ∧ 
          (400 ≤ (zI μ19 19 2) →
            (r21 = 0 ∨ r21 = 1) ∧
            K (some (.int r21)) μ19) ∧
          (¬ 400 ≤ (zI μ19 19 2) →
            (vp_in (zI μ19 19 2) 400) ∧
            (r21 = 0 ∨ r21 = 1) ∧
            K (some (.int r21)) (sI (sI μ19 25 (zI μ19 19 2).toNatClampNeg (-1)) 19 2 ((zI (sI μ19 25 (zI μ19 19 2).toNatClampNeg (-1)) 19 2) + 1))))))) ∧
  (¬ x1 < 10 →
    K (some (.int 0)) μ)) : AW E l (d + 1) nc ns mX6_readNot 0 [some (.ref 19), some (.int x1), none] [] μ K := by
  refine aw_iload_n (pc' := 1) (dt_X6_readNot 0 (0, .iload_n 1, 1) rfl) rfl rfl (aw_bipush (pc' := 3) (v := 10) (dt_X6_readNot 1 (1, .bipush 10, 2) rfl) (by decide) rfl (aw_icmp_lt (pc' := 6) (tgt := 8) (dt_X6_readNot 2 (3, .if_icmp .lt 5, 3) rfl) (by decide) rfl ?_ ?_))
  · intro q1
    have h := h.1 q1
    refine aw_aload_n (pc' := 9) (dt_X6_readNot 5 (8, .aload_n 0, 1) rfl) rfl rfl (aw_inV (pc' := 12) (nc1 := 0) (ns1 := 0) (nc := nc) (ns := ns) (ls' := [some (.ref 19)]) (y2 := mX6_step) (As := []) (rest := []) (a := 19) (dt_X6_readNot 6 (9, .invokevirtual 36, 3) rfl) ok_X6_step ln_Reader_36 im_X6_step se_X6_step pr_X6_step (Or.inl ⟨by decide, rfl⟩) rfl (Nat.le_of_ble_eq_true rfl) (Nat.le_of_ble_eq_true rfl) rfl rfl (sk_19 hS) (aw_aload_n (pc' := 1) (dt_X6_step 0 (0, .aload_n 0, 1) rfl) rfl rfl (aw_getI (pc' := 4) (dt_X6_step 1 (1, .getfield 45, 3) rfl) fl_Reader_45 rfl rfl (sk_19 hS) (aw_iconst (pc' := 5) (v := 1) (dt_X6_step 2 (4, .iconst 1, 1) rfl) (by decide) rfl (aw_iadd (pc' := 6) (dt_X6_step 3 (5, .iadd, 1) rfl) rfl (aw_aload_n (pc' := 7) (dt_X6_step 4 (6, .aload_n 0, 1) rfl) rfl rfl (aw_getAs (pc' := 10) (dt_X6_step 5 (7, .getfield 12, 3) rfl) fl_Reader_12 rfl rfl (sk_19 hS) (sa_19_0 hS) (aw_getI (pc' := 13) (dt_X6_step 6 (10, .getfield 69, 3) rfl) fl_Reader_69 rfl rfl (sk_20 hS) (aw_icmp_ge (pc' := 16) (tgt := 59) (dt_X6_step 7 (13, .if_icmp .ge 46, 3) rfl) (by decide) rfl ?_ ?_)))))))))
    · intro q2
      have h := h.1 q2
      refine aw_ret (dt_X6_step 31 (59, .return_, 1) rfl) rfl (aw_stk (st' := []) rfl (aw_aload_n (pc' := 13) (dt_X6_readNot 7 (12, .aload_n 0, 1) rfl) rfl rfl (aw_iload_n (pc' := 14) (dt_X6_readNot 8 (13, .iload_n 1, 1) rfl) rfl rfl (aw_iconst (pc' := 15) (v := 1) (dt_X6_readNot 9 (14, .iconst 1, 1) rfl) (by decide) rfl (aw_iadd (pc' := 16) (dt_X6_readNot 10 (15, .iadd, 1) rfl) rfl (aw_callV0 (pc' := 19) (nc := nc) (ns := ns) (y2 := mX6_readTest) (As := [.int (x1 + 1)]) (rest := []) (a := 19) (dt_X6_readNot 11 (16, .invokevirtual 85, 3) rfl) ok_X6_readTest ln_Reader_85 im_X6_readTest se_X6_readTest pr_X6_readTest (Or.inl ⟨by decide, rfl⟩) rfl (Nat.le_of_ble_eq_true rfl) (Nat.le_of_ble_eq_true rfl) rfl (sk_19 hS) h ?_))))))
      rintro v μ3 ⟨r5, rfl, hS4, h⟩
      refine aw_stk (st' := [.int r5]) rfl ?_
      refine aw_istore_n (pc' := 20) (ls' := [some (.ref 19), some (.int x1), some (.int r5)]) (dt_X6_readNot 12 (19, .istore_n 2, 1) rfl) (by decide) rfl rfl (aw_aload_n (pc' := 21) (dt_X6_readNot 13 (20, .aload_n 0, 1) rfl) rfl rfl (aw_iconst (pc' := 22) (v := (-1)) (dt_X6_readNot 14 (21, .iconst (-1), 1) rfl) (by decide) rfl (aw_inV (pc' := 25) (nc1 := 0) (ns1 := 0) (nc := nc) (ns := ns) (ls' := [some (.ref 19), some (.int (-1))]) (y2 := mX6_write) (As := [.int (-1)]) (rest := []) (a := 19) (dt_X6_readNot 15 (22, .invokevirtual 75, 3) rfl) ok_X6_write ln_Reader_75 im_X6_write se_X6_write pr_X6_write (Or.inl ⟨by decide, rfl⟩) rfl (Nat.le_of_ble_eq_true rfl) (Nat.le_of_ble_eq_true rfl) rfl rfl (sk_19 hS4) (aw_aload_n (pc' := 1) (dt_X6_write 0 (0, .aload_n 0, 1) rfl) rfl rfl (aw_getI (pc' := 4) (dt_X6_write 1 (1, .getfield 54, 3) rfl) fl_Reader_54 rfl rfl (sk_19 hS4) (aw_aload_n (pc' := 5) (dt_X6_write 2 (4, .aload_n 0, 1) rfl) rfl rfl (aw_getAs (pc' := 8) (dt_X6_write 3 (5, .getfield 18, 3) rfl) fl_Reader_18 rfl rfl (sk_19 hS4) (sa_19_1 hS4) (aw_alens (pc' := 9) (n := 400) (v := 400) (dt_X6_write 4 (8, .arraylength, 1) rfl) (by decide) (by decide) rfl (sk_25 hS4) (sl_25 hS4) (by decide) (aw_icmp_ge (pc' := 12) (tgt := 32) (dt_X6_write 5 (9, .if_icmp .ge 23, 3) rfl) (by decide) rfl ?_ ?_)))))))))
      · intro q6
        have h := h.1 q6
        obtain ⟨g7, h⟩ := h
        refine aw_ret (dt_X6_write 18 (32, .return_, 1) rfl) rfl (aw_stk (st' := []) rfl (aw_iload_n (pc' := 26) (dt_X6_readNot 16 (25, .iload_n 2, 1) rfl) rfl rfl (aw_iret (dt_X6_readNot 17 (26, .ireturn, 1) rfl) rfl (nb01 g7) ?_)))
        exact h
      · intro q6
        have h := h.2 q6
        obtain ⟨g8, h⟩ := h
        obtain ⟨g9, h⟩ := h
        refine aw_aload_n (pc' := 13) (dt_X6_write 6 (12, .aload_n 0, 1) rfl) rfl rfl (aw_getAs (pc' := 16) (dt_X6_write 7 (13, .getfield 18, 3) rfl) fl_Reader_18 rfl rfl (sk_19 hS4) (sa_19_1 hS4) (aw_aload_n (pc' := 17) (dt_X6_write 8 (16, .aload_n 0, 1) rfl) rfl rfl (aw_getI (pc' := 20) (dt_X6_write 9 (17, .getfield 54, 3) rfl) fl_Reader_54 rfl rfl (sk_19 hS4) (aw_iload_n (pc' := 21) (dt_X6_write 10 (20, .iload_n 1, 1) rfl) rfl rfl (aw_iast (pc' := 22) (dt_X6_write 11 (21, .iastore, 1) rfl) rfl (sk_25 hS4) (by decide) (vin_eq (sl_25 hS4) g8) (aw_aload_n (pc' := 23) (dt_X6_write 12 (22, .aload_n 0, 1) rfl) rfl rfl (aw_dup (pc' := 24) (dt_X6_write 13 (23, .dup, 1) rfl) rfl rfl (aw_getI (pc' := 27) (dt_X6_write 14 (24, .getfield 54, 3) rfl) fl_Reader_54 rfl rfl (sk_19 hS4.wI) (aw_iconst (pc' := 28) (v := 1) (dt_X6_write 15 (27, .iconst 1, 1) rfl) (by decide) rfl (aw_iadd (pc' := 29) (dt_X6_write 16 (28, .iadd, 1) rfl) rfl (aw_putI (pc' := 32) (dt_X6_write 17 (29, .putfield 54, 3) rfl) fl_Reader_54 rfl (by decide +kernel) rfl (sk_19 hS4.wI) (aw_ret (dt_X6_write 18 (32, .return_, 1) rfl) rfl (aw_stk (st' := []) rfl (aw_iload_n (pc' := 26) (dt_X6_readNot 16 (25, .iload_n 2, 1) rfl) rfl rfl (aw_iret (dt_X6_readNot 17 (26, .ireturn, 1) rfl) rfl (nb01 g9) ?_)))))))))))))))
        exact h
    · intro q2
      have h := h.2 q2
      refine aw_aload_n (pc' := 17) (dt_X6_step 8 (16, .aload_n 0, 1) rfl) rfl rfl (aw_getI (pc' := 20) (dt_X6_step 9 (17, .getfield 45, 3) rfl) fl_Reader_45 rfl rfl (sk_19 hS) (aw_iconst (pc' := 21) (v := 1) (dt_X6_step 10 (20, .iconst 1, 1) rfl) (by decide) rfl (aw_iadd (pc' := 22) (dt_X6_step 11 (21, .iadd, 1) rfl) rfl (aw_aload_n (pc' := 23) (dt_X6_step 12 (22, .aload_n 0, 1) rfl) rfl rfl (aw_getAs (pc' := 26) (dt_X6_step 13 (23, .getfield 12, 3) rfl) fl_Reader_12 rfl rfl (sk_19 hS) (sa_19_0 hS) (aw_getAs (pc' := 29) (dt_X6_step 14 (26, .getfield 66, 3) rfl) fl_Reader_66 rfl rfl (sk_20 hS) (sa_20_2 hS) (aw_alens (pc' := 30) (n := 201) (v := 201) (dt_X6_step 15 (29, .arraylength, 1) rfl) (by decide) (by decide) rfl (sk_22 hS) (sl_22 hS) (by decide) (aw_icmp_ge (pc' := 33) (tgt := 59) (dt_X6_step 16 (30, .if_icmp .ge 29, 3) rfl) (by decide) rfl ?_ ?_))))))))
      · intro q10
        have h := h.1 q10
        refine aw_ret (dt_X6_step 31 (59, .return_, 1) rfl) rfl (aw_stk (st' := []) rfl (aw_aload_n (pc' := 13) (dt_X6_readNot 7 (12, .aload_n 0, 1) rfl) rfl rfl (aw_iload_n (pc' := 14) (dt_X6_readNot 8 (13, .iload_n 1, 1) rfl) rfl rfl (aw_iconst (pc' := 15) (v := 1) (dt_X6_readNot 9 (14, .iconst 1, 1) rfl) (by decide) rfl (aw_iadd (pc' := 16) (dt_X6_readNot 10 (15, .iadd, 1) rfl) rfl (aw_callV0 (pc' := 19) (nc := nc) (ns := ns) (y2 := mX6_readTest) (As := [.int (x1 + 1)]) (rest := []) (a := 19) (dt_X6_readNot 11 (16, .invokevirtual 85, 3) rfl) ok_X6_readTest ln_Reader_85 im_X6_readTest se_X6_readTest pr_X6_readTest (Or.inl ⟨by decide, rfl⟩) rfl (Nat.le_of_ble_eq_true rfl) (Nat.le_of_ble_eq_true rfl) rfl (sk_19 hS) h ?_))))))
        rintro v μ11 ⟨r13, rfl, hS12, h⟩
        refine aw_stk (st' := [.int r13]) rfl ?_
        refine aw_istore_n (pc' := 20) (ls' := [some (.ref 19), some (.int x1), some (.int r13)]) (dt_X6_readNot 12 (19, .istore_n 2, 1) rfl) (by decide) rfl rfl (aw_aload_n (pc' := 21) (dt_X6_readNot 13 (20, .aload_n 0, 1) rfl) rfl rfl (aw_iconst (pc' := 22) (v := (-1)) (dt_X6_readNot 14 (21, .iconst (-1), 1) rfl) (by decide) rfl (aw_inV (pc' := 25) (nc1 := 0) (ns1 := 0) (nc := nc) (ns := ns) (ls' := [some (.ref 19), some (.int (-1))]) (y2 := mX6_write) (As := [.int (-1)]) (rest := []) (a := 19) (dt_X6_readNot 15 (22, .invokevirtual 75, 3) rfl) ok_X6_write ln_Reader_75 im_X6_write se_X6_write pr_X6_write (Or.inl ⟨by decide, rfl⟩) rfl (Nat.le_of_ble_eq_true rfl) (Nat.le_of_ble_eq_true rfl) rfl rfl (sk_19 hS12) (aw_aload_n (pc' := 1) (dt_X6_write 0 (0, .aload_n 0, 1) rfl) rfl rfl (aw_getI (pc' := 4) (dt_X6_write 1 (1, .getfield 54, 3) rfl) fl_Reader_54 rfl rfl (sk_19 hS12) (aw_aload_n (pc' := 5) (dt_X6_write 2 (4, .aload_n 0, 1) rfl) rfl rfl (aw_getAs (pc' := 8) (dt_X6_write 3 (5, .getfield 18, 3) rfl) fl_Reader_18 rfl rfl (sk_19 hS12) (sa_19_1 hS12) (aw_alens (pc' := 9) (n := 400) (v := 400) (dt_X6_write 4 (8, .arraylength, 1) rfl) (by decide) (by decide) rfl (sk_25 hS12) (sl_25 hS12) (by decide) (aw_icmp_ge (pc' := 12) (tgt := 32) (dt_X6_write 5 (9, .if_icmp .ge 23, 3) rfl) (by decide) rfl ?_ ?_)))))))))
        · intro q14
          have h := h.1 q14
          obtain ⟨g15, h⟩ := h
          refine aw_ret (dt_X6_write 18 (32, .return_, 1) rfl) rfl (aw_stk (st' := []) rfl (aw_iload_n (pc' := 26) (dt_X6_readNot 16 (25, .iload_n 2, 1) rfl) rfl rfl (aw_iret (dt_X6_readNot 17 (26, .ireturn, 1) rfl) rfl (nb01 g15) ?_)))
          exact h
        · intro q14
          have h := h.2 q14
          obtain ⟨g16, h⟩ := h
          obtain ⟨g17, h⟩ := h
          refine aw_aload_n (pc' := 13) (dt_X6_write 6 (12, .aload_n 0, 1) rfl) rfl rfl (aw_getAs (pc' := 16) (dt_X6_write 7 (13, .getfield 18, 3) rfl) fl_Reader_18 rfl rfl (sk_19 hS12) (sa_19_1 hS12) (aw_aload_n (pc' := 17) (dt_X6_write 8 (16, .aload_n 0, 1) rfl) rfl rfl (aw_getI (pc' := 20) (dt_X6_write 9 (17, .getfield 54, 3) rfl) fl_Reader_54 rfl rfl (sk_19 hS12) (aw_iload_n (pc' := 21) (dt_X6_write 10 (20, .iload_n 1, 1) rfl) rfl rfl (aw_iast (pc' := 22) (dt_X6_write 11 (21, .iastore, 1) rfl) rfl (sk_25 hS12) (by decide) (vin_eq (sl_25 hS12) g16) (aw_aload_n (pc' := 23) (dt_X6_write 12 (22, .aload_n 0, 1) rfl) rfl rfl (aw_dup (pc' := 24) (dt_X6_write 13 (23, .dup, 1) rfl) rfl rfl (aw_getI (pc' := 27) (dt_X6_write 14 (24, .getfield 54, 3) rfl) fl_Reader_54 rfl rfl (sk_19 hS12.wI) (aw_iconst (pc' := 28) (v := 1) (dt_X6_write 15 (27, .iconst 1, 1) rfl) (by decide) rfl (aw_iadd (pc' := 29) (dt_X6_write 16 (28, .iadd, 1) rfl) rfl (aw_putI (pc' := 32) (dt_X6_write 17 (29, .putfield 54, 3) rfl) fl_Reader_54 rfl (by decide +kernel) rfl (sk_19 hS12.wI) (aw_ret (dt_X6_write 18 (32, .return_, 1) rfl) rfl (aw_stk (st' := []) rfl (aw_iload_n (pc' := 26) (dt_X6_readNot 16 (25, .iload_n 2, 1) rfl) rfl rfl (aw_iret (dt_X6_readNot 17 (26, .ireturn, 1) rfl) rfl (nb01 g17) ?_)))))))))))))))
          exact h
      · intro q10
        have h := h.2 q10
        obtain ⟨g18, h⟩ := h
        refine aw_aload_n (pc' := 34) (dt_X6_step 17 (33, .aload_n 0, 1) rfl) rfl rfl (aw_dup (pc' := 35) (dt_X6_step 18 (34, .dup, 1) rfl) rfl rfl (aw_getI (pc' := 38) (dt_X6_step 19 (35, .getfield 45, 3) rfl) fl_Reader_45 rfl rfl (sk_19 hS) (aw_iconst (pc' := 39) (v := 1) (dt_X6_step 20 (38, .iconst 1, 1) rfl) (by decide) rfl (aw_iadd (pc' := 40) (dt_X6_step 21 (39, .iadd, 1) rfl) rfl (aw_putI (pc' := 43) (dt_X6_step 22 (40, .putfield 45, 3) rfl) fl_Reader_45 rfl (by decide +kernel) rfl (sk_19 hS) (aw_aload_n (pc' := 44) (dt_X6_step 23 (43, .aload_n 0, 1) rfl) rfl rfl (aw_aload_n (pc' := 45) (dt_X6_step 24 (44, .aload_n 0, 1) rfl) rfl rfl (aw_getAs (pc' := 48) (dt_X6_step 25 (45, .getfield 12, 3) rfl) fl_Reader_12 rfl rfl (sk_19 hS.wI) (sa_19_0 hS.wI) (aw_getAs (pc' := 51) (dt_X6_step 26 (48, .getfield 66, 3) rfl) fl_Reader_66 rfl rfl (sk_20 hS.wI) (sa_20_2 hS.wI) (aw_aload_n (pc' := 52) (dt_X6_step 27 (51, .aload_n 0, 1) rfl) rfl rfl (aw_getI (pc' := 55) (dt_X6_step 28 (52, .getfield 45, 3) rfl) fl_Reader_45 rfl rfl (sk_19 hS.wI) (aw_iald (pc' := 56) (dt_X6_step 29 (55, .iaload, 1) rfl) rfl (sk_22 hS.wI) (vin_eq (sl_22 hS.wI) g18) (aw_putI (pc' := 59) (dt_X6_step 30 (56, .putfield 22, 3) rfl) fl_Reader_22 rfl (by decide +kernel) rfl (sk_19 hS.wI) (aw_ret (dt_X6_step 31 (59, .return_, 1) rfl) rfl (aw_stk (st' := []) rfl (aw_aload_n (pc' := 13) (dt_X6_readNot 7 (12, .aload_n 0, 1) rfl) rfl rfl (aw_iload_n (pc' := 14) (dt_X6_readNot 8 (13, .iload_n 1, 1) rfl) rfl rfl (aw_iconst (pc' := 15) (v := 1) (dt_X6_readNot 9 (14, .iconst 1, 1) rfl) (by decide) rfl (aw_iadd (pc' := 16) (dt_X6_readNot 10 (15, .iadd, 1) rfl) rfl (aw_callV0 (pc' := 19) (nc := nc) (ns := ns) (y2 := mX6_readTest) (As := [.int (x1 + 1)]) (rest := []) (a := 19) (dt_X6_readNot 11 (16, .invokevirtual 85, 3) rfl) ok_X6_readTest ln_Reader_85 im_X6_readTest se_X6_readTest pr_X6_readTest (Or.inl ⟨by decide, rfl⟩) rfl (Nat.le_of_ble_eq_true rfl) (Nat.le_of_ble_eq_true rfl) rfl (sk_19 hS.wI.wI) h ?_))))))))))))))))))))
        rintro v μ19 ⟨r21, rfl, hS20, h⟩
        refine aw_stk (st' := [.int r21]) rfl ?_
        refine aw_istore_n (pc' := 20) (ls' := [some (.ref 19), some (.int x1), some (.int r21)]) (dt_X6_readNot 12 (19, .istore_n 2, 1) rfl) (by decide) rfl rfl (aw_aload_n (pc' := 21) (dt_X6_readNot 13 (20, .aload_n 0, 1) rfl) rfl rfl (aw_iconst (pc' := 22) (v := (-1)) (dt_X6_readNot 14 (21, .iconst (-1), 1) rfl) (by decide) rfl (aw_inV (pc' := 25) (nc1 := 0) (ns1 := 0) (nc := nc) (ns := ns) (ls' := [some (.ref 19), some (.int (-1))]) (y2 := mX6_write) (As := [.int (-1)]) (rest := []) (a := 19) (dt_X6_readNot 15 (22, .invokevirtual 75, 3) rfl) ok_X6_write ln_Reader_75 im_X6_write se_X6_write pr_X6_write (Or.inl ⟨by decide, rfl⟩) rfl (Nat.le_of_ble_eq_true rfl) (Nat.le_of_ble_eq_true rfl) rfl rfl (sk_19 hS20) (aw_aload_n (pc' := 1) (dt_X6_write 0 (0, .aload_n 0, 1) rfl) rfl rfl (aw_getI (pc' := 4) (dt_X6_write 1 (1, .getfield 54, 3) rfl) fl_Reader_54 rfl rfl (sk_19 hS20) (aw_aload_n (pc' := 5) (dt_X6_write 2 (4, .aload_n 0, 1) rfl) rfl rfl (aw_getAs (pc' := 8) (dt_X6_write 3 (5, .getfield 18, 3) rfl) fl_Reader_18 rfl rfl (sk_19 hS20) (sa_19_1 hS20) (aw_alens (pc' := 9) (n := 400) (v := 400) (dt_X6_write 4 (8, .arraylength, 1) rfl) (by decide) (by decide) rfl (sk_25 hS20) (sl_25 hS20) (by decide) (aw_icmp_ge (pc' := 12) (tgt := 32) (dt_X6_write 5 (9, .if_icmp .ge 23, 3) rfl) (by decide) rfl ?_ ?_)))))))))
        · intro q22
          have h := h.1 q22
          obtain ⟨g23, h⟩ := h
          refine aw_ret (dt_X6_write 18 (32, .return_, 1) rfl) rfl (aw_stk (st' := []) rfl (aw_iload_n (pc' := 26) (dt_X6_readNot 16 (25, .iload_n 2, 1) rfl) rfl rfl (aw_iret (dt_X6_readNot 17 (26, .ireturn, 1) rfl) rfl (nb01 g23) ?_)))
          exact h
        · intro q22
          have h := h.2 q22
          obtain ⟨g24, h⟩ := h
          obtain ⟨g25, h⟩ := h
          refine aw_aload_n (pc' := 13) (dt_X6_write 6 (12, .aload_n 0, 1) rfl) rfl rfl (aw_getAs (pc' := 16) (dt_X6_write 7 (13, .getfield 18, 3) rfl) fl_Reader_18 rfl rfl (sk_19 hS20) (sa_19_1 hS20) (aw_aload_n (pc' := 17) (dt_X6_write 8 (16, .aload_n 0, 1) rfl) rfl rfl (aw_getI (pc' := 20) (dt_X6_write 9 (17, .getfield 54, 3) rfl) fl_Reader_54 rfl rfl (sk_19 hS20) (aw_iload_n (pc' := 21) (dt_X6_write 10 (20, .iload_n 1, 1) rfl) rfl rfl (aw_iast (pc' := 22) (dt_X6_write 11 (21, .iastore, 1) rfl) rfl (sk_25 hS20) (by decide) (vin_eq (sl_25 hS20) g24) (aw_aload_n (pc' := 23) (dt_X6_write 12 (22, .aload_n 0, 1) rfl) rfl rfl (aw_dup (pc' := 24) (dt_X6_write 13 (23, .dup, 1) rfl) rfl rfl (aw_getI (pc' := 27) (dt_X6_write 14 (24, .getfield 54, 3) rfl) fl_Reader_54 rfl rfl (sk_19 hS20.wI) (aw_iconst (pc' := 28) (v := 1) (dt_X6_write 15 (27, .iconst 1, 1) rfl) (by decide) rfl (aw_iadd (pc' := 29) (dt_X6_write 16 (28, .iadd, 1) rfl) rfl (aw_putI (pc' := 32) (dt_X6_write 17 (29, .putfield 54, 3) rfl) fl_Reader_54 rfl (by decide +kernel) rfl (sk_19 hS20.wI) (aw_ret (dt_X6_write 18 (32, .return_, 1) rfl) rfl (aw_stk (st' := []) rfl (aw_iload_n (pc' := 26) (dt_X6_readNot 16 (25, .iload_n 2, 1) rfl) rfl rfl (aw_iret (dt_X6_readNot 17 (26, .ireturn, 1) rfl) rfl (nb01 g25) ?_)))))))))))))))
          exact h
  · intro q1
    have h := h.2 q1
    refine aw_iconst (pc' := 7) (v := 0) (dt_X6_readNot 3 (6, .iconst 0, 1) rfl) (by decide) rfl (aw_iret (dt_X6_readNot 4 (7, .ireturn, 1) rfl) rfl rfl ?_)
    exact h

theorem t_X6_readSum {E : ZE} {l : Launch} {d nc ns : Nat} {x1 : Int32} {μ : ZM} {K : Option Value → ZM → Prop} (hS : Stat μ) (h :
  AW E l d 0 0 mX6_readProduct 0 (zargs 5 [.ref 19, .int x1]) [] μ (fun v μ1 => ∃ r3 : Int32, v = some (.int r3) ∧ Stat μ1 ∧ 
    AW E l (d + 1) nc ns mX6_readSum 8 [some (.ref 19), some (.int x1), some (.int r3), some (.int 0), none] [] μ1 K)) : AW E l (d + 1) nc ns mX6_readSum 0 [some (.ref 19), some (.int x1), none, none, none] [] μ K := by
  refine aw_aload_n (pc' := 1) (dt_X6_readSum 0 (0, .aload_n 0, 1) rfl) rfl rfl (aw_iload_n (pc' := 2) (dt_X6_readSum 1 (1, .iload_n 1, 1) rfl) rfl rfl (aw_callV0 (pc' := 5) (nc := nc) (ns := ns) (y2 := mX6_readProduct) (As := [.int x1]) (rest := []) (a := 19) (dt_X6_readSum 2 (2, .invokevirtual 91, 3) rfl) ok_X6_readProduct ln_Reader_91 im_X6_readProduct se_X6_readProduct pr_X6_readProduct (Or.inl ⟨by decide, rfl⟩) rfl (Nat.le_of_ble_eq_true rfl) (Nat.le_of_ble_eq_true rfl) rfl (sk_19 hS) h ?_))
  rintro v μ1 ⟨r3, rfl, hS2, h⟩
  refine aw_stk (st' := [.int r3]) rfl ?_
  refine aw_istore_n (pc' := 6) (ls' := [some (.ref 19), some (.int x1), some (.int r3), none, none]) (dt_X6_readSum 3 (5, .istore_n 2, 1) rfl) (by decide) rfl rfl (aw_iconst (pc' := 7) (v := 0) (dt_X6_readSum 4 (6, .iconst 0, 1) rfl) (by decide) rfl (aw_istore_n (pc' := 8) (ls' := [some (.ref 19), some (.int x1), some (.int r3), some (.int 0), none]) (dt_X6_readSum 5 (7, .istore_n 3, 1) rfl) (by decide) rfl rfl ?_))
  exact h

theorem t_X6_readSum_8 {E : ZE} {l : Launch} {d nc ns : Nat} {x1 : Int32} {x2 : Int32} {x3 : Int32} {μ : ZM} {K : Option Value → ZM → Prop} (hS : Stat μ) (h :
  (200 ≤ x3 →
    (x2 = 0 ∨ x2 = 1) ∧
    K (some (.int x2)) μ) ∧
  (¬ 200 ≤ x3 →
    (x2 = 0 →
      (x2 = 0 ∨ x2 = 1) ∧
      K (some (.int x2)) μ) ∧
    (¬ x2 = 0 →
      ((zI μ 19 4) = 43 →
        ((zI μ 20 5) ≤ ((zI μ 19 3) + 1) →
          AW E l d 0 0 mX6_readProduct 0 (zargs 5 [.ref 19, .int x1]) [] μ (fun v μ7 => ∃ r9 : Int32, v = some (.int r9) ∧ Stat μ7 ∧ 
            (400 ≤ (zI μ7 19 2) →
              AW E l (d + 1) nc ns mX6_readSum 8 [some (.ref 19), some (.int x1), some (.int r9), some (.int (x3 + 1)), none] [] μ7 K) ∧
            (¬ 400 ≤ (zI μ7 19 2) →
              (vp_in (zI μ7 19 2) 400) ∧
              AW E l (d + 1) nc ns mX6_readSum 8 [some (.ref 19), some (.int x1), some (.int r9), some (.int (x3 + 1)), none] [] (sI (sI μ7 25 (zI μ7 19 2).toNatClampNeg (-(zI μ 19 4))) 19 2 ((zI (sI μ7 25 (zI μ7 19 2).toNatClampNeg (-(zI μ 19 4))) 19 2) + 1)) K))) ∧
        (¬ (zI μ 20 5) ≤ ((zI μ 19 3) + 1) →
          (201 ≤ ((zI μ 19 3) + 1) →
            AW E l d 0 0 mX6_readProduct 0 (zargs 5 [.ref 19, .int x1]) [] μ (fun v μ13 => ∃ r15 : Int32, v = some (.int r15) ∧ Stat μ13 ∧ 
              (400 ≤ (zI μ13 19 2) →
                AW E l (d + 1) nc ns mX6_readSum 8 [some (.ref 19), some (.int x1), some (.int r15), some (.int (x3 + 1)), none] [] μ13 K) ∧
              (¬ 400 ≤ (zI μ13 19 2) →
                (vp_in (zI μ13 19 2) 400) ∧
                AW E l (d + 1) nc ns mX6_readSum 8 [some (.ref 19), some (.int x1), some (.int r15), some (.int (x3 + 1)), none] [] (sI (sI μ13 25 (zI μ13 19 2).toNatClampNeg (-(zI μ 19 4))) 19 2 ((zI (sI μ13 25 (zI μ13 19 2).toNatClampNeg (-(zI μ 19 4))) 19 2) + 1)) K))) ∧
          (¬ 201 ≤ ((zI μ 19 3) + 1) →
            (vp_in (zI (sI μ 19 3 ((zI μ 19 3) + 1)) 19 3) 201) ∧
            AW E l d 0 0 mX6_readProduct 0 (zargs 5 [.ref 19, .int x1]) [] (sI (sI μ 19 3 ((zI μ 19 3) + 1)) 19 4 (zI (sI μ 19 3 ((zI μ 19 3) + 1)) 22 (zI (sI μ 19 3 ((zI μ 19 3) + 1)) 19 3).toNatClampNeg)) (fun v μ19 => ∃ r21 : Int32, v = some (.int r21) ∧ Stat μ19 ∧ 
              (400 ≤ (zI μ19 19 2) →
                AW E l (d + 1) nc ns mX6_readSum 8 [some (.ref 19), some (.int x1), some (.int r21), some (.int (x3 + 1)), none] [] μ19 K) ∧
              (¬ 400 ≤ (zI μ19 19 2) →
                (vp_in (zI μ19 19 2) 400) ∧
                AW E l (d + 1) nc ns mX6_readSum 8 [some (.ref 19), some (.int x1), some (.int r21), some (.int (x3 + 1)), none] [] (sI (sI μ19 25 (zI μ19 19 2).toNatClampNeg (-(zI μ 19 4))) 19 2 ((zI (sI μ19 25 (zI μ19 19 2).toNatClampNeg (-(zI μ 19 4))) 19 2) + 1)) K))))) ∧
      (¬ (zI μ 19 4) = 43 →
        (¬ (zI μ 19 4) = 45 →
          (x2 = 0 ∨ x2 = 1) ∧
          K (some (.int x2)) μ) ∧
        ((zI μ 19 4) = 45 →
          ((zI μ 20 5) ≤ ((zI μ 19 3) + 1) →
            AW E l d 0 0 mX6_readProduct 0 (zargs 5 [.ref 19, .int x1]) [] μ (fun v μ27 => ∃ r29 : Int32, v = some (.int r29) ∧ Stat μ27 ∧ 
              (400 ≤ (zI μ27 19 2) →
                AW E l (d + 1) nc ns mX6_readSum 8 [some (.ref 19), some (.int x1), some (.int r29), some (.int (x3 + 1)), none] [] μ27 K) ∧
              (¬ 400 ≤ (zI μ27 19 2) →
                (vp_in (zI μ27 19 2) 400) ∧
                AW E l (d + 1) nc ns mX6_readSum 8 [some (.ref 19), some (.int x1), some (.int r29), some (.int (x3 + 1)), none] [] (sI (sI μ27 25 (zI μ27 19 2).toNatClampNeg (-(zI μ 19 4))) 19 2 ((zI (sI μ27 25 (zI μ27 19 2).toNatClampNeg (-(zI μ 19 4))) 19 2) + 1)) K))) ∧
          (¬ (zI μ 20 5) ≤ ((zI μ 19 3) + 1) →
            (201 ≤ ((zI μ 19 3) + 1) →
              AW E l d 0 0 mX6_readProduct 0 (zargs 5 [.ref 19, .int x1]) [] μ (fun v μ33 => ∃ r35 : Int32, v = some (.int r35) ∧ Stat μ33 ∧ 
                (400 ≤ (zI μ33 19 2) →
                  AW E l (d + 1) nc ns mX6_readSum 8 [some (.ref 19), some (.int x1), some (.int r35), some (.int (x3 + 1)), none] [] μ33 K) ∧
                (¬ 400 ≤ (zI μ33 19 2) →
                  (vp_in (zI μ33 19 2) 400) ∧
                  AW E l (d + 1) nc ns mX6_readSum 8 [some (.ref 19), some (.int x1), some (.int r35), some (.int (x3 + 1)), none] [] (sI (sI μ33 25 (zI μ33 19 2).toNatClampNeg (-(zI μ 19 4))) 19 2 ((zI (sI μ33 25 (zI μ33 19 2).toNatClampNeg (-(zI μ 19 4))) 19 2) + 1)) K))) ∧
            (¬ 201 ≤ ((zI μ 19 3) + 1) →
              (vp_in (zI (sI μ 19 3 ((zI μ 19 3) + 1)) 19 3) 201) ∧
              AW E l d 0 0 mX6_readProduct 0 (zargs 5 [.ref 19, .int x1]) [] (sI (sI μ 19 3 ((zI μ 19 3) + 1)) 19 4 (zI (sI μ 19 3 ((zI μ 19 3) + 1)) 22 (zI (sI μ 19 3 ((zI μ 19 3) + 1)) 19 3).toNatClampNeg)) (fun v μ39 => ∃ r41 : Int32, v = some (.int r41) ∧ Stat μ39 ∧ 
                (400 ≤ (zI μ39 19 2) →
                  AW E l (d + 1) nc ns mX6_readSum 8 [some (.ref 19), some (.int x1), some (.int r41), some (.int (x3 + 1)), none] [] μ39 K) ∧
                (¬ 400 ≤ (zI μ39 19 2) →
                  (vp_in (zI μ39 19 2) 400) ∧
                  AW E l (d + 1) nc ns mX6_readSum 8 [some (.ref 19), some (.int x1), some (.int r41), some (.int (x3 + 1)), none] [] (sI (sI μ39 25 (zI μ39 19 2).toNatClampNeg (-(zI μ 19 4))) 19 2 ((zI (sI μ39 25 (zI μ39 19 2).toNatClampNeg (-(zI μ 19 4))) 19 2) + 1)) K))))))))) : AW E l (d + 1) nc ns mX6_readSum 8 [some (.ref 19), some (.int x1), some (.int x2), some (.int x3), none] [] μ K := by
  refine aw_iload_n (pc' := 9) (dt_X6_readSum 6 (8, .iload_n 3, 1) rfl) rfl rfl (aw_sipush (pc' := 12) (v := 200) (dt_X6_readSum 7 (9, .sipush 200, 3) rfl) (by decide) rfl (aw_icmp_ge (pc' := 15) (tgt := 66) (dt_X6_readSum 8 (12, .if_icmp .ge 54, 3) rfl) (by decide) rfl ?_ ?_))
  · intro q1
    have h := h.1 q1
    obtain ⟨g2, h⟩ := h
    refine aw_iload_n (pc' := 67) (dt_X6_readSum 34 (66, .iload_n 2, 1) rfl) rfl rfl (aw_iret (dt_X6_readSum 35 (67, .ireturn, 1) rfl) rfl (nb01 g2) ?_)
    exact h
  · intro q1
    have h := h.2 q1
    refine aw_iload_n (pc' := 16) (dt_X6_readSum 9 (15, .iload_n 2, 1) rfl) rfl rfl (aw_if_eq (pc' := 19) (tgt := 66) (dt_X6_readSum 10 (16, .ifCond .eq 50, 3) rfl) (by decide) rfl ?_ ?_)
    · intro q3
      have h := h.1 q3
      obtain ⟨g4, h⟩ := h
      refine aw_iload_n (pc' := 67) (dt_X6_readSum 34 (66, .iload_n 2, 1) rfl) rfl rfl (aw_iret (dt_X6_readSum 35 (67, .ireturn, 1) rfl) rfl (nb01 g4) ?_)
      exact h
    · intro q3
      have h := h.2 q3
      refine aw_aload_n (pc' := 20) (dt_X6_readSum 11 (19, .aload_n 0, 1) rfl) rfl rfl (aw_getI (pc' := 23) (dt_X6_readSum 12 (20, .getfield 22, 3) rfl) fl_Reader_22 rfl rfl (sk_19 hS) (aw_bipush (pc' := 25) (v := 43) (dt_X6_readSum 13 (23, .bipush 43, 2) rfl) (by decide) rfl (aw_icmp_eq (pc' := 28) (tgt := 37) (dt_X6_readSum 14 (25, .if_icmp .eq 12, 3) rfl) (by decide) rfl ?_ ?_)))
      · intro q5
        have h := h.1 q5
        refine aw_aload_n (pc' := 38) (dt_X6_readSum 19 (37, .aload_n 0, 1) rfl) rfl rfl (aw_getI (pc' := 41) (dt_X6_readSum 20 (38, .getfield 22, 3) rfl) fl_Reader_22 rfl rfl (sk_19 hS) (aw_istore (pc' := 43) (ls' := [some (.ref 19), some (.int x1), some (.int x2), some (.int x3), some (.int (zI μ 19 4))]) (dt_X6_readSum 21 (41, .istore 4, 2) rfl) (by decide) rfl rfl (aw_aload_n (pc' := 44) (dt_X6_readSum 22 (43, .aload_n 0, 1) rfl) rfl rfl (aw_inV (pc' := 47) (nc1 := 0) (ns1 := 0) (nc := nc) (ns := ns) (ls' := [some (.ref 19)]) (y2 := mX6_step) (As := []) (rest := []) (a := 19) (dt_X6_readSum 23 (44, .invokevirtual 36, 3) rfl) ok_X6_step ln_Reader_36 im_X6_step se_X6_step pr_X6_step (Or.inl ⟨by decide, rfl⟩) rfl (Nat.le_of_ble_eq_true rfl) (Nat.le_of_ble_eq_true rfl) rfl rfl (sk_19 hS) (aw_aload_n (pc' := 1) (dt_X6_step 0 (0, .aload_n 0, 1) rfl) rfl rfl (aw_getI (pc' := 4) (dt_X6_step 1 (1, .getfield 45, 3) rfl) fl_Reader_45 rfl rfl (sk_19 hS) (aw_iconst (pc' := 5) (v := 1) (dt_X6_step 2 (4, .iconst 1, 1) rfl) (by decide) rfl (aw_iadd (pc' := 6) (dt_X6_step 3 (5, .iadd, 1) rfl) rfl (aw_aload_n (pc' := 7) (dt_X6_step 4 (6, .aload_n 0, 1) rfl) rfl rfl (aw_getAs (pc' := 10) (dt_X6_step 5 (7, .getfield 12, 3) rfl) fl_Reader_12 rfl rfl (sk_19 hS) (sa_19_0 hS) (aw_getI (pc' := 13) (dt_X6_step 6 (10, .getfield 69, 3) rfl) fl_Reader_69 rfl rfl (sk_20 hS) (aw_icmp_ge (pc' := 16) (tgt := 59) (dt_X6_step 7 (13, .if_icmp .ge 46, 3) rfl) (by decide) rfl ?_ ?_))))))))))))
        · intro q6
          have h := h.1 q6
          refine aw_ret (dt_X6_step 31 (59, .return_, 1) rfl) rfl (aw_stk (st' := []) rfl (aw_aload_n (pc' := 48) (dt_X6_readSum 24 (47, .aload_n 0, 1) rfl) rfl rfl (aw_iload_n (pc' := 49) (dt_X6_readSum 25 (48, .iload_n 1, 1) rfl) rfl rfl (aw_callV0 (pc' := 52) (nc := nc) (ns := ns) (y2 := mX6_readProduct) (As := [.int x1]) (rest := []) (a := 19) (dt_X6_readSum 26 (49, .invokevirtual 91, 3) rfl) ok_X6_readProduct ln_Reader_91 im_X6_readProduct se_X6_readProduct pr_X6_readProduct (Or.inl ⟨by decide, rfl⟩) rfl (Nat.le_of_ble_eq_true rfl) (Nat.le_of_ble_eq_true rfl) rfl (sk_19 hS) h ?_))))
          rintro v μ7 ⟨r9, rfl, hS8, h⟩
          refine aw_stk (st' := [.int r9]) rfl ?_
          refine aw_istore_n (pc' := 53) (ls' := [some (.ref 19), some (.int x1), some (.int r9), some (.int x3), some (.int (zI μ 19 4))]) (dt_X6_readSum 27 (52, .istore_n 2, 1) rfl) (by decide) rfl rfl (aw_aload_n (pc' := 54) (dt_X6_readSum 28 (53, .aload_n 0, 1) rfl) rfl rfl (aw_iload (pc' := 56) (dt_X6_readSum 29 (54, .iload 4, 2) rfl) rfl rfl (aw_ineg (pc' := 57) (dt_X6_readSum 30 (56, .ineg, 1) rfl) rfl (aw_inV (pc' := 60) (nc1 := 0) (ns1 := 0) (nc := nc) (ns := ns) (ls' := [some (.ref 19), some (.int (-(zI μ 19 4)))]) (y2 := mX6_write) (As := [.int (-(zI μ 19 4))]) (rest := []) (a := 19) (dt_X6_readSum 31 (57, .invokevirtual 75, 3) rfl) ok_X6_write ln_Reader_75 im_X6_write se_X6_write pr_X6_write (Or.inl ⟨by decide, rfl⟩) rfl (Nat.le_of_ble_eq_true rfl) (Nat.le_of_ble_eq_true rfl) rfl rfl (sk_19 hS8) (aw_aload_n (pc' := 1) (dt_X6_write 0 (0, .aload_n 0, 1) rfl) rfl rfl (aw_getI (pc' := 4) (dt_X6_write 1 (1, .getfield 54, 3) rfl) fl_Reader_54 rfl rfl (sk_19 hS8) (aw_aload_n (pc' := 5) (dt_X6_write 2 (4, .aload_n 0, 1) rfl) rfl rfl (aw_getAs (pc' := 8) (dt_X6_write 3 (5, .getfield 18, 3) rfl) fl_Reader_18 rfl rfl (sk_19 hS8) (sa_19_1 hS8) (aw_alens (pc' := 9) (n := 400) (v := 400) (dt_X6_write 4 (8, .arraylength, 1) rfl) (by decide) (by decide) rfl (sk_25 hS8) (sl_25 hS8) (by decide) (aw_icmp_ge (pc' := 12) (tgt := 32) (dt_X6_write 5 (9, .if_icmp .ge 23, 3) rfl) (by decide) rfl ?_ ?_))))))))))
          · intro q10
            have h := h.1 q10
            refine aw_ret (dt_X6_write 18 (32, .return_, 1) rfl) rfl (aw_stk (st' := []) rfl (aw_iinc (pc' := 63) (v := 1) (ls' := [some (.ref 19), some (.int x1), some (.int r9), some (.int (x3 + 1)), some (.int (zI μ 19 4))]) (dt_X6_readSum 32 (60, .iinc 3 1, 3) rfl) rfl (by decide) (by decide) rfl rfl (aw_goto (tgt := 8) (dt_X6_readSum 33 (63, .goto (-55), 3) rfl) (by decide) (aw_drop (ls' := [some (.ref 19), some (.int x1), some (.int r9), some (.int (x3 + 1)), none]) ⟨rfl, rfl, rfl, rfl, trivial⟩ ?_))))
            exact h
          · intro q10
            have h := h.2 q10
            obtain ⟨g11, h⟩ := h
            refine aw_aload_n (pc' := 13) (dt_X6_write 6 (12, .aload_n 0, 1) rfl) rfl rfl (aw_getAs (pc' := 16) (dt_X6_write 7 (13, .getfield 18, 3) rfl) fl_Reader_18 rfl rfl (sk_19 hS8) (sa_19_1 hS8) (aw_aload_n (pc' := 17) (dt_X6_write 8 (16, .aload_n 0, 1) rfl) rfl rfl (aw_getI (pc' := 20) (dt_X6_write 9 (17, .getfield 54, 3) rfl) fl_Reader_54 rfl rfl (sk_19 hS8) (aw_iload_n (pc' := 21) (dt_X6_write 10 (20, .iload_n 1, 1) rfl) rfl rfl (aw_iast (pc' := 22) (dt_X6_write 11 (21, .iastore, 1) rfl) rfl (sk_25 hS8) (by decide) (vin_eq (sl_25 hS8) g11) (aw_aload_n (pc' := 23) (dt_X6_write 12 (22, .aload_n 0, 1) rfl) rfl rfl (aw_dup (pc' := 24) (dt_X6_write 13 (23, .dup, 1) rfl) rfl rfl (aw_getI (pc' := 27) (dt_X6_write 14 (24, .getfield 54, 3) rfl) fl_Reader_54 rfl rfl (sk_19 hS8.wI) (aw_iconst (pc' := 28) (v := 1) (dt_X6_write 15 (27, .iconst 1, 1) rfl) (by decide) rfl (aw_iadd (pc' := 29) (dt_X6_write 16 (28, .iadd, 1) rfl) rfl (aw_putI (pc' := 32) (dt_X6_write 17 (29, .putfield 54, 3) rfl) fl_Reader_54 rfl (by decide +kernel) rfl (sk_19 hS8.wI) (aw_ret (dt_X6_write 18 (32, .return_, 1) rfl) rfl (aw_stk (st' := []) rfl (aw_iinc (pc' := 63) (v := 1) (ls' := [some (.ref 19), some (.int x1), some (.int r9), some (.int (x3 + 1)), some (.int (zI μ 19 4))]) (dt_X6_readSum 32 (60, .iinc 3 1, 3) rfl) rfl (by decide) (by decide) rfl rfl (aw_goto (tgt := 8) (dt_X6_readSum 33 (63, .goto (-55), 3) rfl) (by decide) (aw_drop (ls' := [some (.ref 19), some (.int x1), some (.int r9), some (.int (x3 + 1)), none]) ⟨rfl, rfl, rfl, rfl, trivial⟩ ?_))))))))))))))))
            exact h
        · intro q6
          have h := h.2 q6
          refine aw_aload_n (pc' := 17) (dt_X6_step 8 (16, .aload_n 0, 1) rfl) rfl rfl (aw_getI (pc' := 20) (dt_X6_step 9 (17, .getfield 45, 3) rfl) fl_Reader_45 rfl rfl (sk_19 hS) (aw_iconst (pc' := 21) (v := 1) (dt_X6_step 10 (20, .iconst 1, 1) rfl) (by decide) rfl (aw_iadd (pc' := 22) (dt_X6_step 11 (21, .iadd, 1) rfl) rfl (aw_aload_n (pc' := 23) (dt_X6_step 12 (22, .aload_n 0, 1) rfl) rfl rfl (aw_getAs (pc' := 26) (dt_X6_step 13 (23, .getfield 12, 3) rfl) fl_Reader_12 rfl rfl (sk_19 hS) (sa_19_0 hS) (aw_getAs (pc' := 29) (dt_X6_step 14 (26, .getfield 66, 3) rfl) fl_Reader_66 rfl rfl (sk_20 hS) (sa_20_2 hS) (aw_alens (pc' := 30) (n := 201) (v := 201) (dt_X6_step 15 (29, .arraylength, 1) rfl) (by decide) (by decide) rfl (sk_22 hS) (sl_22 hS) (by decide) (aw_icmp_ge (pc' := 33) (tgt := 59) (dt_X6_step 16 (30, .if_icmp .ge 29, 3) rfl) (by decide) rfl ?_ ?_))))))))
          · intro q12
            have h := h.1 q12
            refine aw_ret (dt_X6_step 31 (59, .return_, 1) rfl) rfl (aw_stk (st' := []) rfl (aw_aload_n (pc' := 48) (dt_X6_readSum 24 (47, .aload_n 0, 1) rfl) rfl rfl (aw_iload_n (pc' := 49) (dt_X6_readSum 25 (48, .iload_n 1, 1) rfl) rfl rfl (aw_callV0 (pc' := 52) (nc := nc) (ns := ns) (y2 := mX6_readProduct) (As := [.int x1]) (rest := []) (a := 19) (dt_X6_readSum 26 (49, .invokevirtual 91, 3) rfl) ok_X6_readProduct ln_Reader_91 im_X6_readProduct se_X6_readProduct pr_X6_readProduct (Or.inl ⟨by decide, rfl⟩) rfl (Nat.le_of_ble_eq_true rfl) (Nat.le_of_ble_eq_true rfl) rfl (sk_19 hS) h ?_))))
            rintro v μ13 ⟨r15, rfl, hS14, h⟩
            refine aw_stk (st' := [.int r15]) rfl ?_
            refine aw_istore_n (pc' := 53) (ls' := [some (.ref 19), some (.int x1), some (.int r15), some (.int x3), some (.int (zI μ 19 4))]) (dt_X6_readSum 27 (52, .istore_n 2, 1) rfl) (by decide) rfl rfl (aw_aload_n (pc' := 54) (dt_X6_readSum 28 (53, .aload_n 0, 1) rfl) rfl rfl (aw_iload (pc' := 56) (dt_X6_readSum 29 (54, .iload 4, 2) rfl) rfl rfl (aw_ineg (pc' := 57) (dt_X6_readSum 30 (56, .ineg, 1) rfl) rfl (aw_inV (pc' := 60) (nc1 := 0) (ns1 := 0) (nc := nc) (ns := ns) (ls' := [some (.ref 19), some (.int (-(zI μ 19 4)))]) (y2 := mX6_write) (As := [.int (-(zI μ 19 4))]) (rest := []) (a := 19) (dt_X6_readSum 31 (57, .invokevirtual 75, 3) rfl) ok_X6_write ln_Reader_75 im_X6_write se_X6_write pr_X6_write (Or.inl ⟨by decide, rfl⟩) rfl (Nat.le_of_ble_eq_true rfl) (Nat.le_of_ble_eq_true rfl) rfl rfl (sk_19 hS14) (aw_aload_n (pc' := 1) (dt_X6_write 0 (0, .aload_n 0, 1) rfl) rfl rfl (aw_getI (pc' := 4) (dt_X6_write 1 (1, .getfield 54, 3) rfl) fl_Reader_54 rfl rfl (sk_19 hS14) (aw_aload_n (pc' := 5) (dt_X6_write 2 (4, .aload_n 0, 1) rfl) rfl rfl (aw_getAs (pc' := 8) (dt_X6_write 3 (5, .getfield 18, 3) rfl) fl_Reader_18 rfl rfl (sk_19 hS14) (sa_19_1 hS14) (aw_alens (pc' := 9) (n := 400) (v := 400) (dt_X6_write 4 (8, .arraylength, 1) rfl) (by decide) (by decide) rfl (sk_25 hS14) (sl_25 hS14) (by decide) (aw_icmp_ge (pc' := 12) (tgt := 32) (dt_X6_write 5 (9, .if_icmp .ge 23, 3) rfl) (by decide) rfl ?_ ?_))))))))))
            · intro q16
              have h := h.1 q16
              refine aw_ret (dt_X6_write 18 (32, .return_, 1) rfl) rfl (aw_stk (st' := []) rfl (aw_iinc (pc' := 63) (v := 1) (ls' := [some (.ref 19), some (.int x1), some (.int r15), some (.int (x3 + 1)), some (.int (zI μ 19 4))]) (dt_X6_readSum 32 (60, .iinc 3 1, 3) rfl) rfl (by decide) (by decide) rfl rfl (aw_goto (tgt := 8) (dt_X6_readSum 33 (63, .goto (-55), 3) rfl) (by decide) (aw_drop (ls' := [some (.ref 19), some (.int x1), some (.int r15), some (.int (x3 + 1)), none]) ⟨rfl, rfl, rfl, rfl, trivial⟩ ?_))))
              exact h
            · intro q16
              have h := h.2 q16
              obtain ⟨g17, h⟩ := h
              refine aw_aload_n (pc' := 13) (dt_X6_write 6 (12, .aload_n 0, 1) rfl) rfl rfl (aw_getAs (pc' := 16) (dt_X6_write 7 (13, .getfield 18, 3) rfl) fl_Reader_18 rfl rfl (sk_19 hS14) (sa_19_1 hS14) (aw_aload_n (pc' := 17) (dt_X6_write 8 (16, .aload_n 0, 1) rfl) rfl rfl (aw_getI (pc' := 20) (dt_X6_write 9 (17, .getfield 54, 3) rfl) fl_Reader_54 rfl rfl (sk_19 hS14) (aw_iload_n (pc' := 21) (dt_X6_write 10 (20, .iload_n 1, 1) rfl) rfl rfl (aw_iast (pc' := 22) (dt_X6_write 11 (21, .iastore, 1) rfl) rfl (sk_25 hS14) (by decide) (vin_eq (sl_25 hS14) g17) (aw_aload_n (pc' := 23) (dt_X6_write 12 (22, .aload_n 0, 1) rfl) rfl rfl (aw_dup (pc' := 24) (dt_X6_write 13 (23, .dup, 1) rfl) rfl rfl (aw_getI (pc' := 27) (dt_X6_write 14 (24, .getfield 54, 3) rfl) fl_Reader_54 rfl rfl (sk_19 hS14.wI) (aw_iconst (pc' := 28) (v := 1) (dt_X6_write 15 (27, .iconst 1, 1) rfl) (by decide) rfl (aw_iadd (pc' := 29) (dt_X6_write 16 (28, .iadd, 1) rfl) rfl (aw_putI (pc' := 32) (dt_X6_write 17 (29, .putfield 54, 3) rfl) fl_Reader_54 rfl (by decide +kernel) rfl (sk_19 hS14.wI) (aw_ret (dt_X6_write 18 (32, .return_, 1) rfl) rfl (aw_stk (st' := []) rfl (aw_iinc (pc' := 63) (v := 1) (ls' := [some (.ref 19), some (.int x1), some (.int r15), some (.int (x3 + 1)), some (.int (zI μ 19 4))]) (dt_X6_readSum 32 (60, .iinc 3 1, 3) rfl) rfl (by decide) (by decide) rfl rfl (aw_goto (tgt := 8) (dt_X6_readSum 33 (63, .goto (-55), 3) rfl) (by decide) (aw_drop (ls' := [some (.ref 19), some (.int x1), some (.int r15), some (.int (x3 + 1)), none]) ⟨rfl, rfl, rfl, rfl, trivial⟩ ?_))))))))))))))))
              exact h
          · intro q12
            have h := h.2 q12
            obtain ⟨g18, h⟩ := h
            refine aw_aload_n (pc' := 34) (dt_X6_step 17 (33, .aload_n 0, 1) rfl) rfl rfl (aw_dup (pc' := 35) (dt_X6_step 18 (34, .dup, 1) rfl) rfl rfl (aw_getI (pc' := 38) (dt_X6_step 19 (35, .getfield 45, 3) rfl) fl_Reader_45 rfl rfl (sk_19 hS) (aw_iconst (pc' := 39) (v := 1) (dt_X6_step 20 (38, .iconst 1, 1) rfl) (by decide) rfl (aw_iadd (pc' := 40) (dt_X6_step 21 (39, .iadd, 1) rfl) rfl (aw_putI (pc' := 43) (dt_X6_step 22 (40, .putfield 45, 3) rfl) fl_Reader_45 rfl (by decide +kernel) rfl (sk_19 hS) (aw_aload_n (pc' := 44) (dt_X6_step 23 (43, .aload_n 0, 1) rfl) rfl rfl (aw_aload_n (pc' := 45) (dt_X6_step 24 (44, .aload_n 0, 1) rfl) rfl rfl (aw_getAs (pc' := 48) (dt_X6_step 25 (45, .getfield 12, 3) rfl) fl_Reader_12 rfl rfl (sk_19 hS.wI) (sa_19_0 hS.wI) (aw_getAs (pc' := 51) (dt_X6_step 26 (48, .getfield 66, 3) rfl) fl_Reader_66 rfl rfl (sk_20 hS.wI) (sa_20_2 hS.wI) (aw_aload_n (pc' := 52) (dt_X6_step 27 (51, .aload_n 0, 1) rfl) rfl rfl (aw_getI (pc' := 55) (dt_X6_step 28 (52, .getfield 45, 3) rfl) fl_Reader_45 rfl rfl (sk_19 hS.wI) (aw_iald (pc' := 56) (dt_X6_step 29 (55, .iaload, 1) rfl) rfl (sk_22 hS.wI) (vin_eq (sl_22 hS.wI) g18) (aw_putI (pc' := 59) (dt_X6_step 30 (56, .putfield 22, 3) rfl) fl_Reader_22 rfl (by decide +kernel) rfl (sk_19 hS.wI) (aw_ret (dt_X6_step 31 (59, .return_, 1) rfl) rfl (aw_stk (st' := []) rfl (aw_aload_n (pc' := 48) (dt_X6_readSum 24 (47, .aload_n 0, 1) rfl) rfl rfl (aw_iload_n (pc' := 49) (dt_X6_readSum 25 (48, .iload_n 1, 1) rfl) rfl rfl (aw_callV0 (pc' := 52) (nc := nc) (ns := ns) (y2 := mX6_readProduct) (As := [.int x1]) (rest := []) (a := 19) (dt_X6_readSum 26 (49, .invokevirtual 91, 3) rfl) ok_X6_readProduct ln_Reader_91 im_X6_readProduct se_X6_readProduct pr_X6_readProduct (Or.inl ⟨by decide, rfl⟩) rfl (Nat.le_of_ble_eq_true rfl) (Nat.le_of_ble_eq_true rfl) rfl (sk_19 hS.wI.wI) h ?_))))))))))))))))))
            rintro v μ19 ⟨r21, rfl, hS20, h⟩
            refine aw_stk (st' := [.int r21]) rfl ?_
            refine aw_istore_n (pc' := 53) (ls' := [some (.ref 19), some (.int x1), some (.int r21), some (.int x3), some (.int (zI μ 19 4))]) (dt_X6_readSum 27 (52, .istore_n 2, 1) rfl) (by decide) rfl rfl (aw_aload_n (pc' := 54) (dt_X6_readSum 28 (53, .aload_n 0, 1) rfl) rfl rfl (aw_iload (pc' := 56) (dt_X6_readSum 29 (54, .iload 4, 2) rfl) rfl rfl (aw_ineg (pc' := 57) (dt_X6_readSum 30 (56, .ineg, 1) rfl) rfl (aw_inV (pc' := 60) (nc1 := 0) (ns1 := 0) (nc := nc) (ns := ns) (ls' := [some (.ref 19), some (.int (-(zI μ 19 4)))]) (y2 := mX6_write) (As := [.int (-(zI μ 19 4))]) (rest := []) (a := 19) (dt_X6_readSum 31 (57, .invokevirtual 75, 3) rfl) ok_X6_write ln_Reader_75 im_X6_write se_X6_write pr_X6_write (Or.inl ⟨by decide, rfl⟩) rfl (Nat.le_of_ble_eq_true rfl) (Nat.le_of_ble_eq_true rfl) rfl rfl (sk_19 hS20) (aw_aload_n (pc' := 1) (dt_X6_write 0 (0, .aload_n 0, 1) rfl) rfl rfl (aw_getI (pc' := 4) (dt_X6_write 1 (1, .getfield 54, 3) rfl) fl_Reader_54 rfl rfl (sk_19 hS20) (aw_aload_n (pc' := 5) (dt_X6_write 2 (4, .aload_n 0, 1) rfl) rfl rfl (aw_getAs (pc' := 8) (dt_X6_write 3 (5, .getfield 18, 3) rfl) fl_Reader_18 rfl rfl (sk_19 hS20) (sa_19_1 hS20) (aw_alens (pc' := 9) (n := 400) (v := 400) (dt_X6_write 4 (8, .arraylength, 1) rfl) (by decide) (by decide) rfl (sk_25 hS20) (sl_25 hS20) (by decide) (aw_icmp_ge (pc' := 12) (tgt := 32) (dt_X6_write 5 (9, .if_icmp .ge 23, 3) rfl) (by decide) rfl ?_ ?_))))))))))
            · intro q22
              have h := h.1 q22
              refine aw_ret (dt_X6_write 18 (32, .return_, 1) rfl) rfl (aw_stk (st' := []) rfl (aw_iinc (pc' := 63) (v := 1) (ls' := [some (.ref 19), some (.int x1), some (.int r21), some (.int (x3 + 1)), some (.int (zI μ 19 4))]) (dt_X6_readSum 32 (60, .iinc 3 1, 3) rfl) rfl (by decide) (by decide) rfl rfl (aw_goto (tgt := 8) (dt_X6_readSum 33 (63, .goto (-55), 3) rfl) (by decide) (aw_drop (ls' := [some (.ref 19), some (.int x1), some (.int r21), some (.int (x3 + 1)), none]) ⟨rfl, rfl, rfl, rfl, trivial⟩ ?_))))
              exact h
            · intro q22
              have h := h.2 q22
              obtain ⟨g23, h⟩ := h
              refine aw_aload_n (pc' := 13) (dt_X6_write 6 (12, .aload_n 0, 1) rfl) rfl rfl (aw_getAs (pc' := 16) (dt_X6_write 7 (13, .getfield 18, 3) rfl) fl_Reader_18 rfl rfl (sk_19 hS20) (sa_19_1 hS20) (aw_aload_n (pc' := 17) (dt_X6_write 8 (16, .aload_n 0, 1) rfl) rfl rfl (aw_getI (pc' := 20) (dt_X6_write 9 (17, .getfield 54, 3) rfl) fl_Reader_54 rfl rfl (sk_19 hS20) (aw_iload_n (pc' := 21) (dt_X6_write 10 (20, .iload_n 1, 1) rfl) rfl rfl (aw_iast (pc' := 22) (dt_X6_write 11 (21, .iastore, 1) rfl) rfl (sk_25 hS20) (by decide) (vin_eq (sl_25 hS20) g23) (aw_aload_n (pc' := 23) (dt_X6_write 12 (22, .aload_n 0, 1) rfl) rfl rfl (aw_dup (pc' := 24) (dt_X6_write 13 (23, .dup, 1) rfl) rfl rfl (aw_getI (pc' := 27) (dt_X6_write 14 (24, .getfield 54, 3) rfl) fl_Reader_54 rfl rfl (sk_19 hS20.wI) (aw_iconst (pc' := 28) (v := 1) (dt_X6_write 15 (27, .iconst 1, 1) rfl) (by decide) rfl (aw_iadd (pc' := 29) (dt_X6_write 16 (28, .iadd, 1) rfl) rfl (aw_putI (pc' := 32) (dt_X6_write 17 (29, .putfield 54, 3) rfl) fl_Reader_54 rfl (by decide +kernel) rfl (sk_19 hS20.wI) (aw_ret (dt_X6_write 18 (32, .return_, 1) rfl) rfl (aw_stk (st' := []) rfl (aw_iinc (pc' := 63) (v := 1) (ls' := [some (.ref 19), some (.int x1), some (.int r21), some (.int (x3 + 1)), some (.int (zI μ 19 4))]) (dt_X6_readSum 32 (60, .iinc 3 1, 3) rfl) rfl (by decide) (by decide) rfl rfl (aw_goto (tgt := 8) (dt_X6_readSum 33 (63, .goto (-55), 3) rfl) (by decide) (aw_drop (ls' := [some (.ref 19), some (.int x1), some (.int r21), some (.int (x3 + 1)), none]) ⟨rfl, rfl, rfl, rfl, trivial⟩ ?_))))))))))))))))
              exact h
      · intro q5
        have h := h.2 q5
        refine aw_aload_n (pc' := 29) (dt_X6_readSum 15 (28, .aload_n 0, 1) rfl) rfl rfl (aw_getI (pc' := 32) (dt_X6_readSum 16 (29, .getfield 22, 3) rfl) fl_Reader_22 rfl rfl (sk_19 hS) (aw_bipush (pc' := 34) (v := 45) (dt_X6_readSum 17 (32, .bipush 45, 2) rfl) (by decide) rfl (aw_icmp_ne (pc' := 37) (tgt := 66) (dt_X6_readSum 18 (34, .if_icmp .ne 32, 3) rfl) (by decide) rfl ?_ ?_)))
        · intro q24
          have h := h.1 q24
          obtain ⟨g25, h⟩ := h
          refine aw_iload_n (pc' := 67) (dt_X6_readSum 34 (66, .iload_n 2, 1) rfl) rfl rfl (aw_iret (dt_X6_readSum 35 (67, .ireturn, 1) rfl) rfl (nb01 g25) ?_)
          exact h
        · intro q24
          have h := h.2 q24
          refine aw_aload_n (pc' := 38) (dt_X6_readSum 19 (37, .aload_n 0, 1) rfl) rfl rfl (aw_getI (pc' := 41) (dt_X6_readSum 20 (38, .getfield 22, 3) rfl) fl_Reader_22 rfl rfl (sk_19 hS) (aw_istore (pc' := 43) (ls' := [some (.ref 19), some (.int x1), some (.int x2), some (.int x3), some (.int (zI μ 19 4))]) (dt_X6_readSum 21 (41, .istore 4, 2) rfl) (by decide) rfl rfl (aw_aload_n (pc' := 44) (dt_X6_readSum 22 (43, .aload_n 0, 1) rfl) rfl rfl (aw_inV (pc' := 47) (nc1 := 0) (ns1 := 0) (nc := nc) (ns := ns) (ls' := [some (.ref 19)]) (y2 := mX6_step) (As := []) (rest := []) (a := 19) (dt_X6_readSum 23 (44, .invokevirtual 36, 3) rfl) ok_X6_step ln_Reader_36 im_X6_step se_X6_step pr_X6_step (Or.inl ⟨by decide, rfl⟩) rfl (Nat.le_of_ble_eq_true rfl) (Nat.le_of_ble_eq_true rfl) rfl rfl (sk_19 hS) (aw_aload_n (pc' := 1) (dt_X6_step 0 (0, .aload_n 0, 1) rfl) rfl rfl (aw_getI (pc' := 4) (dt_X6_step 1 (1, .getfield 45, 3) rfl) fl_Reader_45 rfl rfl (sk_19 hS) (aw_iconst (pc' := 5) (v := 1) (dt_X6_step 2 (4, .iconst 1, 1) rfl) (by decide) rfl (aw_iadd (pc' := 6) (dt_X6_step 3 (5, .iadd, 1) rfl) rfl (aw_aload_n (pc' := 7) (dt_X6_step 4 (6, .aload_n 0, 1) rfl) rfl rfl (aw_getAs (pc' := 10) (dt_X6_step 5 (7, .getfield 12, 3) rfl) fl_Reader_12 rfl rfl (sk_19 hS) (sa_19_0 hS) (aw_getI (pc' := 13) (dt_X6_step 6 (10, .getfield 69, 3) rfl) fl_Reader_69 rfl rfl (sk_20 hS) (aw_icmp_ge (pc' := 16) (tgt := 59) (dt_X6_step 7 (13, .if_icmp .ge 46, 3) rfl) (by decide) rfl ?_ ?_))))))))))))
          · intro q26
            have h := h.1 q26
            refine aw_ret (dt_X6_step 31 (59, .return_, 1) rfl) rfl (aw_stk (st' := []) rfl (aw_aload_n (pc' := 48) (dt_X6_readSum 24 (47, .aload_n 0, 1) rfl) rfl rfl (aw_iload_n (pc' := 49) (dt_X6_readSum 25 (48, .iload_n 1, 1) rfl) rfl rfl (aw_callV0 (pc' := 52) (nc := nc) (ns := ns) (y2 := mX6_readProduct) (As := [.int x1]) (rest := []) (a := 19) (dt_X6_readSum 26 (49, .invokevirtual 91, 3) rfl) ok_X6_readProduct ln_Reader_91 im_X6_readProduct se_X6_readProduct pr_X6_readProduct (Or.inl ⟨by decide, rfl⟩) rfl (Nat.le_of_ble_eq_true rfl) (Nat.le_of_ble_eq_true rfl) rfl (sk_19 hS) h ?_))))
            rintro v μ27 ⟨r29, rfl, hS28, h⟩
            refine aw_stk (st' := [.int r29]) rfl ?_
            refine aw_istore_n (pc' := 53) (ls' := [some (.ref 19), some (.int x1), some (.int r29), some (.int x3), some (.int (zI μ 19 4))]) (dt_X6_readSum 27 (52, .istore_n 2, 1) rfl) (by decide) rfl rfl (aw_aload_n (pc' := 54) (dt_X6_readSum 28 (53, .aload_n 0, 1) rfl) rfl rfl (aw_iload (pc' := 56) (dt_X6_readSum 29 (54, .iload 4, 2) rfl) rfl rfl (aw_ineg (pc' := 57) (dt_X6_readSum 30 (56, .ineg, 1) rfl) rfl (aw_inV (pc' := 60) (nc1 := 0) (ns1 := 0) (nc := nc) (ns := ns) (ls' := [some (.ref 19), some (.int (-(zI μ 19 4)))]) (y2 := mX6_write) (As := [.int (-(zI μ 19 4))]) (rest := []) (a := 19) (dt_X6_readSum 31 (57, .invokevirtual 75, 3) rfl) ok_X6_write ln_Reader_75 im_X6_write se_X6_write pr_X6_write (Or.inl ⟨by decide, rfl⟩) rfl (Nat.le_of_ble_eq_true rfl) (Nat.le_of_ble_eq_true rfl) rfl rfl (sk_19 hS28) (aw_aload_n (pc' := 1) (dt_X6_write 0 (0, .aload_n 0, 1) rfl) rfl rfl (aw_getI (pc' := 4) (dt_X6_write 1 (1, .getfield 54, 3) rfl) fl_Reader_54 rfl rfl (sk_19 hS28) (aw_aload_n (pc' := 5) (dt_X6_write 2 (4, .aload_n 0, 1) rfl) rfl rfl (aw_getAs (pc' := 8) (dt_X6_write 3 (5, .getfield 18, 3) rfl) fl_Reader_18 rfl rfl (sk_19 hS28) (sa_19_1 hS28) (aw_alens (pc' := 9) (n := 400) (v := 400) (dt_X6_write 4 (8, .arraylength, 1) rfl) (by decide) (by decide) rfl (sk_25 hS28) (sl_25 hS28) (by decide) (aw_icmp_ge (pc' := 12) (tgt := 32) (dt_X6_write 5 (9, .if_icmp .ge 23, 3) rfl) (by decide) rfl ?_ ?_))))))))))
            · intro q30
              have h := h.1 q30
              refine aw_ret (dt_X6_write 18 (32, .return_, 1) rfl) rfl (aw_stk (st' := []) rfl (aw_iinc (pc' := 63) (v := 1) (ls' := [some (.ref 19), some (.int x1), some (.int r29), some (.int (x3 + 1)), some (.int (zI μ 19 4))]) (dt_X6_readSum 32 (60, .iinc 3 1, 3) rfl) rfl (by decide) (by decide) rfl rfl (aw_goto (tgt := 8) (dt_X6_readSum 33 (63, .goto (-55), 3) rfl) (by decide) (aw_drop (ls' := [some (.ref 19), some (.int x1), some (.int r29), some (.int (x3 + 1)), none]) ⟨rfl, rfl, rfl, rfl, trivial⟩ ?_))))
              exact h
            · intro q30
              have h := h.2 q30
              obtain ⟨g31, h⟩ := h
              refine aw_aload_n (pc' := 13) (dt_X6_write 6 (12, .aload_n 0, 1) rfl) rfl rfl (aw_getAs (pc' := 16) (dt_X6_write 7 (13, .getfield 18, 3) rfl) fl_Reader_18 rfl rfl (sk_19 hS28) (sa_19_1 hS28) (aw_aload_n (pc' := 17) (dt_X6_write 8 (16, .aload_n 0, 1) rfl) rfl rfl (aw_getI (pc' := 20) (dt_X6_write 9 (17, .getfield 54, 3) rfl) fl_Reader_54 rfl rfl (sk_19 hS28) (aw_iload_n (pc' := 21) (dt_X6_write 10 (20, .iload_n 1, 1) rfl) rfl rfl (aw_iast (pc' := 22) (dt_X6_write 11 (21, .iastore, 1) rfl) rfl (sk_25 hS28) (by decide) (vin_eq (sl_25 hS28) g31) (aw_aload_n (pc' := 23) (dt_X6_write 12 (22, .aload_n 0, 1) rfl) rfl rfl (aw_dup (pc' := 24) (dt_X6_write 13 (23, .dup, 1) rfl) rfl rfl (aw_getI (pc' := 27) (dt_X6_write 14 (24, .getfield 54, 3) rfl) fl_Reader_54 rfl rfl (sk_19 hS28.wI) (aw_iconst (pc' := 28) (v := 1) (dt_X6_write 15 (27, .iconst 1, 1) rfl) (by decide) rfl (aw_iadd (pc' := 29) (dt_X6_write 16 (28, .iadd, 1) rfl) rfl (aw_putI (pc' := 32) (dt_X6_write 17 (29, .putfield 54, 3) rfl) fl_Reader_54 rfl (by decide +kernel) rfl (sk_19 hS28.wI) (aw_ret (dt_X6_write 18 (32, .return_, 1) rfl) rfl (aw_stk (st' := []) rfl (aw_iinc (pc' := 63) (v := 1) (ls' := [some (.ref 19), some (.int x1), some (.int r29), some (.int (x3 + 1)), some (.int (zI μ 19 4))]) (dt_X6_readSum 32 (60, .iinc 3 1, 3) rfl) rfl (by decide) (by decide) rfl rfl (aw_goto (tgt := 8) (dt_X6_readSum 33 (63, .goto (-55), 3) rfl) (by decide) (aw_drop (ls' := [some (.ref 19), some (.int x1), some (.int r29), some (.int (x3 + 1)), none]) ⟨rfl, rfl, rfl, rfl, trivial⟩ ?_))))))))))))))))
              exact h
          · intro q26
            have h := h.2 q26
            refine aw_aload_n (pc' := 17) (dt_X6_step 8 (16, .aload_n 0, 1) rfl) rfl rfl (aw_getI (pc' := 20) (dt_X6_step 9 (17, .getfield 45, 3) rfl) fl_Reader_45 rfl rfl (sk_19 hS) (aw_iconst (pc' := 21) (v := 1) (dt_X6_step 10 (20, .iconst 1, 1) rfl) (by decide) rfl (aw_iadd (pc' := 22) (dt_X6_step 11 (21, .iadd, 1) rfl) rfl (aw_aload_n (pc' := 23) (dt_X6_step 12 (22, .aload_n 0, 1) rfl) rfl rfl (aw_getAs (pc' := 26) (dt_X6_step 13 (23, .getfield 12, 3) rfl) fl_Reader_12 rfl rfl (sk_19 hS) (sa_19_0 hS) (aw_getAs (pc' := 29) (dt_X6_step 14 (26, .getfield 66, 3) rfl) fl_Reader_66 rfl rfl (sk_20 hS) (sa_20_2 hS) (aw_alens (pc' := 30) (n := 201) (v := 201) (dt_X6_step 15 (29, .arraylength, 1) rfl) (by decide) (by decide) rfl (sk_22 hS) (sl_22 hS) (by decide) (aw_icmp_ge (pc' := 33) (tgt := 59) (dt_X6_step 16 (30, .if_icmp .ge 29, 3) rfl) (by decide) rfl ?_ ?_))))))))
            · intro q32
              have h := h.1 q32
              refine aw_ret (dt_X6_step 31 (59, .return_, 1) rfl) rfl (aw_stk (st' := []) rfl (aw_aload_n (pc' := 48) (dt_X6_readSum 24 (47, .aload_n 0, 1) rfl) rfl rfl (aw_iload_n (pc' := 49) (dt_X6_readSum 25 (48, .iload_n 1, 1) rfl) rfl rfl (aw_callV0 (pc' := 52) (nc := nc) (ns := ns) (y2 := mX6_readProduct) (As := [.int x1]) (rest := []) (a := 19) (dt_X6_readSum 26 (49, .invokevirtual 91, 3) rfl) ok_X6_readProduct ln_Reader_91 im_X6_readProduct se_X6_readProduct pr_X6_readProduct (Or.inl ⟨by decide, rfl⟩) rfl (Nat.le_of_ble_eq_true rfl) (Nat.le_of_ble_eq_true rfl) rfl (sk_19 hS) h ?_))))
              rintro v μ33 ⟨r35, rfl, hS34, h⟩
              refine aw_stk (st' := [.int r35]) rfl ?_
              refine aw_istore_n (pc' := 53) (ls' := [some (.ref 19), some (.int x1), some (.int r35), some (.int x3), some (.int (zI μ 19 4))]) (dt_X6_readSum 27 (52, .istore_n 2, 1) rfl) (by decide) rfl rfl (aw_aload_n (pc' := 54) (dt_X6_readSum 28 (53, .aload_n 0, 1) rfl) rfl rfl (aw_iload (pc' := 56) (dt_X6_readSum 29 (54, .iload 4, 2) rfl) rfl rfl (aw_ineg (pc' := 57) (dt_X6_readSum 30 (56, .ineg, 1) rfl) rfl (aw_inV (pc' := 60) (nc1 := 0) (ns1 := 0) (nc := nc) (ns := ns) (ls' := [some (.ref 19), some (.int (-(zI μ 19 4)))]) (y2 := mX6_write) (As := [.int (-(zI μ 19 4))]) (rest := []) (a := 19) (dt_X6_readSum 31 (57, .invokevirtual 75, 3) rfl) ok_X6_write ln_Reader_75 im_X6_write se_X6_write pr_X6_write (Or.inl ⟨by decide, rfl⟩) rfl (Nat.le_of_ble_eq_true rfl) (Nat.le_of_ble_eq_true rfl) rfl rfl (sk_19 hS34) (aw_aload_n (pc' := 1) (dt_X6_write 0 (0, .aload_n 0, 1) rfl) rfl rfl (aw_getI (pc' := 4) (dt_X6_write 1 (1, .getfield 54, 3) rfl) fl_Reader_54 rfl rfl (sk_19 hS34) (aw_aload_n (pc' := 5) (dt_X6_write 2 (4, .aload_n 0, 1) rfl) rfl rfl (aw_getAs (pc' := 8) (dt_X6_write 3 (5, .getfield 18, 3) rfl) fl_Reader_18 rfl rfl (sk_19 hS34) (sa_19_1 hS34) (aw_alens (pc' := 9) (n := 400) (v := 400) (dt_X6_write 4 (8, .arraylength, 1) rfl) (by decide) (by decide) rfl (sk_25 hS34) (sl_25 hS34) (by decide) (aw_icmp_ge (pc' := 12) (tgt := 32) (dt_X6_write 5 (9, .if_icmp .ge 23, 3) rfl) (by decide) rfl ?_ ?_))))))))))
              · intro q36
                have h := h.1 q36
                refine aw_ret (dt_X6_write 18 (32, .return_, 1) rfl) rfl (aw_stk (st' := []) rfl (aw_iinc (pc' := 63) (v := 1) (ls' := [some (.ref 19), some (.int x1), some (.int r35), some (.int (x3 + 1)), some (.int (zI μ 19 4))]) (dt_X6_readSum 32 (60, .iinc 3 1, 3) rfl) rfl (by decide) (by decide) rfl rfl (aw_goto (tgt := 8) (dt_X6_readSum 33 (63, .goto (-55), 3) rfl) (by decide) (aw_drop (ls' := [some (.ref 19), some (.int x1), some (.int r35), some (.int (x3 + 1)), none]) ⟨rfl, rfl, rfl, rfl, trivial⟩ ?_))))
                exact h
              · intro q36
                have h := h.2 q36
                obtain ⟨g37, h⟩ := h
                refine aw_aload_n (pc' := 13) (dt_X6_write 6 (12, .aload_n 0, 1) rfl) rfl rfl (aw_getAs (pc' := 16) (dt_X6_write 7 (13, .getfield 18, 3) rfl) fl_Reader_18 rfl rfl (sk_19 hS34) (sa_19_1 hS34) (aw_aload_n (pc' := 17) (dt_X6_write 8 (16, .aload_n 0, 1) rfl) rfl rfl (aw_getI (pc' := 20) (dt_X6_write 9 (17, .getfield 54, 3) rfl) fl_Reader_54 rfl rfl (sk_19 hS34) (aw_iload_n (pc' := 21) (dt_X6_write 10 (20, .iload_n 1, 1) rfl) rfl rfl (aw_iast (pc' := 22) (dt_X6_write 11 (21, .iastore, 1) rfl) rfl (sk_25 hS34) (by decide) (vin_eq (sl_25 hS34) g37) (aw_aload_n (pc' := 23) (dt_X6_write 12 (22, .aload_n 0, 1) rfl) rfl rfl (aw_dup (pc' := 24) (dt_X6_write 13 (23, .dup, 1) rfl) rfl rfl (aw_getI (pc' := 27) (dt_X6_write 14 (24, .getfield 54, 3) rfl) fl_Reader_54 rfl rfl (sk_19 hS34.wI) (aw_iconst (pc' := 28) (v := 1) (dt_X6_write 15 (27, .iconst 1, 1) rfl) (by decide) rfl (aw_iadd (pc' := 29) (dt_X6_write 16 (28, .iadd, 1) rfl) rfl (aw_putI (pc' := 32) (dt_X6_write 17 (29, .putfield 54, 3) rfl) fl_Reader_54 rfl (by decide +kernel) rfl (sk_19 hS34.wI) (aw_ret (dt_X6_write 18 (32, .return_, 1) rfl) rfl (aw_stk (st' := []) rfl (aw_iinc (pc' := 63) (v := 1) (ls' := [some (.ref 19), some (.int x1), some (.int r35), some (.int (x3 + 1)), some (.int (zI μ 19 4))]) (dt_X6_readSum 32 (60, .iinc 3 1, 3) rfl) rfl (by decide) (by decide) rfl rfl (aw_goto (tgt := 8) (dt_X6_readSum 33 (63, .goto (-55), 3) rfl) (by decide) (aw_drop (ls' := [some (.ref 19), some (.int x1), some (.int r35), some (.int (x3 + 1)), none]) ⟨rfl, rfl, rfl, rfl, trivial⟩ ?_))))))))))))))))
                exact h
            · intro q32
              have h := h.2 q32
              obtain ⟨g38, h⟩ := h
              refine aw_aload_n (pc' := 34) (dt_X6_step 17 (33, .aload_n 0, 1) rfl) rfl rfl (aw_dup (pc' := 35) (dt_X6_step 18 (34, .dup, 1) rfl) rfl rfl (aw_getI (pc' := 38) (dt_X6_step 19 (35, .getfield 45, 3) rfl) fl_Reader_45 rfl rfl (sk_19 hS) (aw_iconst (pc' := 39) (v := 1) (dt_X6_step 20 (38, .iconst 1, 1) rfl) (by decide) rfl (aw_iadd (pc' := 40) (dt_X6_step 21 (39, .iadd, 1) rfl) rfl (aw_putI (pc' := 43) (dt_X6_step 22 (40, .putfield 45, 3) rfl) fl_Reader_45 rfl (by decide +kernel) rfl (sk_19 hS) (aw_aload_n (pc' := 44) (dt_X6_step 23 (43, .aload_n 0, 1) rfl) rfl rfl (aw_aload_n (pc' := 45) (dt_X6_step 24 (44, .aload_n 0, 1) rfl) rfl rfl (aw_getAs (pc' := 48) (dt_X6_step 25 (45, .getfield 12, 3) rfl) fl_Reader_12 rfl rfl (sk_19 hS.wI) (sa_19_0 hS.wI) (aw_getAs (pc' := 51) (dt_X6_step 26 (48, .getfield 66, 3) rfl) fl_Reader_66 rfl rfl (sk_20 hS.wI) (sa_20_2 hS.wI) (aw_aload_n (pc' := 52) (dt_X6_step 27 (51, .aload_n 0, 1) rfl) rfl rfl (aw_getI (pc' := 55) (dt_X6_step 28 (52, .getfield 45, 3) rfl) fl_Reader_45 rfl rfl (sk_19 hS.wI) (aw_iald (pc' := 56) (dt_X6_step 29 (55, .iaload, 1) rfl) rfl (sk_22 hS.wI) (vin_eq (sl_22 hS.wI) g38) (aw_putI (pc' := 59) (dt_X6_step 30 (56, .putfield 22, 3) rfl) fl_Reader_22 rfl (by decide +kernel) rfl (sk_19 hS.wI) (aw_ret (dt_X6_step 31 (59, .return_, 1) rfl) rfl (aw_stk (st' := []) rfl (aw_aload_n (pc' := 48) (dt_X6_readSum 24 (47, .aload_n 0, 1) rfl) rfl rfl (aw_iload_n (pc' := 49) (dt_X6_readSum 25 (48, .iload_n 1, 1) rfl) rfl rfl (aw_callV0 (pc' := 52) (nc := nc) (ns := ns) (y2 := mX6_readProduct) (As := [.int x1]) (rest := []) (a := 19) (dt_X6_readSum 26 (49, .invokevirtual 91, 3) rfl) ok_X6_readProduct ln_Reader_91 im_X6_readProduct se_X6_readProduct pr_X6_readProduct (Or.inl ⟨by decide, rfl⟩) rfl (Nat.le_of_ble_eq_true rfl) (Nat.le_of_ble_eq_true rfl) rfl (sk_19 hS.wI.wI) h ?_))))))))))))))))))
              rintro v μ39 ⟨r41, rfl, hS40, h⟩
              refine aw_stk (st' := [.int r41]) rfl ?_
              refine aw_istore_n (pc' := 53) (ls' := [some (.ref 19), some (.int x1), some (.int r41), some (.int x3), some (.int (zI μ 19 4))]) (dt_X6_readSum 27 (52, .istore_n 2, 1) rfl) (by decide) rfl rfl (aw_aload_n (pc' := 54) (dt_X6_readSum 28 (53, .aload_n 0, 1) rfl) rfl rfl (aw_iload (pc' := 56) (dt_X6_readSum 29 (54, .iload 4, 2) rfl) rfl rfl (aw_ineg (pc' := 57) (dt_X6_readSum 30 (56, .ineg, 1) rfl) rfl (aw_inV (pc' := 60) (nc1 := 0) (ns1 := 0) (nc := nc) (ns := ns) (ls' := [some (.ref 19), some (.int (-(zI μ 19 4)))]) (y2 := mX6_write) (As := [.int (-(zI μ 19 4))]) (rest := []) (a := 19) (dt_X6_readSum 31 (57, .invokevirtual 75, 3) rfl) ok_X6_write ln_Reader_75 im_X6_write se_X6_write pr_X6_write (Or.inl ⟨by decide, rfl⟩) rfl (Nat.le_of_ble_eq_true rfl) (Nat.le_of_ble_eq_true rfl) rfl rfl (sk_19 hS40) (aw_aload_n (pc' := 1) (dt_X6_write 0 (0, .aload_n 0, 1) rfl) rfl rfl (aw_getI (pc' := 4) (dt_X6_write 1 (1, .getfield 54, 3) rfl) fl_Reader_54 rfl rfl (sk_19 hS40) (aw_aload_n (pc' := 5) (dt_X6_write 2 (4, .aload_n 0, 1) rfl) rfl rfl (aw_getAs (pc' := 8) (dt_X6_write 3 (5, .getfield 18, 3) rfl) fl_Reader_18 rfl rfl (sk_19 hS40) (sa_19_1 hS40) (aw_alens (pc' := 9) (n := 400) (v := 400) (dt_X6_write 4 (8, .arraylength, 1) rfl) (by decide) (by decide) rfl (sk_25 hS40) (sl_25 hS40) (by decide) (aw_icmp_ge (pc' := 12) (tgt := 32) (dt_X6_write 5 (9, .if_icmp .ge 23, 3) rfl) (by decide) rfl ?_ ?_))))))))))
              · intro q42
                have h := h.1 q42
                refine aw_ret (dt_X6_write 18 (32, .return_, 1) rfl) rfl (aw_stk (st' := []) rfl (aw_iinc (pc' := 63) (v := 1) (ls' := [some (.ref 19), some (.int x1), some (.int r41), some (.int (x3 + 1)), some (.int (zI μ 19 4))]) (dt_X6_readSum 32 (60, .iinc 3 1, 3) rfl) rfl (by decide) (by decide) rfl rfl (aw_goto (tgt := 8) (dt_X6_readSum 33 (63, .goto (-55), 3) rfl) (by decide) (aw_drop (ls' := [some (.ref 19), some (.int x1), some (.int r41), some (.int (x3 + 1)), none]) ⟨rfl, rfl, rfl, rfl, trivial⟩ ?_))))
                exact h
              · intro q42
                have h := h.2 q42
                obtain ⟨g43, h⟩ := h
                refine aw_aload_n (pc' := 13) (dt_X6_write 6 (12, .aload_n 0, 1) rfl) rfl rfl (aw_getAs (pc' := 16) (dt_X6_write 7 (13, .getfield 18, 3) rfl) fl_Reader_18 rfl rfl (sk_19 hS40) (sa_19_1 hS40) (aw_aload_n (pc' := 17) (dt_X6_write 8 (16, .aload_n 0, 1) rfl) rfl rfl (aw_getI (pc' := 20) (dt_X6_write 9 (17, .getfield 54, 3) rfl) fl_Reader_54 rfl rfl (sk_19 hS40) (aw_iload_n (pc' := 21) (dt_X6_write 10 (20, .iload_n 1, 1) rfl) rfl rfl (aw_iast (pc' := 22) (dt_X6_write 11 (21, .iastore, 1) rfl) rfl (sk_25 hS40) (by decide) (vin_eq (sl_25 hS40) g43) (aw_aload_n (pc' := 23) (dt_X6_write 12 (22, .aload_n 0, 1) rfl) rfl rfl (aw_dup (pc' := 24) (dt_X6_write 13 (23, .dup, 1) rfl) rfl rfl (aw_getI (pc' := 27) (dt_X6_write 14 (24, .getfield 54, 3) rfl) fl_Reader_54 rfl rfl (sk_19 hS40.wI) (aw_iconst (pc' := 28) (v := 1) (dt_X6_write 15 (27, .iconst 1, 1) rfl) (by decide) rfl (aw_iadd (pc' := 29) (dt_X6_write 16 (28, .iadd, 1) rfl) rfl (aw_putI (pc' := 32) (dt_X6_write 17 (29, .putfield 54, 3) rfl) fl_Reader_54 rfl (by decide +kernel) rfl (sk_19 hS40.wI) (aw_ret (dt_X6_write 18 (32, .return_, 1) rfl) rfl (aw_stk (st' := []) rfl (aw_iinc (pc' := 63) (v := 1) (ls' := [some (.ref 19), some (.int x1), some (.int r41), some (.int (x3 + 1)), some (.int (zI μ 19 4))]) (dt_X6_readSum 32 (60, .iinc 3 1, 3) rfl) rfl (by decide) (by decide) rfl rfl (aw_goto (tgt := 8) (dt_X6_readSum 33 (63, .goto (-55), 3) rfl) (by decide) (aw_drop (ls' := [some (.ref 19), some (.int x1), some (.int r41), some (.int (x3 + 1)), none]) ⟨rfl, rfl, rfl, rfl, trivial⟩ ?_))))))))))))))))
                exact h

theorem t_X6_readProduct {E : ZE} {l : Launch} {d nc ns : Nat} {x1 : Int32} {μ : ZM} {K : Option Value → ZM → Prop} (hS : Stat μ) (h :
  AW E l d 0 0 mX6_readOperand 0 (zargs 2 [.ref 19, .int x1]) [] μ (fun v μ1 => ∃ r3 : Int32, v = some (.int r3) ∧ Stat μ1 ∧ 
    AW E l (d + 1) nc ns mX6_readProduct 8 [some (.ref 19), some (.int x1), some (.int r3), some (.int 0), none] [] μ1 K)) : AW E l (d + 1) nc ns mX6_readProduct 0 [some (.ref 19), some (.int x1), none, none, none] [] μ K := by
  refine aw_aload_n (pc' := 1) (dt_X6_readProduct 0 (0, .aload_n 0, 1) rfl) rfl rfl (aw_iload_n (pc' := 2) (dt_X6_readProduct 1 (1, .iload_n 1, 1) rfl) rfl rfl (aw_callV0 (pc' := 5) (nc := nc) (ns := ns) (y2 := mX6_readOperand) (As := [.int x1]) (rest := []) (a := 19) (dt_X6_readProduct 2 (2, .invokevirtual 94, 3) rfl) ok_X6_readOperand ln_Reader_94 im_X6_readOperand se_X6_readOperand pr_X6_readOperand (Or.inl ⟨by decide, rfl⟩) rfl (Nat.le_of_ble_eq_true rfl) (Nat.le_of_ble_eq_true rfl) rfl (sk_19 hS) h ?_))
  rintro v μ1 ⟨r3, rfl, hS2, h⟩
  refine aw_stk (st' := [.int r3]) rfl ?_
  refine aw_istore_n (pc' := 6) (ls' := [some (.ref 19), some (.int x1), some (.int r3), none, none]) (dt_X6_readProduct 3 (5, .istore_n 2, 1) rfl) (by decide) rfl rfl (aw_iconst (pc' := 7) (v := 0) (dt_X6_readProduct 4 (6, .iconst 0, 1) rfl) (by decide) rfl (aw_istore_n (pc' := 8) (ls' := [some (.ref 19), some (.int x1), some (.int r3), some (.int 0), none]) (dt_X6_readProduct 5 (7, .istore_n 3, 1) rfl) (by decide) rfl rfl ?_))
  exact h

theorem t_X6_readProduct_8 {E : ZE} {l : Launch} {d nc ns : Nat} {x1 : Int32} {x2 : Int32} {x3 : Int32} {μ : ZM} {K : Option Value → ZM → Prop} (hS : Stat μ) (h :
  (200 ≤ x3 →
    (x2 = 0 ∨ x2 = 1) ∧
    K (some (.int x2)) μ) ∧
  (¬ 200 ≤ x3 →
    (x2 = 0 →
      (x2 = 0 ∨ x2 = 1) ∧
      K (some (.int x2)) μ) ∧
    (¬ x2 = 0 →
      ((zI μ 19 4) = 42 →
        ((zI μ 20 5) ≤ ((zI μ 19 3) + 1) →
          AW E l d 0 0 mX6_readOperand 0 (zargs 2 [.ref 19, .int x1]) [] μ (fun v μ7 => ∃ r9 : Int32, v = some (.int r9) ∧ Stat μ7 ∧ 
            (400 ≤ (zI μ7 19 2) →
              AW E l (d + 1) nc ns mX6_readProduct 8 [some (.ref 19), some (.int x1), some (.int r9), some (.int (x3 + 1)), none] [] μ7 K) ∧
            (¬ 400 ≤ (zI μ7 19 2) →
              (vp_in (zI μ7 19 2) 400) ∧
              AW E l (d + 1) nc ns mX6_readProduct 8 [some (.ref 19), some (.int x1), some (.int r9), some (.int (x3 + 1)), none] [] (sI (sI μ7 25 (zI μ7 19 2).toNatClampNeg (-(zI μ 19 4))) 19 2 ((zI (sI μ7 25 (zI μ7 19 2).toNatClampNeg (-(zI μ 19 4))) 19 2) + 1)) K))) ∧
        (¬ (zI μ 20 5) ≤ ((zI μ 19 3) + 1) →
          (201 ≤ ((zI μ 19 3) + 1) →
            AW E l d 0 0 mX6_readOperand 0 (zargs 2 [.ref 19, .int x1]) [] μ (fun v μ13 => ∃ r15 : Int32, v = some (.int r15) ∧ Stat μ13 ∧ 
              (400 ≤ (zI μ13 19 2) →
                AW E l (d + 1) nc ns mX6_readProduct 8 [some (.ref 19), some (.int x1), some (.int r15), some (.int (x3 + 1)), none] [] μ13 K) ∧
              (¬ 400 ≤ (zI μ13 19 2) →
                (vp_in (zI μ13 19 2) 400) ∧
                AW E l (d + 1) nc ns mX6_readProduct 8 [some (.ref 19), some (.int x1), some (.int r15), some (.int (x3 + 1)), none] [] (sI (sI μ13 25 (zI μ13 19 2).toNatClampNeg (-(zI μ 19 4))) 19 2 ((zI (sI μ13 25 (zI μ13 19 2).toNatClampNeg (-(zI μ 19 4))) 19 2) + 1)) K))) ∧
          (¬ 201 ≤ ((zI μ 19 3) + 1) →
            (vp_in (zI (sI μ 19 3 ((zI μ 19 3) + 1)) 19 3) 201) ∧
            AW E l d 0 0 mX6_readOperand 0 (zargs 2 [.ref 19, .int x1]) [] (sI (sI μ 19 3 ((zI μ 19 3) + 1)) 19 4 (zI (sI μ 19 3 ((zI μ 19 3) + 1)) 22 (zI (sI μ 19 3 ((zI μ 19 3) + 1)) 19 3).toNatClampNeg)) (fun v μ19 => ∃ r21 : Int32, v = some (.int r21) ∧ Stat μ19 ∧ 
              (400 ≤ (zI μ19 19 2) →
                AW E l (d + 1) nc ns mX6_readProduct 8 [some (.ref 19), some (.int x1), some (.int r21), some (.int (x3 + 1)), none] [] μ19 K) ∧
              (¬ 400 ≤ (zI μ19 19 2) →
                (vp_in (zI μ19 19 2) 400) ∧
                AW E l (d + 1) nc ns mX6_readProduct 8 [some (.ref 19), some (.int x1), some (.int r21), some (.int (x3 + 1)), none] [] (sI (sI μ19 25 (zI μ19 19 2).toNatClampNeg (-(zI μ 19 4))) 19 2 ((zI (sI μ19 25 (zI μ19 19 2).toNatClampNeg (-(zI μ 19 4))) 19 2) + 1)) K))))) ∧
      (¬ (zI μ 19 4) = 42 →
        (¬ (zI μ 19 4) = 47 →
          (x2 = 0 ∨ x2 = 1) ∧
          K (some (.int x2)) μ) ∧
        ((zI μ 19 4) = 47 →
          ((zI μ 20 5) ≤ ((zI μ 19 3) + 1) →
            AW E l d 0 0 mX6_readOperand 0 (zargs 2 [.ref 19, .int x1]) [] μ (fun v μ27 => ∃ r29 : Int32, v = some (.int r29) ∧ Stat μ27 ∧ 
              (400 ≤ (zI μ27 19 2) →
                AW E l (d + 1) nc ns mX6_readProduct 8 [some (.ref 19), some (.int x1), some (.int r29), some (.int (x3 + 1)), none] [] μ27 K) ∧
              (¬ 400 ≤ (zI μ27 19 2) →
                (vp_in (zI μ27 19 2) 400) ∧
                AW E l (d + 1) nc ns mX6_readProduct 8 [some (.ref 19), some (.int x1), some (.int r29), some (.int (x3 + 1)), none] [] (sI (sI μ27 25 (zI μ27 19 2).toNatClampNeg (-(zI μ 19 4))) 19 2 ((zI (sI μ27 25 (zI μ27 19 2).toNatClampNeg (-(zI μ 19 4))) 19 2) + 1)) K))) ∧
          (¬ (zI μ 20 5) ≤ ((zI μ 19 3) + 1) →
            (201 ≤ ((zI μ 19 3) + 1) →
              AW E l d 0 0 mX6_readOperand 0 (zargs 2 [.ref 19, .int x1]) [] μ (fun v μ33 => ∃ r35 : Int32, v = some (.int r35) ∧ Stat μ33 ∧ 
                (400 ≤ (zI μ33 19 2) →
                  AW E l (d + 1) nc ns mX6_readProduct 8 [some (.ref 19), some (.int x1), some (.int r35), some (.int (x3 + 1)), none] [] μ33 K) ∧
                (¬ 400 ≤ (zI μ33 19 2) →
                  (vp_in (zI μ33 19 2) 400) ∧
                  AW E l (d + 1) nc ns mX6_readProduct 8 [some (.ref 19), some (.int x1), some (.int r35), some (.int (x3 + 1)), none] [] (sI (sI μ33 25 (zI μ33 19 2).toNatClampNeg (-(zI μ 19 4))) 19 2 ((zI (sI μ33 25 (zI μ33 19 2).toNatClampNeg (-(zI μ 19 4))) 19 2) + 1)) K))) ∧
            (¬ 201 ≤ ((zI μ 19 3) + 1) →
              (vp_in (zI (sI μ 19 3 ((zI μ 19 3) + 1)) 19 3) 201) ∧
              AW E l d 0 0 mX6_readOperand 0 (zargs 2 [.ref 19, .int x1]) [] (sI (sI μ 19 3 ((zI μ 19 3) + 1)) 19 4 (zI (sI μ 19 3 ((zI μ 19 3) + 1)) 22 (zI (sI μ 19 3 ((zI μ 19 3) + 1)) 19 3).toNatClampNeg)) (fun v μ39 => ∃ r41 : Int32, v = some (.int r41) ∧ Stat μ39 ∧ 
                (400 ≤ (zI μ39 19 2) →
                  AW E l (d + 1) nc ns mX6_readProduct 8 [some (.ref 19), some (.int x1), some (.int r41), some (.int (x3 + 1)), none] [] μ39 K) ∧
                (¬ 400 ≤ (zI μ39 19 2) →
                  (vp_in (zI μ39 19 2) 400) ∧
                  AW E l (d + 1) nc ns mX6_readProduct 8 [some (.ref 19), some (.int x1), some (.int r41), some (.int (x3 + 1)), none] [] (sI (sI μ39 25 (zI μ39 19 2).toNatClampNeg (-(zI μ 19 4))) 19 2 ((zI (sI μ39 25 (zI μ39 19 2).toNatClampNeg (-(zI μ 19 4))) 19 2) + 1)) K))))))))) : AW E l (d + 1) nc ns mX6_readProduct 8 [some (.ref 19), some (.int x1), some (.int x2), some (.int x3), none] [] μ K := by
  refine aw_iload_n (pc' := 9) (dt_X6_readProduct 6 (8, .iload_n 3, 1) rfl) rfl rfl (aw_sipush (pc' := 12) (v := 200) (dt_X6_readProduct 7 (9, .sipush 200, 3) rfl) (by decide) rfl (aw_icmp_ge (pc' := 15) (tgt := 66) (dt_X6_readProduct 8 (12, .if_icmp .ge 54, 3) rfl) (by decide) rfl ?_ ?_))
  · intro q1
    have h := h.1 q1
    obtain ⟨g2, h⟩ := h
    refine aw_iload_n (pc' := 67) (dt_X6_readProduct 34 (66, .iload_n 2, 1) rfl) rfl rfl (aw_iret (dt_X6_readProduct 35 (67, .ireturn, 1) rfl) rfl (nb01 g2) ?_)
    exact h
  · intro q1
    have h := h.2 q1
    refine aw_iload_n (pc' := 16) (dt_X6_readProduct 9 (15, .iload_n 2, 1) rfl) rfl rfl (aw_if_eq (pc' := 19) (tgt := 66) (dt_X6_readProduct 10 (16, .ifCond .eq 50, 3) rfl) (by decide) rfl ?_ ?_)
    · intro q3
      have h := h.1 q3
      obtain ⟨g4, h⟩ := h
      refine aw_iload_n (pc' := 67) (dt_X6_readProduct 34 (66, .iload_n 2, 1) rfl) rfl rfl (aw_iret (dt_X6_readProduct 35 (67, .ireturn, 1) rfl) rfl (nb01 g4) ?_)
      exact h
    · intro q3
      have h := h.2 q3
      refine aw_aload_n (pc' := 20) (dt_X6_readProduct 11 (19, .aload_n 0, 1) rfl) rfl rfl (aw_getI (pc' := 23) (dt_X6_readProduct 12 (20, .getfield 22, 3) rfl) fl_Reader_22 rfl rfl (sk_19 hS) (aw_bipush (pc' := 25) (v := 42) (dt_X6_readProduct 13 (23, .bipush 42, 2) rfl) (by decide) rfl (aw_icmp_eq (pc' := 28) (tgt := 37) (dt_X6_readProduct 14 (25, .if_icmp .eq 12, 3) rfl) (by decide) rfl ?_ ?_)))
      · intro q5
        have h := h.1 q5
        refine aw_aload_n (pc' := 38) (dt_X6_readProduct 19 (37, .aload_n 0, 1) rfl) rfl rfl (aw_getI (pc' := 41) (dt_X6_readProduct 20 (38, .getfield 22, 3) rfl) fl_Reader_22 rfl rfl (sk_19 hS) (aw_istore (pc' := 43) (ls' := [some (.ref 19), some (.int x1), some (.int x2), some (.int x3), some (.int (zI μ 19 4))]) (dt_X6_readProduct 21 (41, .istore 4, 2) rfl) (by decide) rfl rfl (aw_aload_n (pc' := 44) (dt_X6_readProduct 22 (43, .aload_n 0, 1) rfl) rfl rfl (aw_inV (pc' := 47) (nc1 := 0) (ns1 := 0) (nc := nc) (ns := ns) (ls' := [some (.ref 19)]) (y2 := mX6_step) (As := []) (rest := []) (a := 19) (dt_X6_readProduct 23 (44, .invokevirtual 36, 3) rfl) ok_X6_step ln_Reader_36 im_X6_step se_X6_step pr_X6_step (Or.inl ⟨by decide, rfl⟩) rfl (Nat.le_of_ble_eq_true rfl) (Nat.le_of_ble_eq_true rfl) rfl rfl (sk_19 hS) (aw_aload_n (pc' := 1) (dt_X6_step 0 (0, .aload_n 0, 1) rfl) rfl rfl (aw_getI (pc' := 4) (dt_X6_step 1 (1, .getfield 45, 3) rfl) fl_Reader_45 rfl rfl (sk_19 hS) (aw_iconst (pc' := 5) (v := 1) (dt_X6_step 2 (4, .iconst 1, 1) rfl) (by decide) rfl (aw_iadd (pc' := 6) (dt_X6_step 3 (5, .iadd, 1) rfl) rfl (aw_aload_n (pc' := 7) (dt_X6_step 4 (6, .aload_n 0, 1) rfl) rfl rfl (aw_getAs (pc' := 10) (dt_X6_step 5 (7, .getfield 12, 3) rfl) fl_Reader_12 rfl rfl (sk_19 hS) (sa_19_0 hS) (aw_getI (pc' := 13) (dt_X6_step 6 (10, .getfield 69, 3) rfl) fl_Reader_69 rfl rfl (sk_20 hS) (aw_icmp_ge (pc' := 16) (tgt := 59) (dt_X6_step 7 (13, .if_icmp .ge 46, 3) rfl) (by decide) rfl ?_ ?_))))))))))))
        · intro q6
          have h := h.1 q6
          refine aw_ret (dt_X6_step 31 (59, .return_, 1) rfl) rfl (aw_stk (st' := []) rfl (aw_aload_n (pc' := 48) (dt_X6_readProduct 24 (47, .aload_n 0, 1) rfl) rfl rfl (aw_iload_n (pc' := 49) (dt_X6_readProduct 25 (48, .iload_n 1, 1) rfl) rfl rfl (aw_callV0 (pc' := 52) (nc := nc) (ns := ns) (y2 := mX6_readOperand) (As := [.int x1]) (rest := []) (a := 19) (dt_X6_readProduct 26 (49, .invokevirtual 94, 3) rfl) ok_X6_readOperand ln_Reader_94 im_X6_readOperand se_X6_readOperand pr_X6_readOperand (Or.inl ⟨by decide, rfl⟩) rfl (Nat.le_of_ble_eq_true rfl) (Nat.le_of_ble_eq_true rfl) rfl (sk_19 hS) h ?_))))
          rintro v μ7 ⟨r9, rfl, hS8, h⟩
          refine aw_stk (st' := [.int r9]) rfl ?_
          refine aw_istore_n (pc' := 53) (ls' := [some (.ref 19), some (.int x1), some (.int r9), some (.int x3), some (.int (zI μ 19 4))]) (dt_X6_readProduct 27 (52, .istore_n 2, 1) rfl) (by decide) rfl rfl (aw_aload_n (pc' := 54) (dt_X6_readProduct 28 (53, .aload_n 0, 1) rfl) rfl rfl (aw_iload (pc' := 56) (dt_X6_readProduct 29 (54, .iload 4, 2) rfl) rfl rfl (aw_ineg (pc' := 57) (dt_X6_readProduct 30 (56, .ineg, 1) rfl) rfl (aw_inV (pc' := 60) (nc1 := 0) (ns1 := 0) (nc := nc) (ns := ns) (ls' := [some (.ref 19), some (.int (-(zI μ 19 4)))]) (y2 := mX6_write) (As := [.int (-(zI μ 19 4))]) (rest := []) (a := 19) (dt_X6_readProduct 31 (57, .invokevirtual 75, 3) rfl) ok_X6_write ln_Reader_75 im_X6_write se_X6_write pr_X6_write (Or.inl ⟨by decide, rfl⟩) rfl (Nat.le_of_ble_eq_true rfl) (Nat.le_of_ble_eq_true rfl) rfl rfl (sk_19 hS8) (aw_aload_n (pc' := 1) (dt_X6_write 0 (0, .aload_n 0, 1) rfl) rfl rfl (aw_getI (pc' := 4) (dt_X6_write 1 (1, .getfield 54, 3) rfl) fl_Reader_54 rfl rfl (sk_19 hS8) (aw_aload_n (pc' := 5) (dt_X6_write 2 (4, .aload_n 0, 1) rfl) rfl rfl (aw_getAs (pc' := 8) (dt_X6_write 3 (5, .getfield 18, 3) rfl) fl_Reader_18 rfl rfl (sk_19 hS8) (sa_19_1 hS8) (aw_alens (pc' := 9) (n := 400) (v := 400) (dt_X6_write 4 (8, .arraylength, 1) rfl) (by decide) (by decide) rfl (sk_25 hS8) (sl_25 hS8) (by decide) (aw_icmp_ge (pc' := 12) (tgt := 32) (dt_X6_write 5 (9, .if_icmp .ge 23, 3) rfl) (by decide) rfl ?_ ?_))))))))))
          · intro q10
            have h := h.1 q10
            refine aw_ret (dt_X6_write 18 (32, .return_, 1) rfl) rfl (aw_stk (st' := []) rfl (aw_iinc (pc' := 63) (v := 1) (ls' := [some (.ref 19), some (.int x1), some (.int r9), some (.int (x3 + 1)), some (.int (zI μ 19 4))]) (dt_X6_readProduct 32 (60, .iinc 3 1, 3) rfl) rfl (by decide) (by decide) rfl rfl (aw_goto (tgt := 8) (dt_X6_readProduct 33 (63, .goto (-55), 3) rfl) (by decide) (aw_drop (ls' := [some (.ref 19), some (.int x1), some (.int r9), some (.int (x3 + 1)), none]) ⟨rfl, rfl, rfl, rfl, trivial⟩ ?_))))
            exact h
          · intro q10
            have h := h.2 q10
            obtain ⟨g11, h⟩ := h
            refine aw_aload_n (pc' := 13) (dt_X6_write 6 (12, .aload_n 0, 1) rfl) rfl rfl (aw_getAs (pc' := 16) (dt_X6_write 7 (13, .getfield 18, 3) rfl) fl_Reader_18 rfl rfl (sk_19 hS8) (sa_19_1 hS8) (aw_aload_n (pc' := 17) (dt_X6_write 8 (16, .aload_n 0, 1) rfl) rfl rfl (aw_getI (pc' := 20) (dt_X6_write 9 (17, .getfield 54, 3) rfl) fl_Reader_54 rfl rfl (sk_19 hS8) (aw_iload_n (pc' := 21) (dt_X6_write 10 (20, .iload_n 1, 1) rfl) rfl rfl (aw_iast (pc' := 22) (dt_X6_write 11 (21, .iastore, 1) rfl) rfl (sk_25 hS8) (by decide) (vin_eq (sl_25 hS8) g11) (aw_aload_n (pc' := 23) (dt_X6_write 12 (22, .aload_n 0, 1) rfl) rfl rfl (aw_dup (pc' := 24) (dt_X6_write 13 (23, .dup, 1) rfl) rfl rfl (aw_getI (pc' := 27) (dt_X6_write 14 (24, .getfield 54, 3) rfl) fl_Reader_54 rfl rfl (sk_19 hS8.wI) (aw_iconst (pc' := 28) (v := 1) (dt_X6_write 15 (27, .iconst 1, 1) rfl) (by decide) rfl (aw_iadd (pc' := 29) (dt_X6_write 16 (28, .iadd, 1) rfl) rfl (aw_putI (pc' := 32) (dt_X6_write 17 (29, .putfield 54, 3) rfl) fl_Reader_54 rfl (by decide +kernel) rfl (sk_19 hS8.wI) (aw_ret (dt_X6_write 18 (32, .return_, 1) rfl) rfl (aw_stk (st' := []) rfl (aw_iinc (pc' := 63) (v := 1) (ls' := [some (.ref 19), some (.int x1), some (.int r9), some (.int (x3 + 1)), some (.int (zI μ 19 4))]) (dt_X6_readProduct 32 (60, .iinc 3 1, 3) rfl) rfl (by decide) (by decide) rfl rfl (aw_goto (tgt := 8) (dt_X6_readProduct 33 (63, .goto (-55), 3) rfl) (by decide) (aw_drop (ls' := [some (.ref 19), some (.int x1), some (.int r9), some (.int (x3 + 1)), none]) ⟨rfl, rfl, rfl, rfl, trivial⟩ ?_))))))))))))))))
            exact h
        · intro q6
          have h := h.2 q6
          refine aw_aload_n (pc' := 17) (dt_X6_step 8 (16, .aload_n 0, 1) rfl) rfl rfl (aw_getI (pc' := 20) (dt_X6_step 9 (17, .getfield 45, 3) rfl) fl_Reader_45 rfl rfl (sk_19 hS) (aw_iconst (pc' := 21) (v := 1) (dt_X6_step 10 (20, .iconst 1, 1) rfl) (by decide) rfl (aw_iadd (pc' := 22) (dt_X6_step 11 (21, .iadd, 1) rfl) rfl (aw_aload_n (pc' := 23) (dt_X6_step 12 (22, .aload_n 0, 1) rfl) rfl rfl (aw_getAs (pc' := 26) (dt_X6_step 13 (23, .getfield 12, 3) rfl) fl_Reader_12 rfl rfl (sk_19 hS) (sa_19_0 hS) (aw_getAs (pc' := 29) (dt_X6_step 14 (26, .getfield 66, 3) rfl) fl_Reader_66 rfl rfl (sk_20 hS) (sa_20_2 hS) (aw_alens (pc' := 30) (n := 201) (v := 201) (dt_X6_step 15 (29, .arraylength, 1) rfl) (by decide) (by decide) rfl (sk_22 hS) (sl_22 hS) (by decide) (aw_icmp_ge (pc' := 33) (tgt := 59) (dt_X6_step 16 (30, .if_icmp .ge 29, 3) rfl) (by decide) rfl ?_ ?_))))))))
          · intro q12
            have h := h.1 q12
            refine aw_ret (dt_X6_step 31 (59, .return_, 1) rfl) rfl (aw_stk (st' := []) rfl (aw_aload_n (pc' := 48) (dt_X6_readProduct 24 (47, .aload_n 0, 1) rfl) rfl rfl (aw_iload_n (pc' := 49) (dt_X6_readProduct 25 (48, .iload_n 1, 1) rfl) rfl rfl (aw_callV0 (pc' := 52) (nc := nc) (ns := ns) (y2 := mX6_readOperand) (As := [.int x1]) (rest := []) (a := 19) (dt_X6_readProduct 26 (49, .invokevirtual 94, 3) rfl) ok_X6_readOperand ln_Reader_94 im_X6_readOperand se_X6_readOperand pr_X6_readOperand (Or.inl ⟨by decide, rfl⟩) rfl (Nat.le_of_ble_eq_true rfl) (Nat.le_of_ble_eq_true rfl) rfl (sk_19 hS) h ?_))))
            rintro v μ13 ⟨r15, rfl, hS14, h⟩
            refine aw_stk (st' := [.int r15]) rfl ?_
            refine aw_istore_n (pc' := 53) (ls' := [some (.ref 19), some (.int x1), some (.int r15), some (.int x3), some (.int (zI μ 19 4))]) (dt_X6_readProduct 27 (52, .istore_n 2, 1) rfl) (by decide) rfl rfl (aw_aload_n (pc' := 54) (dt_X6_readProduct 28 (53, .aload_n 0, 1) rfl) rfl rfl (aw_iload (pc' := 56) (dt_X6_readProduct 29 (54, .iload 4, 2) rfl) rfl rfl (aw_ineg (pc' := 57) (dt_X6_readProduct 30 (56, .ineg, 1) rfl) rfl (aw_inV (pc' := 60) (nc1 := 0) (ns1 := 0) (nc := nc) (ns := ns) (ls' := [some (.ref 19), some (.int (-(zI μ 19 4)))]) (y2 := mX6_write) (As := [.int (-(zI μ 19 4))]) (rest := []) (a := 19) (dt_X6_readProduct 31 (57, .invokevirtual 75, 3) rfl) ok_X6_write ln_Reader_75 im_X6_write se_X6_write pr_X6_write (Or.inl ⟨by decide, rfl⟩) rfl (Nat.le_of_ble_eq_true rfl) (Nat.le_of_ble_eq_true rfl) rfl rfl (sk_19 hS14) (aw_aload_n (pc' := 1) (dt_X6_write 0 (0, .aload_n 0, 1) rfl) rfl rfl (aw_getI (pc' := 4) (dt_X6_write 1 (1, .getfield 54, 3) rfl) fl_Reader_54 rfl rfl (sk_19 hS14) (aw_aload_n (pc' := 5) (dt_X6_write 2 (4, .aload_n 0, 1) rfl) rfl rfl (aw_getAs (pc' := 8) (dt_X6_write 3 (5, .getfield 18, 3) rfl) fl_Reader_18 rfl rfl (sk_19 hS14) (sa_19_1 hS14) (aw_alens (pc' := 9) (n := 400) (v := 400) (dt_X6_write 4 (8, .arraylength, 1) rfl) (by decide) (by decide) rfl (sk_25 hS14) (sl_25 hS14) (by decide) (aw_icmp_ge (pc' := 12) (tgt := 32) (dt_X6_write 5 (9, .if_icmp .ge 23, 3) rfl) (by decide) rfl ?_ ?_))))))))))
            · intro q16
              have h := h.1 q16
              refine aw_ret (dt_X6_write 18 (32, .return_, 1) rfl) rfl (aw_stk (st' := []) rfl (aw_iinc (pc' := 63) (v := 1) (ls' := [some (.ref 19), some (.int x1), some (.int r15), some (.int (x3 + 1)), some (.int (zI μ 19 4))]) (dt_X6_readProduct 32 (60, .iinc 3 1, 3) rfl) rfl (by decide) (by decide) rfl rfl (aw_goto (tgt := 8) (dt_X6_readProduct 33 (63, .goto (-55), 3) rfl) (by decide) (aw_drop (ls' := [some (.ref 19), some (.int x1), some (.int r15), some (.int (x3 + 1)), none]) ⟨rfl, rfl, rfl, rfl, trivial⟩ ?_))))
              exact h
            · intro q16
              have h := h.2 q16
              obtain ⟨g17, h⟩ := h
              refine aw_aload_n (pc' := 13) (dt_X6_write 6 (12, .aload_n 0, 1) rfl) rfl rfl (aw_getAs (pc' := 16) (dt_X6_write 7 (13, .getfield 18, 3) rfl) fl_Reader_18 rfl rfl (sk_19 hS14) (sa_19_1 hS14) (aw_aload_n (pc' := 17) (dt_X6_write 8 (16, .aload_n 0, 1) rfl) rfl rfl (aw_getI (pc' := 20) (dt_X6_write 9 (17, .getfield 54, 3) rfl) fl_Reader_54 rfl rfl (sk_19 hS14) (aw_iload_n (pc' := 21) (dt_X6_write 10 (20, .iload_n 1, 1) rfl) rfl rfl (aw_iast (pc' := 22) (dt_X6_write 11 (21, .iastore, 1) rfl) rfl (sk_25 hS14) (by decide) (vin_eq (sl_25 hS14) g17) (aw_aload_n (pc' := 23) (dt_X6_write 12 (22, .aload_n 0, 1) rfl) rfl rfl (aw_dup (pc' := 24) (dt_X6_write 13 (23, .dup, 1) rfl) rfl rfl (aw_getI (pc' := 27) (dt_X6_write 14 (24, .getfield 54, 3) rfl) fl_Reader_54 rfl rfl (sk_19 hS14.wI) (aw_iconst (pc' := 28) (v := 1) (dt_X6_write 15 (27, .iconst 1, 1) rfl) (by decide) rfl (aw_iadd (pc' := 29) (dt_X6_write 16 (28, .iadd, 1) rfl) rfl (aw_putI (pc' := 32) (dt_X6_write 17 (29, .putfield 54, 3) rfl) fl_Reader_54 rfl (by decide +kernel) rfl (sk_19 hS14.wI) (aw_ret (dt_X6_write 18 (32, .return_, 1) rfl) rfl (aw_stk (st' := []) rfl (aw_iinc (pc' := 63) (v := 1) (ls' := [some (.ref 19), some (.int x1), some (.int r15), some (.int (x3 + 1)), some (.int (zI μ 19 4))]) (dt_X6_readProduct 32 (60, .iinc 3 1, 3) rfl) rfl (by decide) (by decide) rfl rfl (aw_goto (tgt := 8) (dt_X6_readProduct 33 (63, .goto (-55), 3) rfl) (by decide) (aw_drop (ls' := [some (.ref 19), some (.int x1), some (.int r15), some (.int (x3 + 1)), none]) ⟨rfl, rfl, rfl, rfl, trivial⟩ ?_))))))))))))))))
              exact h
          · intro q12
            have h := h.2 q12
            obtain ⟨g18, h⟩ := h
            refine aw_aload_n (pc' := 34) (dt_X6_step 17 (33, .aload_n 0, 1) rfl) rfl rfl (aw_dup (pc' := 35) (dt_X6_step 18 (34, .dup, 1) rfl) rfl rfl (aw_getI (pc' := 38) (dt_X6_step 19 (35, .getfield 45, 3) rfl) fl_Reader_45 rfl rfl (sk_19 hS) (aw_iconst (pc' := 39) (v := 1) (dt_X6_step 20 (38, .iconst 1, 1) rfl) (by decide) rfl (aw_iadd (pc' := 40) (dt_X6_step 21 (39, .iadd, 1) rfl) rfl (aw_putI (pc' := 43) (dt_X6_step 22 (40, .putfield 45, 3) rfl) fl_Reader_45 rfl (by decide +kernel) rfl (sk_19 hS) (aw_aload_n (pc' := 44) (dt_X6_step 23 (43, .aload_n 0, 1) rfl) rfl rfl (aw_aload_n (pc' := 45) (dt_X6_step 24 (44, .aload_n 0, 1) rfl) rfl rfl (aw_getAs (pc' := 48) (dt_X6_step 25 (45, .getfield 12, 3) rfl) fl_Reader_12 rfl rfl (sk_19 hS.wI) (sa_19_0 hS.wI) (aw_getAs (pc' := 51) (dt_X6_step 26 (48, .getfield 66, 3) rfl) fl_Reader_66 rfl rfl (sk_20 hS.wI) (sa_20_2 hS.wI) (aw_aload_n (pc' := 52) (dt_X6_step 27 (51, .aload_n 0, 1) rfl) rfl rfl (aw_getI (pc' := 55) (dt_X6_step 28 (52, .getfield 45, 3) rfl) fl_Reader_45 rfl rfl (sk_19 hS.wI) (aw_iald (pc' := 56) (dt_X6_step 29 (55, .iaload, 1) rfl) rfl (sk_22 hS.wI) (vin_eq (sl_22 hS.wI) g18) (aw_putI (pc' := 59) (dt_X6_step 30 (56, .putfield 22, 3) rfl) fl_Reader_22 rfl (by decide +kernel) rfl (sk_19 hS.wI) (aw_ret (dt_X6_step 31 (59, .return_, 1) rfl) rfl (aw_stk (st' := []) rfl (aw_aload_n (pc' := 48) (dt_X6_readProduct 24 (47, .aload_n 0, 1) rfl) rfl rfl (aw_iload_n (pc' := 49) (dt_X6_readProduct 25 (48, .iload_n 1, 1) rfl) rfl rfl (aw_callV0 (pc' := 52) (nc := nc) (ns := ns) (y2 := mX6_readOperand) (As := [.int x1]) (rest := []) (a := 19) (dt_X6_readProduct 26 (49, .invokevirtual 94, 3) rfl) ok_X6_readOperand ln_Reader_94 im_X6_readOperand se_X6_readOperand pr_X6_readOperand (Or.inl ⟨by decide, rfl⟩) rfl (Nat.le_of_ble_eq_true rfl) (Nat.le_of_ble_eq_true rfl) rfl (sk_19 hS.wI.wI) h ?_))))))))))))))))))
            rintro v μ19 ⟨r21, rfl, hS20, h⟩
            refine aw_stk (st' := [.int r21]) rfl ?_
            refine aw_istore_n (pc' := 53) (ls' := [some (.ref 19), some (.int x1), some (.int r21), some (.int x3), some (.int (zI μ 19 4))]) (dt_X6_readProduct 27 (52, .istore_n 2, 1) rfl) (by decide) rfl rfl (aw_aload_n (pc' := 54) (dt_X6_readProduct 28 (53, .aload_n 0, 1) rfl) rfl rfl (aw_iload (pc' := 56) (dt_X6_readProduct 29 (54, .iload 4, 2) rfl) rfl rfl (aw_ineg (pc' := 57) (dt_X6_readProduct 30 (56, .ineg, 1) rfl) rfl (aw_inV (pc' := 60) (nc1 := 0) (ns1 := 0) (nc := nc) (ns := ns) (ls' := [some (.ref 19), some (.int (-(zI μ 19 4)))]) (y2 := mX6_write) (As := [.int (-(zI μ 19 4))]) (rest := []) (a := 19) (dt_X6_readProduct 31 (57, .invokevirtual 75, 3) rfl) ok_X6_write ln_Reader_75 im_X6_write se_X6_write pr_X6_write (Or.inl ⟨by decide, rfl⟩) rfl (Nat.le_of_ble_eq_true rfl) (Nat.le_of_ble_eq_true rfl) rfl rfl (sk_19 hS20) (aw_aload_n (pc' := 1) (dt_X6_write 0 (0, .aload_n 0, 1) rfl) rfl rfl (aw_getI (pc' := 4) (dt_X6_write 1 (1, .getfield 54, 3) rfl) fl_Reader_54 rfl rfl (sk_19 hS20) (aw_aload_n (pc' := 5) (dt_X6_write 2 (4, .aload_n 0, 1) rfl) rfl rfl (aw_getAs (pc' := 8) (dt_X6_write 3 (5, .getfield 18, 3) rfl) fl_Reader_18 rfl rfl (sk_19 hS20) (sa_19_1 hS20) (aw_alens (pc' := 9) (n := 400) (v := 400) (dt_X6_write 4 (8, .arraylength, 1) rfl) (by decide) (by decide) rfl (sk_25 hS20) (sl_25 hS20) (by decide) (aw_icmp_ge (pc' := 12) (tgt := 32) (dt_X6_write 5 (9, .if_icmp .ge 23, 3) rfl) (by decide) rfl ?_ ?_))))))))))
            · intro q22
              have h := h.1 q22
              refine aw_ret (dt_X6_write 18 (32, .return_, 1) rfl) rfl (aw_stk (st' := []) rfl (aw_iinc (pc' := 63) (v := 1) (ls' := [some (.ref 19), some (.int x1), some (.int r21), some (.int (x3 + 1)), some (.int (zI μ 19 4))]) (dt_X6_readProduct 32 (60, .iinc 3 1, 3) rfl) rfl (by decide) (by decide) rfl rfl (aw_goto (tgt := 8) (dt_X6_readProduct 33 (63, .goto (-55), 3) rfl) (by decide) (aw_drop (ls' := [some (.ref 19), some (.int x1), some (.int r21), some (.int (x3 + 1)), none]) ⟨rfl, rfl, rfl, rfl, trivial⟩ ?_))))
              exact h
            · intro q22
              have h := h.2 q22
              obtain ⟨g23, h⟩ := h
              refine aw_aload_n (pc' := 13) (dt_X6_write 6 (12, .aload_n 0, 1) rfl) rfl rfl (aw_getAs (pc' := 16) (dt_X6_write 7 (13, .getfield 18, 3) rfl) fl_Reader_18 rfl rfl (sk_19 hS20) (sa_19_1 hS20) (aw_aload_n (pc' := 17) (dt_X6_write 8 (16, .aload_n 0, 1) rfl) rfl rfl (aw_getI (pc' := 20) (dt_X6_write 9 (17, .getfield 54, 3) rfl) fl_Reader_54 rfl rfl (sk_19 hS20) (aw_iload_n (pc' := 21) (dt_X6_write 10 (20, .iload_n 1, 1) rfl) rfl rfl (aw_iast (pc' := 22) (dt_X6_write 11 (21, .iastore, 1) rfl) rfl (sk_25 hS20) (by decide) (vin_eq (sl_25 hS20) g23) (aw_aload_n (pc' := 23) (dt_X6_write 12 (22, .aload_n 0, 1) rfl) rfl rfl (aw_dup (pc' := 24) (dt_X6_write 13 (23, .dup, 1) rfl) rfl rfl (aw_getI (pc' := 27) (dt_X6_write 14 (24, .getfield 54, 3) rfl) fl_Reader_54 rfl rfl (sk_19 hS20.wI) (aw_iconst (pc' := 28) (v := 1) (dt_X6_write 15 (27, .iconst 1, 1) rfl) (by decide) rfl (aw_iadd (pc' := 29) (dt_X6_write 16 (28, .iadd, 1) rfl) rfl (aw_putI (pc' := 32) (dt_X6_write 17 (29, .putfield 54, 3) rfl) fl_Reader_54 rfl (by decide +kernel) rfl (sk_19 hS20.wI) (aw_ret (dt_X6_write 18 (32, .return_, 1) rfl) rfl (aw_stk (st' := []) rfl (aw_iinc (pc' := 63) (v := 1) (ls' := [some (.ref 19), some (.int x1), some (.int r21), some (.int (x3 + 1)), some (.int (zI μ 19 4))]) (dt_X6_readProduct 32 (60, .iinc 3 1, 3) rfl) rfl (by decide) (by decide) rfl rfl (aw_goto (tgt := 8) (dt_X6_readProduct 33 (63, .goto (-55), 3) rfl) (by decide) (aw_drop (ls' := [some (.ref 19), some (.int x1), some (.int r21), some (.int (x3 + 1)), none]) ⟨rfl, rfl, rfl, rfl, trivial⟩ ?_))))))))))))))))
              exact h
      · intro q5
        have h := h.2 q5
        refine aw_aload_n (pc' := 29) (dt_X6_readProduct 15 (28, .aload_n 0, 1) rfl) rfl rfl (aw_getI (pc' := 32) (dt_X6_readProduct 16 (29, .getfield 22, 3) rfl) fl_Reader_22 rfl rfl (sk_19 hS) (aw_bipush (pc' := 34) (v := 47) (dt_X6_readProduct 17 (32, .bipush 47, 2) rfl) (by decide) rfl (aw_icmp_ne (pc' := 37) (tgt := 66) (dt_X6_readProduct 18 (34, .if_icmp .ne 32, 3) rfl) (by decide) rfl ?_ ?_)))
        · intro q24
          have h := h.1 q24
          obtain ⟨g25, h⟩ := h
          refine aw_iload_n (pc' := 67) (dt_X6_readProduct 34 (66, .iload_n 2, 1) rfl) rfl rfl (aw_iret (dt_X6_readProduct 35 (67, .ireturn, 1) rfl) rfl (nb01 g25) ?_)
          exact h
        · intro q24
          have h := h.2 q24
          refine aw_aload_n (pc' := 38) (dt_X6_readProduct 19 (37, .aload_n 0, 1) rfl) rfl rfl (aw_getI (pc' := 41) (dt_X6_readProduct 20 (38, .getfield 22, 3) rfl) fl_Reader_22 rfl rfl (sk_19 hS) (aw_istore (pc' := 43) (ls' := [some (.ref 19), some (.int x1), some (.int x2), some (.int x3), some (.int (zI μ 19 4))]) (dt_X6_readProduct 21 (41, .istore 4, 2) rfl) (by decide) rfl rfl (aw_aload_n (pc' := 44) (dt_X6_readProduct 22 (43, .aload_n 0, 1) rfl) rfl rfl (aw_inV (pc' := 47) (nc1 := 0) (ns1 := 0) (nc := nc) (ns := ns) (ls' := [some (.ref 19)]) (y2 := mX6_step) (As := []) (rest := []) (a := 19) (dt_X6_readProduct 23 (44, .invokevirtual 36, 3) rfl) ok_X6_step ln_Reader_36 im_X6_step se_X6_step pr_X6_step (Or.inl ⟨by decide, rfl⟩) rfl (Nat.le_of_ble_eq_true rfl) (Nat.le_of_ble_eq_true rfl) rfl rfl (sk_19 hS) (aw_aload_n (pc' := 1) (dt_X6_step 0 (0, .aload_n 0, 1) rfl) rfl rfl (aw_getI (pc' := 4) (dt_X6_step 1 (1, .getfield 45, 3) rfl) fl_Reader_45 rfl rfl (sk_19 hS) (aw_iconst (pc' := 5) (v := 1) (dt_X6_step 2 (4, .iconst 1, 1) rfl) (by decide) rfl (aw_iadd (pc' := 6) (dt_X6_step 3 (5, .iadd, 1) rfl) rfl (aw_aload_n (pc' := 7) (dt_X6_step 4 (6, .aload_n 0, 1) rfl) rfl rfl (aw_getAs (pc' := 10) (dt_X6_step 5 (7, .getfield 12, 3) rfl) fl_Reader_12 rfl rfl (sk_19 hS) (sa_19_0 hS) (aw_getI (pc' := 13) (dt_X6_step 6 (10, .getfield 69, 3) rfl) fl_Reader_69 rfl rfl (sk_20 hS) (aw_icmp_ge (pc' := 16) (tgt := 59) (dt_X6_step 7 (13, .if_icmp .ge 46, 3) rfl) (by decide) rfl ?_ ?_))))))))))))
          · intro q26
            have h := h.1 q26
            refine aw_ret (dt_X6_step 31 (59, .return_, 1) rfl) rfl (aw_stk (st' := []) rfl (aw_aload_n (pc' := 48) (dt_X6_readProduct 24 (47, .aload_n 0, 1) rfl) rfl rfl (aw_iload_n (pc' := 49) (dt_X6_readProduct 25 (48, .iload_n 1, 1) rfl) rfl rfl (aw_callV0 (pc' := 52) (nc := nc) (ns := ns) (y2 := mX6_readOperand) (As := [.int x1]) (rest := []) (a := 19) (dt_X6_readProduct 26 (49, .invokevirtual 94, 3) rfl) ok_X6_readOperand ln_Reader_94 im_X6_readOperand se_X6_readOperand pr_X6_readOperand (Or.inl ⟨by decide, rfl⟩) rfl (Nat.le_of_ble_eq_true rfl) (Nat.le_of_ble_eq_true rfl) rfl (sk_19 hS) h ?_))))
            rintro v μ27 ⟨r29, rfl, hS28, h⟩
            refine aw_stk (st' := [.int r29]) rfl ?_
            refine aw_istore_n (pc' := 53) (ls' := [some (.ref 19), some (.int x1), some (.int r29), some (.int x3), some (.int (zI μ 19 4))]) (dt_X6_readProduct 27 (52, .istore_n 2, 1) rfl) (by decide) rfl rfl (aw_aload_n (pc' := 54) (dt_X6_readProduct 28 (53, .aload_n 0, 1) rfl) rfl rfl (aw_iload (pc' := 56) (dt_X6_readProduct 29 (54, .iload 4, 2) rfl) rfl rfl (aw_ineg (pc' := 57) (dt_X6_readProduct 30 (56, .ineg, 1) rfl) rfl (aw_inV (pc' := 60) (nc1 := 0) (ns1 := 0) (nc := nc) (ns := ns) (ls' := [some (.ref 19), some (.int (-(zI μ 19 4)))]) (y2 := mX6_write) (As := [.int (-(zI μ 19 4))]) (rest := []) (a := 19) (dt_X6_readProduct 31 (57, .invokevirtual 75, 3) rfl) ok_X6_write ln_Reader_75 im_X6_write se_X6_write pr_X6_write (Or.inl ⟨by decide, rfl⟩) rfl (Nat.le_of_ble_eq_true rfl) (Nat.le_of_ble_eq_true rfl) rfl rfl (sk_19 hS28) (aw_aload_n (pc' := 1) (dt_X6_write 0 (0, .aload_n 0, 1) rfl) rfl rfl (aw_getI (pc' := 4) (dt_X6_write 1 (1, .getfield 54, 3) rfl) fl_Reader_54 rfl rfl (sk_19 hS28) (aw_aload_n (pc' := 5) (dt_X6_write 2 (4, .aload_n 0, 1) rfl) rfl rfl (aw_getAs (pc' := 8) (dt_X6_write 3 (5, .getfield 18, 3) rfl) fl_Reader_18 rfl rfl (sk_19 hS28) (sa_19_1 hS28) (aw_alens (pc' := 9) (n := 400) (v := 400) (dt_X6_write 4 (8, .arraylength, 1) rfl) (by decide) (by decide) rfl (sk_25 hS28) (sl_25 hS28) (by decide) (aw_icmp_ge (pc' := 12) (tgt := 32) (dt_X6_write 5 (9, .if_icmp .ge 23, 3) rfl) (by decide) rfl ?_ ?_))))))))))
            · intro q30
              have h := h.1 q30
              refine aw_ret (dt_X6_write 18 (32, .return_, 1) rfl) rfl (aw_stk (st' := []) rfl (aw_iinc (pc' := 63) (v := 1) (ls' := [some (.ref 19), some (.int x1), some (.int r29), some (.int (x3 + 1)), some (.int (zI μ 19 4))]) (dt_X6_readProduct 32 (60, .iinc 3 1, 3) rfl) rfl (by decide) (by decide) rfl rfl (aw_goto (tgt := 8) (dt_X6_readProduct 33 (63, .goto (-55), 3) rfl) (by decide) (aw_drop (ls' := [some (.ref 19), some (.int x1), some (.int r29), some (.int (x3 + 1)), none]) ⟨rfl, rfl, rfl, rfl, trivial⟩ ?_))))
              exact h
            · intro q30
              have h := h.2 q30
              obtain ⟨g31, h⟩ := h
              refine aw_aload_n (pc' := 13) (dt_X6_write 6 (12, .aload_n 0, 1) rfl) rfl rfl (aw_getAs (pc' := 16) (dt_X6_write 7 (13, .getfield 18, 3) rfl) fl_Reader_18 rfl rfl (sk_19 hS28) (sa_19_1 hS28) (aw_aload_n (pc' := 17) (dt_X6_write 8 (16, .aload_n 0, 1) rfl) rfl rfl (aw_getI (pc' := 20) (dt_X6_write 9 (17, .getfield 54, 3) rfl) fl_Reader_54 rfl rfl (sk_19 hS28) (aw_iload_n (pc' := 21) (dt_X6_write 10 (20, .iload_n 1, 1) rfl) rfl rfl (aw_iast (pc' := 22) (dt_X6_write 11 (21, .iastore, 1) rfl) rfl (sk_25 hS28) (by decide) (vin_eq (sl_25 hS28) g31) (aw_aload_n (pc' := 23) (dt_X6_write 12 (22, .aload_n 0, 1) rfl) rfl rfl (aw_dup (pc' := 24) (dt_X6_write 13 (23, .dup, 1) rfl) rfl rfl (aw_getI (pc' := 27) (dt_X6_write 14 (24, .getfield 54, 3) rfl) fl_Reader_54 rfl rfl (sk_19 hS28.wI) (aw_iconst (pc' := 28) (v := 1) (dt_X6_write 15 (27, .iconst 1, 1) rfl) (by decide) rfl (aw_iadd (pc' := 29) (dt_X6_write 16 (28, .iadd, 1) rfl) rfl (aw_putI (pc' := 32) (dt_X6_write 17 (29, .putfield 54, 3) rfl) fl_Reader_54 rfl (by decide +kernel) rfl (sk_19 hS28.wI) (aw_ret (dt_X6_write 18 (32, .return_, 1) rfl) rfl (aw_stk (st' := []) rfl (aw_iinc (pc' := 63) (v := 1) (ls' := [some (.ref 19), some (.int x1), some (.int r29), some (.int (x3 + 1)), some (.int (zI μ 19 4))]) (dt_X6_readProduct 32 (60, .iinc 3 1, 3) rfl) rfl (by decide) (by decide) rfl rfl (aw_goto (tgt := 8) (dt_X6_readProduct 33 (63, .goto (-55), 3) rfl) (by decide) (aw_drop (ls' := [some (.ref 19), some (.int x1), some (.int r29), some (.int (x3 + 1)), none]) ⟨rfl, rfl, rfl, rfl, trivial⟩ ?_))))))))))))))))
              exact h
          · intro q26
            have h := h.2 q26
            refine aw_aload_n (pc' := 17) (dt_X6_step 8 (16, .aload_n 0, 1) rfl) rfl rfl (aw_getI (pc' := 20) (dt_X6_step 9 (17, .getfield 45, 3) rfl) fl_Reader_45 rfl rfl (sk_19 hS) (aw_iconst (pc' := 21) (v := 1) (dt_X6_step 10 (20, .iconst 1, 1) rfl) (by decide) rfl (aw_iadd (pc' := 22) (dt_X6_step 11 (21, .iadd, 1) rfl) rfl (aw_aload_n (pc' := 23) (dt_X6_step 12 (22, .aload_n 0, 1) rfl) rfl rfl (aw_getAs (pc' := 26) (dt_X6_step 13 (23, .getfield 12, 3) rfl) fl_Reader_12 rfl rfl (sk_19 hS) (sa_19_0 hS) (aw_getAs (pc' := 29) (dt_X6_step 14 (26, .getfield 66, 3) rfl) fl_Reader_66 rfl rfl (sk_20 hS) (sa_20_2 hS) (aw_alens (pc' := 30) (n := 201) (v := 201) (dt_X6_step 15 (29, .arraylength, 1) rfl) (by decide) (by decide) rfl (sk_22 hS) (sl_22 hS) (by decide) (aw_icmp_ge (pc' := 33) (tgt := 59) (dt_X6_step 16 (30, .if_icmp .ge 29, 3) rfl) (by decide) rfl ?_ ?_))))))))
            · intro q32
              have h := h.1 q32
              refine aw_ret (dt_X6_step 31 (59, .return_, 1) rfl) rfl (aw_stk (st' := []) rfl (aw_aload_n (pc' := 48) (dt_X6_readProduct 24 (47, .aload_n 0, 1) rfl) rfl rfl (aw_iload_n (pc' := 49) (dt_X6_readProduct 25 (48, .iload_n 1, 1) rfl) rfl rfl (aw_callV0 (pc' := 52) (nc := nc) (ns := ns) (y2 := mX6_readOperand) (As := [.int x1]) (rest := []) (a := 19) (dt_X6_readProduct 26 (49, .invokevirtual 94, 3) rfl) ok_X6_readOperand ln_Reader_94 im_X6_readOperand se_X6_readOperand pr_X6_readOperand (Or.inl ⟨by decide, rfl⟩) rfl (Nat.le_of_ble_eq_true rfl) (Nat.le_of_ble_eq_true rfl) rfl (sk_19 hS) h ?_))))
              rintro v μ33 ⟨r35, rfl, hS34, h⟩
              refine aw_stk (st' := [.int r35]) rfl ?_
              refine aw_istore_n (pc' := 53) (ls' := [some (.ref 19), some (.int x1), some (.int r35), some (.int x3), some (.int (zI μ 19 4))]) (dt_X6_readProduct 27 (52, .istore_n 2, 1) rfl) (by decide) rfl rfl (aw_aload_n (pc' := 54) (dt_X6_readProduct 28 (53, .aload_n 0, 1) rfl) rfl rfl (aw_iload (pc' := 56) (dt_X6_readProduct 29 (54, .iload 4, 2) rfl) rfl rfl (aw_ineg (pc' := 57) (dt_X6_readProduct 30 (56, .ineg, 1) rfl) rfl (aw_inV (pc' := 60) (nc1 := 0) (ns1 := 0) (nc := nc) (ns := ns) (ls' := [some (.ref 19), some (.int (-(zI μ 19 4)))]) (y2 := mX6_write) (As := [.int (-(zI μ 19 4))]) (rest := []) (a := 19) (dt_X6_readProduct 31 (57, .invokevirtual 75, 3) rfl) ok_X6_write ln_Reader_75 im_X6_write se_X6_write pr_X6_write (Or.inl ⟨by decide, rfl⟩) rfl (Nat.le_of_ble_eq_true rfl) (Nat.le_of_ble_eq_true rfl) rfl rfl (sk_19 hS34) (aw_aload_n (pc' := 1) (dt_X6_write 0 (0, .aload_n 0, 1) rfl) rfl rfl (aw_getI (pc' := 4) (dt_X6_write 1 (1, .getfield 54, 3) rfl) fl_Reader_54 rfl rfl (sk_19 hS34) (aw_aload_n (pc' := 5) (dt_X6_write 2 (4, .aload_n 0, 1) rfl) rfl rfl (aw_getAs (pc' := 8) (dt_X6_write 3 (5, .getfield 18, 3) rfl) fl_Reader_18 rfl rfl (sk_19 hS34) (sa_19_1 hS34) (aw_alens (pc' := 9) (n := 400) (v := 400) (dt_X6_write 4 (8, .arraylength, 1) rfl) (by decide) (by decide) rfl (sk_25 hS34) (sl_25 hS34) (by decide) (aw_icmp_ge (pc' := 12) (tgt := 32) (dt_X6_write 5 (9, .if_icmp .ge 23, 3) rfl) (by decide) rfl ?_ ?_))))))))))
              · intro q36
                have h := h.1 q36
                refine aw_ret (dt_X6_write 18 (32, .return_, 1) rfl) rfl (aw_stk (st' := []) rfl (aw_iinc (pc' := 63) (v := 1) (ls' := [some (.ref 19), some (.int x1), some (.int r35), some (.int (x3 + 1)), some (.int (zI μ 19 4))]) (dt_X6_readProduct 32 (60, .iinc 3 1, 3) rfl) rfl (by decide) (by decide) rfl rfl (aw_goto (tgt := 8) (dt_X6_readProduct 33 (63, .goto (-55), 3) rfl) (by decide) (aw_drop (ls' := [some (.ref 19), some (.int x1), some (.int r35), some (.int (x3 + 1)), none]) ⟨rfl, rfl, rfl, rfl, trivial⟩ ?_))))
                exact h
              · intro q36
                have h := h.2 q36
                obtain ⟨g37, h⟩ := h
                refine aw_aload_n (pc' := 13) (dt_X6_write 6 (12, .aload_n 0, 1) rfl) rfl rfl (aw_getAs (pc' := 16) (dt_X6_write 7 (13, .getfield 18, 3) rfl) fl_Reader_18 rfl rfl (sk_19 hS34) (sa_19_1 hS34) (aw_aload_n (pc' := 17) (dt_X6_write 8 (16, .aload_n 0, 1) rfl) rfl rfl (aw_getI (pc' := 20) (dt_X6_write 9 (17, .getfield 54, 3) rfl) fl_Reader_54 rfl rfl (sk_19 hS34) (aw_iload_n (pc' := 21) (dt_X6_write 10 (20, .iload_n 1, 1) rfl) rfl rfl (aw_iast (pc' := 22) (dt_X6_write 11 (21, .iastore, 1) rfl) rfl (sk_25 hS34) (by decide) (vin_eq (sl_25 hS34) g37) (aw_aload_n (pc' := 23) (dt_X6_write 12 (22, .aload_n 0, 1) rfl) rfl rfl (aw_dup (pc' := 24) (dt_X6_write 13 (23, .dup, 1) rfl) rfl rfl (aw_getI (pc' := 27) (dt_X6_write 14 (24, .getfield 54, 3) rfl) fl_Reader_54 rfl rfl (sk_19 hS34.wI) (aw_iconst (pc' := 28) (v := 1) (dt_X6_write 15 (27, .iconst 1, 1) rfl) (by decide) rfl (aw_iadd (pc' := 29) (dt_X6_write 16 (28, .iadd, 1) rfl) rfl (aw_putI (pc' := 32) (dt_X6_write 17 (29, .putfield 54, 3) rfl) fl_Reader_54 rfl (by decide +kernel) rfl (sk_19 hS34.wI) (aw_ret (dt_X6_write 18 (32, .return_, 1) rfl) rfl (aw_stk (st' := []) rfl (aw_iinc (pc' := 63) (v := 1) (ls' := [some (.ref 19), some (.int x1), some (.int r35), some (.int (x3 + 1)), some (.int (zI μ 19 4))]) (dt_X6_readProduct 32 (60, .iinc 3 1, 3) rfl) rfl (by decide) (by decide) rfl rfl (aw_goto (tgt := 8) (dt_X6_readProduct 33 (63, .goto (-55), 3) rfl) (by decide) (aw_drop (ls' := [some (.ref 19), some (.int x1), some (.int r35), some (.int (x3 + 1)), none]) ⟨rfl, rfl, rfl, rfl, trivial⟩ ?_))))))))))))))))
                exact h
            · intro q32
              have h := h.2 q32
              obtain ⟨g38, h⟩ := h
              refine aw_aload_n (pc' := 34) (dt_X6_step 17 (33, .aload_n 0, 1) rfl) rfl rfl (aw_dup (pc' := 35) (dt_X6_step 18 (34, .dup, 1) rfl) rfl rfl (aw_getI (pc' := 38) (dt_X6_step 19 (35, .getfield 45, 3) rfl) fl_Reader_45 rfl rfl (sk_19 hS) (aw_iconst (pc' := 39) (v := 1) (dt_X6_step 20 (38, .iconst 1, 1) rfl) (by decide) rfl (aw_iadd (pc' := 40) (dt_X6_step 21 (39, .iadd, 1) rfl) rfl (aw_putI (pc' := 43) (dt_X6_step 22 (40, .putfield 45, 3) rfl) fl_Reader_45 rfl (by decide +kernel) rfl (sk_19 hS) (aw_aload_n (pc' := 44) (dt_X6_step 23 (43, .aload_n 0, 1) rfl) rfl rfl (aw_aload_n (pc' := 45) (dt_X6_step 24 (44, .aload_n 0, 1) rfl) rfl rfl (aw_getAs (pc' := 48) (dt_X6_step 25 (45, .getfield 12, 3) rfl) fl_Reader_12 rfl rfl (sk_19 hS.wI) (sa_19_0 hS.wI) (aw_getAs (pc' := 51) (dt_X6_step 26 (48, .getfield 66, 3) rfl) fl_Reader_66 rfl rfl (sk_20 hS.wI) (sa_20_2 hS.wI) (aw_aload_n (pc' := 52) (dt_X6_step 27 (51, .aload_n 0, 1) rfl) rfl rfl (aw_getI (pc' := 55) (dt_X6_step 28 (52, .getfield 45, 3) rfl) fl_Reader_45 rfl rfl (sk_19 hS.wI) (aw_iald (pc' := 56) (dt_X6_step 29 (55, .iaload, 1) rfl) rfl (sk_22 hS.wI) (vin_eq (sl_22 hS.wI) g38) (aw_putI (pc' := 59) (dt_X6_step 30 (56, .putfield 22, 3) rfl) fl_Reader_22 rfl (by decide +kernel) rfl (sk_19 hS.wI) (aw_ret (dt_X6_step 31 (59, .return_, 1) rfl) rfl (aw_stk (st' := []) rfl (aw_aload_n (pc' := 48) (dt_X6_readProduct 24 (47, .aload_n 0, 1) rfl) rfl rfl (aw_iload_n (pc' := 49) (dt_X6_readProduct 25 (48, .iload_n 1, 1) rfl) rfl rfl (aw_callV0 (pc' := 52) (nc := nc) (ns := ns) (y2 := mX6_readOperand) (As := [.int x1]) (rest := []) (a := 19) (dt_X6_readProduct 26 (49, .invokevirtual 94, 3) rfl) ok_X6_readOperand ln_Reader_94 im_X6_readOperand se_X6_readOperand pr_X6_readOperand (Or.inl ⟨by decide, rfl⟩) rfl (Nat.le_of_ble_eq_true rfl) (Nat.le_of_ble_eq_true rfl) rfl (sk_19 hS.wI.wI) h ?_))))))))))))))))))
              rintro v μ39 ⟨r41, rfl, hS40, h⟩
              refine aw_stk (st' := [.int r41]) rfl ?_
              refine aw_istore_n (pc' := 53) (ls' := [some (.ref 19), some (.int x1), some (.int r41), some (.int x3), some (.int (zI μ 19 4))]) (dt_X6_readProduct 27 (52, .istore_n 2, 1) rfl) (by decide) rfl rfl (aw_aload_n (pc' := 54) (dt_X6_readProduct 28 (53, .aload_n 0, 1) rfl) rfl rfl (aw_iload (pc' := 56) (dt_X6_readProduct 29 (54, .iload 4, 2) rfl) rfl rfl (aw_ineg (pc' := 57) (dt_X6_readProduct 30 (56, .ineg, 1) rfl) rfl (aw_inV (pc' := 60) (nc1 := 0) (ns1 := 0) (nc := nc) (ns := ns) (ls' := [some (.ref 19), some (.int (-(zI μ 19 4)))]) (y2 := mX6_write) (As := [.int (-(zI μ 19 4))]) (rest := []) (a := 19) (dt_X6_readProduct 31 (57, .invokevirtual 75, 3) rfl) ok_X6_write ln_Reader_75 im_X6_write se_X6_write pr_X6_write (Or.inl ⟨by decide, rfl⟩) rfl (Nat.le_of_ble_eq_true rfl) (Nat.le_of_ble_eq_true rfl) rfl rfl (sk_19 hS40) (aw_aload_n (pc' := 1) (dt_X6_write 0 (0, .aload_n 0, 1) rfl) rfl rfl (aw_getI (pc' := 4) (dt_X6_write 1 (1, .getfield 54, 3) rfl) fl_Reader_54 rfl rfl (sk_19 hS40) (aw_aload_n (pc' := 5) (dt_X6_write 2 (4, .aload_n 0, 1) rfl) rfl rfl (aw_getAs (pc' := 8) (dt_X6_write 3 (5, .getfield 18, 3) rfl) fl_Reader_18 rfl rfl (sk_19 hS40) (sa_19_1 hS40) (aw_alens (pc' := 9) (n := 400) (v := 400) (dt_X6_write 4 (8, .arraylength, 1) rfl) (by decide) (by decide) rfl (sk_25 hS40) (sl_25 hS40) (by decide) (aw_icmp_ge (pc' := 12) (tgt := 32) (dt_X6_write 5 (9, .if_icmp .ge 23, 3) rfl) (by decide) rfl ?_ ?_))))))))))
              · intro q42
                have h := h.1 q42
                refine aw_ret (dt_X6_write 18 (32, .return_, 1) rfl) rfl (aw_stk (st' := []) rfl (aw_iinc (pc' := 63) (v := 1) (ls' := [some (.ref 19), some (.int x1), some (.int r41), some (.int (x3 + 1)), some (.int (zI μ 19 4))]) (dt_X6_readProduct 32 (60, .iinc 3 1, 3) rfl) rfl (by decide) (by decide) rfl rfl (aw_goto (tgt := 8) (dt_X6_readProduct 33 (63, .goto (-55), 3) rfl) (by decide) (aw_drop (ls' := [some (.ref 19), some (.int x1), some (.int r41), some (.int (x3 + 1)), none]) ⟨rfl, rfl, rfl, rfl, trivial⟩ ?_))))
                exact h
              · intro q42
                have h := h.2 q42
                obtain ⟨g43, h⟩ := h
                refine aw_aload_n (pc' := 13) (dt_X6_write 6 (12, .aload_n 0, 1) rfl) rfl rfl (aw_getAs (pc' := 16) (dt_X6_write 7 (13, .getfield 18, 3) rfl) fl_Reader_18 rfl rfl (sk_19 hS40) (sa_19_1 hS40) (aw_aload_n (pc' := 17) (dt_X6_write 8 (16, .aload_n 0, 1) rfl) rfl rfl (aw_getI (pc' := 20) (dt_X6_write 9 (17, .getfield 54, 3) rfl) fl_Reader_54 rfl rfl (sk_19 hS40) (aw_iload_n (pc' := 21) (dt_X6_write 10 (20, .iload_n 1, 1) rfl) rfl rfl (aw_iast (pc' := 22) (dt_X6_write 11 (21, .iastore, 1) rfl) rfl (sk_25 hS40) (by decide) (vin_eq (sl_25 hS40) g43) (aw_aload_n (pc' := 23) (dt_X6_write 12 (22, .aload_n 0, 1) rfl) rfl rfl (aw_dup (pc' := 24) (dt_X6_write 13 (23, .dup, 1) rfl) rfl rfl (aw_getI (pc' := 27) (dt_X6_write 14 (24, .getfield 54, 3) rfl) fl_Reader_54 rfl rfl (sk_19 hS40.wI) (aw_iconst (pc' := 28) (v := 1) (dt_X6_write 15 (27, .iconst 1, 1) rfl) (by decide) rfl (aw_iadd (pc' := 29) (dt_X6_write 16 (28, .iadd, 1) rfl) rfl (aw_putI (pc' := 32) (dt_X6_write 17 (29, .putfield 54, 3) rfl) fl_Reader_54 rfl (by decide +kernel) rfl (sk_19 hS40.wI) (aw_ret (dt_X6_write 18 (32, .return_, 1) rfl) rfl (aw_stk (st' := []) rfl (aw_iinc (pc' := 63) (v := 1) (ls' := [some (.ref 19), some (.int x1), some (.int r41), some (.int (x3 + 1)), some (.int (zI μ 19 4))]) (dt_X6_readProduct 32 (60, .iinc 3 1, 3) rfl) rfl (by decide) (by decide) rfl rfl (aw_goto (tgt := 8) (dt_X6_readProduct 33 (63, .goto (-55), 3) rfl) (by decide) (aw_drop (ls' := [some (.ref 19), some (.int x1), some (.int r41), some (.int (x3 + 1)), none]) ⟨rfl, rfl, rfl, rfl, trivial⟩ ?_))))))))))))))))
                exact h

theorem t_X6_readOperand {E : ZE} {l : Launch} {d nc ns : Nat} {x1 : Int32} {μ : ZM} {K : Option Value → ZM → Prop} (hS : Stat μ) (h :
  ((zI μ 19 4) = 20 →
    AW E l (d + 1) nc ns mX6_readOperand 18 [some (.ref 19), none] [] μ K) ∧
  (¬ (zI μ 19 4) = 20 →
    (¬ (zI μ 19 4) = 21 →
      (¬ (zI μ 19 4) = 40 →
        K (some (.int 0)) μ) ∧
      ((zI μ 19 4) = 40 →
        (x1 < 10 →
          ((zI μ 20 5) ≤ ((zI μ 19 3) + 1) →
            AW E l d 0 0 mX6_readAny 0 (zargs 4 [.ref 19, .int (x1 + 1)]) [] μ (fun v μ6 => ∃ r8 : Int32, v = some (.int r8) ∧ Stat μ6 ∧ 
              (r8 = 0 →
                K (some (.int 0)) μ6) ∧
              (¬ r8 = 0 →
                ((zI μ6 19 4) = 41 →
                  ((zI μ6 20 5) ≤ ((zI μ6 19 3) + 1) →
                    K (some (.int 1)) μ6) ∧
                  (¬ (zI μ6 20 5) ≤ ((zI μ6 19 3) + 1) →
                    (201 ≤ ((zI μ6 19 3) + 1) →
                      K (some (.int 1)) μ6) ∧
                    (¬ 201 ≤ ((zI μ6 19 3) + 1) →
                      (vp_in (zI (sI μ6 19 3 ((zI μ6 19 3) + 1)) 19 3) 201) ∧
                      K (some (.int 1)) (sI (sI μ6 19 3 ((zI μ6 19 3) + 1)) 19 4 (zI (sI μ6 19 3 ((zI μ6 19 3) + 1)) 22 (zI (sI μ6 19 3 ((zI μ6 19 3) + 1)) 19 3).toNatClampNeg))))) ∧
                (¬ (zI μ6 19 4) = 41 →
                  K (some (.int 0)) μ6)))) ∧
          (¬ (zI μ 20 5) ≤ ((zI μ 19 3) + 1) →
            (201 ≤ ((zI μ 19 3) + 1) →
              AW E l d 0 0 mX6_readAny 0 (zargs 4 [.ref 19, .int (x1 + 1)]) [] μ (fun v μ15 => ∃ r17 : Int32, v = some (.int r17) ∧ Stat μ15 ∧ 
                (r17 = 0 →
                  K (some (.int 0)) μ15) ∧
                (¬ r17 = 0 →
                  ((zI μ15 19 4) = 41 →
                    ((zI μ15 20 5) ≤ ((zI μ15 19 3) + 1) →
                      K (some (.int 1)) μ15) ∧
                    (¬ (zI μ15 20 5) ≤ ((zI μ15 19 3) + 1) →
                      (201 ≤ ((zI μ15 19 3) + 1) →
                        K (some (.int 1)) μ15) ∧
                      (¬ 201 ≤ ((zI μ15 19 3) + 1) →
                        (vp_in (zI (sI μ15 19 3 ((zI μ15 19 3) + 1)) 19 3) 201) ∧
                        K (some (.int 1)) (sI (sI μ15 19 3 ((zI μ15 19 3) + 1)) 19 4 (zI (sI μ15 19 3 ((zI μ15 19 3) + 1)) 22 (zI (sI μ15 19 3 ((zI μ15 19 3) + 1)) 19 3).toNatClampNeg))))) ∧
                  (¬ (zI μ15 19 4) = 41 →
                    K (some (.int 0)) μ15)))) ∧
            (¬ 201 ≤ ((zI μ 19 3) + 1) →
              (vp_in (zI (sI μ 19 3 ((zI μ 19 3) + 1)) 19 3) 201) ∧
              AW E l d 0 0 mX6_readAny 0 (zargs 4 [.ref 19, .int (x1 + 1)]) [] (sI (sI μ 19 3 ((zI μ 19 3) + 1)) 19 4 (zI (sI μ 19 3 ((zI μ 19 3) + 1)) 22 (zI (sI μ 19 3 ((zI μ 19 3) + 1)) 19 3).toNatClampNeg)) (fun v μ24 => ∃ r26 : Int32, v = some (.int r26) ∧ Stat μ24 ∧ 
                (r26 = 0 →
                  K (some (.int 0)) μ24) ∧
                (¬ r26 = 0 →
                  ((zI μ24 19 4) = 41 →
                    ((zI μ24 20 5) ≤ ((zI μ24 19 3) + 1) →
                      K (some (.int 1)) μ24) ∧
                    (¬ (zI μ24 20 5) ≤ ((zI μ24 19 3) + 1) →
                      (201 ≤ ((zI μ24 19 3) + 1) →
                        K (some (.int 1)) μ24) ∧
                      (¬ 201 ≤ ((zI μ24 19 3) + 1) →
                        (vp_in (zI (sI μ24 19 3 ((zI μ24 19 3) + 1)) 19 3) 201) ∧
                        K (some (.int 1)) (sI (sI μ24 19 3 ((zI μ24 19 3) + 1)) 19 4 (zI (sI μ24 19 3 ((zI μ24 19 3) + 1)) 22 (zI (sI μ24 19 3 ((zI μ24 19 3) + 1)) 19 3).toNatClampNeg))))) ∧
                  (¬ (zI μ24 19 4) = 41 →
                    K (some (.int 0)) μ24)))))) ∧
        (¬ x1 < 10 →
          K (some (.int 0)) μ))) ∧
    ((zI μ 19 4) = 21 →
      AW E l (d + 1) nc ns mX6_readOperand 18 [some (.ref 19), none] [] μ K))) : AW E l (d + 1) nc ns mX6_readOperand 0 [some (.ref 19), some (.int x1)] [] μ K := by
  refine aw_aload_n (pc' := 1) (dt_X6_readOperand 0 (0, .aload_n 0, 1) rfl) rfl rfl (aw_getI (pc' := 4) (dt_X6_readOperand 1 (1, .getfield 22, 3) rfl) fl_Reader_22 rfl rfl (sk_19 hS) (aw_bipush (pc' := 6) (v := 20) (dt_X6_readOperand 2 (4, .bipush 20, 2) rfl) (by decide) rfl (aw_icmp_eq (pc' := 9) (tgt := 18) (dt_X6_readOperand 3 (6, .if_icmp .eq 12, 3) rfl) (by decide) rfl ?_ ?_)))
  · intro q1
    have h := h.1 q1
    refine aw_drop (ls' := [some (.ref 19), none]) ⟨rfl, trivial⟩ ?_
    exact h
  · intro q1
    have h := h.2 q1
    refine aw_aload_n (pc' := 10) (dt_X6_readOperand 4 (9, .aload_n 0, 1) rfl) rfl rfl (aw_getI (pc' := 13) (dt_X6_readOperand 5 (10, .getfield 22, 3) rfl) fl_Reader_22 rfl rfl (sk_19 hS) (aw_bipush (pc' := 15) (v := 21) (dt_X6_readOperand 6 (13, .bipush 21, 2) rfl) (by decide) rfl (aw_icmp_ne (pc' := 18) (tgt := 59) (dt_X6_readOperand 7 (15, .if_icmp .ne 44, 3) rfl) (by decide) rfl ?_ ?_)))
    · intro q2
      have h := h.1 q2
      refine aw_aload_n (pc' := 60) (dt_X6_readOperand 29 (59, .aload_n 0, 1) rfl) rfl rfl (aw_getI (pc' := 63) (dt_X6_readOperand 30 (60, .getfield 22, 3) rfl) fl_Reader_22 rfl rfl (sk_19 hS) (aw_bipush (pc' := 65) (v := 40) (dt_X6_readOperand 31 (63, .bipush 40, 2) rfl) (by decide) rfl (aw_icmp_ne (pc' := 68) (tgt := 74) (dt_X6_readOperand 32 (65, .if_icmp .ne 9, 3) rfl) (by decide) rfl ?_ ?_)))
      · intro q3
        have h := h.1 q3
        refine aw_iconst (pc' := 75) (v := 0) (dt_X6_readOperand 36 (74, .iconst 0, 1) rfl) (by decide) rfl (aw_iret (dt_X6_readOperand 37 (75, .ireturn, 1) rfl) rfl rfl ?_)
        exact h
      · intro q3
        have h := h.2 q3
        refine aw_iload_n (pc' := 69) (dt_X6_readOperand 33 (68, .iload_n 1, 1) rfl) rfl rfl (aw_bipush (pc' := 71) (v := 10) (dt_X6_readOperand 34 (69, .bipush 10, 2) rfl) (by decide) rfl (aw_icmp_lt (pc' := 74) (tgt := 76) (dt_X6_readOperand 35 (71, .if_icmp .lt 5, 3) rfl) (by decide) rfl ?_ ?_))
        · intro q4
          have h := h.1 q4
          refine aw_aload_n (pc' := 77) (dt_X6_readOperand 38 (76, .aload_n 0, 1) rfl) rfl rfl (aw_inV (pc' := 80) (nc1 := 0) (ns1 := 0) (nc := nc) (ns := ns) (ls' := [some (.ref 19)]) (y2 := mX6_step) (As := []) (rest := []) (a := 19) (dt_X6_readOperand 39 (77, .invokevirtual 36, 3) rfl) ok_X6_step ln_Reader_36 im_X6_step se_X6_step pr_X6_step (Or.inl ⟨by decide, rfl⟩) rfl (Nat.le_of_ble_eq_true rfl) (Nat.le_of_ble_eq_true rfl) rfl rfl (sk_19 hS) (aw_aload_n (pc' := 1) (dt_X6_step 0 (0, .aload_n 0, 1) rfl) rfl rfl (aw_getI (pc' := 4) (dt_X6_step 1 (1, .getfield 45, 3) rfl) fl_Reader_45 rfl rfl (sk_19 hS) (aw_iconst (pc' := 5) (v := 1) (dt_X6_step 2 (4, .iconst 1, 1) rfl) (by decide) rfl (aw_iadd (pc' := 6) (dt_X6_step 3 (5, .iadd, 1) rfl) rfl (aw_aload_n (pc' := 7) (dt_X6_step 4 (6, .aload_n 0, 1) rfl) rfl rfl (aw_getAs (pc' := 10) (dt_X6_step 5 (7, .getfield 12, 3) rfl) fl_Reader_12 rfl rfl (sk_19 hS) (sa_19_0 hS) (aw_getI (pc' := 13) (dt_X6_step 6 (10, .getfield 69, 3) rfl) fl_Reader_69 rfl rfl (sk_20 hS) (aw_icmp_ge (pc' := 16) (tgt := 59) (dt_X6_step 7 (13, .if_icmp .ge 46, 3) rfl) (by decide) rfl ?_ ?_)))))))))
          · intro q5
            have h := h.1 q5
            refine aw_ret (dt_X6_step 31 (59, .return_, 1) rfl) rfl (aw_stk (st' := []) rfl (aw_aload_n (pc' := 81) (dt_X6_readOperand 40 (80, .aload_n 0, 1) rfl) rfl rfl (aw_iload_n (pc' := 82) (dt_X6_readOperand 41 (81, .iload_n 1, 1) rfl) rfl rfl (aw_iconst (pc' := 83) (v := 1) (dt_X6_readOperand 42 (82, .iconst 1, 1) rfl) (by decide) rfl (aw_iadd (pc' := 84) (dt_X6_readOperand 43 (83, .iadd, 1) rfl) rfl (aw_callV0 (pc' := 87) (nc := nc) (ns := ns) (y2 := mX6_readAny) (As := [.int (x1 + 1)]) (rest := []) (a := 19) (dt_X6_readOperand 44 (84, .invokevirtual 41, 3) rfl) ok_X6_readAny ln_Reader_41 im_X6_readAny se_X6_readAny pr_X6_readAny (Or.inl ⟨by decide, rfl⟩) rfl (Nat.le_of_ble_eq_true rfl) (Nat.le_of_ble_eq_true rfl) rfl (sk_19 hS) h ?_))))))
            rintro v μ6 ⟨r8, rfl, hS7, h⟩
            refine aw_stk (st' := [.int r8]) rfl ?_
            refine aw_if_eq (pc' := 90) (tgt := 99) (dt_X6_readOperand 45 (87, .ifCond .eq 12, 3) rfl) (by decide) rfl ?_ ?_
            · intro q9
              have h := h.1 q9
              refine aw_iconst (pc' := 100) (v := 0) (dt_X6_readOperand 50 (99, .iconst 0, 1) rfl) (by decide) rfl (aw_iret (dt_X6_readOperand 51 (100, .ireturn, 1) rfl) rfl rfl ?_)
              exact h
            · intro q9
              have h := h.2 q9
              refine aw_aload_n (pc' := 91) (dt_X6_readOperand 46 (90, .aload_n 0, 1) rfl) rfl rfl (aw_getI (pc' := 94) (dt_X6_readOperand 47 (91, .getfield 22, 3) rfl) fl_Reader_22 rfl rfl (sk_19 hS7) (aw_bipush (pc' := 96) (v := 41) (dt_X6_readOperand 48 (94, .bipush 41, 2) rfl) (by decide) rfl (aw_icmp_eq (pc' := 99) (tgt := 101) (dt_X6_readOperand 49 (96, .if_icmp .eq 5, 3) rfl) (by decide) rfl ?_ ?_)))
              · intro q10
                have h := h.1 q10
                refine aw_aload_n (pc' := 102) (dt_X6_readOperand 52 (101, .aload_n 0, 1) rfl) rfl rfl (aw_inV (pc' := 105) (nc1 := 0) (ns1 := 0) (nc := nc) (ns := ns) (ls' := [some (.ref 19)]) (y2 := mX6_step) (As := []) (rest := []) (a := 19) (dt_X6_readOperand 53 (102, .invokevirtual 36, 3) rfl) ok_X6_step ln_Reader_36 im_X6_step se_X6_step pr_X6_step (Or.inl ⟨by decide, rfl⟩) rfl (Nat.le_of_ble_eq_true rfl) (Nat.le_of_ble_eq_true rfl) rfl rfl (sk_19 hS7) (aw_aload_n (pc' := 1) (dt_X6_step 0 (0, .aload_n 0, 1) rfl) rfl rfl (aw_getI (pc' := 4) (dt_X6_step 1 (1, .getfield 45, 3) rfl) fl_Reader_45 rfl rfl (sk_19 hS7) (aw_iconst (pc' := 5) (v := 1) (dt_X6_step 2 (4, .iconst 1, 1) rfl) (by decide) rfl (aw_iadd (pc' := 6) (dt_X6_step 3 (5, .iadd, 1) rfl) rfl (aw_aload_n (pc' := 7) (dt_X6_step 4 (6, .aload_n 0, 1) rfl) rfl rfl (aw_getAs (pc' := 10) (dt_X6_step 5 (7, .getfield 12, 3) rfl) fl_Reader_12 rfl rfl (sk_19 hS7) (sa_19_0 hS7) (aw_getI (pc' := 13) (dt_X6_step 6 (10, .getfield 69, 3) rfl) fl_Reader_69 rfl rfl (sk_20 hS7) (aw_icmp_ge (pc' := 16) (tgt := 59) (dt_X6_step 7 (13, .if_icmp .ge 46, 3) rfl) (by decide) rfl ?_ ?_)))))))))
                · intro q11
                  have h := h.1 q11
                  refine aw_ret (dt_X6_step 31 (59, .return_, 1) rfl) rfl (aw_stk (st' := []) rfl (aw_iconst (pc' := 106) (v := 1) (dt_X6_readOperand 54 (105, .iconst 1, 1) rfl) (by decide) rfl (aw_iret (dt_X6_readOperand 55 (106, .ireturn, 1) rfl) rfl rfl ?_)))
                  exact h
                · intro q11
                  have h := h.2 q11
                  refine aw_aload_n (pc' := 17) (dt_X6_step 8 (16, .aload_n 0, 1) rfl) rfl rfl (aw_getI (pc' := 20) (dt_X6_step 9 (17, .getfield 45, 3) rfl) fl_Reader_45 rfl rfl (sk_19 hS7) (aw_iconst (pc' := 21) (v := 1) (dt_X6_step 10 (20, .iconst 1, 1) rfl) (by decide) rfl (aw_iadd (pc' := 22) (dt_X6_step 11 (21, .iadd, 1) rfl) rfl (aw_aload_n (pc' := 23) (dt_X6_step 12 (22, .aload_n 0, 1) rfl) rfl rfl (aw_getAs (pc' := 26) (dt_X6_step 13 (23, .getfield 12, 3) rfl) fl_Reader_12 rfl rfl (sk_19 hS7) (sa_19_0 hS7) (aw_getAs (pc' := 29) (dt_X6_step 14 (26, .getfield 66, 3) rfl) fl_Reader_66 rfl rfl (sk_20 hS7) (sa_20_2 hS7) (aw_alens (pc' := 30) (n := 201) (v := 201) (dt_X6_step 15 (29, .arraylength, 1) rfl) (by decide) (by decide) rfl (sk_22 hS7) (sl_22 hS7) (by decide) (aw_icmp_ge (pc' := 33) (tgt := 59) (dt_X6_step 16 (30, .if_icmp .ge 29, 3) rfl) (by decide) rfl ?_ ?_))))))))
                  · intro q12
                    have h := h.1 q12
                    refine aw_ret (dt_X6_step 31 (59, .return_, 1) rfl) rfl (aw_stk (st' := []) rfl (aw_iconst (pc' := 106) (v := 1) (dt_X6_readOperand 54 (105, .iconst 1, 1) rfl) (by decide) rfl (aw_iret (dt_X6_readOperand 55 (106, .ireturn, 1) rfl) rfl rfl ?_)))
                    exact h
                  · intro q12
                    have h := h.2 q12
                    obtain ⟨g13, h⟩ := h
                    refine aw_aload_n (pc' := 34) (dt_X6_step 17 (33, .aload_n 0, 1) rfl) rfl rfl (aw_dup (pc' := 35) (dt_X6_step 18 (34, .dup, 1) rfl) rfl rfl (aw_getI (pc' := 38) (dt_X6_step 19 (35, .getfield 45, 3) rfl) fl_Reader_45 rfl rfl (sk_19 hS7) (aw_iconst (pc' := 39) (v := 1) (dt_X6_step 20 (38, .iconst 1, 1) rfl) (by decide) rfl (aw_iadd (pc' := 40) (dt_X6_step 21 (39, .iadd, 1) rfl) rfl (aw_putI (pc' := 43) (dt_X6_step 22 (40, .putfield 45, 3) rfl) fl_Reader_45 rfl (by decide +kernel) rfl (sk_19 hS7) (aw_aload_n (pc' := 44) (dt_X6_step 23 (43, .aload_n 0, 1) rfl) rfl rfl (aw_aload_n (pc' := 45) (dt_X6_step 24 (44, .aload_n 0, 1) rfl) rfl rfl (aw_getAs (pc' := 48) (dt_X6_step 25 (45, .getfield 12, 3) rfl) fl_Reader_12 rfl rfl (sk_19 hS7.wI) (sa_19_0 hS7.wI) (aw_getAs (pc' := 51) (dt_X6_step 26 (48, .getfield 66, 3) rfl) fl_Reader_66 rfl rfl (sk_20 hS7.wI) (sa_20_2 hS7.wI) (aw_aload_n (pc' := 52) (dt_X6_step 27 (51, .aload_n 0, 1) rfl) rfl rfl (aw_getI (pc' := 55) (dt_X6_step 28 (52, .getfield 45, 3) rfl) fl_Reader_45 rfl rfl (sk_19 hS7.wI) (aw_iald (pc' := 56) (dt_X6_step 29 (55, .iaload, 1) rfl) rfl (sk_22 hS7.wI) (vin_eq (sl_22 hS7.wI) g13) (aw_putI (pc' := 59) (dt_X6_step 30 (56, .putfield 22, 3) rfl) fl_Reader_22 rfl (by decide +kernel) rfl (sk_19 hS7.wI) (aw_ret (dt_X6_step 31 (59, .return_, 1) rfl) rfl (aw_stk (st' := []) rfl (aw_iconst (pc' := 106) (v := 1) (dt_X6_readOperand 54 (105, .iconst 1, 1) rfl) (by decide) rfl (aw_iret (dt_X6_readOperand 55 (106, .ireturn, 1) rfl) rfl rfl ?_)))))))))))))))))
                    exact h
              · intro q10
                have h := h.2 q10
                refine aw_iconst (pc' := 100) (v := 0) (dt_X6_readOperand 50 (99, .iconst 0, 1) rfl) (by decide) rfl (aw_iret (dt_X6_readOperand 51 (100, .ireturn, 1) rfl) rfl rfl ?_)
                exact h
          · intro q5
            have h := h.2 q5
            refine aw_aload_n (pc' := 17) (dt_X6_step 8 (16, .aload_n 0, 1) rfl) rfl rfl (aw_getI (pc' := 20) (dt_X6_step 9 (17, .getfield 45, 3) rfl) fl_Reader_45 rfl rfl (sk_19 hS) (aw_iconst (pc' := 21) (v := 1) (dt_X6_step 10 (20, .iconst 1, 1) rfl) (by decide) rfl (aw_iadd (pc' := 22) (dt_X6_step 11 (21, .iadd, 1) rfl) rfl (aw_aload_n (pc' := 23) (dt_X6_step 12 (22, .aload_n 0, 1) rfl) rfl rfl (aw_getAs (pc' := 26) (dt_X6_step 13 (23, .getfield 12, 3) rfl) fl_Reader_12 rfl rfl (sk_19 hS) (sa_19_0 hS) (aw_getAs (pc' := 29) (dt_X6_step 14 (26, .getfield 66, 3) rfl) fl_Reader_66 rfl rfl (sk_20 hS) (sa_20_2 hS) (aw_alens (pc' := 30) (n := 201) (v := 201) (dt_X6_step 15 (29, .arraylength, 1) rfl) (by decide) (by decide) rfl (sk_22 hS) (sl_22 hS) (by decide) (aw_icmp_ge (pc' := 33) (tgt := 59) (dt_X6_step 16 (30, .if_icmp .ge 29, 3) rfl) (by decide) rfl ?_ ?_))))))))
            · intro q14
              have h := h.1 q14
              refine aw_ret (dt_X6_step 31 (59, .return_, 1) rfl) rfl (aw_stk (st' := []) rfl (aw_aload_n (pc' := 81) (dt_X6_readOperand 40 (80, .aload_n 0, 1) rfl) rfl rfl (aw_iload_n (pc' := 82) (dt_X6_readOperand 41 (81, .iload_n 1, 1) rfl) rfl rfl (aw_iconst (pc' := 83) (v := 1) (dt_X6_readOperand 42 (82, .iconst 1, 1) rfl) (by decide) rfl (aw_iadd (pc' := 84) (dt_X6_readOperand 43 (83, .iadd, 1) rfl) rfl (aw_callV0 (pc' := 87) (nc := nc) (ns := ns) (y2 := mX6_readAny) (As := [.int (x1 + 1)]) (rest := []) (a := 19) (dt_X6_readOperand 44 (84, .invokevirtual 41, 3) rfl) ok_X6_readAny ln_Reader_41 im_X6_readAny se_X6_readAny pr_X6_readAny (Or.inl ⟨by decide, rfl⟩) rfl (Nat.le_of_ble_eq_true rfl) (Nat.le_of_ble_eq_true rfl) rfl (sk_19 hS) h ?_))))))
              rintro v μ15 ⟨r17, rfl, hS16, h⟩
              refine aw_stk (st' := [.int r17]) rfl ?_
              refine aw_if_eq (pc' := 90) (tgt := 99) (dt_X6_readOperand 45 (87, .ifCond .eq 12, 3) rfl) (by decide) rfl ?_ ?_
              · intro q18
                have h := h.1 q18
                refine aw_iconst (pc' := 100) (v := 0) (dt_X6_readOperand 50 (99, .iconst 0, 1) rfl) (by decide) rfl (aw_iret (dt_X6_readOperand 51 (100, .ireturn, 1) rfl) rfl rfl ?_)
                exact h
              · intro q18
                have h := h.2 q18
                refine aw_aload_n (pc' := 91) (dt_X6_readOperand 46 (90, .aload_n 0, 1) rfl) rfl rfl (aw_getI (pc' := 94) (dt_X6_readOperand 47 (91, .getfield 22, 3) rfl) fl_Reader_22 rfl rfl (sk_19 hS16) (aw_bipush (pc' := 96) (v := 41) (dt_X6_readOperand 48 (94, .bipush 41, 2) rfl) (by decide) rfl (aw_icmp_eq (pc' := 99) (tgt := 101) (dt_X6_readOperand 49 (96, .if_icmp .eq 5, 3) rfl) (by decide) rfl ?_ ?_)))
                · intro q19
                  have h := h.1 q19
                  refine aw_aload_n (pc' := 102) (dt_X6_readOperand 52 (101, .aload_n 0, 1) rfl) rfl rfl (aw_inV (pc' := 105) (nc1 := 0) (ns1 := 0) (nc := nc) (ns := ns) (ls' := [some (.ref 19)]) (y2 := mX6_step) (As := []) (rest := []) (a := 19) (dt_X6_readOperand 53 (102, .invokevirtual 36, 3) rfl) ok_X6_step ln_Reader_36 im_X6_step se_X6_step pr_X6_step (Or.inl ⟨by decide, rfl⟩) rfl (Nat.le_of_ble_eq_true rfl) (Nat.le_of_ble_eq_true rfl) rfl rfl (sk_19 hS16) (aw_aload_n (pc' := 1) (dt_X6_step 0 (0, .aload_n 0, 1) rfl) rfl rfl (aw_getI (pc' := 4) (dt_X6_step 1 (1, .getfield 45, 3) rfl) fl_Reader_45 rfl rfl (sk_19 hS16) (aw_iconst (pc' := 5) (v := 1) (dt_X6_step 2 (4, .iconst 1, 1) rfl) (by decide) rfl (aw_iadd (pc' := 6) (dt_X6_step 3 (5, .iadd, 1) rfl) rfl (aw_aload_n (pc' := 7) (dt_X6_step 4 (6, .aload_n 0, 1) rfl) rfl rfl (aw_getAs (pc' := 10) (dt_X6_step 5 (7, .getfield 12, 3) rfl) fl_Reader_12 rfl rfl (sk_19 hS16) (sa_19_0 hS16) (aw_getI (pc' := 13) (dt_X6_step 6 (10, .getfield 69, 3) rfl) fl_Reader_69 rfl rfl (sk_20 hS16) (aw_icmp_ge (pc' := 16) (tgt := 59) (dt_X6_step 7 (13, .if_icmp .ge 46, 3) rfl) (by decide) rfl ?_ ?_)))))))))
                  · intro q20
                    have h := h.1 q20
                    refine aw_ret (dt_X6_step 31 (59, .return_, 1) rfl) rfl (aw_stk (st' := []) rfl (aw_iconst (pc' := 106) (v := 1) (dt_X6_readOperand 54 (105, .iconst 1, 1) rfl) (by decide) rfl (aw_iret (dt_X6_readOperand 55 (106, .ireturn, 1) rfl) rfl rfl ?_)))
                    exact h
                  · intro q20
                    have h := h.2 q20
                    refine aw_aload_n (pc' := 17) (dt_X6_step 8 (16, .aload_n 0, 1) rfl) rfl rfl (aw_getI (pc' := 20) (dt_X6_step 9 (17, .getfield 45, 3) rfl) fl_Reader_45 rfl rfl (sk_19 hS16) (aw_iconst (pc' := 21) (v := 1) (dt_X6_step 10 (20, .iconst 1, 1) rfl) (by decide) rfl (aw_iadd (pc' := 22) (dt_X6_step 11 (21, .iadd, 1) rfl) rfl (aw_aload_n (pc' := 23) (dt_X6_step 12 (22, .aload_n 0, 1) rfl) rfl rfl (aw_getAs (pc' := 26) (dt_X6_step 13 (23, .getfield 12, 3) rfl) fl_Reader_12 rfl rfl (sk_19 hS16) (sa_19_0 hS16) (aw_getAs (pc' := 29) (dt_X6_step 14 (26, .getfield 66, 3) rfl) fl_Reader_66 rfl rfl (sk_20 hS16) (sa_20_2 hS16) (aw_alens (pc' := 30) (n := 201) (v := 201) (dt_X6_step 15 (29, .arraylength, 1) rfl) (by decide) (by decide) rfl (sk_22 hS16) (sl_22 hS16) (by decide) (aw_icmp_ge (pc' := 33) (tgt := 59) (dt_X6_step 16 (30, .if_icmp .ge 29, 3) rfl) (by decide) rfl ?_ ?_))))))))
                    · intro q21
                      have h := h.1 q21
                      refine aw_ret (dt_X6_step 31 (59, .return_, 1) rfl) rfl (aw_stk (st' := []) rfl (aw_iconst (pc' := 106) (v := 1) (dt_X6_readOperand 54 (105, .iconst 1, 1) rfl) (by decide) rfl (aw_iret (dt_X6_readOperand 55 (106, .ireturn, 1) rfl) rfl rfl ?_)))
                      exact h
                    · intro q21
                      have h := h.2 q21
                      obtain ⟨g22, h⟩ := h
                      refine aw_aload_n (pc' := 34) (dt_X6_step 17 (33, .aload_n 0, 1) rfl) rfl rfl (aw_dup (pc' := 35) (dt_X6_step 18 (34, .dup, 1) rfl) rfl rfl (aw_getI (pc' := 38) (dt_X6_step 19 (35, .getfield 45, 3) rfl) fl_Reader_45 rfl rfl (sk_19 hS16) (aw_iconst (pc' := 39) (v := 1) (dt_X6_step 20 (38, .iconst 1, 1) rfl) (by decide) rfl (aw_iadd (pc' := 40) (dt_X6_step 21 (39, .iadd, 1) rfl) rfl (aw_putI (pc' := 43) (dt_X6_step 22 (40, .putfield 45, 3) rfl) fl_Reader_45 rfl (by decide +kernel) rfl (sk_19 hS16) (aw_aload_n (pc' := 44) (dt_X6_step 23 (43, .aload_n 0, 1) rfl) rfl rfl (aw_aload_n (pc' := 45) (dt_X6_step 24 (44, .aload_n 0, 1) rfl) rfl rfl (aw_getAs (pc' := 48) (dt_X6_step 25 (45, .getfield 12, 3) rfl) fl_Reader_12 rfl rfl (sk_19 hS16.wI) (sa_19_0 hS16.wI) (aw_getAs (pc' := 51) (dt_X6_step 26 (48, .getfield 66, 3) rfl) fl_Reader_66 rfl rfl (sk_20 hS16.wI) (sa_20_2 hS16.wI) (aw_aload_n (pc' := 52) (dt_X6_step 27 (51, .aload_n 0, 1) rfl) rfl rfl (aw_getI (pc' := 55) (dt_X6_step 28 (52, .getfield 45, 3) rfl) fl_Reader_45 rfl rfl (sk_19 hS16.wI) (aw_iald (pc' := 56) (dt_X6_step 29 (55, .iaload, 1) rfl) rfl (sk_22 hS16.wI) (vin_eq (sl_22 hS16.wI) g22) (aw_putI (pc' := 59) (dt_X6_step 30 (56, .putfield 22, 3) rfl) fl_Reader_22 rfl (by decide +kernel) rfl (sk_19 hS16.wI) (aw_ret (dt_X6_step 31 (59, .return_, 1) rfl) rfl (aw_stk (st' := []) rfl (aw_iconst (pc' := 106) (v := 1) (dt_X6_readOperand 54 (105, .iconst 1, 1) rfl) (by decide) rfl (aw_iret (dt_X6_readOperand 55 (106, .ireturn, 1) rfl) rfl rfl ?_)))))))))))))))))
                      exact h
                · intro q19
                  have h := h.2 q19
                  refine aw_iconst (pc' := 100) (v := 0) (dt_X6_readOperand 50 (99, .iconst 0, 1) rfl) (by decide) rfl (aw_iret (dt_X6_readOperand 51 (100, .ireturn, 1) rfl) rfl rfl ?_)
                  exact h
            · intro q14
              have h := h.2 q14
              obtain ⟨g23, h⟩ := h
              refine aw_aload_n (pc' := 34) (dt_X6_step 17 (33, .aload_n 0, 1) rfl) rfl rfl (aw_dup (pc' := 35) (dt_X6_step 18 (34, .dup, 1) rfl) rfl rfl (aw_getI (pc' := 38) (dt_X6_step 19 (35, .getfield 45, 3) rfl) fl_Reader_45 rfl rfl (sk_19 hS) (aw_iconst (pc' := 39) (v := 1) (dt_X6_step 20 (38, .iconst 1, 1) rfl) (by decide) rfl (aw_iadd (pc' := 40) (dt_X6_step 21 (39, .iadd, 1) rfl) rfl (aw_putI (pc' := 43) (dt_X6_step 22 (40, .putfield 45, 3) rfl) fl_Reader_45 rfl (by decide +kernel) rfl (sk_19 hS) (aw_aload_n (pc' := 44) (dt_X6_step 23 (43, .aload_n 0, 1) rfl) rfl rfl (aw_aload_n (pc' := 45) (dt_X6_step 24 (44, .aload_n 0, 1) rfl) rfl rfl (aw_getAs (pc' := 48) (dt_X6_step 25 (45, .getfield 12, 3) rfl) fl_Reader_12 rfl rfl (sk_19 hS.wI) (sa_19_0 hS.wI) (aw_getAs (pc' := 51) (dt_X6_step 26 (48, .getfield 66, 3) rfl) fl_Reader_66 rfl rfl (sk_20 hS.wI) (sa_20_2 hS.wI) (aw_aload_n (pc' := 52) (dt_X6_step 27 (51, .aload_n 0, 1) rfl) rfl rfl (aw_getI (pc' := 55) (dt_X6_step 28 (52, .getfield 45, 3) rfl) fl_Reader_45 rfl rfl (sk_19 hS.wI) (aw_iald (pc' := 56) (dt_X6_step 29 (55, .iaload, 1) rfl) rfl (sk_22 hS.wI) (vin_eq (sl_22 hS.wI) g23) (aw_putI (pc' := 59) (dt_X6_step 30 (56, .putfield 22, 3) rfl) fl_Reader_22 rfl (by decide +kernel) rfl (sk_19 hS.wI) (aw_ret (dt_X6_step 31 (59, .return_, 1) rfl) rfl (aw_stk (st' := []) rfl (aw_aload_n (pc' := 81) (dt_X6_readOperand 40 (80, .aload_n 0, 1) rfl) rfl rfl (aw_iload_n (pc' := 82) (dt_X6_readOperand 41 (81, .iload_n 1, 1) rfl) rfl rfl (aw_iconst (pc' := 83) (v := 1) (dt_X6_readOperand 42 (82, .iconst 1, 1) rfl) (by decide) rfl (aw_iadd (pc' := 84) (dt_X6_readOperand 43 (83, .iadd, 1) rfl) rfl (aw_callV0 (pc' := 87) (nc := nc) (ns := ns) (y2 := mX6_readAny) (As := [.int (x1 + 1)]) (rest := []) (a := 19) (dt_X6_readOperand 44 (84, .invokevirtual 41, 3) rfl) ok_X6_readAny ln_Reader_41 im_X6_readAny se_X6_readAny pr_X6_readAny (Or.inl ⟨by decide, rfl⟩) rfl (Nat.le_of_ble_eq_true rfl) (Nat.le_of_ble_eq_true rfl) rfl (sk_19 hS.wI.wI) h ?_))))))))))))))))))))
              rintro v μ24 ⟨r26, rfl, hS25, h⟩
              refine aw_stk (st' := [.int r26]) rfl ?_
              refine aw_if_eq (pc' := 90) (tgt := 99) (dt_X6_readOperand 45 (87, .ifCond .eq 12, 3) rfl) (by decide) rfl ?_ ?_
              · intro q27
                have h := h.1 q27
                refine aw_iconst (pc' := 100) (v := 0) (dt_X6_readOperand 50 (99, .iconst 0, 1) rfl) (by decide) rfl (aw_iret (dt_X6_readOperand 51 (100, .ireturn, 1) rfl) rfl rfl ?_)
                exact h
              · intro q27
                have h := h.2 q27
                refine aw_aload_n (pc' := 91) (dt_X6_readOperand 46 (90, .aload_n 0, 1) rfl) rfl rfl (aw_getI (pc' := 94) (dt_X6_readOperand 47 (91, .getfield 22, 3) rfl) fl_Reader_22 rfl rfl (sk_19 hS25) (aw_bipush (pc' := 96) (v := 41) (dt_X6_readOperand 48 (94, .bipush 41, 2) rfl) (by decide) rfl (aw_icmp_eq (pc' := 99) (tgt := 101) (dt_X6_readOperand 49 (96, .if_icmp .eq 5, 3) rfl) (by decide) rfl ?_ ?_)))
                · intro q28
                  have h := h.1 q28
                  refine aw_aload_n (pc' := 102) (dt_X6_readOperand 52 (101, .aload_n 0, 1) rfl) rfl rfl (aw_inV (pc' := 105) (nc1 := 0) (ns1 := 0) (nc := nc) (ns := ns) (ls' := [some (.ref 19)]) (y2 := mX6_step) (As := []) (rest := []) (a := 19) (dt_X6_readOperand 53 (102, .invokevirtual 36, 3) rfl) ok_X6_step ln_Reader_36 im_X6_step se_X6_step pr_X6_step (Or.inl ⟨by decide, rfl⟩) rfl (Nat.le_of_ble_eq_true rfl) (Nat.le_of_ble_eq_true rfl) rfl rfl (sk_19 hS25) (aw_aload_n (pc' := 1) (dt_X6_step 0 (0, .aload_n 0, 1) rfl) rfl rfl (aw_getI (pc' := 4) (dt_X6_step 1 (1, .getfield 45, 3) rfl) fl_Reader_45 rfl rfl (sk_19 hS25) (aw_iconst (pc' := 5) (v := 1) (dt_X6_step 2 (4, .iconst 1, 1) rfl) (by decide) rfl (aw_iadd (pc' := 6) (dt_X6_step 3 (5, .iadd, 1) rfl) rfl (aw_aload_n (pc' := 7) (dt_X6_step 4 (6, .aload_n 0, 1) rfl) rfl rfl (aw_getAs (pc' := 10) (dt_X6_step 5 (7, .getfield 12, 3) rfl) fl_Reader_12 rfl rfl (sk_19 hS25) (sa_19_0 hS25) (aw_getI (pc' := 13) (dt_X6_step 6 (10, .getfield 69, 3) rfl) fl_Reader_69 rfl rfl (sk_20 hS25) (aw_icmp_ge (pc' := 16) (tgt := 59) (dt_X6_step 7 (13, .if_icmp .ge 46, 3) rfl) (by decide) rfl ?_ ?_)))))))))
                  · intro q29
                    have h := h.1 q29
                    refine aw_ret (dt_X6_step 31 (59, .return_, 1) rfl) rfl (aw_stk (st' := []) rfl (aw_iconst (pc' := 106) (v := 1) (dt_X6_readOperand 54 (105, .iconst 1, 1) rfl) (by decide) rfl (aw_iret (dt_X6_readOperand 55 (106, .ireturn, 1) rfl) rfl rfl ?_)))
                    exact h
                  · intro q29
                    have h := h.2 q29
                    refine aw_aload_n (pc' := 17) (dt_X6_step 8 (16, .aload_n 0, 1) rfl) rfl rfl (aw_getI (pc' := 20) (dt_X6_step 9 (17, .getfield 45, 3) rfl) fl_Reader_45 rfl rfl (sk_19 hS25) (aw_iconst (pc' := 21) (v := 1) (dt_X6_step 10 (20, .iconst 1, 1) rfl) (by decide) rfl (aw_iadd (pc' := 22) (dt_X6_step 11 (21, .iadd, 1) rfl) rfl (aw_aload_n (pc' := 23) (dt_X6_step 12 (22, .aload_n 0, 1) rfl) rfl rfl (aw_getAs (pc' := 26) (dt_X6_step 13 (23, .getfield 12, 3) rfl) fl_Reader_12 rfl rfl (sk_19 hS25) (sa_19_0 hS25) (aw_getAs (pc' := 29) (dt_X6_step 14 (26, .getfield 66, 3) rfl) fl_Reader_66 rfl rfl (sk_20 hS25) (sa_20_2 hS25) (aw_alens (pc' := 30) (n := 201) (v := 201) (dt_X6_step 15 (29, .arraylength, 1) rfl) (by decide) (by decide) rfl (sk_22 hS25) (sl_22 hS25) (by decide) (aw_icmp_ge (pc' := 33) (tgt := 59) (dt_X6_step 16 (30, .if_icmp .ge 29, 3) rfl) (by decide) rfl ?_ ?_))))))))
                    · intro q30
                      have h := h.1 q30
                      refine aw_ret (dt_X6_step 31 (59, .return_, 1) rfl) rfl (aw_stk (st' := []) rfl (aw_iconst (pc' := 106) (v := 1) (dt_X6_readOperand 54 (105, .iconst 1, 1) rfl) (by decide) rfl (aw_iret (dt_X6_readOperand 55 (106, .ireturn, 1) rfl) rfl rfl ?_)))
                      exact h
                    · intro q30
                      have h := h.2 q30
                      obtain ⟨g31, h⟩ := h
                      refine aw_aload_n (pc' := 34) (dt_X6_step 17 (33, .aload_n 0, 1) rfl) rfl rfl (aw_dup (pc' := 35) (dt_X6_step 18 (34, .dup, 1) rfl) rfl rfl (aw_getI (pc' := 38) (dt_X6_step 19 (35, .getfield 45, 3) rfl) fl_Reader_45 rfl rfl (sk_19 hS25) (aw_iconst (pc' := 39) (v := 1) (dt_X6_step 20 (38, .iconst 1, 1) rfl) (by decide) rfl (aw_iadd (pc' := 40) (dt_X6_step 21 (39, .iadd, 1) rfl) rfl (aw_putI (pc' := 43) (dt_X6_step 22 (40, .putfield 45, 3) rfl) fl_Reader_45 rfl (by decide +kernel) rfl (sk_19 hS25) (aw_aload_n (pc' := 44) (dt_X6_step 23 (43, .aload_n 0, 1) rfl) rfl rfl (aw_aload_n (pc' := 45) (dt_X6_step 24 (44, .aload_n 0, 1) rfl) rfl rfl (aw_getAs (pc' := 48) (dt_X6_step 25 (45, .getfield 12, 3) rfl) fl_Reader_12 rfl rfl (sk_19 hS25.wI) (sa_19_0 hS25.wI) (aw_getAs (pc' := 51) (dt_X6_step 26 (48, .getfield 66, 3) rfl) fl_Reader_66 rfl rfl (sk_20 hS25.wI) (sa_20_2 hS25.wI) (aw_aload_n (pc' := 52) (dt_X6_step 27 (51, .aload_n 0, 1) rfl) rfl rfl (aw_getI (pc' := 55) (dt_X6_step 28 (52, .getfield 45, 3) rfl) fl_Reader_45 rfl rfl (sk_19 hS25.wI) (aw_iald (pc' := 56) (dt_X6_step 29 (55, .iaload, 1) rfl) rfl (sk_22 hS25.wI) (vin_eq (sl_22 hS25.wI) g31) (aw_putI (pc' := 59) (dt_X6_step 30 (56, .putfield 22, 3) rfl) fl_Reader_22 rfl (by decide +kernel) rfl (sk_19 hS25.wI) (aw_ret (dt_X6_step 31 (59, .return_, 1) rfl) rfl (aw_stk (st' := []) rfl (aw_iconst (pc' := 106) (v := 1) (dt_X6_readOperand 54 (105, .iconst 1, 1) rfl) (by decide) rfl (aw_iret (dt_X6_readOperand 55 (106, .ireturn, 1) rfl) rfl rfl ?_)))))))))))))))))
                      exact h
                · intro q28
                  have h := h.2 q28
                  refine aw_iconst (pc' := 100) (v := 0) (dt_X6_readOperand 50 (99, .iconst 0, 1) rfl) (by decide) rfl (aw_iret (dt_X6_readOperand 51 (100, .ireturn, 1) rfl) rfl rfl ?_)
                  exact h
        · intro q4
          have h := h.2 q4
          refine aw_iconst (pc' := 75) (v := 0) (dt_X6_readOperand 36 (74, .iconst 0, 1) rfl) (by decide) rfl (aw_iret (dt_X6_readOperand 37 (75, .ireturn, 1) rfl) rfl rfl ?_)
          exact h
    · intro q2
      have h := h.2 q2
      refine aw_drop (ls' := [some (.ref 19), none]) ⟨rfl, trivial⟩ ?_
      exact h

theorem t_X6_readOperand_18 {E : ZE} {l : Launch} {d nc ns : Nat}  {μ : ZM} {K : Option Value → ZM → Prop} (hS : Stat μ) (h :
  (201 ≤ (zI μ 19 3) →
    AW E l (d + 1) nc ns mX6_readOperand 50 [some (.ref 19), none] [.int 0, .ref 19] μ K) ∧
  (¬ 201 ≤ (zI μ 19 3) →
    (vp_in (zI μ 19 3) 201) ∧
    AW E l (d + 1) nc ns mX6_readOperand 50 [some (.ref 19), none] [.int (zI μ 24 (zI μ 19 3).toNatClampNeg), .ref 19] μ K)) : AW E l (d + 1) nc ns mX6_readOperand 18 [some (.ref 19), none] [] μ K := by
  refine aw_aload_n (pc' := 19) (dt_X6_readOperand 8 (18, .aload_n 0, 1) rfl) rfl rfl (aw_aload_n (pc' := 20) (dt_X6_readOperand 9 (19, .aload_n 0, 1) rfl) rfl rfl (aw_getI (pc' := 23) (dt_X6_readOperand 10 (20, .getfield 45, 3) rfl) fl_Reader_45 rfl rfl (sk_19 hS) (aw_aload_n (pc' := 24) (dt_X6_readOperand 11 (23, .aload_n 0, 1) rfl) rfl rfl (aw_getAs (pc' := 27) (dt_X6_readOperand 12 (24, .getfield 12, 3) rfl) fl_Reader_12 rfl rfl (sk_19 hS) (sa_19_0 hS) (aw_getAs (pc' := 30) (dt_X6_readOperand 13 (27, .getfield 97, 3) rfl) fl_Reader_97 rfl rfl (sk_20 hS) (sa_20_4 hS) (aw_alens (pc' := 31) (n := 201) (v := 201) (dt_X6_readOperand 14 (30, .arraylength, 1) rfl) (by decide) (by decide) rfl (sk_24 hS) (sl_24 hS) (by decide) (aw_icmp_ge (pc' := 34) (tgt := 49) (dt_X6_readOperand 15 (31, .if_icmp .ge 18, 3) rfl) (by decide) rfl ?_ ?_)))))))
  · intro q1
    have h := h.1 q1
    refine aw_iconst (pc' := 50) (v := 0) (dt_X6_readOperand 23 (49, .iconst 0, 1) rfl) (by decide) rfl ?_
    exact h
  · intro q1
    have h := h.2 q1
    obtain ⟨g2, h⟩ := h
    refine aw_aload_n (pc' := 35) (dt_X6_readOperand 16 (34, .aload_n 0, 1) rfl) rfl rfl (aw_getAs (pc' := 38) (dt_X6_readOperand 17 (35, .getfield 12, 3) rfl) fl_Reader_12 rfl rfl (sk_19 hS) (sa_19_0 hS) (aw_getAs (pc' := 41) (dt_X6_readOperand 18 (38, .getfield 97, 3) rfl) fl_Reader_97 rfl rfl (sk_20 hS) (sa_20_4 hS) (aw_aload_n (pc' := 42) (dt_X6_readOperand 19 (41, .aload_n 0, 1) rfl) rfl rfl (aw_getI (pc' := 45) (dt_X6_readOperand 20 (42, .getfield 45, 3) rfl) fl_Reader_45 rfl rfl (sk_19 hS) (aw_iald (pc' := 46) (dt_X6_readOperand 21 (45, .iaload, 1) rfl) rfl (sk_24 hS) (vin_eq (sl_24 hS) g2) (aw_goto (tgt := 50) (dt_X6_readOperand 22 (46, .goto 4, 3) rfl) (by decide) ?_))))))
    exact h

theorem t_X6_readOperand_50 {E : ZE} {l : Launch} {d nc ns : Nat} {y0 : Int32} {μ : ZM} {K : Option Value → ZM → Prop} (hS : Stat μ) (h :
  (400 ≤ (zI μ 19 2) →
    ((zI μ 20 5) ≤ ((zI μ 19 3) + 1) →
      K (some (.int 1)) μ) ∧
    (¬ (zI μ 20 5) ≤ ((zI μ 19 3) + 1) →
      (201 ≤ ((zI μ 19 3) + 1) →
        K (some (.int 1)) μ) ∧
      (¬ 201 ≤ ((zI μ 19 3) + 1) →
        (vp_in (zI (sI μ 19 3 ((zI μ 19 3) + 1)) 19 3) 201) ∧
        K (some (.int 1)) (sI (sI μ 19 3 ((zI μ 19 3) + 1)) 19 4 (zI (sI μ 19 3 ((zI μ 19 3) + 1)) 22 (zI (sI μ 19 3 ((zI μ 19 3) + 1)) 19 3).toNatClampNeg))))) ∧
  (¬ 400 ≤ (zI μ 19 2) →
    (vp_in (zI μ 19 2) 400) ∧
    ((zI (sI (sI μ 25 (zI μ 19 2).toNatClampNeg y0) 19 2 ((zI (sI μ 25 (zI μ 19 2).toNatClampNeg y0) 19 2) + 1)) 20 5) ≤ ((zI (sI (sI μ 25 (zI μ 19 2).toNatClampNeg y0) 19 2 ((zI (sI μ 25 (zI μ 19 2).toNatClampNeg y0) 19 2) + 1)) 19 3) + 1) →
      K (some (.int 1)) (sI (sI μ 25 (zI μ 19 2).toNatClampNeg y0) 19 2 ((zI (sI μ 25 (zI μ 19 2).toNatClampNeg y0) 19 2) + 1))) ∧
    (¬ (zI (sI (sI μ 25 (zI μ 19 2).toNatClampNeg y0) 19 2 ((zI (sI μ 25 (zI μ 19 2).toNatClampNeg y0) 19 2) + 1)) 20 5) ≤ ((zI (sI (sI μ 25 (zI μ 19 2).toNatClampNeg y0) 19 2 ((zI (sI μ 25 (zI μ 19 2).toNatClampNeg y0) 19 2) + 1)) 19 3) + 1) →
      (201 ≤ ((zI (sI (sI μ 25 (zI μ 19 2).toNatClampNeg y0) 19 2 ((zI (sI μ 25 (zI μ 19 2).toNatClampNeg y0) 19 2) + 1)) 19 3) + 1) →
        K (some (.int 1)) (sI (sI μ 25 (zI μ 19 2).toNatClampNeg y0) 19 2 ((zI (sI μ 25 (zI μ 19 2).toNatClampNeg y0) 19 2) + 1))) ∧
      (¬ 201 ≤ ((zI (sI (sI μ 25 (zI μ 19 2).toNatClampNeg y0) 19 2 ((zI (sI μ 25 (zI μ 19 2).toNatClampNeg y0) 19 2) + 1)) 19 3) + 1) →
        (vp_in (zI (sI (sI (sI μ 25 (zI μ 19 2).toNatClampNeg y0) 19 2 ((zI (sI μ 25 (zI μ 19 2).toNatClampNeg y0) 19 2) + 1)) 19 3 ((zI (sI (sI μ 25 (zI μ 19 2).toNatClampNeg y0) 19 2 ((zI (sI μ 25 (zI μ 19 2).toNatClampNeg y0) 19 2) + 1)) 19 3) + 1)) 19 3) 201) ∧
        ∀ μ9, μ9 = (sI (sI (sI (sI μ 25 (zI μ 19 2).toNatClampNeg y0) 19 2 ((zI (sI μ 25 (zI μ 19 2).toNatClampNeg y0) 19 2) + 1)) 19 3 ((zI (sI (sI μ 25 (zI μ 19 2).toNatClampNeg y0) 19 2 ((zI (sI μ 25 (zI μ 19 2).toNatClampNeg y0) 19 2) + 1)) 19 3) + 1)) 19 4 (zI (sI (sI (sI μ 25 (zI μ 19 2).toNatClampNeg y0) 19 2 ((zI (sI μ 25 (zI μ 19 2).toNatClampNeg y0) 19 2) + 1)) 19 3 ((zI (sI (sI μ 25 (zI μ 19 2).toNatClampNeg y0) 19 2 ((zI (sI μ 25 (zI μ 19 2).toNatClampNeg y0) 19 2) + 1)) 19 3) + 1)) 22 (zI (sI (sI (sI μ 25 (zI μ 19 2).toNatClampNeg y0) 19 2 ((zI (sI μ 25 (zI μ 19 2).toNatClampNeg y0) 19 2) + 1)) 19 3 ((zI (sI (sI μ 25 (zI μ 19 2).toNatClampNeg y0) 19 2 ((zI (sI μ 25 (zI μ 19 2).toNatClampNeg y0) 19 2) + 1)) 19 3) + 1)) 19 3).toNatClampNeg)) →
        K (some (.int 1)) μ9)))) : AW E l (d + 1) nc ns mX6_readOperand 50 [some (.ref 19), none] [.int y0, .ref 19] μ K := by
  refine aw_inV (pc' := 53) (nc1 := 0) (ns1 := 0) (nc := nc) (ns := ns) (ls' := [some (.ref 19), some (.int y0)]) (y2 := mX6_write) (As := [.int y0]) (rest := []) (a := 19) (dt_X6_readOperand 24 (50, .invokevirtual 75, 3) rfl) ok_X6_write ln_Reader_75 im_X6_write se_X6_write pr_X6_write (Or.inl ⟨by decide, rfl⟩) rfl (Nat.le_of_ble_eq_true rfl) (Nat.le_of_ble_eq_true rfl) rfl rfl (sk_19 hS) (aw_aload_n (pc' := 1) (dt_X6_write 0 (0, .aload_n 0, 1) rfl) rfl rfl (aw_getI (pc' := 4) (dt_X6_write 1 (1, .getfield 54, 3) rfl) fl_Reader_54 rfl rfl (sk_19 hS) (aw_aload_n (pc' := 5) (dt_X6_write 2 (4, .aload_n 0, 1) rfl) rfl rfl (aw_getAs (pc' := 8) (dt_X6_write 3 (5, .getfield 18, 3) rfl) fl_Reader_18 rfl rfl (sk_19 hS) (sa_19_1 hS) (aw_alens (pc' := 9) (n := 400) (v := 400) (dt_X6_write 4 (8, .arraylength, 1) rfl) (by decide) (by decide) rfl (sk_25 hS) (sl_25 hS) (by decide) (aw_icmp_ge (pc' := 12) (tgt := 32) (dt_X6_write 5 (9, .if_icmp .ge 23, 3) rfl) (by decide) rfl ?_ ?_))))))
  · intro q1
    have h := h.1 q1
    refine aw_ret (dt_X6_write 18 (32, .return_, 1) rfl) rfl (aw_stk (st' := []) rfl (aw_aload_n (pc' := 54) (dt_X6_readOperand 25 (53, .aload_n 0, 1) rfl) rfl rfl (aw_inV (pc' := 57) (nc1 := 0) (ns1 := 0) (nc := nc) (ns := ns) (ls' := [some (.ref 19)]) (y2 := mX6_step) (As := []) (rest := []) (a := 19) (dt_X6_readOperand 26 (54, .invokevirtual 36, 3) rfl) ok_X6_step ln_Reader_36 im_X6_step se_X6_step pr_X6_step (Or.inl ⟨by decide, rfl⟩) rfl (Nat.le_of_ble_eq_true rfl) (Nat.le_of_ble_eq_true rfl) rfl rfl (sk_19 hS) (aw_aload_n (pc' := 1) (dt_X6_step 0 (0, .aload_n 0, 1) rfl) rfl rfl (aw_getI (pc' := 4) (dt_X6_step 1 (1, .getfield 45, 3) rfl) fl_Reader_45 rfl rfl (sk_19 hS) (aw_iconst (pc' := 5) (v := 1) (dt_X6_step 2 (4, .iconst 1, 1) rfl) (by decide) rfl (aw_iadd (pc' := 6) (dt_X6_step 3 (5, .iadd, 1) rfl) rfl (aw_aload_n (pc' := 7) (dt_X6_step 4 (6, .aload_n 0, 1) rfl) rfl rfl (aw_getAs (pc' := 10) (dt_X6_step 5 (7, .getfield 12, 3) rfl) fl_Reader_12 rfl rfl (sk_19 hS) (sa_19_0 hS) (aw_getI (pc' := 13) (dt_X6_step 6 (10, .getfield 69, 3) rfl) fl_Reader_69 rfl rfl (sk_20 hS) (aw_icmp_ge (pc' := 16) (tgt := 59) (dt_X6_step 7 (13, .if_icmp .ge 46, 3) rfl) (by decide) rfl ?_ ?_)))))))))))
    · intro q2
      have h := h.1 q2
      refine aw_ret (dt_X6_step 31 (59, .return_, 1) rfl) rfl (aw_stk (st' := []) rfl (aw_iconst (pc' := 58) (v := 1) (dt_X6_readOperand 27 (57, .iconst 1, 1) rfl) (by decide) rfl (aw_iret (dt_X6_readOperand 28 (58, .ireturn, 1) rfl) rfl rfl ?_)))
      exact h
    · intro q2
      have h := h.2 q2
      refine aw_aload_n (pc' := 17) (dt_X6_step 8 (16, .aload_n 0, 1) rfl) rfl rfl (aw_getI (pc' := 20) (dt_X6_step 9 (17, .getfield 45, 3) rfl) fl_Reader_45 rfl rfl (sk_19 hS) (aw_iconst (pc' := 21) (v := 1) (dt_X6_step 10 (20, .iconst 1, 1) rfl) (by decide) rfl (aw_iadd (pc' := 22) (dt_X6_step 11 (21, .iadd, 1) rfl) rfl (aw_aload_n (pc' := 23) (dt_X6_step 12 (22, .aload_n 0, 1) rfl) rfl rfl (aw_getAs (pc' := 26) (dt_X6_step 13 (23, .getfield 12, 3) rfl) fl_Reader_12 rfl rfl (sk_19 hS) (sa_19_0 hS) (aw_getAs (pc' := 29) (dt_X6_step 14 (26, .getfield 66, 3) rfl) fl_Reader_66 rfl rfl (sk_20 hS) (sa_20_2 hS) (aw_alens (pc' := 30) (n := 201) (v := 201) (dt_X6_step 15 (29, .arraylength, 1) rfl) (by decide) (by decide) rfl (sk_22 hS) (sl_22 hS) (by decide) (aw_icmp_ge (pc' := 33) (tgt := 59) (dt_X6_step 16 (30, .if_icmp .ge 29, 3) rfl) (by decide) rfl ?_ ?_))))))))
      · intro q3
        have h := h.1 q3
        refine aw_ret (dt_X6_step 31 (59, .return_, 1) rfl) rfl (aw_stk (st' := []) rfl (aw_iconst (pc' := 58) (v := 1) (dt_X6_readOperand 27 (57, .iconst 1, 1) rfl) (by decide) rfl (aw_iret (dt_X6_readOperand 28 (58, .ireturn, 1) rfl) rfl rfl ?_)))
        exact h
      · intro q3
        have h := h.2 q3
        obtain ⟨g4, h⟩ := h
        refine aw_aload_n (pc' := 34) (dt_X6_step 17 (33, .aload_n 0, 1) rfl) rfl rfl (aw_dup (pc' := 35) (dt_X6_step 18 (34, .dup, 1) rfl) rfl rfl (aw_getI (pc' := 38) (dt_X6_step 19 (35, .getfield 45, 3) rfl) fl_Reader_45 rfl rfl (sk_19 hS) (aw_iconst (pc' := 39) (v := 1) (dt_X6_step 20 (38, .iconst 1, 1) rfl) (by decide) rfl (aw_iadd (pc' := 40) (dt_X6_step 21 (39, .iadd, 1) rfl) rfl (aw_putI (pc' := 43) (dt_X6_step 22 (40, .putfield 45, 3) rfl) fl_Reader_45 rfl (by decide +kernel) rfl (sk_19 hS) (aw_aload_n (pc' := 44) (dt_X6_step 23 (43, .aload_n 0, 1) rfl) rfl rfl (aw_aload_n (pc' := 45) (dt_X6_step 24 (44, .aload_n 0, 1) rfl) rfl rfl (aw_getAs (pc' := 48) (dt_X6_step 25 (45, .getfield 12, 3) rfl) fl_Reader_12 rfl rfl (sk_19 hS.wI) (sa_19_0 hS.wI) (aw_getAs (pc' := 51) (dt_X6_step 26 (48, .getfield 66, 3) rfl) fl_Reader_66 rfl rfl (sk_20 hS.wI) (sa_20_2 hS.wI) (aw_aload_n (pc' := 52) (dt_X6_step 27 (51, .aload_n 0, 1) rfl) rfl rfl (aw_getI (pc' := 55) (dt_X6_step 28 (52, .getfield 45, 3) rfl) fl_Reader_45 rfl rfl (sk_19 hS.wI) (aw_iald (pc' := 56) (dt_X6_step 29 (55, .iaload, 1) rfl) rfl (sk_22 hS.wI) (vin_eq (sl_22 hS.wI) g4) (aw_putI (pc' := 59) (dt_X6_step 30 (56, .putfield 22, 3) rfl) fl_Reader_22 rfl (by decide +kernel) rfl (sk_19 hS.wI) (aw_ret (dt_X6_step 31 (59, .return_, 1) rfl) rfl (aw_stk (st' := []) rfl (aw_iconst (pc' := 58) (v := 1) (dt_X6_readOperand 27 (57, .iconst 1, 1) rfl) (by decide) rfl (aw_iret (dt_X6_readOperand 28 (58, .ireturn, 1) rfl) rfl rfl ?_)))))))))))))))))
        exact h
  · intro q1
    have h := h.2 q1
    obtain ⟨g5, h⟩ := h
    refine aw_aload_n (pc' := 13) (dt_X6_write 6 (12, .aload_n 0, 1) rfl) rfl rfl (aw_getAs (pc' := 16) (dt_X6_write 7 (13, .getfield 18, 3) rfl) fl_Reader_18 rfl rfl (sk_19 hS) (sa_19_1 hS) (aw_aload_n (pc' := 17) (dt_X6_write 8 (16, .aload_n 0, 1) rfl) rfl rfl (aw_getI (pc' := 20) (dt_X6_write 9 (17, .getfield 54, 3) rfl) fl_Reader_54 rfl rfl (sk_19 hS) (aw_iload_n (pc' := 21) (dt_X6_write 10 (20, .iload_n 1, 1) rfl) rfl rfl (aw_iast (pc' := 22) (dt_X6_write 11 (21, .iastore, 1) rfl) rfl (sk_25 hS) (by decide) (vin_eq (sl_25 hS) g5) (aw_aload_n (pc' := 23) (dt_X6_write 12 (22, .aload_n 0, 1) rfl) rfl rfl (aw_dup (pc' := 24) (dt_X6_write 13 (23, .dup, 1) rfl) rfl rfl (aw_getI (pc' := 27) (dt_X6_write 14 (24, .getfield 54, 3) rfl) fl_Reader_54 rfl rfl (sk_19 hS.wI) (aw_iconst (pc' := 28) (v := 1) (dt_X6_write 15 (27, .iconst 1, 1) rfl) (by decide) rfl (aw_iadd (pc' := 29) (dt_X6_write 16 (28, .iadd, 1) rfl) rfl (aw_putI (pc' := 32) (dt_X6_write 17 (29, .putfield 54, 3) rfl) fl_Reader_54 rfl (by decide +kernel) rfl (sk_19 hS.wI) (aw_ret (dt_X6_write 18 (32, .return_, 1) rfl) rfl (aw_stk (st' := []) rfl (aw_aload_n (pc' := 54) (dt_X6_readOperand 25 (53, .aload_n 0, 1) rfl) rfl rfl (aw_inV (pc' := 57) (nc1 := 0) (ns1 := 0) (nc := nc) (ns := ns) (ls' := [some (.ref 19)]) (y2 := mX6_step) (As := []) (rest := []) (a := 19) (dt_X6_readOperand 26 (54, .invokevirtual 36, 3) rfl) ok_X6_step ln_Reader_36 im_X6_step se_X6_step pr_X6_step (Or.inl ⟨by decide, rfl⟩) rfl (Nat.le_of_ble_eq_true rfl) (Nat.le_of_ble_eq_true rfl) rfl rfl (sk_19 hS.wI.wI) (aw_aload_n (pc' := 1) (dt_X6_step 0 (0, .aload_n 0, 1) rfl) rfl rfl (aw_getI (pc' := 4) (dt_X6_step 1 (1, .getfield 45, 3) rfl) fl_Reader_45 rfl rfl (sk_19 hS.wI.wI) (aw_iconst (pc' := 5) (v := 1) (dt_X6_step 2 (4, .iconst 1, 1) rfl) (by decide) rfl (aw_iadd (pc' := 6) (dt_X6_step 3 (5, .iadd, 1) rfl) rfl (aw_aload_n (pc' := 7) (dt_X6_step 4 (6, .aload_n 0, 1) rfl) rfl rfl (aw_getAs (pc' := 10) (dt_X6_step 5 (7, .getfield 12, 3) rfl) fl_Reader_12 rfl rfl (sk_19 hS.wI.wI) (sa_19_0 hS.wI.wI) (aw_getI (pc' := 13) (dt_X6_step 6 (10, .getfield 69, 3) rfl) fl_Reader_69 rfl rfl (sk_20 hS.wI.wI) (aw_icmp_ge (pc' := 16) (tgt := 59) (dt_X6_step 7 (13, .if_icmp .ge 46, 3) rfl) (by decide) rfl ?_ ?_)))))))))))))))))))))))
    · intro q6
      have h := h.1 q6
      refine aw_ret (dt_X6_step 31 (59, .return_, 1) rfl) rfl (aw_stk (st' := []) rfl (aw_iconst (pc' := 58) (v := 1) (dt_X6_readOperand 27 (57, .iconst 1, 1) rfl) (by decide) rfl (aw_iret (dt_X6_readOperand 28 (58, .ireturn, 1) rfl) rfl rfl ?_)))
      exact h
    · intro q6
      have h := h.2 q6
      refine aw_aload_n (pc' := 17) (dt_X6_step 8 (16, .aload_n 0, 1) rfl) rfl rfl (aw_getI (pc' := 20) (dt_X6_step 9 (17, .getfield 45, 3) rfl) fl_Reader_45 rfl rfl (sk_19 hS.wI.wI) (aw_iconst (pc' := 21) (v := 1) (dt_X6_step 10 (20, .iconst 1, 1) rfl) (by decide) rfl (aw_iadd (pc' := 22) (dt_X6_step 11 (21, .iadd, 1) rfl) rfl (aw_aload_n (pc' := 23) (dt_X6_step 12 (22, .aload_n 0, 1) rfl) rfl rfl (aw_getAs (pc' := 26) (dt_X6_step 13 (23, .getfield 12, 3) rfl) fl_Reader_12 rfl rfl (sk_19 hS.wI.wI) (sa_19_0 hS.wI.wI) (aw_getAs (pc' := 29) (dt_X6_step 14 (26, .getfield 66, 3) rfl) fl_Reader_66 rfl rfl (sk_20 hS.wI.wI) (sa_20_2 hS.wI.wI) (aw_alens (pc' := 30) (n := 201) (v := 201) (dt_X6_step 15 (29, .arraylength, 1) rfl) (by decide) (by decide) rfl (sk_22 hS.wI.wI) (sl_22 hS.wI.wI) (by decide) (aw_icmp_ge (pc' := 33) (tgt := 59) (dt_X6_step 16 (30, .if_icmp .ge 29, 3) rfl) (by decide) rfl ?_ ?_))))))))
      · intro q7
        have h := h.1 q7
        refine aw_ret (dt_X6_step 31 (59, .return_, 1) rfl) rfl (aw_stk (st' := []) rfl (aw_iconst (pc' := 58) (v := 1) (dt_X6_readOperand 27 (57, .iconst 1, 1) rfl) (by decide) rfl (aw_iret (dt_X6_readOperand 28 (58, .ireturn, 1) rfl) rfl rfl ?_)))
        exact h
      · intro q7
        have h := h.2 q7
        obtain ⟨g8, h⟩ := h
        refine aw_aload_n (pc' := 34) (dt_X6_step 17 (33, .aload_n 0, 1) rfl) rfl rfl (aw_dup (pc' := 35) (dt_X6_step 18 (34, .dup, 1) rfl) rfl rfl (aw_getI (pc' := 38) (dt_X6_step 19 (35, .getfield 45, 3) rfl) fl_Reader_45 rfl rfl (sk_19 hS.wI.wI) (aw_iconst (pc' := 39) (v := 1) (dt_X6_step 20 (38, .iconst 1, 1) rfl) (by decide) rfl (aw_iadd (pc' := 40) (dt_X6_step 21 (39, .iadd, 1) rfl) rfl (aw_putI (pc' := 43) (dt_X6_step 22 (40, .putfield 45, 3) rfl) fl_Reader_45 rfl (by decide +kernel) rfl (sk_19 hS.wI.wI) (aw_aload_n (pc' := 44) (dt_X6_step 23 (43, .aload_n 0, 1) rfl) rfl rfl (aw_aload_n (pc' := 45) (dt_X6_step 24 (44, .aload_n 0, 1) rfl) rfl rfl (aw_getAs (pc' := 48) (dt_X6_step 25 (45, .getfield 12, 3) rfl) fl_Reader_12 rfl rfl (sk_19 hS.wI.wI.wI) (sa_19_0 hS.wI.wI.wI) (aw_getAs (pc' := 51) (dt_X6_step 26 (48, .getfield 66, 3) rfl) fl_Reader_66 rfl rfl (sk_20 hS.wI.wI.wI) (sa_20_2 hS.wI.wI.wI) (aw_aload_n (pc' := 52) (dt_X6_step 27 (51, .aload_n 0, 1) rfl) rfl rfl (aw_getI (pc' := 55) (dt_X6_step 28 (52, .getfield 45, 3) rfl) fl_Reader_45 rfl rfl (sk_19 hS.wI.wI.wI) (aw_iald (pc' := 56) (dt_X6_step 29 (55, .iaload, 1) rfl) rfl (sk_22 hS.wI.wI.wI) (vin_eq (sl_22 hS.wI.wI.wI) g8) (aw_putI (pc' := 59) (dt_X6_step 30 (56, .putfield 22, 3) rfl) fl_Reader_22 rfl (by decide +kernel) rfl (sk_19 hS.wI.wI.wI) ?_)))))))))))))
        refine aw_mem (fun μ9 eμ10 => ?_)
        have h := h μ9 eμ10
        have hS11 : Stat μ9 := by rw [eμ10]; exact hS.wI.wI.wI.wI
        refine aw_ret (dt_X6_step 31 (59, .return_, 1) rfl) rfl (aw_stk (st' := []) rfl (aw_iconst (pc' := 58) (v := 1) (dt_X6_readOperand 27 (57, .iconst 1, 1) rfl) (by decide) rfl (aw_iret (dt_X6_readOperand 28 (58, .ireturn, 1) rfl) rfl rfl ?_)))
        exact h

theorem t_X8_append {E : ZE} {l : Launch} {d nc ns : Nat} {x1 : Int32} {μ : ZM} {K : Option Value → ZM → Prop} (hS : Stat μ) (h :
  AW E l d nc ns mX8_append 3 [some (.ref 20), some (.int x1), some (.int 24)] [] μ K) : AW E l d nc ns mX8_append 0 [some (.ref 20), some (.int x1), none] [] μ K := by
  refine aw_bipush (pc' := 2) (v := 24) (dt_X8_append 0 (0, .bipush 24, 2) rfl) (by decide) rfl (aw_istore_n (pc' := 3) (ls' := [some (.ref 20), some (.int x1), some (.int 24)]) (dt_X8_append 1 (2, .istore_n 2, 1) rfl) (by decide) rfl rfl ?_)
  exact h

theorem t_X8_append_3 {E : ZE} {l : Launch} {d nc ns : Nat} {x1 : Int32} {x2 : Int32} {μ : ZM} {K : Option Value → ZM → Prop} (hS : Stat μ) (h :
  (x2 < 0 →
    K none μ) ∧
  (¬ x2 < 0 →
    (200 ≤ (zI μ 20 1) →
      K none μ) ∧
    (¬ 200 ≤ (zI μ 20 1) →
      (vp_in (zI μ 20 1) 200) ∧
      AW E l d nc ns mX8_append 3 [some (.ref 20), some (.int x1), some (.int (x2 + (-8)))] [] (sI (sI μ 21 (zI μ 20 1).toNatClampNeg (((x1).toUInt32 >>> ((x2).toUInt32 &&& Int32.toUInt32 31)).toInt32 &&& 255)) 20 1 ((zI (sI μ 21 (zI μ 20 1).toNatClampNeg (((x1).toUInt32 >>> ((x2).toUInt32 &&& Int32.toUInt32 31)).toInt32 &&& 255)) 20 1) + 1)) K))) : AW E l d nc ns mX8_append 3 [some (.ref 20), some (.int x1), some (.int x2)] [] μ K := by
  refine aw_iload_n (pc' := 4) (dt_X8_append 2 (3, .iload_n 2, 1) rfl) rfl rfl (aw_if_lt (pc' := 7) (tgt := 51) (dt_X8_append 3 (4, .ifCond .lt 47, 3) rfl) (by decide) rfl ?_ ?_)
  · intro q1
    have h := h.1 q1
    refine aw_ret (dt_X8_append 28 (51, .return_, 1) rfl) rfl ?_
    exact h
  · intro q1
    have h := h.2 q1
    refine aw_aload_n (pc' := 8) (dt_X8_append 4 (7, .aload_n 0, 1) rfl) rfl rfl (aw_getI (pc' := 11) (dt_X8_append 5 (8, .getfield 24, 3) rfl) fl_Tape_24 rfl rfl (sk_20 hS) (aw_aload_n (pc' := 12) (dt_X8_append 6 (11, .aload_n 0, 1) rfl) rfl rfl (aw_getAs (pc' := 15) (dt_X8_append 7 (12, .getfield 9, 3) rfl) fl_Tape_9 rfl rfl (sk_20 hS) (sa_20_0 hS) (aw_alens (pc' := 16) (n := 200) (v := 200) (dt_X8_append 8 (15, .arraylength, 1) rfl) (by decide) (by decide) rfl (sk_21 hS) (sl_21 hS) (by decide) (aw_icmp_ge (pc' := 19) (tgt := 51) (dt_X8_append 9 (16, .if_icmp .ge 35, 3) rfl) (by decide) rfl ?_ ?_)))))
    · intro q2
      have h := h.1 q2
      refine aw_ret (dt_X8_append 28 (51, .return_, 1) rfl) rfl ?_
      exact h
    · intro q2
      have h := h.2 q2
      obtain ⟨g3, h⟩ := h
      refine aw_aload_n (pc' := 20) (dt_X8_append 10 (19, .aload_n 0, 1) rfl) rfl rfl (aw_getAs (pc' := 23) (dt_X8_append 11 (20, .getfield 9, 3) rfl) fl_Tape_9 rfl rfl (sk_20 hS) (sa_20_0 hS) (aw_aload_n (pc' := 24) (dt_X8_append 12 (23, .aload_n 0, 1) rfl) rfl rfl (aw_getI (pc' := 27) (dt_X8_append 13 (24, .getfield 24, 3) rfl) fl_Tape_24 rfl rfl (sk_20 hS) (aw_iload_n (pc' := 28) (dt_X8_append 14 (27, .iload_n 1, 1) rfl) rfl rfl (aw_iload_n (pc' := 29) (dt_X8_append 15 (28, .iload_n 2, 1) rfl) rfl rfl (aw_iushr (pc' := 30) (dt_X8_append 16 (29, .iushr, 1) rfl) rfl (aw_sipush (pc' := 33) (v := 255) (dt_X8_append 17 (30, .sipush 255, 3) rfl) (by decide) rfl (aw_iand (pc' := 34) (dt_X8_append 18 (33, .iand, 1) rfl) rfl (aw_iast (pc' := 35) (dt_X8_append 19 (34, .iastore, 1) rfl) rfl (sk_21 hS) (by decide) (vin_eq (sl_21 hS) g3) (aw_aload_n (pc' := 36) (dt_X8_append 20 (35, .aload_n 0, 1) rfl) rfl rfl (aw_dup (pc' := 37) (dt_X8_append 21 (36, .dup, 1) rfl) rfl rfl (aw_getI (pc' := 40) (dt_X8_append 22 (37, .getfield 24, 3) rfl) fl_Tape_24 rfl rfl (sk_20 hS.wI) (aw_iconst (pc' := 41) (v := 1) (dt_X8_append 23 (40, .iconst 1, 1) rfl) (by decide) rfl (aw_iadd (pc' := 42) (dt_X8_append 24 (41, .iadd, 1) rfl) rfl (aw_putI (pc' := 45) (dt_X8_append 25 (42, .putfield 24, 3) rfl) fl_Tape_24 rfl (by decide +kernel) rfl (sk_20 hS.wI) (aw_iinc (pc' := 48) (v := (-8)) (ls' := [some (.ref 20), some (.int x1), some (.int (x2 + (-8)))]) (dt_X8_append 26 (45, .iinc 2 (-8), 3) rfl) rfl (by decide) (by decide) rfl rfl (aw_goto (tgt := 3) (dt_X8_append 27 (48, .goto (-45), 3) rfl) (by decide) ?_)))))))))))))))))
      exact h

theorem t_X8_split {E : ZE} {l : Launch} {d nc ns : Nat} {a1 : Nat} {μ : ZM} {K : Option Value → ZM → Prop} (hS : Stat μ) (h :
  AW E l (d + 7) nc ns mX8_split 9 [some (.ref 20), some (.ref a1), some (.int 0), some (.int 0), none, none] [] (sI μ 20 5 0) K) : AW E l (d + 7) nc ns mX8_split 0 [some (.ref 20), some (.ref a1), none, none, none, none] [] μ K := by
  refine aw_aload_n (pc' := 1) (dt_X8_split 0 (0, .aload_n 0, 1) rfl) rfl rfl (aw_iconst (pc' := 2) (v := 0) (dt_X8_split 1 (1, .iconst 0, 1) rfl) (by decide) rfl (aw_putI (pc' := 5) (dt_X8_split 2 (2, .putfield 28, 3) rfl) fl_Tape_28 rfl (by decide +kernel) rfl (sk_20 hS) (aw_iconst (pc' := 6) (v := 0) (dt_X8_split 3 (5, .iconst 0, 1) rfl) (by decide) rfl (aw_istore_n (pc' := 7) (ls' := [some (.ref 20), some (.ref a1), some (.int 0), none, none, none]) (dt_X8_split 4 (6, .istore_n 2, 1) rfl) (by decide) rfl rfl (aw_iconst (pc' := 8) (v := 0) (dt_X8_split 5 (7, .iconst 0, 1) rfl) (by decide) rfl (aw_istore_n (pc' := 9) (ls' := [some (.ref 20), some (.ref a1), some (.int 0), some (.int 0), none, none]) (dt_X8_split 6 (8, .istore_n 3, 1) rfl) (by decide) rfl rfl ?_))))))
  exact h

theorem t_X8_split_9 {E : ZE} {l : Launch} {d nc ns : Nat} {a1 : Nat} {x2 : Int32} {x3 : Int32} {μ : ZM} {K : Option Value → ZM → Prop} (hS : Stat μ) (h :
  (200 ≤ x3 →
    AW E l (d + 7) nc ns mX8_split 127 [some (.ref 20), none, none, none, none, none] [] μ K) ∧
  (¬ 200 ≤ x3 →
    ((zI μ 20 1) ≤ x2 →
      AW E l (d + 7) nc ns mX8_split 127 [some (.ref 20), none, none, none, none, none] [] μ K) ∧
    (¬ (zI μ 20 1) ≤ x2 →
      (x2 < 0 →
        AW E l (d + 6) 0 0 mJ0_indexOf_0f7a4 0 (zargs 2 [.ref 3, .int (((-1 : Int32)).toUInt32 % 65536).toInt32]) [] μ (fun v μ4 => ∃ r6 : Int32, v = some (.int r6) ∧ Stat μ4 ∧ 
          (r6 < 0 →
            AW E l (d + 7) nc ns mX8_split 113 [some (.ref 20), some (.ref a1), some (.int x2), some (.int x3), none, some (.int (x2 + 1))] [.int 22, .ref 20] μ4 K) ∧
          (¬ r6 < 0 →
            AW E l (d + 7) nc ns mX8_split 113 [some (.ref 20), some (.ref a1), some (.int x2), some (.int x3), none, some (.int (x2 + 1))] [.int (-1), .ref 20] μ4 K))) ∧
      (¬ x2 < 0 →
        ((zI μ 20 1) ≤ x2 →
          AW E l (d + 6) 0 0 mJ0_indexOf_0f7a4 0 (zargs 2 [.ref 3, .int (((-1 : Int32)).toUInt32 % 65536).toInt32]) [] μ (fun v μ9 => ∃ r11 : Int32, v = some (.int r11) ∧ Stat μ9 ∧ 
            (r11 < 0 →
              AW E l (d + 7) nc ns mX8_split 113 [some (.ref 20), some (.ref a1), some (.int x2), some (.int x3), none, some (.int (x2 + 1))] [.int 22, .ref 20] μ9 K) ∧
            (¬ r11 < 0 →
              AW E l (d + 7) nc ns mX8_split 113 [some (.ref 20), some (.ref a1), some (.int x2), some (.int x3), none, some (.int (x2 + 1))] [.int (-1), .ref 20] μ9 K))) ∧
        (¬ (zI μ 20 1) ≤ x2 →
          (200 ≤ x2 →
            AW E l (d + 6) 0 0 mJ0_indexOf_0f7a4 0 (zargs 2 [.ref 3, .int (((-1 : Int32)).toUInt32 % 65536).toInt32]) [] μ (fun v μ14 => ∃ r16 : Int32, v = some (.int r16) ∧ Stat μ14 ∧ 
              (r16 < 0 →
                AW E l (d + 7) nc ns mX8_split 113 [some (.ref 20), some (.ref a1), some (.int x2), some (.int x3), none, some (.int (x2 + 1))] [.int 22, .ref 20] μ14 K) ∧
              (¬ r16 < 0 →
                AW E l (d + 7) nc ns mX8_split 113 [some (.ref 20), some (.ref a1), some (.int x2), some (.int x3), none, some (.int (x2 + 1))] [.int (-1), .ref 20] μ14 K))) ∧
          (¬ 200 ≤ x2 →
            (vp_in x2 200) ∧
            ((zI μ 21 x2.toNatClampNeg) < 97 →
              ((zI μ 21 x2.toNatClampNeg) < 48 →
                ((zI μ 21 x2.toNatClampNeg) = 32 →
                  AW E l (d + 7) nc ns mX8_split 118 [some (.ref 20), some (.ref a1), none, some (.int x3), none, some (.int (x2 + 1))] [] μ K) ∧
                (¬ (zI μ 21 x2.toNatClampNeg) = 32 →
                  AW E l (d + 6) 0 0 mJ0_indexOf_0f7a4 0 (zargs 2 [.ref 3, .int (((zI μ 21 x2.toNatClampNeg)).toUInt32 % 65536).toInt32]) [] μ (fun v μ22 => ∃ r24 : Int32, v = some (.int r24) ∧ Stat μ22 ∧ 
                    (r24 < 0 →
                      AW E l (d + 7) nc ns mX8_split 113 [some (.ref 20), some (.ref a1), some (.int x2), some (.int x3), none, some (.int (x2 + 1))] [.int 22, .ref 20] μ22 K) ∧
                    (¬ r24 < 0 →
                      AW E l (d + 7) nc ns mX8_split 113 [some (.ref 20), some (.ref a1), some (.int x2), some (.int x3), none, some (.int (x2 + 1))] [.int (zI μ 21 x2.toNatClampNeg), .ref 20] μ22 K)))) ∧
              (¬ (zI μ 21 x2.toNatClampNeg) < 48 →
                (57 < (zI μ 21 x2.toNatClampNeg) →
                  ((zI μ 21 x2.toNatClampNeg) = 32 →
                    AW E l (d + 7) nc ns mX8_split 118 [some (.ref 20), some (.ref a1), none, some (.int x3), none, some (.int (x2 + 1))] [] μ K) ∧
                  (¬ (zI μ 21 x2.toNatClampNeg) = 32 →
                    AW E l (d + 6) 0 0 mJ0_indexOf_0f7a4 0 (zargs 2 [.ref 3, .int (((zI μ 21 x2.toNatClampNeg)).toUInt32 % 65536).toInt32]) [] μ (fun v μ28 => ∃ r30 : Int32, v = some (.int r30) ∧ Stat μ28 ∧ 
                      (r30 < 0 →
                        AW E l (d + 7) nc ns mX8_split 113 [some (.ref 20), some (.ref a1), some (.int x2), some (.int x3), none, some (.int (x2 + 1))] [.int 22, .ref 20] μ28 K) ∧
                      (¬ r30 < 0 →
                        AW E l (d + 7) nc ns mX8_split 113 [some (.ref 20), some (.ref a1), some (.int x2), some (.int x3), none, some (.int (x2 + 1))] [.int (zI μ 21 x2.toNatClampNeg), .ref 20] μ28 K)))) ∧
                (¬ 57 < (zI μ 21 x2.toNatClampNeg) →
                  AW E l (d + 6) 0 0 mX8_endOfNumber 0 (zargs 3 [.ref 20, .int x2]) [] μ (fun v μ32 => ∃ r34 : Int32, v = some (.int r34) ∧ Stat μ32 ∧ 
                    AW E l (d + 6) 0 0 mX8_addNumber 0 (zargs 5 [.ref 20, .int x2, .int r34]) [] μ32 (fun v μ35 => v = none ∧ Stat μ35 ∧ 
                      AW E l (d + 7) nc ns mX8_split 118 [some (.ref 20), some (.ref a1), none, some (.int x3), none, some (.int r34)] [] μ35 K))))) ∧
            (¬ (zI μ 21 x2.toNatClampNeg) < 97 →
              (122 < (zI μ 21 x2.toNatClampNeg) →
                ((zI μ 21 x2.toNatClampNeg) < 48 →
                  ((zI μ 21 x2.toNatClampNeg) = 32 →
                    AW E l (d + 7) nc ns mX8_split 118 [some (.ref 20), some (.ref a1), none, some (.int x3), none, some (.int (x2 + 1))] [] μ K) ∧
                  (¬ (zI μ 21 x2.toNatClampNeg) = 32 →
                    AW E l (d + 6) 0 0 mJ0_indexOf_0f7a4 0 (zargs 2 [.ref 3, .int (((zI μ 21 x2.toNatClampNeg)).toUInt32 % 65536).toInt32]) [] μ (fun v μ40 => ∃ r42 : Int32, v = some (.int r42) ∧ Stat μ40 ∧ 
                      (r42 < 0 →
                        AW E l (d + 7) nc ns mX8_split 113 [some (.ref 20), some (.ref a1), some (.int x2), some (.int x3), none, some (.int (x2 + 1))] [.int 22, .ref 20] μ40 K) ∧
                      (¬ r42 < 0 →
                        AW E l (d + 7) nc ns mX8_split 113 [some (.ref 20), some (.ref a1), some (.int x2), some (.int x3), none, some (.int (x2 + 1))] [.int (zI μ 21 x2.toNatClampNeg), .ref 20] μ40 K)))) ∧
                (¬ (zI μ 21 x2.toNatClampNeg) < 48 →
                  (57 < (zI μ 21 x2.toNatClampNeg) →
                    ((zI μ 21 x2.toNatClampNeg) = 32 →
                      AW E l (d + 7) nc ns mX8_split 118 [some (.ref 20), some (.ref a1), none, some (.int x3), none, some (.int (x2 + 1))] [] μ K) ∧
                    (¬ (zI μ 21 x2.toNatClampNeg) = 32 →
                      AW E l (d + 6) 0 0 mJ0_indexOf_0f7a4 0 (zargs 2 [.ref 3, .int (((zI μ 21 x2.toNatClampNeg)).toUInt32 % 65536).toInt32]) [] μ (fun v μ46 => ∃ r48 : Int32, v = some (.int r48) ∧ Stat μ46 ∧ 
                        (r48 < 0 →
                          AW E l (d + 7) nc ns mX8_split 113 [some (.ref 20), some (.ref a1), some (.int x2), some (.int x3), none, some (.int (x2 + 1))] [.int 22, .ref 20] μ46 K) ∧
                        (¬ r48 < 0 →
                          AW E l (d + 7) nc ns mX8_split 113 [some (.ref 20), some (.ref a1), some (.int x2), some (.int x3), none, some (.int (x2 + 1))] [.int (zI μ 21 x2.toNatClampNeg), .ref 20] μ46 K)))) ∧
                  (¬ 57 < (zI μ 21 x2.toNatClampNeg) →
                    AW E l (d + 6) 0 0 mX8_endOfNumber 0 (zargs 3 [.ref 20, .int x2]) [] μ (fun v μ50 => ∃ r52 : Int32, v = some (.int r52) ∧ Stat μ50 ∧ 
                      AW E l (d + 6) 0 0 mX8_addNumber 0 (zargs 5 [.ref 20, .int x2, .int r52]) [] μ50 (fun v μ53 => v = none ∧ Stat μ53 ∧ 
                        AW E l (d + 7) nc ns mX8_split 118 [some (.ref 20), some (.ref a1), none, some (.int x3), none, some (.int r52)] [] μ53 K))))) ∧
              (¬ 122 < (zI μ 21 x2.toNatClampNeg) →
                AW E l (d + 6) 0 0 mX8_endOfWord 0 (zargs 3 [.ref 20, .int x2]) [] μ (fun v μ55 => ∃ r57 : Int32, v = some (.int r57) ∧ Stat μ55 ∧ 
                  AW E l (d + 6) 0 0 mX8_addWord 0 (zargs 6 [.ref 20, .int x2, .int r57, .ref a1]) [] μ55 (fun v μ58 => v = none ∧ Stat μ58 ∧ 
                    AW E l (d + 7) nc ns mX8_split 118 [some (.ref 20), some (.ref a1), none, some (.int x3), none, some (.int r57)] [] μ58 K)))))))))) : AW E l (d + 7) nc ns mX8_split 9 [some (.ref 20), some (.ref a1), some (.int x2), some (.int x3), none, none] [] μ K := by
  refine aw_iload_n (pc' := 10) (dt_X8_split 7 (9, .iload_n 3, 1) rfl) rfl rfl (aw_sipush (pc' := 13) (v := 200) (dt_X8_split 8 (10, .sipush 200, 3) rfl) (by decide) rfl (aw_icmp_ge (pc' := 16) (tgt := 127) (dt_X8_split 9 (13, .if_icmp .ge 114, 3) rfl) (by decide) rfl ?_ ?_))
  · intro q1
    have h := h.1 q1
    refine aw_drop (ls' := [some (.ref 20), none, none, none, none, none]) ⟨rfl, trivial⟩ ?_
    exact h
  · intro q1
    have h := h.2 q1
    refine aw_iload_n (pc' := 17) (dt_X8_split 10 (16, .iload_n 2, 1) rfl) rfl rfl (aw_aload_n (pc' := 18) (dt_X8_split 11 (17, .aload_n 0, 1) rfl) rfl rfl (aw_getI (pc' := 21) (dt_X8_split 12 (18, .getfield 24, 3) rfl) fl_Tape_24 rfl rfl (sk_20 hS) (aw_icmp_ge (pc' := 24) (tgt := 127) (dt_X8_split 13 (21, .if_icmp .ge 106, 3) rfl) (by decide) rfl ?_ ?_)))
    · intro q2
      have h := h.1 q2
      refine aw_drop (ls' := [some (.ref 20), none, none, none, none, none]) ⟨rfl, trivial⟩ ?_
      exact h
    · intro q2
      have h := h.2 q2
      refine aw_aload_n (pc' := 25) (dt_X8_split 14 (24, .aload_n 0, 1) rfl) rfl rfl (aw_iload_n (pc' := 26) (dt_X8_split 15 (25, .iload_n 2, 1) rfl) rfl rfl (aw_inV (pc' := 29) (nc1 := 0) (ns1 := 0) (nc := nc) (ns := ns) (ls' := [some (.ref 20), some (.int x2)]) (y2 := mX8_byteAt) (As := [.int x2]) (rest := []) (a := 20) (dt_X8_split 16 (26, .invokevirtual 31, 3) rfl) ok_X8_byteAt ln_Tape_31 im_X8_byteAt se_X8_byteAt pr_X8_byteAt (Or.inl ⟨by decide, rfl⟩) rfl (Nat.le_of_ble_eq_true rfl) (Nat.le_of_ble_eq_true rfl) rfl rfl (sk_20 hS) (aw_iload_n (pc' := 1) (dt_X8_byteAt 0 (0, .iload_n 1, 1) rfl) rfl rfl (aw_if_lt (pc' := 4) (tgt := 30) (dt_X8_byteAt 1 (1, .ifCond .lt 29, 3) rfl) (by decide) rfl ?_ ?_))))
      · intro q3
        have h := h.1 q3
        refine aw_iconst (pc' := 31) (v := (-1)) (dt_X8_byteAt 16 (30, .iconst (-1), 1) rfl) (by decide) rfl (aw_iret (dt_X8_byteAt 17 (31, .ireturn, 1) rfl) rfl rfl (aw_stk (st' := [.int (-1)]) rfl (aw_istore (pc' := 31) (ls' := [some (.ref 20), some (.ref a1), some (.int x2), some (.int x3), some (.int (-1)), none]) (dt_X8_split 17 (29, .istore 4, 2) rfl) (by decide) rfl rfl (aw_iload_n (pc' := 32) (dt_X8_split 18 (31, .iload_n 2, 1) rfl) rfl rfl (aw_iconst (pc' := 33) (v := 1) (dt_X8_split 19 (32, .iconst 1, 1) rfl) (by decide) rfl (aw_iadd (pc' := 34) (dt_X8_split 20 (33, .iadd, 1) rfl) rfl (aw_istore (pc' := 36) (ls' := [some (.ref 20), some (.ref a1), some (.int x2), some (.int x3), some (.int (-1)), some (.int (x2 + 1))]) (dt_X8_split 21 (34, .istore 5, 2) rfl) (by decide) rfl rfl (aw_iload (pc' := 38) (dt_X8_split 22 (36, .iload 4, 2) rfl) rfl rfl (aw_inS (pc' := 41) (nc1 := 0) (ns1 := 0) (nc := nc) (ns := ns) (ls' := [some (.int (-1))]) (y2 := mX8_isLetter) (As := [.int (-1)]) (rest := []) (dt_X8_split 23 (38, .invokestatic 35, 3) rfl) ok_X8_isLetter ln_Tape_35 sm_X8_isLetter pr_X8_isLetter rfl (Nat.le_of_ble_eq_true rfl) (Nat.le_of_ble_eq_true rfl) rfl rfl (aw_iload_n (pc' := 1) (dt_X8_isLetter 0 (0, .iload_n 0, 1) rfl) rfl rfl (aw_bipush (pc' := 3) (v := 97) (dt_X8_isLetter 1 (1, .bipush 97, 2) rfl) (by decide) rfl (aw_icmp_lt_T (pc' := 6) (tgt := 16) (dt_X8_isLetter 2 (3, .if_icmp .lt 13, 3) rfl) (by decide) rfl (by decide) (aw_iconst (pc' := 17) (v := 0) (dt_X8_isLetter 8 (16, .iconst 0, 1) rfl) (by decide) rfl (aw_iret (dt_X8_isLetter 9 (17, .ireturn, 1) rfl) rfl rfl (aw_stk (st' := [.int 0]) rfl (aw_if_eq_T (pc' := 44) (tgt := 62) (dt_X8_split 24 (41, .ifCond .eq 21, 3) rfl) (by decide) rfl (by decide) (aw_iload (pc' := 64) (dt_X8_split 35 (62, .iload 4, 2) rfl) rfl rfl (aw_inS (pc' := 67) (nc1 := 0) (ns1 := 0) (nc := nc) (ns := ns) (ls' := [some (.int (-1))]) (y2 := mX8_isDigit) (As := [.int (-1)]) (rest := []) (dt_X8_split 36 (64, .invokestatic 46, 3) rfl) ok_X8_isDigit ln_Tape_46 sm_X8_isDigit pr_X8_isDigit rfl (Nat.le_of_ble_eq_true rfl) (Nat.le_of_ble_eq_true rfl) rfl rfl (aw_iload_n (pc' := 1) (dt_X8_isDigit 0 (0, .iload_n 0, 1) rfl) rfl rfl (aw_bipush (pc' := 3) (v := 48) (dt_X8_isDigit 1 (1, .bipush 48, 2) rfl) (by decide) rfl (aw_icmp_lt_T (pc' := 6) (tgt := 16) (dt_X8_isDigit 2 (3, .if_icmp .lt 13, 3) rfl) (by decide) rfl (by decide) (aw_iconst (pc' := 17) (v := 0) (dt_X8_isDigit 8 (16, .iconst 0, 1) rfl) (by decide) rfl (aw_iret (dt_X8_isDigit 9 (17, .ireturn, 1) rfl) rfl rfl (aw_stk (st' := [.int 0]) rfl (aw_if_eq_T (pc' := 70) (tgt := 87) (dt_X8_split 37 (67, .ifCond .eq 20, 3) rfl) (by decide) rfl (by decide) (aw_iload (pc' := 89) (dt_X8_split 47 (87, .iload 4, 2) rfl) rfl rfl (aw_bipush (pc' := 91) (v := 32) (dt_X8_split 48 (89, .bipush 32, 2) rfl) (by decide) rfl (aw_icmp_eq_F (pc' := 94) (tgt := 118) (dt_X8_split 49 (91, .if_icmp .eq 27, 3) rfl) (by decide) rfl (by decide) (aw_aload_n (pc' := 95) (dt_X8_split 50 (94, .aload_n 0, 1) rfl) rfl rfl (aw_ldcS (pc' := 97) (i := 2) (dt_X8_split 51 (95, .ldc 56, 2) rfl) rfl rfl (aw_iload (pc' := 99) (dt_X8_split 52 (97, .iload 4, 2) rfl) rfl rfl (aw_i2c (pc' := 100) (dt_X8_split 53 (99, .i2c, 1) rfl) rfl (aw_callV0 (pc' := 103) (nc := nc) (ns := ns) (y2 := mJ0_indexOf_0f7a4) (As := [.int (((-1 : Int32)).toUInt32 % 65536).toInt32]) (rest := [.ref 20]) (a := 3) (dt_X8_split 54 (100, .invokevirtual 58, 3) rfl) ok_J0_indexOf_0f7a4 ln_Tape_58 im_J0_indexOf_0f7a4 se_J0_indexOf_0f7a4 pr_J0_indexOf_0f7a4 (Or.inr ⟨rfl, rfl⟩) rfl (Nat.le_of_ble_eq_true rfl) (Nat.le_of_ble_eq_true rfl) rfl (sk_3 hS) h ?_)))))))))))))))))))))))))))))))))
        rintro v μ4 ⟨r6, rfl, hS5, h⟩
        refine aw_stk (st' := [.int r6, .ref 20]) rfl ?_
        refine aw_if_lt (pc' := 106) (tgt := 111) (dt_X8_split 55 (103, .ifCond .lt 8, 3) rfl) (by decide) rfl ?_ ?_
        · intro q7
          have h := h.1 q7
          refine aw_bipush (pc' := 113) (v := 22) (dt_X8_split 58 (111, .bipush 22, 2) rfl) (by decide) rfl (aw_drop (ls' := [some (.ref 20), some (.ref a1), some (.int x2), some (.int x3), none, some (.int (x2 + 1))]) ⟨rfl, rfl, rfl, rfl, rfl, trivial⟩ ?_)
          exact h
        · intro q7
          have h := h.2 q7
          refine aw_iload (pc' := 108) (dt_X8_split 56 (106, .iload 4, 2) rfl) rfl rfl (aw_goto (tgt := 113) (dt_X8_split 57 (108, .goto 5, 3) rfl) (by decide) (aw_drop (ls' := [some (.ref 20), some (.ref a1), some (.int x2), some (.int x3), none, some (.int (x2 + 1))]) ⟨rfl, rfl, rfl, rfl, rfl, trivial⟩ ?_))
          exact h
      · intro q3
        have h := h.2 q3
        refine aw_iload_n (pc' := 5) (dt_X8_byteAt 2 (4, .iload_n 1, 1) rfl) rfl rfl (aw_aload_n (pc' := 6) (dt_X8_byteAt 3 (5, .aload_n 0, 1) rfl) rfl rfl (aw_getI (pc' := 9) (dt_X8_byteAt 4 (6, .getfield 24, 3) rfl) fl_Tape_24 rfl rfl (sk_20 hS) (aw_icmp_ge (pc' := 12) (tgt := 30) (dt_X8_byteAt 5 (9, .if_icmp .ge 21, 3) rfl) (by decide) rfl ?_ ?_)))
        · intro q8
          have h := h.1 q8
          refine aw_iconst (pc' := 31) (v := (-1)) (dt_X8_byteAt 16 (30, .iconst (-1), 1) rfl) (by decide) rfl (aw_iret (dt_X8_byteAt 17 (31, .ireturn, 1) rfl) rfl rfl (aw_stk (st' := [.int (-1)]) rfl (aw_istore (pc' := 31) (ls' := [some (.ref 20), some (.ref a1), some (.int x2), some (.int x3), some (.int (-1)), none]) (dt_X8_split 17 (29, .istore 4, 2) rfl) (by decide) rfl rfl (aw_iload_n (pc' := 32) (dt_X8_split 18 (31, .iload_n 2, 1) rfl) rfl rfl (aw_iconst (pc' := 33) (v := 1) (dt_X8_split 19 (32, .iconst 1, 1) rfl) (by decide) rfl (aw_iadd (pc' := 34) (dt_X8_split 20 (33, .iadd, 1) rfl) rfl (aw_istore (pc' := 36) (ls' := [some (.ref 20), some (.ref a1), some (.int x2), some (.int x3), some (.int (-1)), some (.int (x2 + 1))]) (dt_X8_split 21 (34, .istore 5, 2) rfl) (by decide) rfl rfl (aw_iload (pc' := 38) (dt_X8_split 22 (36, .iload 4, 2) rfl) rfl rfl (aw_inS (pc' := 41) (nc1 := 0) (ns1 := 0) (nc := nc) (ns := ns) (ls' := [some (.int (-1))]) (y2 := mX8_isLetter) (As := [.int (-1)]) (rest := []) (dt_X8_split 23 (38, .invokestatic 35, 3) rfl) ok_X8_isLetter ln_Tape_35 sm_X8_isLetter pr_X8_isLetter rfl (Nat.le_of_ble_eq_true rfl) (Nat.le_of_ble_eq_true rfl) rfl rfl (aw_iload_n (pc' := 1) (dt_X8_isLetter 0 (0, .iload_n 0, 1) rfl) rfl rfl (aw_bipush (pc' := 3) (v := 97) (dt_X8_isLetter 1 (1, .bipush 97, 2) rfl) (by decide) rfl (aw_icmp_lt_T (pc' := 6) (tgt := 16) (dt_X8_isLetter 2 (3, .if_icmp .lt 13, 3) rfl) (by decide) rfl (by decide) (aw_iconst (pc' := 17) (v := 0) (dt_X8_isLetter 8 (16, .iconst 0, 1) rfl) (by decide) rfl (aw_iret (dt_X8_isLetter 9 (17, .ireturn, 1) rfl) rfl rfl (aw_stk (st' := [.int 0]) rfl (aw_if_eq_T (pc' := 44) (tgt := 62) (dt_X8_split 24 (41, .ifCond .eq 21, 3) rfl) (by decide) rfl (by decide) (aw_iload (pc' := 64) (dt_X8_split 35 (62, .iload 4, 2) rfl) rfl rfl (aw_inS (pc' := 67) (nc1 := 0) (ns1 := 0) (nc := nc) (ns := ns) (ls' := [some (.int (-1))]) (y2 := mX8_isDigit) (As := [.int (-1)]) (rest := []) (dt_X8_split 36 (64, .invokestatic 46, 3) rfl) ok_X8_isDigit ln_Tape_46 sm_X8_isDigit pr_X8_isDigit rfl (Nat.le_of_ble_eq_true rfl) (Nat.le_of_ble_eq_true rfl) rfl rfl (aw_iload_n (pc' := 1) (dt_X8_isDigit 0 (0, .iload_n 0, 1) rfl) rfl rfl (aw_bipush (pc' := 3) (v := 48) (dt_X8_isDigit 1 (1, .bipush 48, 2) rfl) (by decide) rfl (aw_icmp_lt_T (pc' := 6) (tgt := 16) (dt_X8_isDigit 2 (3, .if_icmp .lt 13, 3) rfl) (by decide) rfl (by decide) (aw_iconst (pc' := 17) (v := 0) (dt_X8_isDigit 8 (16, .iconst 0, 1) rfl) (by decide) rfl (aw_iret (dt_X8_isDigit 9 (17, .ireturn, 1) rfl) rfl rfl (aw_stk (st' := [.int 0]) rfl (aw_if_eq_T (pc' := 70) (tgt := 87) (dt_X8_split 37 (67, .ifCond .eq 20, 3) rfl) (by decide) rfl (by decide) (aw_iload (pc' := 89) (dt_X8_split 47 (87, .iload 4, 2) rfl) rfl rfl (aw_bipush (pc' := 91) (v := 32) (dt_X8_split 48 (89, .bipush 32, 2) rfl) (by decide) rfl (aw_icmp_eq_F (pc' := 94) (tgt := 118) (dt_X8_split 49 (91, .if_icmp .eq 27, 3) rfl) (by decide) rfl (by decide) (aw_aload_n (pc' := 95) (dt_X8_split 50 (94, .aload_n 0, 1) rfl) rfl rfl (aw_ldcS (pc' := 97) (i := 2) (dt_X8_split 51 (95, .ldc 56, 2) rfl) rfl rfl (aw_iload (pc' := 99) (dt_X8_split 52 (97, .iload 4, 2) rfl) rfl rfl (aw_i2c (pc' := 100) (dt_X8_split 53 (99, .i2c, 1) rfl) rfl (aw_callV0 (pc' := 103) (nc := nc) (ns := ns) (y2 := mJ0_indexOf_0f7a4) (As := [.int (((-1 : Int32)).toUInt32 % 65536).toInt32]) (rest := [.ref 20]) (a := 3) (dt_X8_split 54 (100, .invokevirtual 58, 3) rfl) ok_J0_indexOf_0f7a4 ln_Tape_58 im_J0_indexOf_0f7a4 se_J0_indexOf_0f7a4 pr_J0_indexOf_0f7a4 (Or.inr ⟨rfl, rfl⟩) rfl (Nat.le_of_ble_eq_true rfl) (Nat.le_of_ble_eq_true rfl) rfl (sk_3 hS) h ?_)))))))))))))))))))))))))))))))))
          rintro v μ9 ⟨r11, rfl, hS10, h⟩
          refine aw_stk (st' := [.int r11, .ref 20]) rfl ?_
          refine aw_if_lt (pc' := 106) (tgt := 111) (dt_X8_split 55 (103, .ifCond .lt 8, 3) rfl) (by decide) rfl ?_ ?_
          · intro q12
            have h := h.1 q12
            refine aw_bipush (pc' := 113) (v := 22) (dt_X8_split 58 (111, .bipush 22, 2) rfl) (by decide) rfl (aw_drop (ls' := [some (.ref 20), some (.ref a1), some (.int x2), some (.int x3), none, some (.int (x2 + 1))]) ⟨rfl, rfl, rfl, rfl, rfl, trivial⟩ ?_)
            exact h
          · intro q12
            have h := h.2 q12
            refine aw_iload (pc' := 108) (dt_X8_split 56 (106, .iload 4, 2) rfl) rfl rfl (aw_goto (tgt := 113) (dt_X8_split 57 (108, .goto 5, 3) rfl) (by decide) (aw_drop (ls' := [some (.ref 20), some (.ref a1), some (.int x2), some (.int x3), none, some (.int (x2 + 1))]) ⟨rfl, rfl, rfl, rfl, rfl, trivial⟩ ?_))
            exact h
        · intro q8
          have h := h.2 q8
          refine aw_iload_n (pc' := 13) (dt_X8_byteAt 6 (12, .iload_n 1, 1) rfl) rfl rfl (aw_aload_n (pc' := 14) (dt_X8_byteAt 7 (13, .aload_n 0, 1) rfl) rfl rfl (aw_getAs (pc' := 17) (dt_X8_byteAt 8 (14, .getfield 9, 3) rfl) fl_Tape_9 rfl rfl (sk_20 hS) (sa_20_0 hS) (aw_alens (pc' := 18) (n := 200) (v := 200) (dt_X8_byteAt 9 (17, .arraylength, 1) rfl) (by decide) (by decide) rfl (sk_21 hS) (sl_21 hS) (by decide) (aw_icmp_ge (pc' := 21) (tgt := 30) (dt_X8_byteAt 10 (18, .if_icmp .ge 12, 3) rfl) (by decide) rfl ?_ ?_))))
          · intro q13
            have h := h.1 q13
            refine aw_iconst (pc' := 31) (v := (-1)) (dt_X8_byteAt 16 (30, .iconst (-1), 1) rfl) (by decide) rfl (aw_iret (dt_X8_byteAt 17 (31, .ireturn, 1) rfl) rfl rfl (aw_stk (st' := [.int (-1)]) rfl (aw_istore (pc' := 31) (ls' := [some (.ref 20), some (.ref a1), some (.int x2), some (.int x3), some (.int (-1)), none]) (dt_X8_split 17 (29, .istore 4, 2) rfl) (by decide) rfl rfl (aw_iload_n (pc' := 32) (dt_X8_split 18 (31, .iload_n 2, 1) rfl) rfl rfl (aw_iconst (pc' := 33) (v := 1) (dt_X8_split 19 (32, .iconst 1, 1) rfl) (by decide) rfl (aw_iadd (pc' := 34) (dt_X8_split 20 (33, .iadd, 1) rfl) rfl (aw_istore (pc' := 36) (ls' := [some (.ref 20), some (.ref a1), some (.int x2), some (.int x3), some (.int (-1)), some (.int (x2 + 1))]) (dt_X8_split 21 (34, .istore 5, 2) rfl) (by decide) rfl rfl (aw_iload (pc' := 38) (dt_X8_split 22 (36, .iload 4, 2) rfl) rfl rfl (aw_inS (pc' := 41) (nc1 := 0) (ns1 := 0) (nc := nc) (ns := ns) (ls' := [some (.int (-1))]) (y2 := mX8_isLetter) (As := [.int (-1)]) (rest := []) (dt_X8_split 23 (38, .invokestatic 35, 3) rfl) ok_X8_isLetter ln_Tape_35 sm_X8_isLetter pr_X8_isLetter rfl (Nat.le_of_ble_eq_true rfl) (Nat.le_of_ble_eq_true rfl) rfl rfl (aw_iload_n (pc' := 1) (dt_X8_isLetter 0 (0, .iload_n 0, 1) rfl) rfl rfl (aw_bipush (pc' := 3) (v := 97) (dt_X8_isLetter 1 (1, .bipush 97, 2) rfl) (by decide) rfl (aw_icmp_lt_T (pc' := 6) (tgt := 16) (dt_X8_isLetter 2 (3, .if_icmp .lt 13, 3) rfl) (by decide) rfl (by decide) (aw_iconst (pc' := 17) (v := 0) (dt_X8_isLetter 8 (16, .iconst 0, 1) rfl) (by decide) rfl (aw_iret (dt_X8_isLetter 9 (17, .ireturn, 1) rfl) rfl rfl (aw_stk (st' := [.int 0]) rfl (aw_if_eq_T (pc' := 44) (tgt := 62) (dt_X8_split 24 (41, .ifCond .eq 21, 3) rfl) (by decide) rfl (by decide) (aw_iload (pc' := 64) (dt_X8_split 35 (62, .iload 4, 2) rfl) rfl rfl (aw_inS (pc' := 67) (nc1 := 0) (ns1 := 0) (nc := nc) (ns := ns) (ls' := [some (.int (-1))]) (y2 := mX8_isDigit) (As := [.int (-1)]) (rest := []) (dt_X8_split 36 (64, .invokestatic 46, 3) rfl) ok_X8_isDigit ln_Tape_46 sm_X8_isDigit pr_X8_isDigit rfl (Nat.le_of_ble_eq_true rfl) (Nat.le_of_ble_eq_true rfl) rfl rfl (aw_iload_n (pc' := 1) (dt_X8_isDigit 0 (0, .iload_n 0, 1) rfl) rfl rfl (aw_bipush (pc' := 3) (v := 48) (dt_X8_isDigit 1 (1, .bipush 48, 2) rfl) (by decide) rfl (aw_icmp_lt_T (pc' := 6) (tgt := 16) (dt_X8_isDigit 2 (3, .if_icmp .lt 13, 3) rfl) (by decide) rfl (by decide) (aw_iconst (pc' := 17) (v := 0) (dt_X8_isDigit 8 (16, .iconst 0, 1) rfl) (by decide) rfl (aw_iret (dt_X8_isDigit 9 (17, .ireturn, 1) rfl) rfl rfl (aw_stk (st' := [.int 0]) rfl (aw_if_eq_T (pc' := 70) (tgt := 87) (dt_X8_split 37 (67, .ifCond .eq 20, 3) rfl) (by decide) rfl (by decide) (aw_iload (pc' := 89) (dt_X8_split 47 (87, .iload 4, 2) rfl) rfl rfl (aw_bipush (pc' := 91) (v := 32) (dt_X8_split 48 (89, .bipush 32, 2) rfl) (by decide) rfl (aw_icmp_eq_F (pc' := 94) (tgt := 118) (dt_X8_split 49 (91, .if_icmp .eq 27, 3) rfl) (by decide) rfl (by decide) (aw_aload_n (pc' := 95) (dt_X8_split 50 (94, .aload_n 0, 1) rfl) rfl rfl (aw_ldcS (pc' := 97) (i := 2) (dt_X8_split 51 (95, .ldc 56, 2) rfl) rfl rfl (aw_iload (pc' := 99) (dt_X8_split 52 (97, .iload 4, 2) rfl) rfl rfl (aw_i2c (pc' := 100) (dt_X8_split 53 (99, .i2c, 1) rfl) rfl (aw_callV0 (pc' := 103) (nc := nc) (ns := ns) (y2 := mJ0_indexOf_0f7a4) (As := [.int (((-1 : Int32)).toUInt32 % 65536).toInt32]) (rest := [.ref 20]) (a := 3) (dt_X8_split 54 (100, .invokevirtual 58, 3) rfl) ok_J0_indexOf_0f7a4 ln_Tape_58 im_J0_indexOf_0f7a4 se_J0_indexOf_0f7a4 pr_J0_indexOf_0f7a4 (Or.inr ⟨rfl, rfl⟩) rfl (Nat.le_of_ble_eq_true rfl) (Nat.le_of_ble_eq_true rfl) rfl (sk_3 hS) h ?_)))))))))))))))))))))))))))))))))
            rintro v μ14 ⟨r16, rfl, hS15, h⟩
            refine aw_stk (st' := [.int r16, .ref 20]) rfl ?_
            refine aw_if_lt (pc' := 106) (tgt := 111) (dt_X8_split 55 (103, .ifCond .lt 8, 3) rfl) (by decide) rfl ?_ ?_
            · intro q17
              have h := h.1 q17
              refine aw_bipush (pc' := 113) (v := 22) (dt_X8_split 58 (111, .bipush 22, 2) rfl) (by decide) rfl (aw_drop (ls' := [some (.ref 20), some (.ref a1), some (.int x2), some (.int x3), none, some (.int (x2 + 1))]) ⟨rfl, rfl, rfl, rfl, rfl, trivial⟩ ?_)
              exact h
            · intro q17
              have h := h.2 q17
              refine aw_iload (pc' := 108) (dt_X8_split 56 (106, .iload 4, 2) rfl) rfl rfl (aw_goto (tgt := 113) (dt_X8_split 57 (108, .goto 5, 3) rfl) (by decide) (aw_drop (ls' := [some (.ref 20), some (.ref a1), some (.int x2), some (.int x3), none, some (.int (x2 + 1))]) ⟨rfl, rfl, rfl, rfl, rfl, trivial⟩ ?_))
              exact h
          · intro q13
            have h := h.2 q13
            obtain ⟨g18, h⟩ := h
            refine aw_aload_n (pc' := 22) (dt_X8_byteAt 11 (21, .aload_n 0, 1) rfl) rfl rfl (aw_getAs (pc' := 25) (dt_X8_byteAt 12 (22, .getfield 9, 3) rfl) fl_Tape_9 rfl rfl (sk_20 hS) (sa_20_0 hS) (aw_iload_n (pc' := 26) (dt_X8_byteAt 13 (25, .iload_n 1, 1) rfl) rfl rfl (aw_iald (pc' := 27) (dt_X8_byteAt 14 (26, .iaload, 1) rfl) rfl (sk_21 hS) (vin_eq (sl_21 hS) g18) (aw_goto (tgt := 31) (dt_X8_byteAt 15 (27, .goto 4, 3) rfl) (by decide) (aw_iret (dt_X8_byteAt 17 (31, .ireturn, 1) rfl) rfl rfl (aw_stk (st' := [.int (zI μ 21 x2.toNatClampNeg)]) rfl (aw_istore (pc' := 31) (ls' := [some (.ref 20), some (.ref a1), some (.int x2), some (.int x3), some (.int (zI μ 21 x2.toNatClampNeg)), none]) (dt_X8_split 17 (29, .istore 4, 2) rfl) (by decide) rfl rfl (aw_iload_n (pc' := 32) (dt_X8_split 18 (31, .iload_n 2, 1) rfl) rfl rfl (aw_iconst (pc' := 33) (v := 1) (dt_X8_split 19 (32, .iconst 1, 1) rfl) (by decide) rfl (aw_iadd (pc' := 34) (dt_X8_split 20 (33, .iadd, 1) rfl) rfl (aw_istore (pc' := 36) (ls' := [some (.ref 20), some (.ref a1), some (.int x2), some (.int x3), some (.int (zI μ 21 x2.toNatClampNeg)), some (.int (x2 + 1))]) (dt_X8_split 21 (34, .istore 5, 2) rfl) (by decide) rfl rfl (aw_iload (pc' := 38) (dt_X8_split 22 (36, .iload 4, 2) rfl) rfl rfl (aw_inS (pc' := 41) (nc1 := 0) (ns1 := 0) (nc := nc) (ns := ns) (ls' := [some (.int (zI μ 21 x2.toNatClampNeg))]) (y2 := mX8_isLetter) (As := [.int (zI μ 21 x2.toNatClampNeg)]) (rest := []) (dt_X8_split 23 (38, .invokestatic 35, 3) rfl) ok_X8_isLetter ln_Tape_35 sm_X8_isLetter pr_X8_isLetter rfl (Nat.le_of_ble_eq_true rfl) (Nat.le_of_ble_eq_true rfl) rfl rfl (aw_iload_n (pc' := 1) (dt_X8_isLetter 0 (0, .iload_n 0, 1) rfl) rfl rfl (aw_bipush (pc' := 3) (v := 97) (dt_X8_isLetter 1 (1, .bipush 97, 2) rfl) (by decide) rfl (aw_icmp_lt (pc' := 6) (tgt := 16) (dt_X8_isLetter 2 (3, .if_icmp .lt 13, 3) rfl) (by decide) rfl ?_ ?_))))))))))))))))
            · intro q19
              have h := h.1 q19
              refine aw_iconst (pc' := 17) (v := 0) (dt_X8_isLetter 8 (16, .iconst 0, 1) rfl) (by decide) rfl (aw_iret (dt_X8_isLetter 9 (17, .ireturn, 1) rfl) rfl rfl (aw_stk (st' := [.int 0]) rfl (aw_if_eq_T (pc' := 44) (tgt := 62) (dt_X8_split 24 (41, .ifCond .eq 21, 3) rfl) (by decide) rfl (by decide) (aw_iload (pc' := 64) (dt_X8_split 35 (62, .iload 4, 2) rfl) rfl rfl (aw_inS (pc' := 67) (nc1 := 0) (ns1 := 0) (nc := nc) (ns := ns) (ls' := [some (.int (zI μ 21 x2.toNatClampNeg))]) (y2 := mX8_isDigit) (As := [.int (zI μ 21 x2.toNatClampNeg)]) (rest := []) (dt_X8_split 36 (64, .invokestatic 46, 3) rfl) ok_X8_isDigit ln_Tape_46 sm_X8_isDigit pr_X8_isDigit rfl (Nat.le_of_ble_eq_true rfl) (Nat.le_of_ble_eq_true rfl) rfl rfl (aw_iload_n (pc' := 1) (dt_X8_isDigit 0 (0, .iload_n 0, 1) rfl) rfl rfl (aw_bipush (pc' := 3) (v := 48) (dt_X8_isDigit 1 (1, .bipush 48, 2) rfl) (by decide) rfl (aw_icmp_lt (pc' := 6) (tgt := 16) (dt_X8_isDigit 2 (3, .if_icmp .lt 13, 3) rfl) (by decide) rfl ?_ ?_))))))))
              · intro q20
                have h := h.1 q20
                refine aw_iconst (pc' := 17) (v := 0) (dt_X8_isDigit 8 (16, .iconst 0, 1) rfl) (by decide) rfl (aw_iret (dt_X8_isDigit 9 (17, .ireturn, 1) rfl) rfl rfl (aw_stk (st' := [.int 0]) rfl (aw_if_eq_T (pc' := 70) (tgt := 87) (dt_X8_split 37 (67, .ifCond .eq 20, 3) rfl) (by decide) rfl (by decide) (aw_iload (pc' := 89) (dt_X8_split 47 (87, .iload 4, 2) rfl) rfl rfl (aw_bipush (pc' := 91) (v := 32) (dt_X8_split 48 (89, .bipush 32, 2) rfl) (by decide) rfl (aw_icmp_eq (pc' := 94) (tgt := 118) (dt_X8_split 49 (91, .if_icmp .eq 27, 3) rfl) (by decide) rfl ?_ ?_))))))
                · intro q21
                  have h := h.1 q21
                  refine aw_drop (ls' := [some (.ref 20), some (.ref a1), none, some (.int x3), none, some (.int (x2 + 1))]) ⟨rfl, rfl, rfl, rfl, trivial⟩ ?_
                  exact h
                · intro q21
                  have h := h.2 q21
                  refine aw_aload_n (pc' := 95) (dt_X8_split 50 (94, .aload_n 0, 1) rfl) rfl rfl (aw_ldcS (pc' := 97) (i := 2) (dt_X8_split 51 (95, .ldc 56, 2) rfl) rfl rfl (aw_iload (pc' := 99) (dt_X8_split 52 (97, .iload 4, 2) rfl) rfl rfl (aw_i2c (pc' := 100) (dt_X8_split 53 (99, .i2c, 1) rfl) rfl (aw_callV0 (pc' := 103) (nc := nc) (ns := ns) (y2 := mJ0_indexOf_0f7a4) (As := [.int (((zI μ 21 x2.toNatClampNeg)).toUInt32 % 65536).toInt32]) (rest := [.ref 20]) (a := 3) (dt_X8_split 54 (100, .invokevirtual 58, 3) rfl) ok_J0_indexOf_0f7a4 ln_Tape_58 im_J0_indexOf_0f7a4 se_J0_indexOf_0f7a4 pr_J0_indexOf_0f7a4 (Or.inr ⟨rfl, rfl⟩) rfl (Nat.le_of_ble_eq_true rfl) (Nat.le_of_ble_eq_true rfl) rfl (sk_3 hS) h ?_))))
                  rintro v μ22 ⟨r24, rfl, hS23, h⟩
                  refine aw_stk (st' := [.int r24, .ref 20]) rfl ?_
                  refine aw_if_lt (pc' := 106) (tgt := 111) (dt_X8_split 55 (103, .ifCond .lt 8, 3) rfl) (by decide) rfl ?_ ?_
                  · intro q25
                    have h := h.1 q25
                    refine aw_bipush (pc' := 113) (v := 22) (dt_X8_split 58 (111, .bipush 22, 2) rfl) (by decide) rfl (aw_drop (ls' := [some (.ref 20), some (.ref a1), some (.int x2), some (.int x3), none, some (.int (x2 + 1))]) ⟨rfl, rfl, rfl, rfl, rfl, trivial⟩ ?_)
                    exact h
                  · intro q25
                    have h := h.2 q25
                    refine aw_iload (pc' := 108) (dt_X8_split 56 (106, .iload 4, 2) rfl) rfl rfl (aw_goto (tgt := 113) (dt_X8_split 57 (108, .goto 5, 3) rfl) (by decide) (aw_drop (ls' := [some (.ref 20), some (.ref a1), some (.int x2), some (.int x3), none, some (.int (x2 + 1))]) ⟨rfl, rfl, rfl, rfl, rfl, trivial⟩ ?_))
                    exact h
              · intro q20
                have h := h.2 q20
                refine aw_iload_n (pc' := 7) (dt_X8_isDigit 3 (6, .iload_n 0, 1) rfl) rfl rfl (aw_bipush (pc' := 9) (v := 57) (dt_X8_isDigit 4 (7, .bipush 57, 2) rfl) (by decide) rfl (aw_icmp_gt (pc' := 12) (tgt := 16) (dt_X8_isDigit 5 (9, .if_icmp .gt 7, 3) rfl) (by decide) rfl ?_ ?_))
                · intro q26
                  have h := h.1 q26
                  refine aw_iconst (pc' := 17) (v := 0) (dt_X8_isDigit 8 (16, .iconst 0, 1) rfl) (by decide) rfl (aw_iret (dt_X8_isDigit 9 (17, .ireturn, 1) rfl) rfl rfl (aw_stk (st' := [.int 0]) rfl (aw_if_eq_T (pc' := 70) (tgt := 87) (dt_X8_split 37 (67, .ifCond .eq 20, 3) rfl) (by decide) rfl (by decide) (aw_iload (pc' := 89) (dt_X8_split 47 (87, .iload 4, 2) rfl) rfl rfl (aw_bipush (pc' := 91) (v := 32) (dt_X8_split 48 (89, .bipush 32, 2) rfl) (by decide) rfl (aw_icmp_eq (pc' := 94) (tgt := 118) (dt_X8_split 49 (91, .if_icmp .eq 27, 3) rfl) (by decide) rfl ?_ ?_))))))
                  · intro q27
                    have h := h.1 q27
                    refine aw_drop (ls' := [some (.ref 20), some (.ref a1), none, some (.int x3), none, some (.int (x2 + 1))]) ⟨rfl, rfl, rfl, rfl, trivial⟩ ?_
                    exact h
                  · intro q27
                    have h := h.2 q27
                    refine aw_aload_n (pc' := 95) (dt_X8_split 50 (94, .aload_n 0, 1) rfl) rfl rfl (aw_ldcS (pc' := 97) (i := 2) (dt_X8_split 51 (95, .ldc 56, 2) rfl) rfl rfl (aw_iload (pc' := 99) (dt_X8_split 52 (97, .iload 4, 2) rfl) rfl rfl (aw_i2c (pc' := 100) (dt_X8_split 53 (99, .i2c, 1) rfl) rfl (aw_callV0 (pc' := 103) (nc := nc) (ns := ns) (y2 := mJ0_indexOf_0f7a4) (As := [.int (((zI μ 21 x2.toNatClampNeg)).toUInt32 % 65536).toInt32]) (rest := [.ref 20]) (a := 3) (dt_X8_split 54 (100, .invokevirtual 58, 3) rfl) ok_J0_indexOf_0f7a4 ln_Tape_58 im_J0_indexOf_0f7a4 se_J0_indexOf_0f7a4 pr_J0_indexOf_0f7a4 (Or.inr ⟨rfl, rfl⟩) rfl (Nat.le_of_ble_eq_true rfl) (Nat.le_of_ble_eq_true rfl) rfl (sk_3 hS) h ?_))))
                    rintro v μ28 ⟨r30, rfl, hS29, h⟩
                    refine aw_stk (st' := [.int r30, .ref 20]) rfl ?_
                    refine aw_if_lt (pc' := 106) (tgt := 111) (dt_X8_split 55 (103, .ifCond .lt 8, 3) rfl) (by decide) rfl ?_ ?_
                    · intro q31
                      have h := h.1 q31
                      refine aw_bipush (pc' := 113) (v := 22) (dt_X8_split 58 (111, .bipush 22, 2) rfl) (by decide) rfl (aw_drop (ls' := [some (.ref 20), some (.ref a1), some (.int x2), some (.int x3), none, some (.int (x2 + 1))]) ⟨rfl, rfl, rfl, rfl, rfl, trivial⟩ ?_)
                      exact h
                    · intro q31
                      have h := h.2 q31
                      refine aw_iload (pc' := 108) (dt_X8_split 56 (106, .iload 4, 2) rfl) rfl rfl (aw_goto (tgt := 113) (dt_X8_split 57 (108, .goto 5, 3) rfl) (by decide) (aw_drop (ls' := [some (.ref 20), some (.ref a1), some (.int x2), some (.int x3), none, some (.int (x2 + 1))]) ⟨rfl, rfl, rfl, rfl, rfl, trivial⟩ ?_))
                      exact h
                · intro q26
                  have h := h.2 q26
                  refine aw_iconst (pc' := 13) (v := 1) (dt_X8_isDigit 6 (12, .iconst 1, 1) rfl) (by decide) rfl (aw_goto (tgt := 17) (dt_X8_isDigit 7 (13, .goto 4, 3) rfl) (by decide) (aw_iret (dt_X8_isDigit 9 (17, .ireturn, 1) rfl) rfl rfl (aw_stk (st' := [.int 1]) rfl (aw_if_eq_F (pc' := 70) (tgt := 87) (dt_X8_split 37 (67, .ifCond .eq 20, 3) rfl) (by decide) rfl (by decide) (aw_aload_n (pc' := 71) (dt_X8_split 38 (70, .aload_n 0, 1) rfl) rfl rfl (aw_iload_n (pc' := 72) (dt_X8_split 39 (71, .iload_n 2, 1) rfl) rfl rfl (aw_callV0 (pc' := 75) (nc := nc) (ns := ns) (y2 := mX8_endOfNumber) (As := [.int x2]) (rest := []) (a := 20) (dt_X8_split 40 (72, .invokevirtual 49, 3) rfl) ok_X8_endOfNumber ln_Tape_49 im_X8_endOfNumber se_X8_endOfNumber pr_X8_endOfNumber (Or.inl ⟨by decide, rfl⟩) rfl (Nat.le_of_ble_eq_true rfl) (Nat.le_of_ble_eq_true rfl) rfl (sk_20 hS) h ?_)))))))
                  rintro v μ32 ⟨r34, rfl, hS33, h⟩
                  refine aw_stk (st' := [.int r34]) rfl ?_
                  refine aw_istore (pc' := 77) (ls' := [some (.ref 20), some (.ref a1), some (.int x2), some (.int x3), some (.int (zI μ 21 x2.toNatClampNeg)), some (.int r34)]) (dt_X8_split 41 (75, .istore 5, 2) rfl) (by decide) rfl rfl (aw_aload_n (pc' := 78) (dt_X8_split 42 (77, .aload_n 0, 1) rfl) rfl rfl (aw_iload_n (pc' := 79) (dt_X8_split 43 (78, .iload_n 2, 1) rfl) rfl rfl (aw_iload (pc' := 81) (dt_X8_split 44 (79, .iload 5, 2) rfl) rfl rfl (aw_callV0 (pc' := 84) (nc := nc) (ns := ns) (y2 := mX8_addNumber) (As := [.int x2, .int r34]) (rest := []) (a := 20) (dt_X8_split 45 (81, .invokevirtual 52, 3) rfl) ok_X8_addNumber ln_Tape_52 im_X8_addNumber se_X8_addNumber pr_X8_addNumber (Or.inl ⟨by decide, rfl⟩) rfl (Nat.le_of_ble_eq_true rfl) (Nat.le_of_ble_eq_true rfl) rfl (sk_20 hS33) h ?_))))
                  rintro v μ35 ⟨rfl, hS36, h⟩
                  refine aw_stk (st' := []) rfl ?_
                  refine aw_goto (tgt := 118) (dt_X8_split 46 (84, .goto 34, 3) rfl) (by decide) (aw_drop (ls' := [some (.ref 20), some (.ref a1), none, some (.int x3), none, some (.int r34)]) ⟨rfl, rfl, rfl, rfl, trivial⟩ ?_)
                  exact h
            · intro q19
              have h := h.2 q19
              refine aw_iload_n (pc' := 7) (dt_X8_isLetter 3 (6, .iload_n 0, 1) rfl) rfl rfl (aw_bipush (pc' := 9) (v := 122) (dt_X8_isLetter 4 (7, .bipush 122, 2) rfl) (by decide) rfl (aw_icmp_gt (pc' := 12) (tgt := 16) (dt_X8_isLetter 5 (9, .if_icmp .gt 7, 3) rfl) (by decide) rfl ?_ ?_))
              · intro q37
                have h := h.1 q37
                refine aw_iconst (pc' := 17) (v := 0) (dt_X8_isLetter 8 (16, .iconst 0, 1) rfl) (by decide) rfl (aw_iret (dt_X8_isLetter 9 (17, .ireturn, 1) rfl) rfl rfl (aw_stk (st' := [.int 0]) rfl (aw_if_eq_T (pc' := 44) (tgt := 62) (dt_X8_split 24 (41, .ifCond .eq 21, 3) rfl) (by decide) rfl (by decide) (aw_iload (pc' := 64) (dt_X8_split 35 (62, .iload 4, 2) rfl) rfl rfl (aw_inS (pc' := 67) (nc1 := 0) (ns1 := 0) (nc := nc) (ns := ns) (ls' := [some (.int (zI μ 21 x2.toNatClampNeg))]) (y2 := mX8_isDigit) (As := [.int (zI μ 21 x2.toNatClampNeg)]) (rest := []) (dt_X8_split 36 (64, .invokestatic 46, 3) rfl) ok_X8_isDigit ln_Tape_46 sm_X8_isDigit pr_X8_isDigit rfl (Nat.le_of_ble_eq_true rfl) (Nat.le_of_ble_eq_true rfl) rfl rfl (aw_iload_n (pc' := 1) (dt_X8_isDigit 0 (0, .iload_n 0, 1) rfl) rfl rfl (aw_bipush (pc' := 3) (v := 48) (dt_X8_isDigit 1 (1, .bipush 48, 2) rfl) (by decide) rfl (aw_icmp_lt (pc' := 6) (tgt := 16) (dt_X8_isDigit 2 (3, .if_icmp .lt 13, 3) rfl) (by decide) rfl ?_ ?_))))))))
                · intro q38
                  have h := h.1 q38
                  refine aw_iconst (pc' := 17) (v := 0) (dt_X8_isDigit 8 (16, .iconst 0, 1) rfl) (by decide) rfl (aw_iret (dt_X8_isDigit 9 (17, .ireturn, 1) rfl) rfl rfl (aw_stk (st' := [.int 0]) rfl (aw_if_eq_T (pc' := 70) (tgt := 87) (dt_X8_split 37 (67, .ifCond .eq 20, 3) rfl) (by decide) rfl (by decide) (aw_iload (pc' := 89) (dt_X8_split 47 (87, .iload 4, 2) rfl) rfl rfl (aw_bipush (pc' := 91) (v := 32) (dt_X8_split 48 (89, .bipush 32, 2) rfl) (by decide) rfl (aw_icmp_eq (pc' := 94) (tgt := 118) (dt_X8_split 49 (91, .if_icmp .eq 27, 3) rfl) (by decide) rfl ?_ ?_))))))
                  · intro q39
                    have h := h.1 q39
                    refine aw_drop (ls' := [some (.ref 20), some (.ref a1), none, some (.int x3), none, some (.int (x2 + 1))]) ⟨rfl, rfl, rfl, rfl, trivial⟩ ?_
                    exact h
                  · intro q39
                    have h := h.2 q39
                    refine aw_aload_n (pc' := 95) (dt_X8_split 50 (94, .aload_n 0, 1) rfl) rfl rfl (aw_ldcS (pc' := 97) (i := 2) (dt_X8_split 51 (95, .ldc 56, 2) rfl) rfl rfl (aw_iload (pc' := 99) (dt_X8_split 52 (97, .iload 4, 2) rfl) rfl rfl (aw_i2c (pc' := 100) (dt_X8_split 53 (99, .i2c, 1) rfl) rfl (aw_callV0 (pc' := 103) (nc := nc) (ns := ns) (y2 := mJ0_indexOf_0f7a4) (As := [.int (((zI μ 21 x2.toNatClampNeg)).toUInt32 % 65536).toInt32]) (rest := [.ref 20]) (a := 3) (dt_X8_split 54 (100, .invokevirtual 58, 3) rfl) ok_J0_indexOf_0f7a4 ln_Tape_58 im_J0_indexOf_0f7a4 se_J0_indexOf_0f7a4 pr_J0_indexOf_0f7a4 (Or.inr ⟨rfl, rfl⟩) rfl (Nat.le_of_ble_eq_true rfl) (Nat.le_of_ble_eq_true rfl) rfl (sk_3 hS) h ?_))))
                    rintro v μ40 ⟨r42, rfl, hS41, h⟩
                    refine aw_stk (st' := [.int r42, .ref 20]) rfl ?_
                    refine aw_if_lt (pc' := 106) (tgt := 111) (dt_X8_split 55 (103, .ifCond .lt 8, 3) rfl) (by decide) rfl ?_ ?_
                    · intro q43
                      have h := h.1 q43
                      refine aw_bipush (pc' := 113) (v := 22) (dt_X8_split 58 (111, .bipush 22, 2) rfl) (by decide) rfl (aw_drop (ls' := [some (.ref 20), some (.ref a1), some (.int x2), some (.int x3), none, some (.int (x2 + 1))]) ⟨rfl, rfl, rfl, rfl, rfl, trivial⟩ ?_)
                      exact h
                    · intro q43
                      have h := h.2 q43
                      refine aw_iload (pc' := 108) (dt_X8_split 56 (106, .iload 4, 2) rfl) rfl rfl (aw_goto (tgt := 113) (dt_X8_split 57 (108, .goto 5, 3) rfl) (by decide) (aw_drop (ls' := [some (.ref 20), some (.ref a1), some (.int x2), some (.int x3), none, some (.int (x2 + 1))]) ⟨rfl, rfl, rfl, rfl, rfl, trivial⟩ ?_))
                      exact h
                · intro q38
                  have h := h.2 q38
                  refine aw_iload_n (pc' := 7) (dt_X8_isDigit 3 (6, .iload_n 0, 1) rfl) rfl rfl (aw_bipush (pc' := 9) (v := 57) (dt_X8_isDigit 4 (7, .bipush 57, 2) rfl) (by decide) rfl (aw_icmp_gt (pc' := 12) (tgt := 16) (dt_X8_isDigit 5 (9, .if_icmp .gt 7, 3) rfl) (by decide) rfl ?_ ?_))
                  · intro q44
                    have h := h.1 q44
                    refine aw_iconst (pc' := 17) (v := 0) (dt_X8_isDigit 8 (16, .iconst 0, 1) rfl) (by decide) rfl (aw_iret (dt_X8_isDigit 9 (17, .ireturn, 1) rfl) rfl rfl (aw_stk (st' := [.int 0]) rfl (aw_if_eq_T (pc' := 70) (tgt := 87) (dt_X8_split 37 (67, .ifCond .eq 20, 3) rfl) (by decide) rfl (by decide) (aw_iload (pc' := 89) (dt_X8_split 47 (87, .iload 4, 2) rfl) rfl rfl (aw_bipush (pc' := 91) (v := 32) (dt_X8_split 48 (89, .bipush 32, 2) rfl) (by decide) rfl (aw_icmp_eq (pc' := 94) (tgt := 118) (dt_X8_split 49 (91, .if_icmp .eq 27, 3) rfl) (by decide) rfl ?_ ?_))))))
                    · intro q45
                      have h := h.1 q45
                      refine aw_drop (ls' := [some (.ref 20), some (.ref a1), none, some (.int x3), none, some (.int (x2 + 1))]) ⟨rfl, rfl, rfl, rfl, trivial⟩ ?_
                      exact h
                    · intro q45
                      have h := h.2 q45
                      refine aw_aload_n (pc' := 95) (dt_X8_split 50 (94, .aload_n 0, 1) rfl) rfl rfl (aw_ldcS (pc' := 97) (i := 2) (dt_X8_split 51 (95, .ldc 56, 2) rfl) rfl rfl (aw_iload (pc' := 99) (dt_X8_split 52 (97, .iload 4, 2) rfl) rfl rfl (aw_i2c (pc' := 100) (dt_X8_split 53 (99, .i2c, 1) rfl) rfl (aw_callV0 (pc' := 103) (nc := nc) (ns := ns) (y2 := mJ0_indexOf_0f7a4) (As := [.int (((zI μ 21 x2.toNatClampNeg)).toUInt32 % 65536).toInt32]) (rest := [.ref 20]) (a := 3) (dt_X8_split 54 (100, .invokevirtual 58, 3) rfl) ok_J0_indexOf_0f7a4 ln_Tape_58 im_J0_indexOf_0f7a4 se_J0_indexOf_0f7a4 pr_J0_indexOf_0f7a4 (Or.inr ⟨rfl, rfl⟩) rfl (Nat.le_of_ble_eq_true rfl) (Nat.le_of_ble_eq_true rfl) rfl (sk_3 hS) h ?_))))
                      rintro v μ46 ⟨r48, rfl, hS47, h⟩
                      refine aw_stk (st' := [.int r48, .ref 20]) rfl ?_
                      refine aw_if_lt (pc' := 106) (tgt := 111) (dt_X8_split 55 (103, .ifCond .lt 8, 3) rfl) (by decide) rfl ?_ ?_
                      · intro q49
                        have h := h.1 q49
                        refine aw_bipush (pc' := 113) (v := 22) (dt_X8_split 58 (111, .bipush 22, 2) rfl) (by decide) rfl (aw_drop (ls' := [some (.ref 20), some (.ref a1), some (.int x2), some (.int x3), none, some (.int (x2 + 1))]) ⟨rfl, rfl, rfl, rfl, rfl, trivial⟩ ?_)
                        exact h
                      · intro q49
                        have h := h.2 q49
                        refine aw_iload (pc' := 108) (dt_X8_split 56 (106, .iload 4, 2) rfl) rfl rfl (aw_goto (tgt := 113) (dt_X8_split 57 (108, .goto 5, 3) rfl) (by decide) (aw_drop (ls' := [some (.ref 20), some (.ref a1), some (.int x2), some (.int x3), none, some (.int (x2 + 1))]) ⟨rfl, rfl, rfl, rfl, rfl, trivial⟩ ?_))
                        exact h
                  · intro q44
                    have h := h.2 q44
                    refine aw_iconst (pc' := 13) (v := 1) (dt_X8_isDigit 6 (12, .iconst 1, 1) rfl) (by decide) rfl (aw_goto (tgt := 17) (dt_X8_isDigit 7 (13, .goto 4, 3) rfl) (by decide) (aw_iret (dt_X8_isDigit 9 (17, .ireturn, 1) rfl) rfl rfl (aw_stk (st' := [.int 1]) rfl (aw_if_eq_F (pc' := 70) (tgt := 87) (dt_X8_split 37 (67, .ifCond .eq 20, 3) rfl) (by decide) rfl (by decide) (aw_aload_n (pc' := 71) (dt_X8_split 38 (70, .aload_n 0, 1) rfl) rfl rfl (aw_iload_n (pc' := 72) (dt_X8_split 39 (71, .iload_n 2, 1) rfl) rfl rfl (aw_callV0 (pc' := 75) (nc := nc) (ns := ns) (y2 := mX8_endOfNumber) (As := [.int x2]) (rest := []) (a := 20) (dt_X8_split 40 (72, .invokevirtual 49, 3) rfl) ok_X8_endOfNumber ln_Tape_49 im_X8_endOfNumber se_X8_endOfNumber pr_X8_endOfNumber (Or.inl ⟨by decide, rfl⟩) rfl (Nat.le_of_ble_eq_true rfl) (Nat.le_of_ble_eq_true rfl) rfl (sk_20 hS) h ?_)))))))
                    rintro v μ50 ⟨r52, rfl, hS51, h⟩
                    refine aw_stk (st' := [.int r52]) rfl ?_
                    refine aw_istore (pc' := 77) (ls' := [some (.ref 20), some (.ref a1), some (.int x2), some (.int x3), some (.int (zI μ 21 x2.toNatClampNeg)), some (.int r52)]) (dt_X8_split 41 (75, .istore 5, 2) rfl) (by decide) rfl rfl (aw_aload_n (pc' := 78) (dt_X8_split 42 (77, .aload_n 0, 1) rfl) rfl rfl (aw_iload_n (pc' := 79) (dt_X8_split 43 (78, .iload_n 2, 1) rfl) rfl rfl (aw_iload (pc' := 81) (dt_X8_split 44 (79, .iload 5, 2) rfl) rfl rfl (aw_callV0 (pc' := 84) (nc := nc) (ns := ns) (y2 := mX8_addNumber) (As := [.int x2, .int r52]) (rest := []) (a := 20) (dt_X8_split 45 (81, .invokevirtual 52, 3) rfl) ok_X8_addNumber ln_Tape_52 im_X8_addNumber se_X8_addNumber pr_X8_addNumber (Or.inl ⟨by decide, rfl⟩) rfl (Nat.le_of_ble_eq_true rfl) (Nat.le_of_ble_eq_true rfl) rfl (sk_20 hS51) h ?_))))
                    rintro v μ53 ⟨rfl, hS54, h⟩
                    refine aw_stk (st' := []) rfl ?_
                    refine aw_goto (tgt := 118) (dt_X8_split 46 (84, .goto 34, 3) rfl) (by decide) (aw_drop (ls' := [some (.ref 20), some (.ref a1), none, some (.int x3), none, some (.int r52)]) ⟨rfl, rfl, rfl, rfl, trivial⟩ ?_)
                    exact h
              · intro q37
                have h := h.2 q37
                refine aw_iconst (pc' := 13) (v := 1) (dt_X8_isLetter 6 (12, .iconst 1, 1) rfl) (by decide) rfl (aw_goto (tgt := 17) (dt_X8_isLetter 7 (13, .goto 4, 3) rfl) (by decide) (aw_iret (dt_X8_isLetter 9 (17, .ireturn, 1) rfl) rfl rfl (aw_stk (st' := [.int 1]) rfl (aw_if_eq_F (pc' := 44) (tgt := 62) (dt_X8_split 24 (41, .ifCond .eq 21, 3) rfl) (by decide) rfl (by decide) (aw_aload_n (pc' := 45) (dt_X8_split 25 (44, .aload_n 0, 1) rfl) rfl rfl (aw_iload_n (pc' := 46) (dt_X8_split 26 (45, .iload_n 2, 1) rfl) rfl rfl (aw_callV0 (pc' := 49) (nc := nc) (ns := ns) (y2 := mX8_endOfWord) (As := [.int x2]) (rest := []) (a := 20) (dt_X8_split 27 (46, .invokevirtual 39, 3) rfl) ok_X8_endOfWord ln_Tape_39 im_X8_endOfWord se_X8_endOfWord pr_X8_endOfWord (Or.inl ⟨by decide, rfl⟩) rfl (Nat.le_of_ble_eq_true rfl) (Nat.le_of_ble_eq_true rfl) rfl (sk_20 hS) h ?_)))))))
                rintro v μ55 ⟨r57, rfl, hS56, h⟩
                refine aw_stk (st' := [.int r57]) rfl ?_
                refine aw_istore (pc' := 51) (ls' := [some (.ref 20), some (.ref a1), some (.int x2), some (.int x3), some (.int (zI μ 21 x2.toNatClampNeg)), some (.int r57)]) (dt_X8_split 28 (49, .istore 5, 2) rfl) (by decide) rfl rfl (aw_aload_n (pc' := 52) (dt_X8_split 29 (51, .aload_n 0, 1) rfl) rfl rfl (aw_iload_n (pc' := 53) (dt_X8_split 30 (52, .iload_n 2, 1) rfl) rfl rfl (aw_iload (pc' := 55) (dt_X8_split 31 (53, .iload 5, 2) rfl) rfl rfl (aw_aload_n (pc' := 56) (dt_X8_split 32 (55, .aload_n 1, 1) rfl) rfl rfl (aw_callV0 (pc' := 59) (nc := nc) (ns := ns) (y2 := mX8_addWord) (As := [.int x2, .int r57, .ref a1]) (rest := []) (a := 20) (dt_X8_split 33 (56, .invokevirtual 42, 3) rfl) ok_X8_addWord ln_Tape_42 im_X8_addWord se_X8_addWord pr_X8_addWord (Or.inl ⟨by decide, rfl⟩) rfl (Nat.le_of_ble_eq_true rfl) (Nat.le_of_ble_eq_true rfl) rfl (sk_20 hS56) h ?_)))))
                rintro v μ58 ⟨rfl, hS59, h⟩
                refine aw_stk (st' := []) rfl ?_
                refine aw_goto (tgt := 118) (dt_X8_split 34 (59, .goto 59, 3) rfl) (by decide) (aw_drop (ls' := [some (.ref 20), some (.ref a1), none, some (.int x3), none, some (.int r57)]) ⟨rfl, rfl, rfl, rfl, trivial⟩ ?_)
                exact h

theorem t_X8_split_127 {E : ZE} {l : Launch} {d nc ns : Nat}  {μ : ZM} {K : Option Value → ZM → Prop} (hS : Stat μ) (h :
  (201 ≤ (zI μ 20 5) →
    K none μ) ∧
  (¬ 201 ≤ (zI μ 20 5) →
    (vp_in (zI μ 20 5) 201) ∧
    (vp_in (zI (sI μ 22 (zI μ 20 5).toNatClampNeg 23) 20 5) 201) ∧
    (vp_in (zI (sI (sI μ 22 (zI μ 20 5).toNatClampNeg 23) 23 (zI (sI μ 22 (zI μ 20 5).toNatClampNeg 23) 20 5).toNatClampNeg (zI μ 20 1)) 20 5) 201) ∧
    ∀ μ5, μ5 = (sI (sI (sI μ 22 (zI μ 20 5).toNatClampNeg 23) 23 (zI (sI μ 22 (zI μ 20 5).toNatClampNeg 23) 20 5).toNatClampNeg (zI μ 20 1)) 24 (zI (sI (sI μ 22 (zI μ 20 5).toNatClampNeg 23) 23 (zI (sI μ 22 (zI μ 20 5).toNatClampNeg 23) 20 5).toNatClampNeg (zI μ 20 1)) 20 5).toNatClampNeg 0) →
    K none (sI μ5 20 5 ((zI μ5 20 5) + 1)))) : AW E l (d + 7) nc ns mX8_split 127 [some (.ref 20), none, none, none, none, none] [] μ K := by
  refine aw_aload_n (pc' := 128) (dt_X8_split 66 (127, .aload_n 0, 1) rfl) rfl rfl (aw_bipush (pc' := 130) (v := 23) (dt_X8_split 67 (128, .bipush 23, 2) rfl) (by decide) rfl (aw_aload_n (pc' := 131) (dt_X8_split 68 (130, .aload_n 0, 1) rfl) rfl rfl (aw_getI (pc' := 134) (dt_X8_split 69 (131, .getfield 24, 3) rfl) fl_Tape_24 rfl rfl (sk_20 hS) (aw_iconst (pc' := 135) (v := 0) (dt_X8_split 70 (134, .iconst 0, 1) rfl) (by decide) rfl (aw_inV (pc' := 138) (nc1 := 0) (ns1 := 0) (nc := nc) (ns := ns) (ls' := [some (.ref 20), some (.int 23), some (.int (zI μ 20 1)), some (.int 0)]) (y2 := mX8_add) (As := [.int 23, .int (zI μ 20 1), .int 0]) (rest := []) (a := 20) (dt_X8_split 71 (135, .invokevirtual 65, 3) rfl) ok_X8_add ln_Tape_65 im_X8_add se_X8_add pr_X8_add (Or.inl ⟨by decide, rfl⟩) rfl (Nat.le_of_ble_eq_true rfl) (Nat.le_of_ble_eq_true rfl) rfl rfl (sk_20 hS) (aw_aload_n (pc' := 1) (dt_X8_add 0 (0, .aload_n 0, 1) rfl) rfl rfl (aw_getI (pc' := 4) (dt_X8_add 1 (1, .getfield 28, 3) rfl) fl_Tape_28 rfl rfl (sk_20 hS) (aw_aload_n (pc' := 5) (dt_X8_add 2 (4, .aload_n 0, 1) rfl) rfl rfl (aw_getAs (pc' := 8) (dt_X8_add 3 (5, .getfield 15, 3) rfl) fl_Tape_15 rfl rfl (sk_20 hS) (sa_20_2 hS) (aw_alens (pc' := 9) (n := 201) (v := 201) (dt_X8_add 4 (8, .arraylength, 1) rfl) (by decide) (by decide) rfl (sk_22 hS) (sl_22 hS) (by decide) (aw_icmp_ge (pc' := 12) (tgt := 52) (dt_X8_add 5 (9, .if_icmp .ge 43, 3) rfl) (by decide) rfl ?_ ?_)))))))))))
  · intro q1
    have h := h.1 q1
    refine aw_ret (dt_X8_add 30 (52, .return_, 1) rfl) rfl (aw_stk (st' := []) rfl (aw_ret (dt_X8_split 72 (138, .return_, 1) rfl) rfl ?_))
    exact h
  · intro q1
    have h := h.2 q1
    obtain ⟨g2, h⟩ := h
    obtain ⟨g3, h⟩ := h
    obtain ⟨g4, h⟩ := h
    refine aw_aload_n (pc' := 13) (dt_X8_add 6 (12, .aload_n 0, 1) rfl) rfl rfl (aw_getAs (pc' := 16) (dt_X8_add 7 (13, .getfield 15, 3) rfl) fl_Tape_15 rfl rfl (sk_20 hS) (sa_20_2 hS) (aw_aload_n (pc' := 17) (dt_X8_add 8 (16, .aload_n 0, 1) rfl) rfl rfl (aw_getI (pc' := 20) (dt_X8_add 9 (17, .getfield 28, 3) rfl) fl_Tape_28 rfl rfl (sk_20 hS) (aw_iload_n (pc' := 21) (dt_X8_add 10 (20, .iload_n 1, 1) rfl) rfl rfl (aw_iast (pc' := 22) (dt_X8_add 11 (21, .iastore, 1) rfl) rfl (sk_22 hS) (by decide) (vin_eq (sl_22 hS) g2) (aw_aload_n (pc' := 23) (dt_X8_add 12 (22, .aload_n 0, 1) rfl) rfl rfl (aw_getAs (pc' := 26) (dt_X8_add 13 (23, .getfield 18, 3) rfl) fl_Tape_18 rfl rfl (sk_20 hS.wI) (sa_20_3 hS.wI) (aw_aload_n (pc' := 27) (dt_X8_add 14 (26, .aload_n 0, 1) rfl) rfl rfl (aw_getI (pc' := 30) (dt_X8_add 15 (27, .getfield 28, 3) rfl) fl_Tape_28 rfl rfl (sk_20 hS.wI) (aw_iload_n (pc' := 31) (dt_X8_add 16 (30, .iload_n 2, 1) rfl) rfl rfl (aw_iast (pc' := 32) (dt_X8_add 17 (31, .iastore, 1) rfl) rfl (sk_23 hS.wI) (by decide) (vin_eq (sl_23 hS.wI) g3) (aw_aload_n (pc' := 33) (dt_X8_add 18 (32, .aload_n 0, 1) rfl) rfl rfl (aw_getAs (pc' := 36) (dt_X8_add 19 (33, .getfield 21, 3) rfl) fl_Tape_21 rfl rfl (sk_20 hS.wI.wI) (sa_20_4 hS.wI.wI) (aw_aload_n (pc' := 37) (dt_X8_add 20 (36, .aload_n 0, 1) rfl) rfl rfl (aw_getI (pc' := 40) (dt_X8_add 21 (37, .getfield 28, 3) rfl) fl_Tape_28 rfl rfl (sk_20 hS.wI.wI) (aw_iload_n (pc' := 41) (dt_X8_add 22 (40, .iload_n 3, 1) rfl) rfl rfl (aw_iast (pc' := 42) (dt_X8_add 23 (41, .iastore, 1) rfl) rfl (sk_24 hS.wI.wI) (by decide) (vin_eq (sl_24 hS.wI.wI) g4) ?_)))))))))))))))))
    refine aw_mem (fun μ5 eμ6 => ?_)
    have h := h μ5 eμ6
    have hS7 : Stat μ5 := by rw [eμ6]; exact hS.wI.wI.wI
    refine aw_aload_n (pc' := 43) (dt_X8_add 24 (42, .aload_n 0, 1) rfl) rfl rfl (aw_dup (pc' := 44) (dt_X8_add 25 (43, .dup, 1) rfl) rfl rfl (aw_getI (pc' := 47) (dt_X8_add 26 (44, .getfield 28, 3) rfl) fl_Tape_28 rfl rfl (sk_20 hS7) (aw_iconst (pc' := 48) (v := 1) (dt_X8_add 27 (47, .iconst 1, 1) rfl) (by decide) rfl (aw_iadd (pc' := 49) (dt_X8_add 28 (48, .iadd, 1) rfl) rfl (aw_putI (pc' := 52) (dt_X8_add 29 (49, .putfield 28, 3) rfl) fl_Tape_28 rfl (by decide +kernel) rfl (sk_20 hS7) (aw_ret (dt_X8_add 30 (52, .return_, 1) rfl) rfl (aw_stk (st' := []) rfl (aw_ret (dt_X8_split 72 (138, .return_, 1) rfl) rfl ?_))))))))
    exact h

theorem t_X8_split_113 {E : ZE} {l : Launch} {d nc ns : Nat} {a1 : Nat} {x2 : Int32} {x3 : Int32} {x5 : Int32} {y0 : Int32} {μ : ZM} {K : Option Value → ZM → Prop} (hS : Stat μ) (h :
  (201 ≤ (zI μ 20 5) →
    AW E l (d + 7) nc ns mX8_split 118 [some (.ref 20), some (.ref a1), none, some (.int x3), none, some (.int x5)] [] μ K) ∧
  (¬ 201 ≤ (zI μ 20 5) →
    (vp_in (zI μ 20 5) 201) ∧
    (vp_in (zI (sI μ 22 (zI μ 20 5).toNatClampNeg y0) 20 5) 201) ∧
    (vp_in (zI (sI (sI μ 22 (zI μ 20 5).toNatClampNeg y0) 23 (zI (sI μ 22 (zI μ 20 5).toNatClampNeg y0) 20 5).toNatClampNeg x2) 20 5) 201) ∧
    ∀ μ5, μ5 = (sI (sI (sI μ 22 (zI μ 20 5).toNatClampNeg y0) 23 (zI (sI μ 22 (zI μ 20 5).toNatClampNeg y0) 20 5).toNatClampNeg x2) 24 (zI (sI (sI μ 22 (zI μ 20 5).toNatClampNeg y0) 23 (zI (sI μ 22 (zI μ 20 5).toNatClampNeg y0) 20 5).toNatClampNeg x2) 20 5).toNatClampNeg 0) →
    AW E l (d + 7) nc ns mX8_split 118 [some (.ref 20), some (.ref a1), none, some (.int x3), none, some (.int x5)] [] (sI μ5 20 5 ((zI μ5 20 5) + 1)) K)) : AW E l (d + 7) nc ns mX8_split 113 [some (.ref 20), some (.ref a1), some (.int x2), some (.int x3), none, some (.int x5)] [.int y0, .ref 20] μ K := by
  refine aw_iload_n (pc' := 114) (dt_X8_split 59 (113, .iload_n 2, 1) rfl) rfl rfl (aw_iconst (pc' := 115) (v := 0) (dt_X8_split 60 (114, .iconst 0, 1) rfl) (by decide) rfl (aw_inV (pc' := 118) (nc1 := 0) (ns1 := 0) (nc := nc) (ns := ns) (ls' := [some (.ref 20), some (.int y0), some (.int x2), some (.int 0)]) (y2 := mX8_add) (As := [.int y0, .int x2, .int 0]) (rest := []) (a := 20) (dt_X8_split 61 (115, .invokevirtual 65, 3) rfl) ok_X8_add ln_Tape_65 im_X8_add se_X8_add pr_X8_add (Or.inl ⟨by decide, rfl⟩) rfl (Nat.le_of_ble_eq_true rfl) (Nat.le_of_ble_eq_true rfl) rfl rfl (sk_20 hS) (aw_aload_n (pc' := 1) (dt_X8_add 0 (0, .aload_n 0, 1) rfl) rfl rfl (aw_getI (pc' := 4) (dt_X8_add 1 (1, .getfield 28, 3) rfl) fl_Tape_28 rfl rfl (sk_20 hS) (aw_aload_n (pc' := 5) (dt_X8_add 2 (4, .aload_n 0, 1) rfl) rfl rfl (aw_getAs (pc' := 8) (dt_X8_add 3 (5, .getfield 15, 3) rfl) fl_Tape_15 rfl rfl (sk_20 hS) (sa_20_2 hS) (aw_alens (pc' := 9) (n := 201) (v := 201) (dt_X8_add 4 (8, .arraylength, 1) rfl) (by decide) (by decide) rfl (sk_22 hS) (sl_22 hS) (by decide) (aw_icmp_ge (pc' := 12) (tgt := 52) (dt_X8_add 5 (9, .if_icmp .ge 43, 3) rfl) (by decide) rfl ?_ ?_))))))))
  · intro q1
    have h := h.1 q1
    refine aw_ret (dt_X8_add 30 (52, .return_, 1) rfl) rfl (aw_stk (st' := []) rfl (aw_drop (ls' := [some (.ref 20), some (.ref a1), none, some (.int x3), none, some (.int x5)]) ⟨rfl, rfl, rfl, rfl, trivial⟩ ?_))
    exact h
  · intro q1
    have h := h.2 q1
    obtain ⟨g2, h⟩ := h
    obtain ⟨g3, h⟩ := h
    obtain ⟨g4, h⟩ := h
    refine aw_aload_n (pc' := 13) (dt_X8_add 6 (12, .aload_n 0, 1) rfl) rfl rfl (aw_getAs (pc' := 16) (dt_X8_add 7 (13, .getfield 15, 3) rfl) fl_Tape_15 rfl rfl (sk_20 hS) (sa_20_2 hS) (aw_aload_n (pc' := 17) (dt_X8_add 8 (16, .aload_n 0, 1) rfl) rfl rfl (aw_getI (pc' := 20) (dt_X8_add 9 (17, .getfield 28, 3) rfl) fl_Tape_28 rfl rfl (sk_20 hS) (aw_iload_n (pc' := 21) (dt_X8_add 10 (20, .iload_n 1, 1) rfl) rfl rfl (aw_iast (pc' := 22) (dt_X8_add 11 (21, .iastore, 1) rfl) rfl (sk_22 hS) (by decide) (vin_eq (sl_22 hS) g2) (aw_aload_n (pc' := 23) (dt_X8_add 12 (22, .aload_n 0, 1) rfl) rfl rfl (aw_getAs (pc' := 26) (dt_X8_add 13 (23, .getfield 18, 3) rfl) fl_Tape_18 rfl rfl (sk_20 hS.wI) (sa_20_3 hS.wI) (aw_aload_n (pc' := 27) (dt_X8_add 14 (26, .aload_n 0, 1) rfl) rfl rfl (aw_getI (pc' := 30) (dt_X8_add 15 (27, .getfield 28, 3) rfl) fl_Tape_28 rfl rfl (sk_20 hS.wI) (aw_iload_n (pc' := 31) (dt_X8_add 16 (30, .iload_n 2, 1) rfl) rfl rfl (aw_iast (pc' := 32) (dt_X8_add 17 (31, .iastore, 1) rfl) rfl (sk_23 hS.wI) (by decide) (vin_eq (sl_23 hS.wI) g3) (aw_aload_n (pc' := 33) (dt_X8_add 18 (32, .aload_n 0, 1) rfl) rfl rfl (aw_getAs (pc' := 36) (dt_X8_add 19 (33, .getfield 21, 3) rfl) fl_Tape_21 rfl rfl (sk_20 hS.wI.wI) (sa_20_4 hS.wI.wI) (aw_aload_n (pc' := 37) (dt_X8_add 20 (36, .aload_n 0, 1) rfl) rfl rfl (aw_getI (pc' := 40) (dt_X8_add 21 (37, .getfield 28, 3) rfl) fl_Tape_28 rfl rfl (sk_20 hS.wI.wI) (aw_iload_n (pc' := 41) (dt_X8_add 22 (40, .iload_n 3, 1) rfl) rfl rfl (aw_iast (pc' := 42) (dt_X8_add 23 (41, .iastore, 1) rfl) rfl (sk_24 hS.wI.wI) (by decide) (vin_eq (sl_24 hS.wI.wI) g4) ?_)))))))))))))))))
    refine aw_mem (fun μ5 eμ6 => ?_)
    have h := h μ5 eμ6
    have hS7 : Stat μ5 := by rw [eμ6]; exact hS.wI.wI.wI
    refine aw_aload_n (pc' := 43) (dt_X8_add 24 (42, .aload_n 0, 1) rfl) rfl rfl (aw_dup (pc' := 44) (dt_X8_add 25 (43, .dup, 1) rfl) rfl rfl (aw_getI (pc' := 47) (dt_X8_add 26 (44, .getfield 28, 3) rfl) fl_Tape_28 rfl rfl (sk_20 hS7) (aw_iconst (pc' := 48) (v := 1) (dt_X8_add 27 (47, .iconst 1, 1) rfl) (by decide) rfl (aw_iadd (pc' := 49) (dt_X8_add 28 (48, .iadd, 1) rfl) rfl (aw_putI (pc' := 52) (dt_X8_add 29 (49, .putfield 28, 3) rfl) fl_Tape_28 rfl (by decide +kernel) rfl (sk_20 hS7) (aw_ret (dt_X8_add 30 (52, .return_, 1) rfl) rfl (aw_stk (st' := []) rfl (aw_drop (ls' := [some (.ref 20), some (.ref a1), none, some (.int x3), none, some (.int x5)]) ⟨rfl, rfl, rfl, rfl, trivial⟩ ?_))))))))
    exact h

theorem t_X8_split_118 {E : ZE} {l : Launch} {d nc ns : Nat} {a1 : Nat} {x3 : Int32} {x5 : Int32} {μ : ZM} {K : Option Value → ZM → Prop} (hS : Stat μ) (h :
  AW E l (d + 7) nc ns mX8_split 9 [some (.ref 20), some (.ref a1), some (.int x5), some (.int (x3 + 1)), none, none] [] μ K) : AW E l (d + 7) nc ns mX8_split 118 [some (.ref 20), some (.ref a1), none, some (.int x3), none, some (.int x5)] [] μ K := by
  refine aw_iload (pc' := 120) (dt_X8_split 62 (118, .iload 5, 2) rfl) rfl rfl (aw_istore_n (pc' := 121) (ls' := [some (.ref 20), some (.ref a1), some (.int x5), some (.int x3), none, some (.int x5)]) (dt_X8_split 63 (120, .istore_n 2, 1) rfl) (by decide) rfl rfl (aw_iinc (pc' := 124) (v := 1) (ls' := [some (.ref 20), some (.ref a1), some (.int x5), some (.int (x3 + 1)), none, some (.int x5)]) (dt_X8_split 64 (121, .iinc 3 1, 3) rfl) rfl (by decide) (by decide) rfl rfl (aw_goto (tgt := 9) (dt_X8_split 65 (124, .goto (-115), 3) rfl) (by decide) (aw_drop (ls' := [some (.ref 20), some (.ref a1), some (.int x5), some (.int (x3 + 1)), none, none]) ⟨rfl, rfl, rfl, rfl, trivial⟩ ?_))))
  exact h

theorem t_X8_endOfWord {E : ZE} {l : Launch} {d nc ns : Nat} {x1 : Int32} {μ : ZM} {K : Option Value → ZM → Prop} (hS : Stat μ) (h :
  AW E l (d + 1) nc ns mX8_endOfWord 2 [some (.ref 20), none, some (.int x1)] [] μ K) : AW E l (d + 1) nc ns mX8_endOfWord 0 [some (.ref 20), some (.int x1), none] [] μ K := by
  refine aw_iload_n (pc' := 1) (dt_X8_endOfWord 0 (0, .iload_n 1, 1) rfl) rfl rfl (aw_istore_n (pc' := 2) (ls' := [some (.ref 20), some (.int x1), some (.int x1)]) (dt_X8_endOfWord 1 (1, .istore_n 2, 1) rfl) (by decide) rfl rfl (aw_drop (ls' := [some (.ref 20), none, some (.int x1)]) ⟨rfl, rfl, trivial⟩ ?_))
  exact h

theorem t_X8_endOfWord_2 {E : ZE} {l : Launch} {d nc ns : Nat} {x2 : Int32} {μ : ZM} {K : Option Value → ZM → Prop} (hS : Stat μ) (h :
  ((zI μ 20 1) ≤ x2 →
    K (some (.int x2)) μ) ∧
  (¬ (zI μ 20 1) ≤ x2 →
    (x2 < 0 →
      K (some (.int x2)) μ) ∧
    (¬ x2 < 0 →
      ((zI μ 20 1) ≤ x2 →
        K (some (.int x2)) μ) ∧
      (¬ (zI μ 20 1) ≤ x2 →
        (200 ≤ x2 →
          K (some (.int x2)) μ) ∧
        (¬ 200 ≤ x2 →
          (vp_in x2 200) ∧
          ((zI μ 21 x2.toNatClampNeg) < 97 →
            K (some (.int x2)) μ) ∧
          (¬ (zI μ 21 x2.toNatClampNeg) < 97 →
            (122 < (zI μ 21 x2.toNatClampNeg) →
              K (some (.int x2)) μ) ∧
            (¬ 122 < (zI μ 21 x2.toNatClampNeg) →
              AW E l (d + 1) nc ns mX8_endOfWord 2 [some (.ref 20), none, some (.int (x2 + 1))] [] μ K))))))) : AW E l (d + 1) nc ns mX8_endOfWord 2 [some (.ref 20), none, some (.int x2)] [] μ K := by
  refine aw_iload_n (pc' := 3) (dt_X8_endOfWord 2 (2, .iload_n 2, 1) rfl) rfl rfl (aw_aload_n (pc' := 4) (dt_X8_endOfWord 3 (3, .aload_n 0, 1) rfl) rfl rfl (aw_getI (pc' := 7) (dt_X8_endOfWord 4 (4, .getfield 24, 3) rfl) fl_Tape_24 rfl rfl (sk_20 hS) (aw_icmp_ge (pc' := 10) (tgt := 27) (dt_X8_endOfWord 5 (7, .if_icmp .ge 20, 3) rfl) (by decide) rfl ?_ ?_)))
  · intro q1
    have h := h.1 q1
    refine aw_iload_n (pc' := 28) (dt_X8_endOfWord 13 (27, .iload_n 2, 1) rfl) rfl rfl (aw_iret (dt_X8_endOfWord 14 (28, .ireturn, 1) rfl) rfl rfl ?_)
    exact h
  · intro q1
    have h := h.2 q1
    refine aw_aload_n (pc' := 11) (dt_X8_endOfWord 6 (10, .aload_n 0, 1) rfl) rfl rfl (aw_iload_n (pc' := 12) (dt_X8_endOfWord 7 (11, .iload_n 2, 1) rfl) rfl rfl (aw_inV (pc' := 15) (nc1 := 0) (ns1 := 0) (nc := nc) (ns := ns) (ls' := [some (.ref 20), some (.int x2)]) (y2 := mX8_byteAt) (As := [.int x2]) (rest := []) (a := 20) (dt_X8_endOfWord 8 (12, .invokevirtual 31, 3) rfl) ok_X8_byteAt ln_Tape_31 im_X8_byteAt se_X8_byteAt pr_X8_byteAt (Or.inl ⟨by decide, rfl⟩) rfl (Nat.le_of_ble_eq_true rfl) (Nat.le_of_ble_eq_true rfl) rfl rfl (sk_20 hS) (aw_iload_n (pc' := 1) (dt_X8_byteAt 0 (0, .iload_n 1, 1) rfl) rfl rfl (aw_if_lt (pc' := 4) (tgt := 30) (dt_X8_byteAt 1 (1, .ifCond .lt 29, 3) rfl) (by decide) rfl ?_ ?_))))
    · intro q2
      have h := h.1 q2
      refine aw_iconst (pc' := 31) (v := (-1)) (dt_X8_byteAt 16 (30, .iconst (-1), 1) rfl) (by decide) rfl (aw_iret (dt_X8_byteAt 17 (31, .ireturn, 1) rfl) rfl rfl (aw_stk (st' := [.int (-1)]) rfl (aw_inS (pc' := 18) (nc1 := 0) (ns1 := 0) (nc := nc) (ns := ns) (ls' := [some (.int (-1))]) (y2 := mX8_isLetter) (As := [.int (-1)]) (rest := []) (dt_X8_endOfWord 9 (15, .invokestatic 35, 3) rfl) ok_X8_isLetter ln_Tape_35 sm_X8_isLetter pr_X8_isLetter rfl (Nat.le_of_ble_eq_true rfl) (Nat.le_of_ble_eq_true rfl) rfl rfl (aw_iload_n (pc' := 1) (dt_X8_isLetter 0 (0, .iload_n 0, 1) rfl) rfl rfl (aw_bipush (pc' := 3) (v := 97) (dt_X8_isLetter 1 (1, .bipush 97, 2) rfl) (by decide) rfl (aw_icmp_lt_T (pc' := 6) (tgt := 16) (dt_X8_isLetter 2 (3, .if_icmp .lt 13, 3) rfl) (by decide) rfl (by decide) (aw_iconst (pc' := 17) (v := 0) (dt_X8_isLetter 8 (16, .iconst 0, 1) rfl) (by decide) rfl (aw_iret (dt_X8_isLetter 9 (17, .ireturn, 1) rfl) rfl rfl (aw_stk (st' := [.int 0]) rfl (aw_if_eq_T (pc' := 21) (tgt := 27) (dt_X8_endOfWord 10 (18, .ifCond .eq 9, 3) rfl) (by decide) rfl (by decide) (aw_iload_n (pc' := 28) (dt_X8_endOfWord 13 (27, .iload_n 2, 1) rfl) rfl rfl (aw_iret (dt_X8_endOfWord 14 (28, .ireturn, 1) rfl) rfl rfl ?_))))))))))))
      exact h
    · intro q2
      have h := h.2 q2
      refine aw_iload_n (pc' := 5) (dt_X8_byteAt 2 (4, .iload_n 1, 1) rfl) rfl rfl (aw_aload_n (pc' := 6) (dt_X8_byteAt 3 (5, .aload_n 0, 1) rfl) rfl rfl (aw_getI (pc' := 9) (dt_X8_byteAt 4 (6, .getfield 24, 3) rfl) fl_Tape_24 rfl rfl (sk_20 hS) (aw_icmp_ge (pc' := 12) (tgt := 30) (dt_X8_byteAt 5 (9, .if_icmp .ge 21, 3) rfl) (by decide) rfl ?_ ?_)))
      · intro q3
        have h := h.1 q3
        refine aw_iconst (pc' := 31) (v := (-1)) (dt_X8_byteAt 16 (30, .iconst (-1), 1) rfl) (by decide) rfl (aw_iret (dt_X8_byteAt 17 (31, .ireturn, 1) rfl) rfl rfl (aw_stk (st' := [.int (-1)]) rfl (aw_inS (pc' := 18) (nc1 := 0) (ns1 := 0) (nc := nc) (ns := ns) (ls' := [some (.int (-1))]) (y2 := mX8_isLetter) (As := [.int (-1)]) (rest := []) (dt_X8_endOfWord 9 (15, .invokestatic 35, 3) rfl) ok_X8_isLetter ln_Tape_35 sm_X8_isLetter pr_X8_isLetter rfl (Nat.le_of_ble_eq_true rfl) (Nat.le_of_ble_eq_true rfl) rfl rfl (aw_iload_n (pc' := 1) (dt_X8_isLetter 0 (0, .iload_n 0, 1) rfl) rfl rfl (aw_bipush (pc' := 3) (v := 97) (dt_X8_isLetter 1 (1, .bipush 97, 2) rfl) (by decide) rfl (aw_icmp_lt_T (pc' := 6) (tgt := 16) (dt_X8_isLetter 2 (3, .if_icmp .lt 13, 3) rfl) (by decide) rfl (by decide) (aw_iconst (pc' := 17) (v := 0) (dt_X8_isLetter 8 (16, .iconst 0, 1) rfl) (by decide) rfl (aw_iret (dt_X8_isLetter 9 (17, .ireturn, 1) rfl) rfl rfl (aw_stk (st' := [.int 0]) rfl (aw_if_eq_T (pc' := 21) (tgt := 27) (dt_X8_endOfWord 10 (18, .ifCond .eq 9, 3) rfl) (by decide) rfl (by decide) (aw_iload_n (pc' := 28) (dt_X8_endOfWord 13 (27, .iload_n 2, 1) rfl) rfl rfl (aw_iret (dt_X8_endOfWord 14 (28, .ireturn, 1) rfl) rfl rfl ?_))))))))))))
        exact h
      · intro q3
        have h := h.2 q3
        refine aw_iload_n (pc' := 13) (dt_X8_byteAt 6 (12, .iload_n 1, 1) rfl) rfl rfl (aw_aload_n (pc' := 14) (dt_X8_byteAt 7 (13, .aload_n 0, 1) rfl) rfl rfl (aw_getAs (pc' := 17) (dt_X8_byteAt 8 (14, .getfield 9, 3) rfl) fl_Tape_9 rfl rfl (sk_20 hS) (sa_20_0 hS) (aw_alens (pc' := 18) (n := 200) (v := 200) (dt_X8_byteAt 9 (17, .arraylength, 1) rfl) (by decide) (by decide) rfl (sk_21 hS) (sl_21 hS) (by decide) (aw_icmp_ge (pc' := 21) (tgt := 30) (dt_X8_byteAt 10 (18, .if_icmp .ge 12, 3) rfl) (by decide) rfl ?_ ?_))))
        · intro q4
          have h := h.1 q4
          refine aw_iconst (pc' := 31) (v := (-1)) (dt_X8_byteAt 16 (30, .iconst (-1), 1) rfl) (by decide) rfl (aw_iret (dt_X8_byteAt 17 (31, .ireturn, 1) rfl) rfl rfl (aw_stk (st' := [.int (-1)]) rfl (aw_inS (pc' := 18) (nc1 := 0) (ns1 := 0) (nc := nc) (ns := ns) (ls' := [some (.int (-1))]) (y2 := mX8_isLetter) (As := [.int (-1)]) (rest := []) (dt_X8_endOfWord 9 (15, .invokestatic 35, 3) rfl) ok_X8_isLetter ln_Tape_35 sm_X8_isLetter pr_X8_isLetter rfl (Nat.le_of_ble_eq_true rfl) (Nat.le_of_ble_eq_true rfl) rfl rfl (aw_iload_n (pc' := 1) (dt_X8_isLetter 0 (0, .iload_n 0, 1) rfl) rfl rfl (aw_bipush (pc' := 3) (v := 97) (dt_X8_isLetter 1 (1, .bipush 97, 2) rfl) (by decide) rfl (aw_icmp_lt_T (pc' := 6) (tgt := 16) (dt_X8_isLetter 2 (3, .if_icmp .lt 13, 3) rfl) (by decide) rfl (by decide) (aw_iconst (pc' := 17) (v := 0) (dt_X8_isLetter 8 (16, .iconst 0, 1) rfl) (by decide) rfl (aw_iret (dt_X8_isLetter 9 (17, .ireturn, 1) rfl) rfl rfl (aw_stk (st' := [.int 0]) rfl (aw_if_eq_T (pc' := 21) (tgt := 27) (dt_X8_endOfWord 10 (18, .ifCond .eq 9, 3) rfl) (by decide) rfl (by decide) (aw_iload_n (pc' := 28) (dt_X8_endOfWord 13 (27, .iload_n 2, 1) rfl) rfl rfl (aw_iret (dt_X8_endOfWord 14 (28, .ireturn, 1) rfl) rfl rfl ?_))))))))))))
          exact h
        · intro q4
          have h := h.2 q4
          obtain ⟨g5, h⟩ := h
          refine aw_aload_n (pc' := 22) (dt_X8_byteAt 11 (21, .aload_n 0, 1) rfl) rfl rfl (aw_getAs (pc' := 25) (dt_X8_byteAt 12 (22, .getfield 9, 3) rfl) fl_Tape_9 rfl rfl (sk_20 hS) (sa_20_0 hS) (aw_iload_n (pc' := 26) (dt_X8_byteAt 13 (25, .iload_n 1, 1) rfl) rfl rfl (aw_iald (pc' := 27) (dt_X8_byteAt 14 (26, .iaload, 1) rfl) rfl (sk_21 hS) (vin_eq (sl_21 hS) g5) (aw_goto (tgt := 31) (dt_X8_byteAt 15 (27, .goto 4, 3) rfl) (by decide) (aw_iret (dt_X8_byteAt 17 (31, .ireturn, 1) rfl) rfl rfl (aw_stk (st' := [.int (zI μ 21 x2.toNatClampNeg)]) rfl (aw_inS (pc' := 18) (nc1 := 0) (ns1 := 0) (nc := nc) (ns := ns) (ls' := [some (.int (zI μ 21 x2.toNatClampNeg))]) (y2 := mX8_isLetter) (As := [.int (zI μ 21 x2.toNatClampNeg)]) (rest := []) (dt_X8_endOfWord 9 (15, .invokestatic 35, 3) rfl) ok_X8_isLetter ln_Tape_35 sm_X8_isLetter pr_X8_isLetter rfl (Nat.le_of_ble_eq_true rfl) (Nat.le_of_ble_eq_true rfl) rfl rfl (aw_iload_n (pc' := 1) (dt_X8_isLetter 0 (0, .iload_n 0, 1) rfl) rfl rfl (aw_bipush (pc' := 3) (v := 97) (dt_X8_isLetter 1 (1, .bipush 97, 2) rfl) (by decide) rfl (aw_icmp_lt (pc' := 6) (tgt := 16) (dt_X8_isLetter 2 (3, .if_icmp .lt 13, 3) rfl) (by decide) rfl ?_ ?_))))))))))
          · intro q6
            have h := h.1 q6
            refine aw_iconst (pc' := 17) (v := 0) (dt_X8_isLetter 8 (16, .iconst 0, 1) rfl) (by decide) rfl (aw_iret (dt_X8_isLetter 9 (17, .ireturn, 1) rfl) rfl rfl (aw_stk (st' := [.int 0]) rfl (aw_if_eq_T (pc' := 21) (tgt := 27) (dt_X8_endOfWord 10 (18, .ifCond .eq 9, 3) rfl) (by decide) rfl (by decide) (aw_iload_n (pc' := 28) (dt_X8_endOfWord 13 (27, .iload_n 2, 1) rfl) rfl rfl (aw_iret (dt_X8_endOfWord 14 (28, .ireturn, 1) rfl) rfl rfl ?_)))))
            exact h
          · intro q6
            have h := h.2 q6
            refine aw_iload_n (pc' := 7) (dt_X8_isLetter 3 (6, .iload_n 0, 1) rfl) rfl rfl (aw_bipush (pc' := 9) (v := 122) (dt_X8_isLetter 4 (7, .bipush 122, 2) rfl) (by decide) rfl (aw_icmp_gt (pc' := 12) (tgt := 16) (dt_X8_isLetter 5 (9, .if_icmp .gt 7, 3) rfl) (by decide) rfl ?_ ?_))
            · intro q7
              have h := h.1 q7
              refine aw_iconst (pc' := 17) (v := 0) (dt_X8_isLetter 8 (16, .iconst 0, 1) rfl) (by decide) rfl (aw_iret (dt_X8_isLetter 9 (17, .ireturn, 1) rfl) rfl rfl (aw_stk (st' := [.int 0]) rfl (aw_if_eq_T (pc' := 21) (tgt := 27) (dt_X8_endOfWord 10 (18, .ifCond .eq 9, 3) rfl) (by decide) rfl (by decide) (aw_iload_n (pc' := 28) (dt_X8_endOfWord 13 (27, .iload_n 2, 1) rfl) rfl rfl (aw_iret (dt_X8_endOfWord 14 (28, .ireturn, 1) rfl) rfl rfl ?_)))))
              exact h
            · intro q7
              have h := h.2 q7
              refine aw_iconst (pc' := 13) (v := 1) (dt_X8_isLetter 6 (12, .iconst 1, 1) rfl) (by decide) rfl (aw_goto (tgt := 17) (dt_X8_isLetter 7 (13, .goto 4, 3) rfl) (by decide) (aw_iret (dt_X8_isLetter 9 (17, .ireturn, 1) rfl) rfl rfl (aw_stk (st' := [.int 1]) rfl (aw_if_eq_F (pc' := 21) (tgt := 27) (dt_X8_endOfWord 10 (18, .ifCond .eq 9, 3) rfl) (by decide) rfl (by decide) (aw_iinc (pc' := 24) (v := 1) (ls' := [some (.ref 20), none, some (.int (x2 + 1))]) (dt_X8_endOfWord 11 (21, .iinc 2 1, 3) rfl) rfl (by decide) (by decide) rfl rfl (aw_goto (tgt := 2) (dt_X8_endOfWord 12 (24, .goto (-22), 3) rfl) (by decide) ?_))))))
              exact h

theorem t_X8_endOfNumber {E : ZE} {l : Launch} {d nc ns : Nat} {x1 : Int32} {μ : ZM} {K : Option Value → ZM → Prop} (hS : Stat μ) (h :
  AW E l (d + 1) nc ns mX8_endOfNumber 2 [some (.ref 20), none, some (.int x1)] [] μ K) : AW E l (d + 1) nc ns mX8_endOfNumber 0 [some (.ref 20), some (.int x1), none] [] μ K := by
  refine aw_iload_n (pc' := 1) (dt_X8_endOfNumber 0 (0, .iload_n 1, 1) rfl) rfl rfl (aw_istore_n (pc' := 2) (ls' := [some (.ref 20), some (.int x1), some (.int x1)]) (dt_X8_endOfNumber 1 (1, .istore_n 2, 1) rfl) (by decide) rfl rfl (aw_drop (ls' := [some (.ref 20), none, some (.int x1)]) ⟨rfl, rfl, trivial⟩ ?_))
  exact h

theorem t_X8_endOfNumber_2 {E : ZE} {l : Launch} {d nc ns : Nat} {x2 : Int32} {μ : ZM} {K : Option Value → ZM → Prop} (hS : Stat μ) (h :
  ((zI μ 20 1) ≤ x2 →
    K (some (.int x2)) μ) ∧
  (¬ (zI μ 20 1) ≤ x2 →
    (x2 < 0 →
      K (some (.int x2)) μ) ∧
    (¬ x2 < 0 →
      ((zI μ 20 1) ≤ x2 →
        K (some (.int x2)) μ) ∧
      (¬ (zI μ 20 1) ≤ x2 →
        (200 ≤ x2 →
          K (some (.int x2)) μ) ∧
        (¬ 200 ≤ x2 →
          (vp_in x2 200) ∧
          ((zI μ 21 x2.toNatClampNeg) < 48 →
            K (some (.int x2)) μ) ∧
          (¬ (zI μ 21 x2.toNatClampNeg) < 48 →
            (57 < (zI μ 21 x2.toNatClampNeg) →
              K (some (.int x2)) μ) ∧
            (¬ 57 < (zI μ 21 x2.toNatClampNeg) →
              AW E l (d + 1) nc ns mX8_endOfNumber 2 [some (.ref 20), none, some (.int (x2 + 1))] [] μ K))))))) : AW E l (d + 1) nc ns mX8_endOfNumber 2 [some (.ref 20), none, some (.int x2)] [] μ K := by
  refine aw_iload_n (pc' := 3) (dt_X8_endOfNumber 2 (2, .iload_n 2, 1) rfl) rfl rfl (aw_aload_n (pc' := 4) (dt_X8_endOfNumber 3 (3, .aload_n 0, 1) rfl) rfl rfl (aw_getI (pc' := 7) (dt_X8_endOfNumber 4 (4, .getfield 24, 3) rfl) fl_Tape_24 rfl rfl (sk_20 hS) (aw_icmp_ge (pc' := 10) (tgt := 27) (dt_X8_endOfNumber 5 (7, .if_icmp .ge 20, 3) rfl) (by decide) rfl ?_ ?_)))
  · intro q1
    have h := h.1 q1
    refine aw_iload_n (pc' := 28) (dt_X8_endOfNumber 13 (27, .iload_n 2, 1) rfl) rfl rfl (aw_iret (dt_X8_endOfNumber 14 (28, .ireturn, 1) rfl) rfl rfl ?_)
    exact h
  · intro q1
    have h := h.2 q1
    refine aw_aload_n (pc' := 11) (dt_X8_endOfNumber 6 (10, .aload_n 0, 1) rfl) rfl rfl (aw_iload_n (pc' := 12) (dt_X8_endOfNumber 7 (11, .iload_n 2, 1) rfl) rfl rfl (aw_inV (pc' := 15) (nc1 := 0) (ns1 := 0) (nc := nc) (ns := ns) (ls' := [some (.ref 20), some (.int x2)]) (y2 := mX8_byteAt) (As := [.int x2]) (rest := []) (a := 20) (dt_X8_endOfNumber 8 (12, .invokevirtual 31, 3) rfl) ok_X8_byteAt ln_Tape_31 im_X8_byteAt se_X8_byteAt pr_X8_byteAt (Or.inl ⟨by decide, rfl⟩) rfl (Nat.le_of_ble_eq_true rfl) (Nat.le_of_ble_eq_true rfl) rfl rfl (sk_20 hS) (aw_iload_n (pc' := 1) (dt_X8_byteAt 0 (0, .iload_n 1, 1) rfl) rfl rfl (aw_if_lt (pc' := 4) (tgt := 30) (dt_X8_byteAt 1 (1, .ifCond .lt 29, 3) rfl) (by decide) rfl ?_ ?_))))
    · intro q2
      have h := h.1 q2
      refine aw_iconst (pc' := 31) (v := (-1)) (dt_X8_byteAt 16 (30, .iconst (-1), 1) rfl) (by decide) rfl (aw_iret (dt_X8_byteAt 17 (31, .ireturn, 1) rfl) rfl rfl (aw_stk (st' := [.int (-1)]) rfl (aw_inS (pc' := 18) (nc1 := 0) (ns1 := 0) (nc := nc) (ns := ns) (ls' := [some (.int (-1))]) (y2 := mX8_isDigit) (As := [.int (-1)]) (rest := []) (dt_X8_endOfNumber 9 (15, .invokestatic 46, 3) rfl) ok_X8_isDigit ln_Tape_46 sm_X8_isDigit pr_X8_isDigit rfl (Nat.le_of_ble_eq_true rfl) (Nat.le_of_ble_eq_true rfl) rfl rfl (aw_iload_n (pc' := 1) (dt_X8_isDigit 0 (0, .iload_n 0, 1) rfl) rfl rfl (aw_bipush (pc' := 3) (v := 48) (dt_X8_isDigit 1 (1, .bipush 48, 2) rfl) (by decide) rfl (aw_icmp_lt_T (pc' := 6) (tgt := 16) (dt_X8_isDigit 2 (3, .if_icmp .lt 13, 3) rfl) (by decide) rfl (by decide) (aw_iconst (pc' := 17) (v := 0) (dt_X8_isDigit 8 (16, .iconst 0, 1) rfl) (by decide) rfl (aw_iret (dt_X8_isDigit 9 (17, .ireturn, 1) rfl) rfl rfl (aw_stk (st' := [.int 0]) rfl (aw_if_eq_T (pc' := 21) (tgt := 27) (dt_X8_endOfNumber 10 (18, .ifCond .eq 9, 3) rfl) (by decide) rfl (by decide) (aw_iload_n (pc' := 28) (dt_X8_endOfNumber 13 (27, .iload_n 2, 1) rfl) rfl rfl (aw_iret (dt_X8_endOfNumber 14 (28, .ireturn, 1) rfl) rfl rfl ?_))))))))))))
      exact h
    · intro q2
      have h := h.2 q2
      refine aw_iload_n (pc' := 5) (dt_X8_byteAt 2 (4, .iload_n 1, 1) rfl) rfl rfl (aw_aload_n (pc' := 6) (dt_X8_byteAt 3 (5, .aload_n 0, 1) rfl) rfl rfl (aw_getI (pc' := 9) (dt_X8_byteAt 4 (6, .getfield 24, 3) rfl) fl_Tape_24 rfl rfl (sk_20 hS) (aw_icmp_ge (pc' := 12) (tgt := 30) (dt_X8_byteAt 5 (9, .if_icmp .ge 21, 3) rfl) (by decide) rfl ?_ ?_)))
      · intro q3
        have h := h.1 q3
        refine aw_iconst (pc' := 31) (v := (-1)) (dt_X8_byteAt 16 (30, .iconst (-1), 1) rfl) (by decide) rfl (aw_iret (dt_X8_byteAt 17 (31, .ireturn, 1) rfl) rfl rfl (aw_stk (st' := [.int (-1)]) rfl (aw_inS (pc' := 18) (nc1 := 0) (ns1 := 0) (nc := nc) (ns := ns) (ls' := [some (.int (-1))]) (y2 := mX8_isDigit) (As := [.int (-1)]) (rest := []) (dt_X8_endOfNumber 9 (15, .invokestatic 46, 3) rfl) ok_X8_isDigit ln_Tape_46 sm_X8_isDigit pr_X8_isDigit rfl (Nat.le_of_ble_eq_true rfl) (Nat.le_of_ble_eq_true rfl) rfl rfl (aw_iload_n (pc' := 1) (dt_X8_isDigit 0 (0, .iload_n 0, 1) rfl) rfl rfl (aw_bipush (pc' := 3) (v := 48) (dt_X8_isDigit 1 (1, .bipush 48, 2) rfl) (by decide) rfl (aw_icmp_lt_T (pc' := 6) (tgt := 16) (dt_X8_isDigit 2 (3, .if_icmp .lt 13, 3) rfl) (by decide) rfl (by decide) (aw_iconst (pc' := 17) (v := 0) (dt_X8_isDigit 8 (16, .iconst 0, 1) rfl) (by decide) rfl (aw_iret (dt_X8_isDigit 9 (17, .ireturn, 1) rfl) rfl rfl (aw_stk (st' := [.int 0]) rfl (aw_if_eq_T (pc' := 21) (tgt := 27) (dt_X8_endOfNumber 10 (18, .ifCond .eq 9, 3) rfl) (by decide) rfl (by decide) (aw_iload_n (pc' := 28) (dt_X8_endOfNumber 13 (27, .iload_n 2, 1) rfl) rfl rfl (aw_iret (dt_X8_endOfNumber 14 (28, .ireturn, 1) rfl) rfl rfl ?_))))))))))))
        exact h
      · intro q3
        have h := h.2 q3
        refine aw_iload_n (pc' := 13) (dt_X8_byteAt 6 (12, .iload_n 1, 1) rfl) rfl rfl (aw_aload_n (pc' := 14) (dt_X8_byteAt 7 (13, .aload_n 0, 1) rfl) rfl rfl (aw_getAs (pc' := 17) (dt_X8_byteAt 8 (14, .getfield 9, 3) rfl) fl_Tape_9 rfl rfl (sk_20 hS) (sa_20_0 hS) (aw_alens (pc' := 18) (n := 200) (v := 200) (dt_X8_byteAt 9 (17, .arraylength, 1) rfl) (by decide) (by decide) rfl (sk_21 hS) (sl_21 hS) (by decide) (aw_icmp_ge (pc' := 21) (tgt := 30) (dt_X8_byteAt 10 (18, .if_icmp .ge 12, 3) rfl) (by decide) rfl ?_ ?_))))
        · intro q4
          have h := h.1 q4
          refine aw_iconst (pc' := 31) (v := (-1)) (dt_X8_byteAt 16 (30, .iconst (-1), 1) rfl) (by decide) rfl (aw_iret (dt_X8_byteAt 17 (31, .ireturn, 1) rfl) rfl rfl (aw_stk (st' := [.int (-1)]) rfl (aw_inS (pc' := 18) (nc1 := 0) (ns1 := 0) (nc := nc) (ns := ns) (ls' := [some (.int (-1))]) (y2 := mX8_isDigit) (As := [.int (-1)]) (rest := []) (dt_X8_endOfNumber 9 (15, .invokestatic 46, 3) rfl) ok_X8_isDigit ln_Tape_46 sm_X8_isDigit pr_X8_isDigit rfl (Nat.le_of_ble_eq_true rfl) (Nat.le_of_ble_eq_true rfl) rfl rfl (aw_iload_n (pc' := 1) (dt_X8_isDigit 0 (0, .iload_n 0, 1) rfl) rfl rfl (aw_bipush (pc' := 3) (v := 48) (dt_X8_isDigit 1 (1, .bipush 48, 2) rfl) (by decide) rfl (aw_icmp_lt_T (pc' := 6) (tgt := 16) (dt_X8_isDigit 2 (3, .if_icmp .lt 13, 3) rfl) (by decide) rfl (by decide) (aw_iconst (pc' := 17) (v := 0) (dt_X8_isDigit 8 (16, .iconst 0, 1) rfl) (by decide) rfl (aw_iret (dt_X8_isDigit 9 (17, .ireturn, 1) rfl) rfl rfl (aw_stk (st' := [.int 0]) rfl (aw_if_eq_T (pc' := 21) (tgt := 27) (dt_X8_endOfNumber 10 (18, .ifCond .eq 9, 3) rfl) (by decide) rfl (by decide) (aw_iload_n (pc' := 28) (dt_X8_endOfNumber 13 (27, .iload_n 2, 1) rfl) rfl rfl (aw_iret (dt_X8_endOfNumber 14 (28, .ireturn, 1) rfl) rfl rfl ?_))))))))))))
          exact h
        · intro q4
          have h := h.2 q4
          obtain ⟨g5, h⟩ := h
          refine aw_aload_n (pc' := 22) (dt_X8_byteAt 11 (21, .aload_n 0, 1) rfl) rfl rfl (aw_getAs (pc' := 25) (dt_X8_byteAt 12 (22, .getfield 9, 3) rfl) fl_Tape_9 rfl rfl (sk_20 hS) (sa_20_0 hS) (aw_iload_n (pc' := 26) (dt_X8_byteAt 13 (25, .iload_n 1, 1) rfl) rfl rfl (aw_iald (pc' := 27) (dt_X8_byteAt 14 (26, .iaload, 1) rfl) rfl (sk_21 hS) (vin_eq (sl_21 hS) g5) (aw_goto (tgt := 31) (dt_X8_byteAt 15 (27, .goto 4, 3) rfl) (by decide) (aw_iret (dt_X8_byteAt 17 (31, .ireturn, 1) rfl) rfl rfl (aw_stk (st' := [.int (zI μ 21 x2.toNatClampNeg)]) rfl (aw_inS (pc' := 18) (nc1 := 0) (ns1 := 0) (nc := nc) (ns := ns) (ls' := [some (.int (zI μ 21 x2.toNatClampNeg))]) (y2 := mX8_isDigit) (As := [.int (zI μ 21 x2.toNatClampNeg)]) (rest := []) (dt_X8_endOfNumber 9 (15, .invokestatic 46, 3) rfl) ok_X8_isDigit ln_Tape_46 sm_X8_isDigit pr_X8_isDigit rfl (Nat.le_of_ble_eq_true rfl) (Nat.le_of_ble_eq_true rfl) rfl rfl (aw_iload_n (pc' := 1) (dt_X8_isDigit 0 (0, .iload_n 0, 1) rfl) rfl rfl (aw_bipush (pc' := 3) (v := 48) (dt_X8_isDigit 1 (1, .bipush 48, 2) rfl) (by decide) rfl (aw_icmp_lt (pc' := 6) (tgt := 16) (dt_X8_isDigit 2 (3, .if_icmp .lt 13, 3) rfl) (by decide) rfl ?_ ?_))))))))))
          · intro q6
            have h := h.1 q6
            refine aw_iconst (pc' := 17) (v := 0) (dt_X8_isDigit 8 (16, .iconst 0, 1) rfl) (by decide) rfl (aw_iret (dt_X8_isDigit 9 (17, .ireturn, 1) rfl) rfl rfl (aw_stk (st' := [.int 0]) rfl (aw_if_eq_T (pc' := 21) (tgt := 27) (dt_X8_endOfNumber 10 (18, .ifCond .eq 9, 3) rfl) (by decide) rfl (by decide) (aw_iload_n (pc' := 28) (dt_X8_endOfNumber 13 (27, .iload_n 2, 1) rfl) rfl rfl (aw_iret (dt_X8_endOfNumber 14 (28, .ireturn, 1) rfl) rfl rfl ?_)))))
            exact h
          · intro q6
            have h := h.2 q6
            refine aw_iload_n (pc' := 7) (dt_X8_isDigit 3 (6, .iload_n 0, 1) rfl) rfl rfl (aw_bipush (pc' := 9) (v := 57) (dt_X8_isDigit 4 (7, .bipush 57, 2) rfl) (by decide) rfl (aw_icmp_gt (pc' := 12) (tgt := 16) (dt_X8_isDigit 5 (9, .if_icmp .gt 7, 3) rfl) (by decide) rfl ?_ ?_))
            · intro q7
              have h := h.1 q7
              refine aw_iconst (pc' := 17) (v := 0) (dt_X8_isDigit 8 (16, .iconst 0, 1) rfl) (by decide) rfl (aw_iret (dt_X8_isDigit 9 (17, .ireturn, 1) rfl) rfl rfl (aw_stk (st' := [.int 0]) rfl (aw_if_eq_T (pc' := 21) (tgt := 27) (dt_X8_endOfNumber 10 (18, .ifCond .eq 9, 3) rfl) (by decide) rfl (by decide) (aw_iload_n (pc' := 28) (dt_X8_endOfNumber 13 (27, .iload_n 2, 1) rfl) rfl rfl (aw_iret (dt_X8_endOfNumber 14 (28, .ireturn, 1) rfl) rfl rfl ?_)))))
              exact h
            · intro q7
              have h := h.2 q7
              refine aw_iconst (pc' := 13) (v := 1) (dt_X8_isDigit 6 (12, .iconst 1, 1) rfl) (by decide) rfl (aw_goto (tgt := 17) (dt_X8_isDigit 7 (13, .goto 4, 3) rfl) (by decide) (aw_iret (dt_X8_isDigit 9 (17, .ireturn, 1) rfl) rfl rfl (aw_stk (st' := [.int 1]) rfl (aw_if_eq_F (pc' := 21) (tgt := 27) (dt_X8_endOfNumber 10 (18, .ifCond .eq 9, 3) rfl) (by decide) rfl (by decide) (aw_iinc (pc' := 24) (v := 1) (ls' := [some (.ref 20), none, some (.int (x2 + 1))]) (dt_X8_endOfNumber 11 (21, .iinc 2 1, 3) rfl) rfl (by decide) (by decide) rfl rfl (aw_goto (tgt := 2) (dt_X8_endOfNumber 12 (24, .goto (-22), 3) rfl) (by decide) ?_))))))
              exact h

theorem t_X8_addWord {E : ZE} {l : Launch} {d nc ns : Nat} {x1 : Int32} {x2 : Int32} {a3 : Nat} {μ : ZM} {K : Option Value → ZM → Prop} (hS : Stat μ) (h :
  AW E l (d + 5) 0 0 mX8_placeInList 0 (zargs 8 [.ref 20, .ref 2, .int x1, .int x2]) [] μ (fun v μ1 => ∃ r3 : Int32, v = some (.int r3) ∧ Stat μ1 ∧ 
    AW E l (d + 5) 0 0 mX8_placeInList 0 (zargs 8 [.ref 20, .ref a3, .int x1, .int x2]) [] μ1 (fun v μ4 => ∃ r6 : Int32, v = some (.int r6) ∧ Stat μ4 ∧ 
      (r3 < 0 →
        (r6 < 0 →
          (201 ≤ (zI μ4 20 5) →
            K none μ4) ∧
          (¬ 201 ≤ (zI μ4 20 5) →
            (vp_in (zI μ4 20 5) 201) ∧
            (vp_in (zI (sI μ4 22 (zI μ4 20 5).toNatClampNeg 22) 20 5) 201) ∧
            (vp_in (zI (sI (sI μ4 22 (zI μ4 20 5).toNatClampNeg 22) 23 (zI (sI μ4 22 (zI μ4 20 5).toNatClampNeg 22) 20 5).toNatClampNeg x1) 20 5) 201) ∧
            ∀ μ13, μ13 = (sI (sI (sI μ4 22 (zI μ4 20 5).toNatClampNeg 22) 23 (zI (sI μ4 22 (zI μ4 20 5).toNatClampNeg 22) 20 5).toNatClampNeg x1) 24 (zI (sI (sI μ4 22 (zI μ4 20 5).toNatClampNeg 22) 23 (zI (sI μ4 22 (zI μ4 20 5).toNatClampNeg 22) 20 5).toNatClampNeg x1) 20 5).toNatClampNeg (100000 + r6)) →
            K none (sI μ13 20 5 ((zI μ13 20 5) + 1)))) ∧
        (¬ r6 < 0 →
          (201 ≤ (zI μ4 20 5) →
            K none μ4) ∧
          (¬ 201 ≤ (zI μ4 20 5) →
            (vp_in (zI μ4 20 5) 201) ∧
            (vp_in (zI (sI μ4 22 (zI μ4 20 5).toNatClampNeg 21) 20 5) 201) ∧
            (vp_in (zI (sI (sI μ4 22 (zI μ4 20 5).toNatClampNeg 21) 23 (zI (sI μ4 22 (zI μ4 20 5).toNatClampNeg 21) 20 5).toNatClampNeg x1) 20 5) 201) ∧
            ∀ μ20, μ20 = (sI (sI (sI μ4 22 (zI μ4 20 5).toNatClampNeg 21) 23 (zI (sI μ4 22 (zI μ4 20 5).toNatClampNeg 21) 20 5).toNatClampNeg x1) 24 (zI (sI (sI μ4 22 (zI μ4 20 5).toNatClampNeg 21) 23 (zI (sI μ4 22 (zI μ4 20 5).toNatClampNeg 21) 20 5).toNatClampNeg x1) 20 5).toNatClampNeg (100000 + r6)) →
            K none (sI μ20 20 5 ((zI μ20 20 5) + 1))))) ∧
      (¬ r3 < 0 →
        (201 ≤ (zI μ4 20 5) →
          K none μ4) ∧
        (¬ 201 ≤ (zI μ4 20 5) →
          (vp_in (zI μ4 20 5) 201) ∧
          (vp_in (zI (sI μ4 22 (zI μ4 20 5).toNatClampNeg r3) 20 5) 201) ∧
          (vp_in (zI (sI (sI μ4 22 (zI μ4 20 5).toNatClampNeg r3) 23 (zI (sI μ4 22 (zI μ4 20 5).toNatClampNeg r3) 20 5).toNatClampNeg x1) 20 5) 201) ∧
          ∀ μ27, μ27 = (sI (sI (sI μ4 22 (zI μ4 20 5).toNatClampNeg r3) 23 (zI (sI μ4 22 (zI μ4 20 5).toNatClampNeg r3) 20 5).toNatClampNeg x1) 24 (zI (sI (sI μ4 22 (zI μ4 20 5).toNatClampNeg r3) 23 (zI (sI μ4 22 (zI μ4 20 5).toNatClampNeg r3) 20 5).toNatClampNeg x1) 20 5).toNatClampNeg 0) →
          K none (sI μ27 20 5 ((zI μ27 20 5) + 1))))))) : AW E l (d + 6) nc ns mX8_addWord 0 [some (.ref 20), some (.int x1), some (.int x2), some (.ref a3), none, none] [] μ K := by
  refine aw_aload_n (pc' := 1) (dt_X8_addWord 0 (0, .aload_n 0, 1) rfl) rfl rfl (aw_ldcS (pc' := 3) (i := 1) (dt_X8_addWord 1 (1, .ldc 69, 2) rfl) rfl rfl (aw_iload_n (pc' := 4) (dt_X8_addWord 2 (3, .iload_n 1, 1) rfl) rfl rfl (aw_iload_n (pc' := 5) (dt_X8_addWord 3 (4, .iload_n 2, 1) rfl) rfl rfl (aw_callV0 (pc' := 8) (nc := nc) (ns := ns) (y2 := mX8_placeInList) (As := [.ref 2, .int x1, .int x2]) (rest := []) (a := 20) (dt_X8_addWord 4 (5, .invokevirtual 71, 3) rfl) ok_X8_placeInList ln_Tape_71 im_X8_placeInList se_X8_placeInList pr_X8_placeInList (Or.inl ⟨by decide, rfl⟩) rfl (Nat.le_of_ble_eq_true rfl) (Nat.le_of_ble_eq_true rfl) rfl (sk_20 hS) h ?_))))
  rintro v μ1 ⟨r3, rfl, hS2, h⟩
  refine aw_stk (st' := [.int r3]) rfl ?_
  refine aw_istore (pc' := 10) (ls' := [some (.ref 20), some (.int x1), some (.int x2), some (.ref a3), some (.int r3), none]) (dt_X8_addWord 5 (8, .istore 4, 2) rfl) (by decide) rfl rfl (aw_aload_n (pc' := 11) (dt_X8_addWord 6 (10, .aload_n 0, 1) rfl) rfl rfl (aw_aload_n (pc' := 12) (dt_X8_addWord 7 (11, .aload_n 3, 1) rfl) rfl rfl (aw_iload_n (pc' := 13) (dt_X8_addWord 8 (12, .iload_n 1, 1) rfl) rfl rfl (aw_iload_n (pc' := 14) (dt_X8_addWord 9 (13, .iload_n 2, 1) rfl) rfl rfl (aw_callV0 (pc' := 17) (nc := nc) (ns := ns) (y2 := mX8_placeInList) (As := [.ref a3, .int x1, .int x2]) (rest := []) (a := 20) (dt_X8_addWord 10 (14, .invokevirtual 71, 3) rfl) ok_X8_placeInList ln_Tape_71 im_X8_placeInList se_X8_placeInList pr_X8_placeInList (Or.inl ⟨by decide, rfl⟩) rfl (Nat.le_of_ble_eq_true rfl) (Nat.le_of_ble_eq_true rfl) rfl (sk_20 hS2) h ?_)))))
  rintro v μ4 ⟨r6, rfl, hS5, h⟩
  refine aw_stk (st' := [.int r6]) rfl ?_
  refine aw_istore (pc' := 19) (ls' := [some (.ref 20), some (.int x1), some (.int x2), some (.ref a3), some (.int r3), some (.int r6)]) (dt_X8_addWord 11 (17, .istore 5, 2) rfl) (by decide) rfl rfl (aw_iload (pc' := 21) (dt_X8_addWord 12 (19, .iload 4, 2) rfl) rfl rfl (aw_if_lt (pc' := 24) (tgt := 35) (dt_X8_addWord 13 (21, .ifCond .lt 14, 3) rfl) (by decide) rfl ?_ ?_))
  · intro q7
    have h := h.1 q7
    refine aw_aload_n (pc' := 36) (dt_X8_addWord 20 (35, .aload_n 0, 1) rfl) rfl rfl (aw_iload (pc' := 38) (dt_X8_addWord 21 (36, .iload 5, 2) rfl) rfl rfl (aw_if_lt (pc' := 41) (tgt := 46) (dt_X8_addWord 22 (38, .ifCond .lt 8, 3) rfl) (by decide) rfl ?_ ?_))
    · intro q8
      have h := h.1 q8
      refine aw_bipush (pc' := 48) (v := 22) (dt_X8_addWord 25 (46, .bipush 22, 2) rfl) (by decide) rfl (aw_iload_n (pc' := 49) (dt_X8_addWord 26 (48, .iload_n 1, 1) rfl) rfl rfl (aw_ldc (pc' := 51) (dt_X8_addWord 27 (49, .ldc 75, 2) rfl) ct_Tape_75 rfl (aw_iload (pc' := 53) (dt_X8_addWord 28 (51, .iload 5, 2) rfl) rfl rfl (aw_iadd (pc' := 54) (dt_X8_addWord 29 (53, .iadd, 1) rfl) rfl (aw_inV (pc' := 57) (nc1 := 0) (ns1 := 0) (nc := nc) (ns := ns) (ls' := [some (.ref 20), some (.int 22), some (.int x1), some (.int (100000 + r6))]) (y2 := mX8_add) (As := [.int 22, .int x1, .int (100000 + r6)]) (rest := []) (a := 20) (dt_X8_addWord 30 (54, .invokevirtual 65, 3) rfl) ok_X8_add ln_Tape_65 im_X8_add se_X8_add pr_X8_add (Or.inl ⟨by decide, rfl⟩) rfl (Nat.le_of_ble_eq_true rfl) (Nat.le_of_ble_eq_true rfl) rfl rfl (sk_20 hS5) (aw_aload_n (pc' := 1) (dt_X8_add 0 (0, .aload_n 0, 1) rfl) rfl rfl (aw_getI (pc' := 4) (dt_X8_add 1 (1, .getfield 28, 3) rfl) fl_Tape_28 rfl rfl (sk_20 hS5) (aw_aload_n (pc' := 5) (dt_X8_add 2 (4, .aload_n 0, 1) rfl) rfl rfl (aw_getAs (pc' := 8) (dt_X8_add 3 (5, .getfield 15, 3) rfl) fl_Tape_15 rfl rfl (sk_20 hS5) (sa_20_2 hS5) (aw_alens (pc' := 9) (n := 201) (v := 201) (dt_X8_add 4 (8, .arraylength, 1) rfl) (by decide) (by decide) rfl (sk_22 hS5) (sl_22 hS5) (by decide) (aw_icmp_ge (pc' := 12) (tgt := 52) (dt_X8_add 5 (9, .if_icmp .ge 43, 3) rfl) (by decide) rfl ?_ ?_)))))))))))
      · intro q9
        have h := h.1 q9
        refine aw_ret (dt_X8_add 30 (52, .return_, 1) rfl) rfl (aw_stk (st' := []) rfl (aw_ret (dt_X8_addWord 31 (57, .return_, 1) rfl) rfl ?_))
        exact h
      · intro q9
        have h := h.2 q9
        obtain ⟨g10, h⟩ := h
        obtain ⟨g11, h⟩ := h
        obtain ⟨g12, h⟩ := h
        refine aw_aload_n (pc' := 13) (dt_X8_add 6 (12, .aload_n 0, 1) rfl) rfl rfl (aw_getAs (pc' := 16) (dt_X8_add 7 (13, .getfield 15, 3) rfl) fl_Tape_15 rfl rfl (sk_20 hS5) (sa_20_2 hS5) (aw_aload_n (pc' := 17) (dt_X8_add 8 (16, .aload_n 0, 1) rfl) rfl rfl (aw_getI (pc' := 20) (dt_X8_add 9 (17, .getfield 28, 3) rfl) fl_Tape_28 rfl rfl (sk_20 hS5) (aw_iload_n (pc' := 21) (dt_X8_add 10 (20, .iload_n 1, 1) rfl) rfl rfl (aw_iast (pc' := 22) (dt_X8_add 11 (21, .iastore, 1) rfl) rfl (sk_22 hS5) (by decide) (vin_eq (sl_22 hS5) g10) (aw_aload_n (pc' := 23) (dt_X8_add 12 (22, .aload_n 0, 1) rfl) rfl rfl (aw_getAs (pc' := 26) (dt_X8_add 13 (23, .getfield 18, 3) rfl) fl_Tape_18 rfl rfl (sk_20 hS5.wI) (sa_20_3 hS5.wI) (aw_aload_n (pc' := 27) (dt_X8_add 14 (26, .aload_n 0, 1) rfl) rfl rfl (aw_getI (pc' := 30) (dt_X8_add 15 (27, .getfield 28, 3) rfl) fl_Tape_28 rfl rfl (sk_20 hS5.wI) (aw_iload_n (pc' := 31) (dt_X8_add 16 (30, .iload_n 2, 1) rfl) rfl rfl (aw_iast (pc' := 32) (dt_X8_add 17 (31, .iastore, 1) rfl) rfl (sk_23 hS5.wI) (by decide) (vin_eq (sl_23 hS5.wI) g11) (aw_aload_n (pc' := 33) (dt_X8_add 18 (32, .aload_n 0, 1) rfl) rfl rfl (aw_getAs (pc' := 36) (dt_X8_add 19 (33, .getfield 21, 3) rfl) fl_Tape_21 rfl rfl (sk_20 hS5.wI.wI) (sa_20_4 hS5.wI.wI) (aw_aload_n (pc' := 37) (dt_X8_add 20 (36, .aload_n 0, 1) rfl) rfl rfl (aw_getI (pc' := 40) (dt_X8_add 21 (37, .getfield 28, 3) rfl) fl_Tape_28 rfl rfl (sk_20 hS5.wI.wI) (aw_iload_n (pc' := 41) (dt_X8_add 22 (40, .iload_n 3, 1) rfl) rfl rfl (aw_iast (pc' := 42) (dt_X8_add 23 (41, .iastore, 1) rfl) rfl (sk_24 hS5.wI.wI) (by decide) (vin_eq (sl_24 hS5.wI.wI) g12) ?_)))))))))))))))))
        refine aw_mem (fun μ13 eμ14 => ?_)
        have h := h μ13 eμ14
        have hS15 : Stat μ13 := by rw [eμ14]; exact hS5.wI.wI.wI
        refine aw_aload_n (pc' := 43) (dt_X8_add 24 (42, .aload_n 0, 1) rfl) rfl rfl (aw_dup (pc' := 44) (dt_X8_add 25 (43, .dup, 1) rfl) rfl rfl (aw_getI (pc' := 47) (dt_X8_add 26 (44, .getfield 28, 3) rfl) fl_Tape_28 rfl rfl (sk_20 hS15) (aw_iconst (pc' := 48) (v := 1) (dt_X8_add 27 (47, .iconst 1, 1) rfl) (by decide) rfl (aw_iadd (pc' := 49) (dt_X8_add 28 (48, .iadd, 1) rfl) rfl (aw_putI (pc' := 52) (dt_X8_add 29 (49, .putfield 28, 3) rfl) fl_Tape_28 rfl (by decide +kernel) rfl (sk_20 hS15) (aw_ret (dt_X8_add 30 (52, .return_, 1) rfl) rfl (aw_stk (st' := []) rfl (aw_ret (dt_X8_addWord 31 (57, .return_, 1) rfl) rfl ?_))))))))
        exact h
    · intro q8
      have h := h.2 q8
      refine aw_bipush (pc' := 43) (v := 21) (dt_X8_addWord 23 (41, .bipush 21, 2) rfl) (by decide) rfl (aw_goto (tgt := 48) (dt_X8_addWord 24 (43, .goto 5, 3) rfl) (by decide) (aw_iload_n (pc' := 49) (dt_X8_addWord 26 (48, .iload_n 1, 1) rfl) rfl rfl (aw_ldc (pc' := 51) (dt_X8_addWord 27 (49, .ldc 75, 2) rfl) ct_Tape_75 rfl (aw_iload (pc' := 53) (dt_X8_addWord 28 (51, .iload 5, 2) rfl) rfl rfl (aw_iadd (pc' := 54) (dt_X8_addWord 29 (53, .iadd, 1) rfl) rfl (aw_inV (pc' := 57) (nc1 := 0) (ns1 := 0) (nc := nc) (ns := ns) (ls' := [some (.ref 20), some (.int 21), some (.int x1), some (.int (100000 + r6))]) (y2 := mX8_add) (As := [.int 21, .int x1, .int (100000 + r6)]) (rest := []) (a := 20) (dt_X8_addWord 30 (54, .invokevirtual 65, 3) rfl) ok_X8_add ln_Tape_65 im_X8_add se_X8_add pr_X8_add (Or.inl ⟨by decide, rfl⟩) rfl (Nat.le_of_ble_eq_true rfl) (Nat.le_of_ble_eq_true rfl) rfl rfl (sk_20 hS5) (aw_aload_n (pc' := 1) (dt_X8_add 0 (0, .aload_n 0, 1) rfl) rfl rfl (aw_getI (pc' := 4) (dt_X8_add 1 (1, .getfield 28, 3) rfl) fl_Tape_28 rfl rfl (sk_20 hS5) (aw_aload_n (pc' := 5) (dt_X8_add 2 (4, .aload_n 0, 1) rfl) rfl rfl (aw_getAs (pc' := 8) (dt_X8_add 3 (5, .getfield 15, 3) rfl) fl_Tape_15 rfl rfl (sk_20 hS5) (sa_20_2 hS5) (aw_alens (pc' := 9) (n := 201) (v := 201) (dt_X8_add 4 (8, .arraylength, 1) rfl) (by decide) (by decide) rfl (sk_22 hS5) (sl_22 hS5) (by decide) (aw_icmp_ge (pc' := 12) (tgt := 52) (dt_X8_add 5 (9, .if_icmp .ge 43, 3) rfl) (by decide) rfl ?_ ?_))))))))))))
      · intro q16
        have h := h.1 q16
        refine aw_ret (dt_X8_add 30 (52, .return_, 1) rfl) rfl (aw_stk (st' := []) rfl (aw_ret (dt_X8_addWord 31 (57, .return_, 1) rfl) rfl ?_))
        exact h
      · intro q16
        have h := h.2 q16
        obtain ⟨g17, h⟩ := h
        obtain ⟨g18, h⟩ := h
        obtain ⟨g19, h⟩ := h
        refine aw_aload_n (pc' := 13) (dt_X8_add 6 (12, .aload_n 0, 1) rfl) rfl rfl (aw_getAs (pc' := 16) (dt_X8_add 7 (13, .getfield 15, 3) rfl) fl_Tape_15 rfl rfl (sk_20 hS5) (sa_20_2 hS5) (aw_aload_n (pc' := 17) (dt_X8_add 8 (16, .aload_n 0, 1) rfl) rfl rfl (aw_getI (pc' := 20) (dt_X8_add 9 (17, .getfield 28, 3) rfl) fl_Tape_28 rfl rfl (sk_20 hS5) (aw_iload_n (pc' := 21) (dt_X8_add 10 (20, .iload_n 1, 1) rfl) rfl rfl (aw_iast (pc' := 22) (dt_X8_add 11 (21, .iastore, 1) rfl) rfl (sk_22 hS5) (by decide) (vin_eq (sl_22 hS5) g17) (aw_aload_n (pc' := 23) (dt_X8_add 12 (22, .aload_n 0, 1) rfl) rfl rfl (aw_getAs (pc' := 26) (dt_X8_add 13 (23, .getfield 18, 3) rfl) fl_Tape_18 rfl rfl (sk_20 hS5.wI) (sa_20_3 hS5.wI) (aw_aload_n (pc' := 27) (dt_X8_add 14 (26, .aload_n 0, 1) rfl) rfl rfl (aw_getI (pc' := 30) (dt_X8_add 15 (27, .getfield 28, 3) rfl) fl_Tape_28 rfl rfl (sk_20 hS5.wI) (aw_iload_n (pc' := 31) (dt_X8_add 16 (30, .iload_n 2, 1) rfl) rfl rfl (aw_iast (pc' := 32) (dt_X8_add 17 (31, .iastore, 1) rfl) rfl (sk_23 hS5.wI) (by decide) (vin_eq (sl_23 hS5.wI) g18) (aw_aload_n (pc' := 33) (dt_X8_add 18 (32, .aload_n 0, 1) rfl) rfl rfl (aw_getAs (pc' := 36) (dt_X8_add 19 (33, .getfield 21, 3) rfl) fl_Tape_21 rfl rfl (sk_20 hS5.wI.wI) (sa_20_4 hS5.wI.wI) (aw_aload_n (pc' := 37) (dt_X8_add 20 (36, .aload_n 0, 1) rfl) rfl rfl (aw_getI (pc' := 40) (dt_X8_add 21 (37, .getfield 28, 3) rfl) fl_Tape_28 rfl rfl (sk_20 hS5.wI.wI) (aw_iload_n (pc' := 41) (dt_X8_add 22 (40, .iload_n 3, 1) rfl) rfl rfl (aw_iast (pc' := 42) (dt_X8_add 23 (41, .iastore, 1) rfl) rfl (sk_24 hS5.wI.wI) (by decide) (vin_eq (sl_24 hS5.wI.wI) g19) ?_)))))))))))))))))
        refine aw_mem (fun μ20 eμ21 => ?_)
        have h := h μ20 eμ21
        have hS22 : Stat μ20 := by rw [eμ21]; exact hS5.wI.wI.wI
        refine aw_aload_n (pc' := 43) (dt_X8_add 24 (42, .aload_n 0, 1) rfl) rfl rfl (aw_dup (pc' := 44) (dt_X8_add 25 (43, .dup, 1) rfl) rfl rfl (aw_getI (pc' := 47) (dt_X8_add 26 (44, .getfield 28, 3) rfl) fl_Tape_28 rfl rfl (sk_20 hS22) (aw_iconst (pc' := 48) (v := 1) (dt_X8_add 27 (47, .iconst 1, 1) rfl) (by decide) rfl (aw_iadd (pc' := 49) (dt_X8_add 28 (48, .iadd, 1) rfl) rfl (aw_putI (pc' := 52) (dt_X8_add 29 (49, .putfield 28, 3) rfl) fl_Tape_28 rfl (by decide +kernel) rfl (sk_20 hS22) (aw_ret (dt_X8_add 30 (52, .return_, 1) rfl) rfl (aw_stk (st' := []) rfl (aw_ret (dt_X8_addWord 31 (57, .return_, 1) rfl) rfl ?_))))))))
        exact h
  · intro q7
    have h := h.2 q7
    refine aw_aload_n (pc' := 25) (dt_X8_addWord 14 (24, .aload_n 0, 1) rfl) rfl rfl (aw_iload (pc' := 27) (dt_X8_addWord 15 (25, .iload 4, 2) rfl) rfl rfl (aw_iload_n (pc' := 28) (dt_X8_addWord 16 (27, .iload_n 1, 1) rfl) rfl rfl (aw_iconst (pc' := 29) (v := 0) (dt_X8_addWord 17 (28, .iconst 0, 1) rfl) (by decide) rfl (aw_inV (pc' := 32) (nc1 := 0) (ns1 := 0) (nc := nc) (ns := ns) (ls' := [some (.ref 20), some (.int r3), some (.int x1), some (.int 0)]) (y2 := mX8_add) (As := [.int r3, .int x1, .int 0]) (rest := []) (a := 20) (dt_X8_addWord 18 (29, .invokevirtual 65, 3) rfl) ok_X8_add ln_Tape_65 im_X8_add se_X8_add pr_X8_add (Or.inl ⟨by decide, rfl⟩) rfl (Nat.le_of_ble_eq_true rfl) (Nat.le_of_ble_eq_true rfl) rfl rfl (sk_20 hS5) (aw_aload_n (pc' := 1) (dt_X8_add 0 (0, .aload_n 0, 1) rfl) rfl rfl (aw_getI (pc' := 4) (dt_X8_add 1 (1, .getfield 28, 3) rfl) fl_Tape_28 rfl rfl (sk_20 hS5) (aw_aload_n (pc' := 5) (dt_X8_add 2 (4, .aload_n 0, 1) rfl) rfl rfl (aw_getAs (pc' := 8) (dt_X8_add 3 (5, .getfield 15, 3) rfl) fl_Tape_15 rfl rfl (sk_20 hS5) (sa_20_2 hS5) (aw_alens (pc' := 9) (n := 201) (v := 201) (dt_X8_add 4 (8, .arraylength, 1) rfl) (by decide) (by decide) rfl (sk_22 hS5) (sl_22 hS5) (by decide) (aw_icmp_ge (pc' := 12) (tgt := 52) (dt_X8_add 5 (9, .if_icmp .ge 43, 3) rfl) (by decide) rfl ?_ ?_))))))))))
    · intro q23
      have h := h.1 q23
      refine aw_ret (dt_X8_add 30 (52, .return_, 1) rfl) rfl (aw_stk (st' := []) rfl (aw_goto (tgt := 57) (dt_X8_addWord 19 (32, .goto 25, 3) rfl) (by decide) (aw_ret (dt_X8_addWord 31 (57, .return_, 1) rfl) rfl ?_)))
      exact h
    · intro q23
      have h := h.2 q23
      obtain ⟨g24, h⟩ := h
      obtain ⟨g25, h⟩ := h
      obtain ⟨g26, h⟩ := h
      refine aw_aload_n (pc' := 13) (dt_X8_add 6 (12, .aload_n 0, 1) rfl) rfl rfl (aw_getAs (pc' := 16) (dt_X8_add 7 (13, .getfield 15, 3) rfl) fl_Tape_15 rfl rfl (sk_20 hS5) (sa_20_2 hS5) (aw_aload_n (pc' := 17) (dt_X8_add 8 (16, .aload_n 0, 1) rfl) rfl rfl (aw_getI (pc' := 20) (dt_X8_add 9 (17, .getfield 28, 3) rfl) fl_Tape_28 rfl rfl (sk_20 hS5) (aw_iload_n (pc' := 21) (dt_X8_add 10 (20, .iload_n 1, 1) rfl) rfl rfl (aw_iast (pc' := 22) (dt_X8_add 11 (21, .iastore, 1) rfl) rfl (sk_22 hS5) (by decide) (vin_eq (sl_22 hS5) g24) (aw_aload_n (pc' := 23) (dt_X8_add 12 (22, .aload_n 0, 1) rfl) rfl rfl (aw_getAs (pc' := 26) (dt_X8_add 13 (23, .getfield 18, 3) rfl) fl_Tape_18 rfl rfl (sk_20 hS5.wI) (sa_20_3 hS5.wI) (aw_aload_n (pc' := 27) (dt_X8_add 14 (26, .aload_n 0, 1) rfl) rfl rfl (aw_getI (pc' := 30) (dt_X8_add 15 (27, .getfield 28, 3) rfl) fl_Tape_28 rfl rfl (sk_20 hS5.wI) (aw_iload_n (pc' := 31) (dt_X8_add 16 (30, .iload_n 2, 1) rfl) rfl rfl (aw_iast (pc' := 32) (dt_X8_add 17 (31, .iastore, 1) rfl) rfl (sk_23 hS5.wI) (by decide) (vin_eq (sl_23 hS5.wI) g25) (aw_aload_n (pc' := 33) (dt_X8_add 18 (32, .aload_n 0, 1) rfl) rfl rfl (aw_getAs (pc' := 36) (dt_X8_add 19 (33, .getfield 21, 3) rfl) fl_Tape_21 rfl rfl (sk_20 hS5.wI.wI) (sa_20_4 hS5.wI.wI) (aw_aload_n (pc' := 37) (dt_X8_add 20 (36, .aload_n 0, 1) rfl) rfl rfl (aw_getI (pc' := 40) (dt_X8_add 21 (37, .getfield 28, 3) rfl) fl_Tape_28 rfl rfl (sk_20 hS5.wI.wI) (aw_iload_n (pc' := 41) (dt_X8_add 22 (40, .iload_n 3, 1) rfl) rfl rfl (aw_iast (pc' := 42) (dt_X8_add 23 (41, .iastore, 1) rfl) rfl (sk_24 hS5.wI.wI) (by decide) (vin_eq (sl_24 hS5.wI.wI) g26) ?_)))))))))))))))))
      refine aw_mem (fun μ27 eμ28 => ?_)
      have h := h μ27 eμ28
      have hS29 : Stat μ27 := by rw [eμ28]; exact hS5.wI.wI.wI
      refine aw_aload_n (pc' := 43) (dt_X8_add 24 (42, .aload_n 0, 1) rfl) rfl rfl (aw_dup (pc' := 44) (dt_X8_add 25 (43, .dup, 1) rfl) rfl rfl (aw_getI (pc' := 47) (dt_X8_add 26 (44, .getfield 28, 3) rfl) fl_Tape_28 rfl rfl (sk_20 hS29) (aw_iconst (pc' := 48) (v := 1) (dt_X8_add 27 (47, .iconst 1, 1) rfl) (by decide) rfl (aw_iadd (pc' := 49) (dt_X8_add 28 (48, .iadd, 1) rfl) rfl (aw_putI (pc' := 52) (dt_X8_add 29 (49, .putfield 28, 3) rfl) fl_Tape_28 rfl (by decide +kernel) rfl (sk_20 hS29) (aw_ret (dt_X8_add 30 (52, .return_, 1) rfl) rfl (aw_stk (st' := []) rfl (aw_goto (tgt := 57) (dt_X8_addWord 19 (32, .goto 25, 3) rfl) (by decide) (aw_ret (dt_X8_addWord 31 (57, .return_, 1) rfl) rfl ?_)))))))))
      exact h

theorem t_X8_addNumber {E : ZE} {l : Launch} {d nc ns : Nat} {x1 : Int32} {x2 : Int32} {μ : ZM} {K : Option Value → ZM → Prop} (hS : Stat μ) (h :
  AW E l (d + 1) nc ns mX8_addNumber 5 [some (.ref 20), some (.int x1), some (.int x2), some (.int 0), some (.int x1)] [] μ K) : AW E l (d + 1) nc ns mX8_addNumber 0 [some (.ref 20), some (.int x1), some (.int x2), none, none] [] μ K := by
  refine aw_iconst (pc' := 1) (v := 0) (dt_X8_addNumber 0 (0, .iconst 0, 1) rfl) (by decide) rfl (aw_istore_n (pc' := 2) (ls' := [some (.ref 20), some (.int x1), some (.int x2), some (.int 0), none]) (dt_X8_addNumber 1 (1, .istore_n 3, 1) rfl) (by decide) rfl rfl (aw_iload_n (pc' := 3) (dt_X8_addNumber 2 (2, .iload_n 1, 1) rfl) rfl rfl (aw_istore (pc' := 5) (ls' := [some (.ref 20), some (.int x1), some (.int x2), some (.int 0), some (.int x1)]) (dt_X8_addNumber 3 (3, .istore 4, 2) rfl) (by decide) rfl rfl ?_)))
  exact h

theorem t_X8_addNumber_5 {E : ZE} {l : Launch} {d nc ns : Nat} {x1 : Int32} {x2 : Int32} {x3 : Int32} {x4 : Int32} {μ : ZM} {K : Option Value → ZM → Prop} (hS : Stat μ) (h :
  (x2 ≤ x4 →
    (5 < (x2 - x1) →
      (201 ≤ (zI μ 20 5) →
        K none μ) ∧
      (¬ 201 ≤ (zI μ 20 5) →
        (vp_in (zI μ 20 5) 201) ∧
        (vp_in (zI (sI μ 22 (zI μ 20 5).toNatClampNeg 22) 20 5) 201) ∧
        (vp_in (zI (sI (sI μ 22 (zI μ 20 5).toNatClampNeg 22) 23 (zI (sI μ 22 (zI μ 20 5).toNatClampNeg 22) 20 5).toNatClampNeg x1) 20 5) 201) ∧
        ∀ μ7, μ7 = (sI (sI (sI μ 22 (zI μ 20 5).toNatClampNeg 22) 23 (zI (sI μ 22 (zI μ 20 5).toNatClampNeg 22) 20 5).toNatClampNeg x1) 24 (zI (sI (sI μ 22 (zI μ 20 5).toNatClampNeg 22) 23 (zI (sI μ 22 (zI μ 20 5).toNatClampNeg 22) 20 5).toNatClampNeg x1) 20 5).toNatClampNeg x3) →
        K none (sI μ7 20 5 ((zI μ7 20 5) + 1)))) ∧
    (¬ 5 < (x2 - x1) →
      (201 ≤ (zI μ 20 5) →
        K none μ) ∧
      (¬ 201 ≤ (zI μ 20 5) →
        (vp_in (zI μ 20 5) 201) ∧
        (vp_in (zI (sI μ 22 (zI μ 20 5).toNatClampNeg 20) 20 5) 201) ∧
        (vp_in (zI (sI (sI μ 22 (zI μ 20 5).toNatClampNeg 20) 23 (zI (sI μ 22 (zI μ 20 5).toNatClampNeg 20) 20 5).toNatClampNeg x1) 20 5) 201) ∧
        ∀ μ14, μ14 = (sI (sI (sI μ 22 (zI μ 20 5).toNatClampNeg 20) 23 (zI (sI μ 22 (zI μ 20 5).toNatClampNeg 20) 20 5).toNatClampNeg x1) 24 (zI (sI (sI μ 22 (zI μ 20 5).toNatClampNeg 20) 23 (zI (sI μ 22 (zI μ 20 5).toNatClampNeg 20) 20 5).toNatClampNeg x1) 20 5).toNatClampNeg x3) →
        K none (sI μ14 20 5 ((zI μ14 20 5) + 1))))) ∧
  (¬ x2 ≤ x4 →
    (x4 < 0 →
      AW E l (d + 1) nc ns mX8_addNumber 5 [some (.ref 20), some (.int x1), some (.int x2), some (.int (((x3 * 10) + (-1)) - 48)), some (.int (x4 + 1))] [] μ K) ∧
    (¬ x4 < 0 →
      ((zI μ 20 1) ≤ x4 →
        AW E l (d + 1) nc ns mX8_addNumber 5 [some (.ref 20), some (.int x1), some (.int x2), some (.int (((x3 * 10) + (-1)) - 48)), some (.int (x4 + 1))] [] μ K) ∧
      (¬ (zI μ 20 1) ≤ x4 →
        (200 ≤ x4 →
          AW E l (d + 1) nc ns mX8_addNumber 5 [some (.ref 20), some (.int x1), some (.int x2), some (.int (((x3 * 10) + (-1)) - 48)), some (.int (x4 + 1))] [] μ K) ∧
        (¬ 200 ≤ x4 →
          (vp_in x4 200) ∧
          AW E l (d + 1) nc ns mX8_addNumber 5 [some (.ref 20), some (.int x1), some (.int x2), some (.int (((x3 * 10) + (zI μ 21 x4.toNatClampNeg)) - 48)), some (.int (x4 + 1))] [] μ K))))) : AW E l (d + 1) nc ns mX8_addNumber 5 [some (.ref 20), some (.int x1), some (.int x2), some (.int x3), some (.int x4)] [] μ K := by
  refine aw_iload (pc' := 7) (dt_X8_addNumber 4 (5, .iload 4, 2) rfl) rfl rfl (aw_iload_n (pc' := 8) (dt_X8_addNumber 5 (7, .iload_n 2, 1) rfl) rfl rfl (aw_icmp_ge (pc' := 11) (tgt := 32) (dt_X8_addNumber 6 (8, .if_icmp .ge 24, 3) rfl) (by decide) rfl ?_ ?_))
  · intro q1
    have h := h.1 q1
    refine aw_aload_n (pc' := 33) (dt_X8_addNumber 19 (32, .aload_n 0, 1) rfl) rfl rfl (aw_iload_n (pc' := 34) (dt_X8_addNumber 20 (33, .iload_n 2, 1) rfl) rfl rfl (aw_iload_n (pc' := 35) (dt_X8_addNumber 21 (34, .iload_n 1, 1) rfl) rfl rfl (aw_isub (pc' := 36) (dt_X8_addNumber 22 (35, .isub, 1) rfl) rfl (aw_iconst (pc' := 37) (v := 5) (dt_X8_addNumber 23 (36, .iconst 5, 1) rfl) (by decide) rfl (aw_icmp_gt (pc' := 40) (tgt := 45) (dt_X8_addNumber 24 (37, .if_icmp .gt 8, 3) rfl) (by decide) rfl ?_ ?_)))))
    · intro q2
      have h := h.1 q2
      refine aw_bipush (pc' := 47) (v := 22) (dt_X8_addNumber 27 (45, .bipush 22, 2) rfl) (by decide) rfl (aw_iload_n (pc' := 48) (dt_X8_addNumber 28 (47, .iload_n 1, 1) rfl) rfl rfl (aw_iload_n (pc' := 49) (dt_X8_addNumber 29 (48, .iload_n 3, 1) rfl) rfl rfl (aw_inV (pc' := 52) (nc1 := 0) (ns1 := 0) (nc := nc) (ns := ns) (ls' := [some (.ref 20), some (.int 22), some (.int x1), some (.int x3)]) (y2 := mX8_add) (As := [.int 22, .int x1, .int x3]) (rest := []) (a := 20) (dt_X8_addNumber 30 (49, .invokevirtual 65, 3) rfl) ok_X8_add ln_Tape_65 im_X8_add se_X8_add pr_X8_add (Or.inl ⟨by decide, rfl⟩) rfl (Nat.le_of_ble_eq_true rfl) (Nat.le_of_ble_eq_true rfl) rfl rfl (sk_20 hS) (aw_aload_n (pc' := 1) (dt_X8_add 0 (0, .aload_n 0, 1) rfl) rfl rfl (aw_getI (pc' := 4) (dt_X8_add 1 (1, .getfield 28, 3) rfl) fl_Tape_28 rfl rfl (sk_20 hS) (aw_aload_n (pc' := 5) (dt_X8_add 2 (4, .aload_n 0, 1) rfl) rfl rfl (aw_getAs (pc' := 8) (dt_X8_add 3 (5, .getfield 15, 3) rfl) fl_Tape_15 rfl rfl (sk_20 hS) (sa_20_2 hS) (aw_alens (pc' := 9) (n := 201) (v := 201) (dt_X8_add 4 (8, .arraylength, 1) rfl) (by decide) (by decide) rfl (sk_22 hS) (sl_22 hS) (by decide) (aw_icmp_ge (pc' := 12) (tgt := 52) (dt_X8_add 5 (9, .if_icmp .ge 43, 3) rfl) (by decide) rfl ?_ ?_)))))))))
      · intro q3
        have h := h.1 q3
        refine aw_ret (dt_X8_add 30 (52, .return_, 1) rfl) rfl (aw_stk (st' := []) rfl (aw_ret (dt_X8_addNumber 31 (52, .return_, 1) rfl) rfl ?_))
        exact h
      · intro q3
        have h := h.2 q3
        obtain ⟨g4, h⟩ := h
        obtain ⟨g5, h⟩ := h
        obtain ⟨g6, h⟩ := h
        refine aw_aload_n (pc' := 13) (dt_X8_add 6 (12, .aload_n 0, 1) rfl) rfl rfl (aw_getAs (pc' := 16) (dt_X8_add 7 (13, .getfield 15, 3) rfl) fl_Tape_15 rfl rfl (sk_20 hS) (sa_20_2 hS) (aw_aload_n (pc' := 17) (dt_X8_add 8 (16, .aload_n 0, 1) rfl) rfl rfl (aw_getI (pc' := 20) (dt_X8_add 9 (17, .getfield 28, 3) rfl) fl_Tape_28 rfl rfl (sk_20 hS) (aw_iload_n (pc' := 21) (dt_X8_add 10 (20, .iload_n 1, 1) rfl) rfl rfl (aw_iast (pc' := 22) (dt_X8_add 11 (21, .iastore, 1) rfl) rfl (sk_22 hS) (by decide) (vin_eq (sl_22 hS) g4) (aw_aload_n (pc' := 23) (dt_X8_add 12 (22, .aload_n 0, 1) rfl) rfl rfl (aw_getAs (pc' := 26) (dt_X8_add 13 (23, .getfield 18, 3) rfl) fl_Tape_18 rfl rfl (sk_20 hS.wI) (sa_20_3 hS.wI) (aw_aload_n (pc' := 27) (dt_X8_add 14 (26, .aload_n 0, 1) rfl) rfl rfl (aw_getI (pc' := 30) (dt_X8_add 15 (27, .getfield 28, 3) rfl) fl_Tape_28 rfl rfl (sk_20 hS.wI) (aw_iload_n (pc' := 31) (dt_X8_add 16 (30, .iload_n 2, 1) rfl) rfl rfl (aw_iast (pc' := 32) (dt_X8_add 17 (31, .iastore, 1) rfl) rfl (sk_23 hS.wI) (by decide) (vin_eq (sl_23 hS.wI) g5) (aw_aload_n (pc' := 33) (dt_X8_add 18 (32, .aload_n 0, 1) rfl) rfl rfl (aw_getAs (pc' := 36) (dt_X8_add 19 (33, .getfield 21, 3) rfl) fl_Tape_21 rfl rfl (sk_20 hS.wI.wI) (sa_20_4 hS.wI.wI) (aw_aload_n (pc' := 37) (dt_X8_add 20 (36, .aload_n 0, 1) rfl) rfl rfl (aw_getI (pc' := 40) (dt_X8_add 21 (37, .getfield 28, 3) rfl) fl_Tape_28 rfl rfl (sk_20 hS.wI.wI) (aw_iload_n (pc' := 41) (dt_X8_add 22 (40, .iload_n 3, 1) rfl) rfl rfl (aw_iast (pc' := 42) (dt_X8_add 23 (41, .iastore, 1) rfl) rfl (sk_24 hS.wI.wI) (by decide) (vin_eq (sl_24 hS.wI.wI) g6) ?_)))))))))))))))))
        refine aw_mem (fun μ7 eμ8 => ?_)
        have h := h μ7 eμ8
        have hS9 : Stat μ7 := by rw [eμ8]; exact hS.wI.wI.wI
        refine aw_aload_n (pc' := 43) (dt_X8_add 24 (42, .aload_n 0, 1) rfl) rfl rfl (aw_dup (pc' := 44) (dt_X8_add 25 (43, .dup, 1) rfl) rfl rfl (aw_getI (pc' := 47) (dt_X8_add 26 (44, .getfield 28, 3) rfl) fl_Tape_28 rfl rfl (sk_20 hS9) (aw_iconst (pc' := 48) (v := 1) (dt_X8_add 27 (47, .iconst 1, 1) rfl) (by decide) rfl (aw_iadd (pc' := 49) (dt_X8_add 28 (48, .iadd, 1) rfl) rfl (aw_putI (pc' := 52) (dt_X8_add 29 (49, .putfield 28, 3) rfl) fl_Tape_28 rfl (by decide +kernel) rfl (sk_20 hS9) (aw_ret (dt_X8_add 30 (52, .return_, 1) rfl) rfl (aw_stk (st' := []) rfl (aw_ret (dt_X8_addNumber 31 (52, .return_, 1) rfl) rfl ?_))))))))
        exact h
    · intro q2
      have h := h.2 q2
      refine aw_bipush (pc' := 42) (v := 20) (dt_X8_addNumber 25 (40, .bipush 20, 2) rfl) (by decide) rfl (aw_goto (tgt := 47) (dt_X8_addNumber 26 (42, .goto 5, 3) rfl) (by decide) (aw_iload_n (pc' := 48) (dt_X8_addNumber 28 (47, .iload_n 1, 1) rfl) rfl rfl (aw_iload_n (pc' := 49) (dt_X8_addNumber 29 (48, .iload_n 3, 1) rfl) rfl rfl (aw_inV (pc' := 52) (nc1 := 0) (ns1 := 0) (nc := nc) (ns := ns) (ls' := [some (.ref 20), some (.int 20), some (.int x1), some (.int x3)]) (y2 := mX8_add) (As := [.int 20, .int x1, .int x3]) (rest := []) (a := 20) (dt_X8_addNumber 30 (49, .invokevirtual 65, 3) rfl) ok_X8_add ln_Tape_65 im_X8_add se_X8_add pr_X8_add (Or.inl ⟨by decide, rfl⟩) rfl (Nat.le_of_ble_eq_true rfl) (Nat.le_of_ble_eq_true rfl) rfl rfl (sk_20 hS) (aw_aload_n (pc' := 1) (dt_X8_add 0 (0, .aload_n 0, 1) rfl) rfl rfl (aw_getI (pc' := 4) (dt_X8_add 1 (1, .getfield 28, 3) rfl) fl_Tape_28 rfl rfl (sk_20 hS) (aw_aload_n (pc' := 5) (dt_X8_add 2 (4, .aload_n 0, 1) rfl) rfl rfl (aw_getAs (pc' := 8) (dt_X8_add 3 (5, .getfield 15, 3) rfl) fl_Tape_15 rfl rfl (sk_20 hS) (sa_20_2 hS) (aw_alens (pc' := 9) (n := 201) (v := 201) (dt_X8_add 4 (8, .arraylength, 1) rfl) (by decide) (by decide) rfl (sk_22 hS) (sl_22 hS) (by decide) (aw_icmp_ge (pc' := 12) (tgt := 52) (dt_X8_add 5 (9, .if_icmp .ge 43, 3) rfl) (by decide) rfl ?_ ?_))))))))))
      · intro q10
        have h := h.1 q10
        refine aw_ret (dt_X8_add 30 (52, .return_, 1) rfl) rfl (aw_stk (st' := []) rfl (aw_ret (dt_X8_addNumber 31 (52, .return_, 1) rfl) rfl ?_))
        exact h
      · intro q10
        have h := h.2 q10
        obtain ⟨g11, h⟩ := h
        obtain ⟨g12, h⟩ := h
        obtain ⟨g13, h⟩ := h
        refine aw_aload_n (pc' := 13) (dt_X8_add 6 (12, .aload_n 0, 1) rfl) rfl rfl (aw_getAs (pc' := 16) (dt_X8_add 7 (13, .getfield 15, 3) rfl) fl_Tape_15 rfl rfl (sk_20 hS) (sa_20_2 hS) (aw_aload_n (pc' := 17) (dt_X8_add 8 (16, .aload_n 0, 1) rfl) rfl rfl (aw_getI (pc' := 20) (dt_X8_add 9 (17, .getfield 28, 3) rfl) fl_Tape_28 rfl rfl (sk_20 hS) (aw_iload_n (pc' := 21) (dt_X8_add 10 (20, .iload_n 1, 1) rfl) rfl rfl (aw_iast (pc' := 22) (dt_X8_add 11 (21, .iastore, 1) rfl) rfl (sk_22 hS) (by decide) (vin_eq (sl_22 hS) g11) (aw_aload_n (pc' := 23) (dt_X8_add 12 (22, .aload_n 0, 1) rfl) rfl rfl (aw_getAs (pc' := 26) (dt_X8_add 13 (23, .getfield 18, 3) rfl) fl_Tape_18 rfl rfl (sk_20 hS.wI) (sa_20_3 hS.wI) (aw_aload_n (pc' := 27) (dt_X8_add 14 (26, .aload_n 0, 1) rfl) rfl rfl (aw_getI (pc' := 30) (dt_X8_add 15 (27, .getfield 28, 3) rfl) fl_Tape_28 rfl rfl (sk_20 hS.wI) (aw_iload_n (pc' := 31) (dt_X8_add 16 (30, .iload_n 2, 1) rfl) rfl rfl (aw_iast (pc' := 32) (dt_X8_add 17 (31, .iastore, 1) rfl) rfl (sk_23 hS.wI) (by decide) (vin_eq (sl_23 hS.wI) g12) (aw_aload_n (pc' := 33) (dt_X8_add 18 (32, .aload_n 0, 1) rfl) rfl rfl (aw_getAs (pc' := 36) (dt_X8_add 19 (33, .getfield 21, 3) rfl) fl_Tape_21 rfl rfl (sk_20 hS.wI.wI) (sa_20_4 hS.wI.wI) (aw_aload_n (pc' := 37) (dt_X8_add 20 (36, .aload_n 0, 1) rfl) rfl rfl (aw_getI (pc' := 40) (dt_X8_add 21 (37, .getfield 28, 3) rfl) fl_Tape_28 rfl rfl (sk_20 hS.wI.wI) (aw_iload_n (pc' := 41) (dt_X8_add 22 (40, .iload_n 3, 1) rfl) rfl rfl (aw_iast (pc' := 42) (dt_X8_add 23 (41, .iastore, 1) rfl) rfl (sk_24 hS.wI.wI) (by decide) (vin_eq (sl_24 hS.wI.wI) g13) ?_)))))))))))))))))
        refine aw_mem (fun μ14 eμ15 => ?_)
        have h := h μ14 eμ15
        have hS16 : Stat μ14 := by rw [eμ15]; exact hS.wI.wI.wI
        refine aw_aload_n (pc' := 43) (dt_X8_add 24 (42, .aload_n 0, 1) rfl) rfl rfl (aw_dup (pc' := 44) (dt_X8_add 25 (43, .dup, 1) rfl) rfl rfl (aw_getI (pc' := 47) (dt_X8_add 26 (44, .getfield 28, 3) rfl) fl_Tape_28 rfl rfl (sk_20 hS16) (aw_iconst (pc' := 48) (v := 1) (dt_X8_add 27 (47, .iconst 1, 1) rfl) (by decide) rfl (aw_iadd (pc' := 49) (dt_X8_add 28 (48, .iadd, 1) rfl) rfl (aw_putI (pc' := 52) (dt_X8_add 29 (49, .putfield 28, 3) rfl) fl_Tape_28 rfl (by decide +kernel) rfl (sk_20 hS16) (aw_ret (dt_X8_add 30 (52, .return_, 1) rfl) rfl (aw_stk (st' := []) rfl (aw_ret (dt_X8_addNumber 31 (52, .return_, 1) rfl) rfl ?_))))))))
        exact h
  · intro q1
    have h := h.2 q1
    refine aw_iload_n (pc' := 12) (dt_X8_addNumber 7 (11, .iload_n 3, 1) rfl) rfl rfl (aw_bipush (pc' := 14) (v := 10) (dt_X8_addNumber 8 (12, .bipush 10, 2) rfl) (by decide) rfl (aw_imul (pc' := 15) (dt_X8_addNumber 9 (14, .imul, 1) rfl) rfl (aw_aload_n (pc' := 16) (dt_X8_addNumber 10 (15, .aload_n 0, 1) rfl) rfl rfl (aw_iload (pc' := 18) (dt_X8_addNumber 11 (16, .iload 4, 2) rfl) rfl rfl (aw_inV (pc' := 21) (nc1 := 0) (ns1 := 0) (nc := nc) (ns := ns) (ls' := [some (.ref 20), some (.int x4)]) (y2 := mX8_byteAt) (As := [.int x4]) (rest := [.int (x3 * 10)]) (a := 20) (dt_X8_addNumber 12 (18, .invokevirtual 31, 3) rfl) ok_X8_byteAt ln_Tape_31 im_X8_byteAt se_X8_byteAt pr_X8_byteAt (Or.inl ⟨by decide, rfl⟩) rfl (Nat.le_of_ble_eq_true rfl) (Nat.le_of_ble_eq_true rfl) rfl rfl (sk_20 hS) (aw_iload_n (pc' := 1) (dt_X8_byteAt 0 (0, .iload_n 1, 1) rfl) rfl rfl (aw_if_lt (pc' := 4) (tgt := 30) (dt_X8_byteAt 1 (1, .ifCond .lt 29, 3) rfl) (by decide) rfl ?_ ?_)))))))
    · intro q17
      have h := h.1 q17
      refine aw_iconst (pc' := 31) (v := (-1)) (dt_X8_byteAt 16 (30, .iconst (-1), 1) rfl) (by decide) rfl (aw_iret (dt_X8_byteAt 17 (31, .ireturn, 1) rfl) rfl rfl (aw_stk (st' := [.int (-1), .int (x3 * 10)]) rfl (aw_iadd (pc' := 22) (dt_X8_addNumber 13 (21, .iadd, 1) rfl) rfl (aw_bipush (pc' := 24) (v := 48) (dt_X8_addNumber 14 (22, .bipush 48, 2) rfl) (by decide) rfl (aw_isub (pc' := 25) (dt_X8_addNumber 15 (24, .isub, 1) rfl) rfl (aw_istore_n (pc' := 26) (ls' := [some (.ref 20), some (.int x1), some (.int x2), some (.int (((x3 * 10) + (-1)) - 48)), some (.int x4)]) (dt_X8_addNumber 16 (25, .istore_n 3, 1) rfl) (by decide) rfl rfl (aw_iinc (pc' := 29) (v := 1) (ls' := [some (.ref 20), some (.int x1), some (.int x2), some (.int (((x3 * 10) + (-1)) - 48)), some (.int (x4 + 1))]) (dt_X8_addNumber 17 (26, .iinc 4 1, 3) rfl) rfl (by decide) (by decide) rfl rfl (aw_goto (tgt := 5) (dt_X8_addNumber 18 (29, .goto (-24), 3) rfl) (by decide) ?_))))))))
      exact h
    · intro q17
      have h := h.2 q17
      refine aw_iload_n (pc' := 5) (dt_X8_byteAt 2 (4, .iload_n 1, 1) rfl) rfl rfl (aw_aload_n (pc' := 6) (dt_X8_byteAt 3 (5, .aload_n 0, 1) rfl) rfl rfl (aw_getI (pc' := 9) (dt_X8_byteAt 4 (6, .getfield 24, 3) rfl) fl_Tape_24 rfl rfl (sk_20 hS) (aw_icmp_ge (pc' := 12) (tgt := 30) (dt_X8_byteAt 5 (9, .if_icmp .ge 21, 3) rfl) (by decide) rfl ?_ ?_)))
      · intro q18
        have h := h.1 q18
        refine aw_iconst (pc' := 31) (v := (-1)) (dt_X8_byteAt 16 (30, .iconst (-1), 1) rfl) (by decide) rfl (aw_iret (dt_X8_byteAt 17 (31, .ireturn, 1) rfl) rfl rfl (aw_stk (st' := [.int (-1), .int (x3 * 10)]) rfl (aw_iadd (pc' := 22) (dt_X8_addNumber 13 (21, .iadd, 1) rfl) rfl (aw_bipush (pc' := 24) (v := 48) (dt_X8_addNumber 14 (22, .bipush 48, 2) rfl) (by decide) rfl (aw_isub (pc' := 25) (dt_X8_addNumber 15 (24, .isub, 1) rfl) rfl (aw_istore_n (pc' := 26) (ls' := [some (.ref 20), some (.int x1), some (.int x2), some (.int (((x3 * 10) + (-1)) - 48)), some (.int x4)]) (dt_X8_addNumber 16 (25, .istore_n 3, 1) rfl) (by decide) rfl rfl (aw_iinc (pc' := 29) (v := 1) (ls' := [some (.ref 20), some (.int x1), some (.int x2), some (.int (((x3 * 10) + (-1)) - 48)), some (.int (x4 + 1))]) (dt_X8_addNumber 17 (26, .iinc 4 1, 3) rfl) rfl (by decide) (by decide) rfl rfl (aw_goto (tgt := 5) (dt_X8_addNumber 18 (29, .goto (-24), 3) rfl) (by decide) ?_))))))))
        exact h
      · intro q18
        have h := h.2 q18
        refine aw_iload_n (pc' := 13) (dt_X8_byteAt 6 (12, .iload_n 1, 1) rfl) rfl rfl (aw_aload_n (pc' := 14) (dt_X8_byteAt 7 (13, .aload_n 0, 1) rfl) rfl rfl (aw_getAs (pc' := 17) (dt_X8_byteAt 8 (14, .getfield 9, 3) rfl) fl_Tape_9 rfl rfl (sk_20 hS) (sa_20_0 hS) (aw_alens (pc' := 18) (n := 200) (v := 200) (dt_X8_byteAt 9 (17, .arraylength, 1) rfl) (by decide) (by decide) rfl (sk_21 hS) (sl_21 hS) (by decide) (aw_icmp_ge (pc' := 21) (tgt := 30) (dt_X8_byteAt 10 (18, .if_icmp .ge 12, 3) rfl) (by decide) rfl ?_ ?_))))
        · intro q19
          have h := h.1 q19
          refine aw_iconst (pc' := 31) (v := (-1)) (dt_X8_byteAt 16 (30, .iconst (-1), 1) rfl) (by decide) rfl (aw_iret (dt_X8_byteAt 17 (31, .ireturn, 1) rfl) rfl rfl (aw_stk (st' := [.int (-1), .int (x3 * 10)]) rfl (aw_iadd (pc' := 22) (dt_X8_addNumber 13 (21, .iadd, 1) rfl) rfl (aw_bipush (pc' := 24) (v := 48) (dt_X8_addNumber 14 (22, .bipush 48, 2) rfl) (by decide) rfl (aw_isub (pc' := 25) (dt_X8_addNumber 15 (24, .isub, 1) rfl) rfl (aw_istore_n (pc' := 26) (ls' := [some (.ref 20), some (.int x1), some (.int x2), some (.int (((x3 * 10) + (-1)) - 48)), some (.int x4)]) (dt_X8_addNumber 16 (25, .istore_n 3, 1) rfl) (by decide) rfl rfl (aw_iinc (pc' := 29) (v := 1) (ls' := [some (.ref 20), some (.int x1), some (.int x2), some (.int (((x3 * 10) + (-1)) - 48)), some (.int (x4 + 1))]) (dt_X8_addNumber 17 (26, .iinc 4 1, 3) rfl) rfl (by decide) (by decide) rfl rfl (aw_goto (tgt := 5) (dt_X8_addNumber 18 (29, .goto (-24), 3) rfl) (by decide) ?_))))))))
          exact h
        · intro q19
          have h := h.2 q19
          obtain ⟨g20, h⟩ := h
          refine aw_aload_n (pc' := 22) (dt_X8_byteAt 11 (21, .aload_n 0, 1) rfl) rfl rfl (aw_getAs (pc' := 25) (dt_X8_byteAt 12 (22, .getfield 9, 3) rfl) fl_Tape_9 rfl rfl (sk_20 hS) (sa_20_0 hS) (aw_iload_n (pc' := 26) (dt_X8_byteAt 13 (25, .iload_n 1, 1) rfl) rfl rfl (aw_iald (pc' := 27) (dt_X8_byteAt 14 (26, .iaload, 1) rfl) rfl (sk_21 hS) (vin_eq (sl_21 hS) g20) (aw_goto (tgt := 31) (dt_X8_byteAt 15 (27, .goto 4, 3) rfl) (by decide) (aw_iret (dt_X8_byteAt 17 (31, .ireturn, 1) rfl) rfl rfl (aw_stk (st' := [.int (zI μ 21 x4.toNatClampNeg), .int (x3 * 10)]) rfl (aw_iadd (pc' := 22) (dt_X8_addNumber 13 (21, .iadd, 1) rfl) rfl (aw_bipush (pc' := 24) (v := 48) (dt_X8_addNumber 14 (22, .bipush 48, 2) rfl) (by decide) rfl (aw_isub (pc' := 25) (dt_X8_addNumber 15 (24, .isub, 1) rfl) rfl (aw_istore_n (pc' := 26) (ls' := [some (.ref 20), some (.int x1), some (.int x2), some (.int (((x3 * 10) + (zI μ 21 x4.toNatClampNeg)) - 48)), some (.int x4)]) (dt_X8_addNumber 16 (25, .istore_n 3, 1) rfl) (by decide) rfl rfl (aw_iinc (pc' := 29) (v := 1) (ls' := [some (.ref 20), some (.int x1), some (.int x2), some (.int (((x3 * 10) + (zI μ 21 x4.toNatClampNeg)) - 48)), some (.int (x4 + 1))]) (dt_X8_addNumber 17 (26, .iinc 4 1, 3) rfl) rfl (by decide) (by decide) rfl rfl (aw_goto (tgt := 5) (dt_X8_addNumber 18 (29, .goto (-24), 3) rfl) (by decide) ?_))))))))))))
          exact h

theorem t_X8_placeInList {E : ZE} {l : Launch} {d nc ns : Nat} {a1 : Nat} {x2 : Int32} {x3 : Int32} {μ : ZM} {K : Option Value → ZM → Prop} (hS : Stat μ) (h :
  AW E l (d + 5) nc ns mX8_placeInList 12 [some (.ref 20), some (.ref a1), some (.int x2), some (.int x3), some (.int 0), some (.int x2), some (.int 1), some (.int 0)] [] μ K) : AW E l (d + 5) nc ns mX8_placeInList 0 [some (.ref 20), some (.ref a1), some (.int x2), some (.int x3), none, none, none, none] [] μ K := by
  refine aw_iconst (pc' := 1) (v := 0) (dt_X8_placeInList 0 (0, .iconst 0, 1) rfl) (by decide) rfl (aw_istore (pc' := 3) (ls' := [some (.ref 20), some (.ref a1), some (.int x2), some (.int x3), some (.int 0), none, none, none]) (dt_X8_placeInList 1 (1, .istore 4, 2) rfl) (by decide) rfl rfl (aw_iload_n (pc' := 4) (dt_X8_placeInList 2 (3, .iload_n 2, 1) rfl) rfl rfl (aw_istore (pc' := 6) (ls' := [some (.ref 20), some (.ref a1), some (.int x2), some (.int x3), some (.int 0), some (.int x2), none, none]) (dt_X8_placeInList 3 (4, .istore 5, 2) rfl) (by decide) rfl rfl (aw_iconst (pc' := 7) (v := 1) (dt_X8_placeInList 4 (6, .iconst 1, 1) rfl) (by decide) rfl (aw_istore (pc' := 9) (ls' := [some (.ref 20), some (.ref a1), some (.int x2), some (.int x3), some (.int 0), some (.int x2), some (.int 1), none]) (dt_X8_placeInList 5 (7, .istore 6, 2) rfl) (by decide) rfl rfl (aw_iconst (pc' := 10) (v := 0) (dt_X8_placeInList 6 (9, .iconst 0, 1) rfl) (by decide) rfl (aw_istore (pc' := 12) (ls' := [some (.ref 20), some (.ref a1), some (.int x2), some (.int x3), some (.int 0), some (.int x2), some (.int 1), some (.int 0)]) (dt_X8_placeInList 7 (10, .istore 7, 2) rfl) (by decide) rfl rfl ?_)))))))
  exact h

theorem t_X8_placeInList_12 {E : ZE} {l : Launch} {d nc ns : Nat} {a1 : Nat} {x2 : Int32} {x3 : Int32} {x4 : Int32} {x5 : Int32} {x6 : Int32} {x7 : Int32} {μ : ZM} {K : Option Value → ZM → Prop} (hS : Stat μ) (h :
  (zK μ a1 = 21) ∧
  AW E l (d + 4) 0 0 mJ0_length_8abf5 0 (zargs 1 [.ref a1]) [] μ (fun v μ2 => ∃ r4 : Int32, v = some (.int r4) ∧ Stat μ2 ∧ 
    (r4 < x7 →
      K (some (.int (-1))) μ2) ∧
    (¬ r4 < x7 →
      (zK μ2 a1 = 21) ∧
      AW E l (d + 4) 0 0 mJ0_length_8abf5 0 (zargs 1 [.ref a1]) [] μ2 (fun v μ7 => ∃ r9 : Int32, v = some (.int r9) ∧ Stat μ7 ∧ 
        (x7 = r9 →
          (x6 = 0 →
            AW E l (d + 5) nc ns mX8_placeInList 12 [some (.ref 20), some (.ref a1), some (.int x2), some (.int x3), some (.int (x4 + 1)), some (.int x2), some (.int 1), some (.int (x7 + 1))] [] μ7 K) ∧
          (¬ x6 = 0 →
            (¬ x5 = x3 →
              AW E l (d + 5) nc ns mX8_placeInList 12 [some (.ref 20), some (.ref a1), some (.int x2), some (.int x3), some (.int (x4 + 1)), some (.int x2), some (.int 1), some (.int (x7 + 1))] [] μ7 K) ∧
            (x5 = x3 →
              K (some (.int x4)) μ7))) ∧
        (¬ x7 = r9 →
          (zK μ7 a1 = 21) ∧
          AW E l (d + 4) 0 0 mJ0_charAt_5068e 0 (zargs 2 [.ref a1, .int x7]) [] μ7 (fun v μ14 => ∃ r16 : Int32, v = some (.int r16) ∧ Stat μ14 ∧ 
            (¬ r16 = 32 →
              (x6 = 0 →
                AW E l (d + 5) nc ns mX8_placeInList 12 [some (.ref 20), some (.ref a1), some (.int x2), some (.int x3), some (.int x4), some (.int (x5 + 1)), some (.int 0), some (.int (x7 + 1))] [] μ14 K) ∧
              (¬ x6 = 0 →
                (x3 ≤ x5 →
                  AW E l (d + 5) nc ns mX8_placeInList 12 [some (.ref 20), some (.ref a1), some (.int x2), some (.int x3), some (.int x4), some (.int (x5 + 1)), some (.int 0), some (.int (x7 + 1))] [] μ14 K) ∧
                (¬ x3 ≤ x5 →
                  (x5 < 0 →
                    (zK μ14 a1 = 21) ∧
                    AW E l (d + 4) 0 0 mJ0_charAt_5068e 0 (zargs 2 [.ref a1, .int x7]) [] μ14 (fun v μ22 => ∃ r24 : Int32, v = some (.int r24) ∧ Stat μ22 ∧ 
                      (¬ (-1) = r24 →
                        AW E l (d + 5) nc ns mX8_placeInList 12 [some (.ref 20), some (.ref a1), some (.int x2), some (.int x3), some (.int x4), some (.int (x5 + 1)), some (.int 0), some (.int (x7 + 1))] [] μ22 K) ∧
                      ((-1) = r24 →
                        AW E l (d + 5) nc ns mX8_placeInList 12 [some (.ref 20), some (.ref a1), some (.int x2), some (.int x3), some (.int x4), some (.int (x5 + 1)), some (.int 1), some (.int (x7 + 1))] [] μ22 K))) ∧
                  (¬ x5 < 0 →
                    ((zI μ14 20 1) ≤ x5 →
                      (zK μ14 a1 = 21) ∧
                      AW E l (d + 4) 0 0 mJ0_charAt_5068e 0 (zargs 2 [.ref a1, .int x7]) [] μ14 (fun v μ28 => ∃ r30 : Int32, v = some (.int r30) ∧ Stat μ28 ∧ 
                        (¬ (-1) = r30 →
                          AW E l (d + 5) nc ns mX8_placeInList 12 [some (.ref 20), some (.ref a1), some (.int x2), some (.int x3), some (.int x4), some (.int (x5 + 1)), some (.int 0), some (.int (x7 + 1))] [] μ28 K) ∧
                        ((-1) = r30 →
                          AW E l (d + 5) nc ns mX8_placeInList 12 [some (.ref 20), some (.ref a1), some (.int x2), some (.int x3), some (.int x4), some (.int (x5 + 1)), some (.int 1), some (.int (x7 + 1))] [] μ28 K))) ∧
                    (¬ (zI μ14 20 1) ≤ x5 →
                      (200 ≤ x5 →
                        (zK μ14 a1 = 21) ∧
                        AW E l (d + 4) 0 0 mJ0_charAt_5068e 0 (zargs 2 [.ref a1, .int x7]) [] μ14 (fun v μ34 => ∃ r36 : Int32, v = some (.int r36) ∧ Stat μ34 ∧ 
                          (¬ (-1) = r36 →
                            AW E l (d + 5) nc ns mX8_placeInList 12 [some (.ref 20), some (.ref a1), some (.int x2), some (.int x3), some (.int x4), some (.int (x5 + 1)), some (.int 0), some (.int (x7 + 1))] [] μ34 K) ∧
                          ((-1) = r36 →
                            AW E l (d + 5) nc ns mX8_placeInList 12 [some (.ref 20), some (.ref a1), some (.int x2), some (.int x3), some (.int x4), some (.int (x5 + 1)), some (.int 1), some (.int (x7 + 1))] [] μ34 K))) ∧
                      (¬ 200 ≤ x5 →
                        (vp_in x5 200) ∧
                        (zK μ14 a1 = 21) ∧
                        AW E l (d + 4) 0 0 mJ0_charAt_5068e 0 (zargs 2 [.ref a1, .int x7]) [] μ14 (fun v μ40 => ∃ r42 : Int32, v = some (.int r42) ∧ Stat μ40 ∧ 
                          (¬ (zI μ14 21 x5.toNatClampNeg) = r42 →
                            AW E l (d + 5) nc ns mX8_placeInList 12 [some (.ref 20), some (.ref a1), some (.int x2), some (.int x3), some (.int x4), some (.int (x5 + 1)), some (.int 0), some (.int (x7 + 1))] [] μ40 K) ∧
                          ((zI μ14 21 x5.toNatClampNeg) = r42 →
                            AW E l (d + 5) nc ns mX8_placeInList 12 [some (.ref 20), some (.ref a1), some (.int x2), some (.int x3), some (.int x4), some (.int (x5 + 1)), some (.int 1), some (.int (x7 + 1))] [] μ40 K)))))))) ∧
            (r16 = 32 →
              (x6 = 0 →
                AW E l (d + 5) nc ns mX8_placeInList 12 [some (.ref 20), some (.ref a1), some (.int x2), some (.int x3), some (.int (x4 + 1)), some (.int x2), some (.int 1), some (.int (x7 + 1))] [] μ14 K) ∧
              (¬ x6 = 0 →
                (¬ x5 = x3 →
                  AW E l (d + 5) nc ns mX8_placeInList 12 [some (.ref 20), some (.ref a1), some (.int x2), some (.int x3), some (.int (x4 + 1)), some (.int x2), some (.int 1), some (.int (x7 + 1))] [] μ14 K) ∧
                (x5 = x3 →
                  K (some (.int x4)) μ14))))))))) : AW E l (d + 5) nc ns mX8_placeInList 12 [some (.ref 20), some (.ref a1), some (.int x2), some (.int x3), some (.int x4), some (.int x5), some (.int x6), some (.int x7)] [] μ K := by
  obtain ⟨g1, h⟩ := h
  refine aw_iload (pc' := 14) (dt_X8_placeInList 8 (12, .iload 7, 2) rfl) rfl rfl (aw_aload_n (pc' := 15) (dt_X8_placeInList 9 (14, .aload_n 1, 1) rfl) rfl rfl (aw_callV0 (pc' := 18) (nc := nc) (ns := ns) (y2 := mJ0_length_8abf5) (As := []) (rest := [.int x7]) (a := a1) (dt_X8_placeInList 10 (15, .invokevirtual 76, 3) rfl) ok_J0_length_8abf5 ln_Tape_76 im_J0_length_8abf5 se_J0_length_8abf5 pr_J0_length_8abf5 (Or.inr ⟨rfl, rfl⟩) rfl (Nat.le_of_ble_eq_true rfl) (Nat.le_of_ble_eq_true rfl) rfl g1 h ?_))
  rintro v μ2 ⟨r4, rfl, hS3, h⟩
  refine aw_stk (st' := [.int r4, .int x7]) rfl ?_
  refine aw_icmp_gt (pc' := 21) (tgt := 109) (dt_X8_placeInList 11 (18, .if_icmp .gt 91, 3) rfl) (by decide) rfl ?_ ?_
  · intro q5
    have h := h.1 q5
    refine aw_iconst (pc' := 110) (v := (-1)) (dt_X8_placeInList 53 (109, .iconst (-1), 1) rfl) (by decide) rfl (aw_iret (dt_X8_placeInList 54 (110, .ireturn, 1) rfl) rfl rfl ?_)
    exact h
  · intro q5
    have h := h.2 q5
    obtain ⟨g6, h⟩ := h
    refine aw_iload (pc' := 23) (dt_X8_placeInList 12 (21, .iload 7, 2) rfl) rfl rfl (aw_aload_n (pc' := 24) (dt_X8_placeInList 13 (23, .aload_n 1, 1) rfl) rfl rfl (aw_callV0 (pc' := 27) (nc := nc) (ns := ns) (y2 := mJ0_length_8abf5) (As := []) (rest := [.int x7]) (a := a1) (dt_X8_placeInList 14 (24, .invokevirtual 76, 3) rfl) ok_J0_length_8abf5 ln_Tape_76 im_J0_length_8abf5 se_J0_length_8abf5 pr_J0_length_8abf5 (Or.inr ⟨rfl, rfl⟩) rfl (Nat.le_of_ble_eq_true rfl) (Nat.le_of_ble_eq_true rfl) rfl g6 h ?_))
    rintro v μ7 ⟨r9, rfl, hS8, h⟩
    refine aw_stk (st' := [.int r9, .int x7]) rfl ?_
    refine aw_icmp_eq (pc' := 30) (tgt := 41) (dt_X8_placeInList 15 (27, .if_icmp .eq 14, 3) rfl) (by decide) rfl ?_ ?_
    · intro q10
      have h := h.1 q10
      refine aw_iload (pc' := 43) (dt_X8_placeInList 21 (41, .iload 6, 2) rfl) rfl rfl (aw_if_eq (pc' := 46) (tgt := 55) (dt_X8_placeInList 22 (43, .ifCond .eq 12, 3) rfl) (by decide) rfl ?_ ?_)
      · intro q11
        have h := h.1 q11
        refine aw_iinc (pc' := 58) (v := 1) (ls' := [some (.ref 20), some (.ref a1), some (.int x2), some (.int x3), some (.int (x4 + 1)), some (.int x5), some (.int x6), some (.int x7)]) (dt_X8_placeInList 28 (55, .iinc 4 1, 3) rfl) rfl (by decide) (by decide) rfl rfl (aw_iload_n (pc' := 59) (dt_X8_placeInList 29 (58, .iload_n 2, 1) rfl) rfl rfl (aw_istore (pc' := 61) (ls' := [some (.ref 20), some (.ref a1), some (.int x2), some (.int x3), some (.int (x4 + 1)), some (.int x2), some (.int x6), some (.int x7)]) (dt_X8_placeInList 30 (59, .istore 5, 2) rfl) (by decide) rfl rfl (aw_iconst (pc' := 62) (v := 1) (dt_X8_placeInList 31 (61, .iconst 1, 1) rfl) (by decide) rfl (aw_istore (pc' := 64) (ls' := [some (.ref 20), some (.ref a1), some (.int x2), some (.int x3), some (.int (x4 + 1)), some (.int x2), some (.int 1), some (.int x7)]) (dt_X8_placeInList 32 (62, .istore 6, 2) rfl) (by decide) rfl rfl (aw_goto (tgt := 103) (dt_X8_placeInList 33 (64, .goto 39, 3) rfl) (by decide) (aw_iinc (pc' := 106) (v := 1) (ls' := [some (.ref 20), some (.ref a1), some (.int x2), some (.int x3), some (.int (x4 + 1)), some (.int x2), some (.int 1), some (.int (x7 + 1))]) (dt_X8_placeInList 51 (103, .iinc 7 1, 3) rfl) rfl (by decide) (by decide) rfl rfl (aw_goto (tgt := 12) (dt_X8_placeInList 52 (106, .goto (-94), 3) rfl) (by decide) ?_)))))))
        exact h
      · intro q11
        have h := h.2 q11
        refine aw_iload (pc' := 48) (dt_X8_placeInList 23 (46, .iload 5, 2) rfl) rfl rfl (aw_iload_n (pc' := 49) (dt_X8_placeInList 24 (48, .iload_n 3, 1) rfl) rfl rfl (aw_icmp_ne (pc' := 52) (tgt := 55) (dt_X8_placeInList 25 (49, .if_icmp .ne 6, 3) rfl) (by decide) rfl ?_ ?_))
        · intro q12
          have h := h.1 q12
          refine aw_iinc (pc' := 58) (v := 1) (ls' := [some (.ref 20), some (.ref a1), some (.int x2), some (.int x3), some (.int (x4 + 1)), some (.int x5), some (.int x6), some (.int x7)]) (dt_X8_placeInList 28 (55, .iinc 4 1, 3) rfl) rfl (by decide) (by decide) rfl rfl (aw_iload_n (pc' := 59) (dt_X8_placeInList 29 (58, .iload_n 2, 1) rfl) rfl rfl (aw_istore (pc' := 61) (ls' := [some (.ref 20), some (.ref a1), some (.int x2), some (.int x3), some (.int (x4 + 1)), some (.int x2), some (.int x6), some (.int x7)]) (dt_X8_placeInList 30 (59, .istore 5, 2) rfl) (by decide) rfl rfl (aw_iconst (pc' := 62) (v := 1) (dt_X8_placeInList 31 (61, .iconst 1, 1) rfl) (by decide) rfl (aw_istore (pc' := 64) (ls' := [some (.ref 20), some (.ref a1), some (.int x2), some (.int x3), some (.int (x4 + 1)), some (.int x2), some (.int 1), some (.int x7)]) (dt_X8_placeInList 32 (62, .istore 6, 2) rfl) (by decide) rfl rfl (aw_goto (tgt := 103) (dt_X8_placeInList 33 (64, .goto 39, 3) rfl) (by decide) (aw_iinc (pc' := 106) (v := 1) (ls' := [some (.ref 20), some (.ref a1), some (.int x2), some (.int x3), some (.int (x4 + 1)), some (.int x2), some (.int 1), some (.int (x7 + 1))]) (dt_X8_placeInList 51 (103, .iinc 7 1, 3) rfl) rfl (by decide) (by decide) rfl rfl (aw_goto (tgt := 12) (dt_X8_placeInList 52 (106, .goto (-94), 3) rfl) (by decide) ?_)))))))
          exact h
        · intro q12
          have h := h.2 q12
          refine aw_iload (pc' := 54) (dt_X8_placeInList 26 (52, .iload 4, 2) rfl) rfl rfl (aw_iret (dt_X8_placeInList 27 (54, .ireturn, 1) rfl) rfl rfl ?_)
          exact h
    · intro q10
      have h := h.2 q10
      obtain ⟨g13, h⟩ := h
      refine aw_aload_n (pc' := 31) (dt_X8_placeInList 16 (30, .aload_n 1, 1) rfl) rfl rfl (aw_iload (pc' := 33) (dt_X8_placeInList 17 (31, .iload 7, 2) rfl) rfl rfl (aw_callV0 (pc' := 36) (nc := nc) (ns := ns) (y2 := mJ0_charAt_5068e) (As := [.int x7]) (rest := []) (a := a1) (dt_X8_placeInList 18 (33, .invokevirtual 79, 3) rfl) ok_J0_charAt_5068e ln_Tape_79 im_J0_charAt_5068e se_J0_charAt_5068e pr_J0_charAt_5068e (Or.inr ⟨rfl, rfl⟩) rfl (Nat.le_of_ble_eq_true rfl) (Nat.le_of_ble_eq_true rfl) rfl g13 h ?_))
      rintro v μ14 ⟨r16, rfl, hS15, h⟩
      refine aw_stk (st' := [.int r16]) rfl ?_
      refine aw_bipush (pc' := 38) (v := 32) (dt_X8_placeInList 19 (36, .bipush 32, 2) rfl) (by decide) rfl (aw_icmp_ne (pc' := 41) (tgt := 67) (dt_X8_placeInList 20 (38, .if_icmp .ne 29, 3) rfl) (by decide) rfl ?_ ?_)
      · intro q17
        have h := h.1 q17
        refine aw_iload (pc' := 69) (dt_X8_placeInList 34 (67, .iload 6, 2) rfl) rfl rfl (aw_if_eq (pc' := 72) (tgt := 97) (dt_X8_placeInList 35 (69, .ifCond .eq 28, 3) rfl) (by decide) rfl ?_ ?_)
        · intro q18
          have h := h.1 q18
          refine aw_iconst (pc' := 98) (v := 0) (dt_X8_placeInList 48 (97, .iconst 0, 1) rfl) (by decide) rfl (aw_istore (pc' := 100) (ls' := [some (.ref 20), some (.ref a1), some (.int x2), some (.int x3), some (.int x4), some (.int x5), some (.int 0), some (.int x7)]) (dt_X8_placeInList 49 (98, .istore 6, 2) rfl) (by decide) rfl rfl (aw_iinc (pc' := 103) (v := 1) (ls' := [some (.ref 20), some (.ref a1), some (.int x2), some (.int x3), some (.int x4), some (.int (x5 + 1)), some (.int 0), some (.int x7)]) (dt_X8_placeInList 50 (100, .iinc 5 1, 3) rfl) rfl (by decide) (by decide) rfl rfl (aw_iinc (pc' := 106) (v := 1) (ls' := [some (.ref 20), some (.ref a1), some (.int x2), some (.int x3), some (.int x4), some (.int (x5 + 1)), some (.int 0), some (.int (x7 + 1))]) (dt_X8_placeInList 51 (103, .iinc 7 1, 3) rfl) rfl (by decide) (by decide) rfl rfl (aw_goto (tgt := 12) (dt_X8_placeInList 52 (106, .goto (-94), 3) rfl) (by decide) ?_))))
          exact h
        · intro q18
          have h := h.2 q18
          refine aw_iload (pc' := 74) (dt_X8_placeInList 36 (72, .iload 5, 2) rfl) rfl rfl (aw_iload_n (pc' := 75) (dt_X8_placeInList 37 (74, .iload_n 3, 1) rfl) rfl rfl (aw_icmp_ge (pc' := 78) (tgt := 97) (dt_X8_placeInList 38 (75, .if_icmp .ge 22, 3) rfl) (by decide) rfl ?_ ?_))
          · intro q19
            have h := h.1 q19
            refine aw_iconst (pc' := 98) (v := 0) (dt_X8_placeInList 48 (97, .iconst 0, 1) rfl) (by decide) rfl (aw_istore (pc' := 100) (ls' := [some (.ref 20), some (.ref a1), some (.int x2), some (.int x3), some (.int x4), some (.int x5), some (.int 0), some (.int x7)]) (dt_X8_placeInList 49 (98, .istore 6, 2) rfl) (by decide) rfl rfl (aw_iinc (pc' := 103) (v := 1) (ls' := [some (.ref 20), some (.ref a1), some (.int x2), some (.int x3), some (.int x4), some (.int (x5 + 1)), some (.int 0), some (.int x7)]) (dt_X8_placeInList 50 (100, .iinc 5 1, 3) rfl) rfl (by decide) (by decide) rfl rfl (aw_iinc (pc' := 106) (v := 1) (ls' := [some (.ref 20), some (.ref a1), some (.int x2), some (.int x3), some (.int x4), some (.int (x5 + 1)), some (.int 0), some (.int (x7 + 1))]) (dt_X8_placeInList 51 (103, .iinc 7 1, 3) rfl) rfl (by decide) (by decide) rfl rfl (aw_goto (tgt := 12) (dt_X8_placeInList 52 (106, .goto (-94), 3) rfl) (by decide) ?_))))
            exact h
          · intro q19
            have h := h.2 q19
            refine aw_aload_n (pc' := 79) (dt_X8_placeInList 39 (78, .aload_n 0, 1) rfl) rfl rfl (aw_iload (pc' := 81) (dt_X8_placeInList 40 (79, .iload 5, 2) rfl) rfl rfl (aw_inV (pc' := 84) (nc1 := 0) (ns1 := 0) (nc := nc) (ns := ns) (ls' := [some (.ref 20), some (.int x5)]) (y2 := mX8_byteAt) (As := [.int x5]) (rest := []) (a := 20) (dt_X8_placeInList 41 (81, .invokevirtual 31, 3) rfl) ok_X8_byteAt ln_Tape_31 im_X8_byteAt se_X8_byteAt pr_X8_byteAt (Or.inl ⟨by decide, rfl⟩) rfl (Nat.le_of_ble_eq_true rfl) (Nat.le_of_ble_eq_true rfl) rfl rfl (sk_20 hS15) (aw_iload_n (pc' := 1) (dt_X8_byteAt 0 (0, .iload_n 1, 1) rfl) rfl rfl (aw_if_lt (pc' := 4) (tgt := 30) (dt_X8_byteAt 1 (1, .ifCond .lt 29, 3) rfl) (by decide) rfl ?_ ?_))))
            · intro q20
              have h := h.1 q20
              obtain ⟨g21, h⟩ := h
              refine aw_iconst (pc' := 31) (v := (-1)) (dt_X8_byteAt 16 (30, .iconst (-1), 1) rfl) (by decide) rfl (aw_iret (dt_X8_byteAt 17 (31, .ireturn, 1) rfl) rfl rfl (aw_stk (st' := [.int (-1)]) rfl (aw_aload_n (pc' := 85) (dt_X8_placeInList 42 (84, .aload_n 1, 1) rfl) rfl rfl (aw_iload (pc' := 87) (dt_X8_placeInList 43 (85, .iload 7, 2) rfl) rfl rfl (aw_callV0 (pc' := 90) (nc := nc) (ns := ns) (y2 := mJ0_charAt_5068e) (As := [.int x7]) (rest := [.int (-1)]) (a := a1) (dt_X8_placeInList 44 (87, .invokevirtual 79, 3) rfl) ok_J0_charAt_5068e ln_Tape_79 im_J0_charAt_5068e se_J0_charAt_5068e pr_J0_charAt_5068e (Or.inr ⟨rfl, rfl⟩) rfl (Nat.le_of_ble_eq_true rfl) (Nat.le_of_ble_eq_true rfl) rfl g21 h ?_)))))
              rintro v μ22 ⟨r24, rfl, hS23, h⟩
              refine aw_stk (st' := [.int r24, .int (-1)]) rfl ?_
              refine aw_icmp_ne (pc' := 93) (tgt := 97) (dt_X8_placeInList 45 (90, .if_icmp .ne 7, 3) rfl) (by decide) rfl ?_ ?_
              · intro q25
                have h := h.1 q25
                refine aw_iconst (pc' := 98) (v := 0) (dt_X8_placeInList 48 (97, .iconst 0, 1) rfl) (by decide) rfl (aw_istore (pc' := 100) (ls' := [some (.ref 20), some (.ref a1), some (.int x2), some (.int x3), some (.int x4), some (.int x5), some (.int 0), some (.int x7)]) (dt_X8_placeInList 49 (98, .istore 6, 2) rfl) (by decide) rfl rfl (aw_iinc (pc' := 103) (v := 1) (ls' := [some (.ref 20), some (.ref a1), some (.int x2), some (.int x3), some (.int x4), some (.int (x5 + 1)), some (.int 0), some (.int x7)]) (dt_X8_placeInList 50 (100, .iinc 5 1, 3) rfl) rfl (by decide) (by decide) rfl rfl (aw_iinc (pc' := 106) (v := 1) (ls' := [some (.ref 20), some (.ref a1), some (.int x2), some (.int x3), some (.int x4), some (.int (x5 + 1)), some (.int 0), some (.int (x7 + 1))]) (dt_X8_placeInList 51 (103, .iinc 7 1, 3) rfl) rfl (by decide) (by decide) rfl rfl (aw_goto (tgt := 12) (dt_X8_placeInList 52 (106, .goto (-94), 3) rfl) (by decide) ?_))))
                exact h
              · intro q25
                have h := h.2 q25
                refine aw_iconst (pc' := 94) (v := 1) (dt_X8_placeInList 46 (93, .iconst 1, 1) rfl) (by decide) rfl (aw_goto (tgt := 98) (dt_X8_placeInList 47 (94, .goto 4, 3) rfl) (by decide) (aw_istore (pc' := 100) (ls' := [some (.ref 20), some (.ref a1), some (.int x2), some (.int x3), some (.int x4), some (.int x5), some (.int 1), some (.int x7)]) (dt_X8_placeInList 49 (98, .istore 6, 2) rfl) (by decide) rfl rfl (aw_iinc (pc' := 103) (v := 1) (ls' := [some (.ref 20), some (.ref a1), some (.int x2), some (.int x3), some (.int x4), some (.int (x5 + 1)), some (.int 1), some (.int x7)]) (dt_X8_placeInList 50 (100, .iinc 5 1, 3) rfl) rfl (by decide) (by decide) rfl rfl (aw_iinc (pc' := 106) (v := 1) (ls' := [some (.ref 20), some (.ref a1), some (.int x2), some (.int x3), some (.int x4), some (.int (x5 + 1)), some (.int 1), some (.int (x7 + 1))]) (dt_X8_placeInList 51 (103, .iinc 7 1, 3) rfl) rfl (by decide) (by decide) rfl rfl (aw_goto (tgt := 12) (dt_X8_placeInList 52 (106, .goto (-94), 3) rfl) (by decide) ?_)))))
                exact h
            · intro q20
              have h := h.2 q20
              refine aw_iload_n (pc' := 5) (dt_X8_byteAt 2 (4, .iload_n 1, 1) rfl) rfl rfl (aw_aload_n (pc' := 6) (dt_X8_byteAt 3 (5, .aload_n 0, 1) rfl) rfl rfl (aw_getI (pc' := 9) (dt_X8_byteAt 4 (6, .getfield 24, 3) rfl) fl_Tape_24 rfl rfl (sk_20 hS15) (aw_icmp_ge (pc' := 12) (tgt := 30) (dt_X8_byteAt 5 (9, .if_icmp .ge 21, 3) rfl) (by decide) rfl ?_ ?_)))
              · intro q26
                have h := h.1 q26
                obtain ⟨g27, h⟩ := h
                refine aw_iconst (pc' := 31) (v := (-1)) (dt_X8_byteAt 16 (30, .iconst (-1), 1) rfl) (by decide) rfl (aw_iret (dt_X8_byteAt 17 (31, .ireturn, 1) rfl) rfl rfl (aw_stk (st' := [.int (-1)]) rfl (aw_aload_n (pc' := 85) (dt_X8_placeInList 42 (84, .aload_n 1, 1) rfl) rfl rfl (aw_iload (pc' := 87) (dt_X8_placeInList 43 (85, .iload 7, 2) rfl) rfl rfl (aw_callV0 (pc' := 90) (nc := nc) (ns := ns) (y2 := mJ0_charAt_5068e) (As := [.int x7]) (rest := [.int (-1)]) (a := a1) (dt_X8_placeInList 44 (87, .invokevirtual 79, 3) rfl) ok_J0_charAt_5068e ln_Tape_79 im_J0_charAt_5068e se_J0_charAt_5068e pr_J0_charAt_5068e (Or.inr ⟨rfl, rfl⟩) rfl (Nat.le_of_ble_eq_true rfl) (Nat.le_of_ble_eq_true rfl) rfl g27 h ?_)))))
                rintro v μ28 ⟨r30, rfl, hS29, h⟩
                refine aw_stk (st' := [.int r30, .int (-1)]) rfl ?_
                refine aw_icmp_ne (pc' := 93) (tgt := 97) (dt_X8_placeInList 45 (90, .if_icmp .ne 7, 3) rfl) (by decide) rfl ?_ ?_
                · intro q31
                  have h := h.1 q31
                  refine aw_iconst (pc' := 98) (v := 0) (dt_X8_placeInList 48 (97, .iconst 0, 1) rfl) (by decide) rfl (aw_istore (pc' := 100) (ls' := [some (.ref 20), some (.ref a1), some (.int x2), some (.int x3), some (.int x4), some (.int x5), some (.int 0), some (.int x7)]) (dt_X8_placeInList 49 (98, .istore 6, 2) rfl) (by decide) rfl rfl (aw_iinc (pc' := 103) (v := 1) (ls' := [some (.ref 20), some (.ref a1), some (.int x2), some (.int x3), some (.int x4), some (.int (x5 + 1)), some (.int 0), some (.int x7)]) (dt_X8_placeInList 50 (100, .iinc 5 1, 3) rfl) rfl (by decide) (by decide) rfl rfl (aw_iinc (pc' := 106) (v := 1) (ls' := [some (.ref 20), some (.ref a1), some (.int x2), some (.int x3), some (.int x4), some (.int (x5 + 1)), some (.int 0), some (.int (x7 + 1))]) (dt_X8_placeInList 51 (103, .iinc 7 1, 3) rfl) rfl (by decide) (by decide) rfl rfl (aw_goto (tgt := 12) (dt_X8_placeInList 52 (106, .goto (-94), 3) rfl) (by decide) ?_))))
                  exact h
                · intro q31
                  have h := h.2 q31
                  refine aw_iconst (pc' := 94) (v := 1) (dt_X8_placeInList 46 (93, .iconst 1, 1) rfl) (by decide) rfl (aw_goto (tgt := 98) (dt_X8_placeInList 47 (94, .goto 4, 3) rfl) (by decide) (aw_istore (pc' := 100) (ls' := [some (.ref 20), some (.ref a1), some (.int x2), some (.int x3), some (.int x4), some (.int x5), some (.int 1), some (.int x7)]) (dt_X8_placeInList 49 (98, .istore 6, 2) rfl) (by decide) rfl rfl (aw_iinc (pc' := 103) (v := 1) (ls' := [some (.ref 20), some (.ref a1), some (.int x2), some (.int x3), some (.int x4), some (.int (x5 + 1)), some (.int 1), some (.int x7)]) (dt_X8_placeInList 50 (100, .iinc 5 1, 3) rfl) rfl (by decide) (by decide) rfl rfl (aw_iinc (pc' := 106) (v := 1) (ls' := [some (.ref 20), some (.ref a1), some (.int x2), some (.int x3), some (.int x4), some (.int (x5 + 1)), some (.int 1), some (.int (x7 + 1))]) (dt_X8_placeInList 51 (103, .iinc 7 1, 3) rfl) rfl (by decide) (by decide) rfl rfl (aw_goto (tgt := 12) (dt_X8_placeInList 52 (106, .goto (-94), 3) rfl) (by decide) ?_)))))
                  exact h
              · intro q26
                have h := h.2 q26
                refine aw_iload_n (pc' := 13) (dt_X8_byteAt 6 (12, .iload_n 1, 1) rfl) rfl rfl (aw_aload_n (pc' := 14) (dt_X8_byteAt 7 (13, .aload_n 0, 1) rfl) rfl rfl (aw_getAs (pc' := 17) (dt_X8_byteAt 8 (14, .getfield 9, 3) rfl) fl_Tape_9 rfl rfl (sk_20 hS15) (sa_20_0 hS15) (aw_alens (pc' := 18) (n := 200) (v := 200) (dt_X8_byteAt 9 (17, .arraylength, 1) rfl) (by decide) (by decide) rfl (sk_21 hS15) (sl_21 hS15) (by decide) (aw_icmp_ge (pc' := 21) (tgt := 30) (dt_X8_byteAt 10 (18, .if_icmp .ge 12, 3) rfl) (by decide) rfl ?_ ?_))))
                · intro q32
                  have h := h.1 q32
                  obtain ⟨g33, h⟩ := h
                  refine aw_iconst (pc' := 31) (v := (-1)) (dt_X8_byteAt 16 (30, .iconst (-1), 1) rfl) (by decide) rfl (aw_iret (dt_X8_byteAt 17 (31, .ireturn, 1) rfl) rfl rfl (aw_stk (st' := [.int (-1)]) rfl (aw_aload_n (pc' := 85) (dt_X8_placeInList 42 (84, .aload_n 1, 1) rfl) rfl rfl (aw_iload (pc' := 87) (dt_X8_placeInList 43 (85, .iload 7, 2) rfl) rfl rfl (aw_callV0 (pc' := 90) (nc := nc) (ns := ns) (y2 := mJ0_charAt_5068e) (As := [.int x7]) (rest := [.int (-1)]) (a := a1) (dt_X8_placeInList 44 (87, .invokevirtual 79, 3) rfl) ok_J0_charAt_5068e ln_Tape_79 im_J0_charAt_5068e se_J0_charAt_5068e pr_J0_charAt_5068e (Or.inr ⟨rfl, rfl⟩) rfl (Nat.le_of_ble_eq_true rfl) (Nat.le_of_ble_eq_true rfl) rfl g33 h ?_)))))
                  rintro v μ34 ⟨r36, rfl, hS35, h⟩
                  refine aw_stk (st' := [.int r36, .int (-1)]) rfl ?_
                  refine aw_icmp_ne (pc' := 93) (tgt := 97) (dt_X8_placeInList 45 (90, .if_icmp .ne 7, 3) rfl) (by decide) rfl ?_ ?_
                  · intro q37
                    have h := h.1 q37
                    refine aw_iconst (pc' := 98) (v := 0) (dt_X8_placeInList 48 (97, .iconst 0, 1) rfl) (by decide) rfl (aw_istore (pc' := 100) (ls' := [some (.ref 20), some (.ref a1), some (.int x2), some (.int x3), some (.int x4), some (.int x5), some (.int 0), some (.int x7)]) (dt_X8_placeInList 49 (98, .istore 6, 2) rfl) (by decide) rfl rfl (aw_iinc (pc' := 103) (v := 1) (ls' := [some (.ref 20), some (.ref a1), some (.int x2), some (.int x3), some (.int x4), some (.int (x5 + 1)), some (.int 0), some (.int x7)]) (dt_X8_placeInList 50 (100, .iinc 5 1, 3) rfl) rfl (by decide) (by decide) rfl rfl (aw_iinc (pc' := 106) (v := 1) (ls' := [some (.ref 20), some (.ref a1), some (.int x2), some (.int x3), some (.int x4), some (.int (x5 + 1)), some (.int 0), some (.int (x7 + 1))]) (dt_X8_placeInList 51 (103, .iinc 7 1, 3) rfl) rfl (by decide) (by decide) rfl rfl (aw_goto (tgt := 12) (dt_X8_placeInList 52 (106, .goto (-94), 3) rfl) (by decide) ?_))))
                    exact h
                  · intro q37
                    have h := h.2 q37
                    refine aw_iconst (pc' := 94) (v := 1) (dt_X8_placeInList 46 (93, .iconst 1, 1) rfl) (by decide) rfl (aw_goto (tgt := 98) (dt_X8_placeInList 47 (94, .goto 4, 3) rfl) (by decide) (aw_istore (pc' := 100) (ls' := [some (.ref 20), some (.ref a1), some (.int x2), some (.int x3), some (.int x4), some (.int x5), some (.int 1), some (.int x7)]) (dt_X8_placeInList 49 (98, .istore 6, 2) rfl) (by decide) rfl rfl (aw_iinc (pc' := 103) (v := 1) (ls' := [some (.ref 20), some (.ref a1), some (.int x2), some (.int x3), some (.int x4), some (.int (x5 + 1)), some (.int 1), some (.int x7)]) (dt_X8_placeInList 50 (100, .iinc 5 1, 3) rfl) rfl (by decide) (by decide) rfl rfl (aw_iinc (pc' := 106) (v := 1) (ls' := [some (.ref 20), some (.ref a1), some (.int x2), some (.int x3), some (.int x4), some (.int (x5 + 1)), some (.int 1), some (.int (x7 + 1))]) (dt_X8_placeInList 51 (103, .iinc 7 1, 3) rfl) rfl (by decide) (by decide) rfl rfl (aw_goto (tgt := 12) (dt_X8_placeInList 52 (106, .goto (-94), 3) rfl) (by decide) ?_)))))
                    exact h
                · intro q32
                  have h := h.2 q32
                  obtain ⟨g38, h⟩ := h
                  obtain ⟨g39, h⟩ := h
                  refine aw_aload_n (pc' := 22) (dt_X8_byteAt 11 (21, .aload_n 0, 1) rfl) rfl rfl (aw_getAs (pc' := 25) (dt_X8_byteAt 12 (22, .getfield 9, 3) rfl) fl_Tape_9 rfl rfl (sk_20 hS15) (sa_20_0 hS15) (aw_iload_n (pc' := 26) (dt_X8_byteAt 13 (25, .iload_n 1, 1) rfl) rfl rfl (aw_iald (pc' := 27) (dt_X8_byteAt 14 (26, .iaload, 1) rfl) rfl (sk_21 hS15) (vin_eq (sl_21 hS15) g38) (aw_goto (tgt := 31) (dt_X8_byteAt 15 (27, .goto 4, 3) rfl) (by decide) (aw_iret (dt_X8_byteAt 17 (31, .ireturn, 1) rfl) rfl rfl (aw_stk (st' := [.int (zI μ14 21 x5.toNatClampNeg)]) rfl (aw_aload_n (pc' := 85) (dt_X8_placeInList 42 (84, .aload_n 1, 1) rfl) rfl rfl (aw_iload (pc' := 87) (dt_X8_placeInList 43 (85, .iload 7, 2) rfl) rfl rfl (aw_callV0 (pc' := 90) (nc := nc) (ns := ns) (y2 := mJ0_charAt_5068e) (As := [.int x7]) (rest := [.int (zI μ14 21 x5.toNatClampNeg)]) (a := a1) (dt_X8_placeInList 44 (87, .invokevirtual 79, 3) rfl) ok_J0_charAt_5068e ln_Tape_79 im_J0_charAt_5068e se_J0_charAt_5068e pr_J0_charAt_5068e (Or.inr ⟨rfl, rfl⟩) rfl (Nat.le_of_ble_eq_true rfl) (Nat.le_of_ble_eq_true rfl) rfl g39 h ?_)))))))))
                  rintro v μ40 ⟨r42, rfl, hS41, h⟩
                  refine aw_stk (st' := [.int r42, .int (zI μ14 21 x5.toNatClampNeg)]) rfl ?_
                  refine aw_icmp_ne (pc' := 93) (tgt := 97) (dt_X8_placeInList 45 (90, .if_icmp .ne 7, 3) rfl) (by decide) rfl ?_ ?_
                  · intro q43
                    have h := h.1 q43
                    refine aw_iconst (pc' := 98) (v := 0) (dt_X8_placeInList 48 (97, .iconst 0, 1) rfl) (by decide) rfl (aw_istore (pc' := 100) (ls' := [some (.ref 20), some (.ref a1), some (.int x2), some (.int x3), some (.int x4), some (.int x5), some (.int 0), some (.int x7)]) (dt_X8_placeInList 49 (98, .istore 6, 2) rfl) (by decide) rfl rfl (aw_iinc (pc' := 103) (v := 1) (ls' := [some (.ref 20), some (.ref a1), some (.int x2), some (.int x3), some (.int x4), some (.int (x5 + 1)), some (.int 0), some (.int x7)]) (dt_X8_placeInList 50 (100, .iinc 5 1, 3) rfl) rfl (by decide) (by decide) rfl rfl (aw_iinc (pc' := 106) (v := 1) (ls' := [some (.ref 20), some (.ref a1), some (.int x2), some (.int x3), some (.int x4), some (.int (x5 + 1)), some (.int 0), some (.int (x7 + 1))]) (dt_X8_placeInList 51 (103, .iinc 7 1, 3) rfl) rfl (by decide) (by decide) rfl rfl (aw_goto (tgt := 12) (dt_X8_placeInList 52 (106, .goto (-94), 3) rfl) (by decide) ?_))))
                    exact h
                  · intro q43
                    have h := h.2 q43
                    refine aw_iconst (pc' := 94) (v := 1) (dt_X8_placeInList 46 (93, .iconst 1, 1) rfl) (by decide) rfl (aw_goto (tgt := 98) (dt_X8_placeInList 47 (94, .goto 4, 3) rfl) (by decide) (aw_istore (pc' := 100) (ls' := [some (.ref 20), some (.ref a1), some (.int x2), some (.int x3), some (.int x4), some (.int x5), some (.int 1), some (.int x7)]) (dt_X8_placeInList 49 (98, .istore 6, 2) rfl) (by decide) rfl rfl (aw_iinc (pc' := 103) (v := 1) (ls' := [some (.ref 20), some (.ref a1), some (.int x2), some (.int x3), some (.int x4), some (.int (x5 + 1)), some (.int 1), some (.int x7)]) (dt_X8_placeInList 50 (100, .iinc 5 1, 3) rfl) rfl (by decide) (by decide) rfl rfl (aw_iinc (pc' := 106) (v := 1) (ls' := [some (.ref 20), some (.ref a1), some (.int x2), some (.int x3), some (.int x4), some (.int (x5 + 1)), some (.int 1), some (.int (x7 + 1))]) (dt_X8_placeInList 51 (103, .iinc 7 1, 3) rfl) rfl (by decide) (by decide) rfl rfl (aw_goto (tgt := 12) (dt_X8_placeInList 52 (106, .goto (-94), 3) rfl) (by decide) ?_)))))
                    exact h
      · intro q17
        have h := h.2 q17
        refine aw_iload (pc' := 43) (dt_X8_placeInList 21 (41, .iload 6, 2) rfl) rfl rfl (aw_if_eq (pc' := 46) (tgt := 55) (dt_X8_placeInList 22 (43, .ifCond .eq 12, 3) rfl) (by decide) rfl ?_ ?_)
        · intro q44
          have h := h.1 q44
          refine aw_iinc (pc' := 58) (v := 1) (ls' := [some (.ref 20), some (.ref a1), some (.int x2), some (.int x3), some (.int (x4 + 1)), some (.int x5), some (.int x6), some (.int x7)]) (dt_X8_placeInList 28 (55, .iinc 4 1, 3) rfl) rfl (by decide) (by decide) rfl rfl (aw_iload_n (pc' := 59) (dt_X8_placeInList 29 (58, .iload_n 2, 1) rfl) rfl rfl (aw_istore (pc' := 61) (ls' := [some (.ref 20), some (.ref a1), some (.int x2), some (.int x3), some (.int (x4 + 1)), some (.int x2), some (.int x6), some (.int x7)]) (dt_X8_placeInList 30 (59, .istore 5, 2) rfl) (by decide) rfl rfl (aw_iconst (pc' := 62) (v := 1) (dt_X8_placeInList 31 (61, .iconst 1, 1) rfl) (by decide) rfl (aw_istore (pc' := 64) (ls' := [some (.ref 20), some (.ref a1), some (.int x2), some (.int x3), some (.int (x4 + 1)), some (.int x2), some (.int 1), some (.int x7)]) (dt_X8_placeInList 32 (62, .istore 6, 2) rfl) (by decide) rfl rfl (aw_goto (tgt := 103) (dt_X8_placeInList 33 (64, .goto 39, 3) rfl) (by decide) (aw_iinc (pc' := 106) (v := 1) (ls' := [some (.ref 20), some (.ref a1), some (.int x2), some (.int x3), some (.int (x4 + 1)), some (.int x2), some (.int 1), some (.int (x7 + 1))]) (dt_X8_placeInList 51 (103, .iinc 7 1, 3) rfl) rfl (by decide) (by decide) rfl rfl (aw_goto (tgt := 12) (dt_X8_placeInList 52 (106, .goto (-94), 3) rfl) (by decide) ?_)))))))
          exact h
        · intro q44
          have h := h.2 q44
          refine aw_iload (pc' := 48) (dt_X8_placeInList 23 (46, .iload 5, 2) rfl) rfl rfl (aw_iload_n (pc' := 49) (dt_X8_placeInList 24 (48, .iload_n 3, 1) rfl) rfl rfl (aw_icmp_ne (pc' := 52) (tgt := 55) (dt_X8_placeInList 25 (49, .if_icmp .ne 6, 3) rfl) (by decide) rfl ?_ ?_))
          · intro q45
            have h := h.1 q45
            refine aw_iinc (pc' := 58) (v := 1) (ls' := [some (.ref 20), some (.ref a1), some (.int x2), some (.int x3), some (.int (x4 + 1)), some (.int x5), some (.int x6), some (.int x7)]) (dt_X8_placeInList 28 (55, .iinc 4 1, 3) rfl) rfl (by decide) (by decide) rfl rfl (aw_iload_n (pc' := 59) (dt_X8_placeInList 29 (58, .iload_n 2, 1) rfl) rfl rfl (aw_istore (pc' := 61) (ls' := [some (.ref 20), some (.ref a1), some (.int x2), some (.int x3), some (.int (x4 + 1)), some (.int x2), some (.int x6), some (.int x7)]) (dt_X8_placeInList 30 (59, .istore 5, 2) rfl) (by decide) rfl rfl (aw_iconst (pc' := 62) (v := 1) (dt_X8_placeInList 31 (61, .iconst 1, 1) rfl) (by decide) rfl (aw_istore (pc' := 64) (ls' := [some (.ref 20), some (.ref a1), some (.int x2), some (.int x3), some (.int (x4 + 1)), some (.int x2), some (.int 1), some (.int x7)]) (dt_X8_placeInList 32 (62, .istore 6, 2) rfl) (by decide) rfl rfl (aw_goto (tgt := 103) (dt_X8_placeInList 33 (64, .goto 39, 3) rfl) (by decide) (aw_iinc (pc' := 106) (v := 1) (ls' := [some (.ref 20), some (.ref a1), some (.int x2), some (.int x3), some (.int (x4 + 1)), some (.int x2), some (.int 1), some (.int (x7 + 1))]) (dt_X8_placeInList 51 (103, .iinc 7 1, 3) rfl) rfl (by decide) (by decide) rfl rfl (aw_goto (tgt := 12) (dt_X8_placeInList 52 (106, .goto (-94), 3) rfl) (by decide) ?_)))))))
            exact h
          · intro q45
            have h := h.2 q45
            refine aw_iload (pc' := 54) (dt_X8_placeInList 26 (52, .iload 4, 2) rfl) rfl rfl (aw_iret (dt_X8_placeInList 27 (54, .ireturn, 1) rfl) rfl rfl ?_)
            exact h

theorem t_J0_length_8abf5 {E : ZE} {l : Launch} {d nc ns : Nat} {a0 : Nat} {μ : ZM} {K : Option Value → ZM → Prop} (hS : Stat μ) (h :
  (zK μ a0 = 21) ∧
  ∀ b2, zA μ a0 0 = some b2 →
  (zK μ b2 = 12) ∧
  K (some (.int ((nI (zL μ b2)) >>> ((0 : Int32) &&& 31)))) μ) : AW E l (d + 1) nc ns mJ0_length_8abf5 0 [some (.ref a0)] [] μ K := by
  obtain ⟨g1, h⟩ := h
  refine aw_aload_n (pc' := 1) (dt_J0_length_8abf5 0 (0, .aload_n 0, 1) rfl) rfl rfl (aw_getSV (pc' := 4) (dt_J0_length_8abf5 1 (1, .getfield 9, 3) rfl) sf_value rfl g1 ?_)
  intro b2 e3
  have h := h b2 e3
  obtain ⟨g4, h⟩ := h
  refine aw_alen (pc' := 5) (dt_J0_length_8abf5 2 (4, .arraylength, 1) rfl) (by decide) (by decide) rfl g4 (aw_aload_n (pc' := 6) (dt_J0_length_8abf5 3 (5, .aload_n 0, 1) rfl) rfl rfl (aw_inV (pc' := 9) (nc1 := 0) (ns1 := 0) (nc := nc) (ns := ns) (ls' := [some (.ref a0)]) (y2 := mJ0_coder_7d493) (As := []) (rest := [.int (nI (zL μ b2))]) (a := a0) (dt_J0_length_8abf5 4 (6, .invokevirtual 335, 3) rfl) ok_J0_coder_7d493 ln_String_335 im_J0_coder_7d493 se_J0_coder_7d493 pr_J0_coder_7d493 (Or.inr ⟨rfl, rfl⟩) rfl (Nat.le_of_ble_eq_true rfl) (Nat.le_of_ble_eq_true rfl) rfl rfl g1 (aw_getCS (pc' := 3) (dt_J0_coder_7d493 0 (0, .getstatic 38, 3) rfl) gs_String_COMPACT_STRINGS rfl (aw_if_eq_F (pc' := 6) (tgt := 13) (dt_J0_coder_7d493 1 (3, .ifCond .eq 10, 3) rfl) (by decide) rfl (by decide) (aw_aload_n (pc' := 7) (dt_J0_coder_7d493 2 (6, .aload_n 0, 1) rfl) rfl rfl (aw_getSC (pc' := 10) (dt_J0_coder_7d493 3 (7, .getfield 15, 3) rfl) sf_coder rfl g1 (aw_goto (tgt := 14) (dt_J0_coder_7d493 4 (10, .goto 4, 3) rfl) (by decide) (aw_iret (dt_J0_coder_7d493 6 (14, .ireturn, 1) rfl) rfl rfl (aw_stk (st' := [.int 0, .int (nI (zL μ b2))]) rfl (aw_ishr (pc' := 10) (dt_J0_length_8abf5 5 (9, .ishr, 1) rfl) rfl (aw_iret (dt_J0_length_8abf5 6 (10, .ireturn, 1) rfl) rfl rfl ?_)))))))))))
  exact h

theorem t_J0_charAt_5068e {E : ZE} {l : Launch} {d nc ns : Nat} {a0 : Nat} {x1 : Int32} {μ : ZM} {K : Option Value → ZM → Prop} (hS : Stat μ) (h :
  (zK μ a0 = 21) ∧
  ∀ b2, zA μ a0 0 = some b2 →
  AW E l (d + 3) 0 0 mJ1_charAt_3b067 0 (zargs 2 [.ref b2, .int x1]) [] μ (fun v μ4 => ∃ r6 : Int32, v = some (.int r6) ∧ Stat μ4 ∧ 
    (narrow .char (.int r6) = .int r6) ∧
    K (some (.int r6)) μ4)) : AW E l (d + 4) nc ns mJ0_charAt_5068e 0 [some (.ref a0), some (.int x1)] [] μ K := by
  obtain ⟨g1, h⟩ := h
  refine aw_aload_n (pc' := 1) (dt_J0_charAt_5068e 0 (0, .aload_n 0, 1) rfl) rfl rfl (aw_inV (pc' := 4) (nc1 := 0) (ns1 := 0) (nc := nc) (ns := ns) (ls' := [some (.ref a0)]) (y2 := mJ0_isLatin1_aae02) (As := []) (rest := []) (a := a0) (dt_J0_charAt_5068e 1 (1, .invokevirtual 492, 3) rfl) ok_J0_isLatin1_aae02 ln_String_492 im_J0_isLatin1_aae02 se_J0_isLatin1_aae02 pr_J0_isLatin1_aae02 (Or.inr ⟨rfl, rfl⟩) rfl (Nat.le_of_ble_eq_true rfl) (Nat.le_of_ble_eq_true rfl) rfl rfl g1 (aw_getCS (pc' := 3) (dt_J0_isLatin1_aae02 0 (0, .getstatic 38, 3) rfl) gs_String_COMPACT_STRINGS rfl (aw_if_eq_F (pc' := 6) (tgt := 17) (dt_J0_isLatin1_aae02 1 (3, .ifCond .eq 14, 3) rfl) (by decide) rfl (by decide) (aw_aload_n (pc' := 7) (dt_J0_isLatin1_aae02 2 (6, .aload_n 0, 1) rfl) rfl rfl (aw_getSC (pc' := 10) (dt_J0_isLatin1_aae02 3 (7, .getfield 15, 3) rfl) sf_coder rfl g1 (aw_if_ne_F (pc' := 13) (tgt := 17) (dt_J0_isLatin1_aae02 4 (10, .ifCond .ne 7, 3) rfl) (by decide) rfl (by decide) (aw_iconst (pc' := 14) (v := 1) (dt_J0_isLatin1_aae02 5 (13, .iconst 1, 1) rfl) (by decide) rfl (aw_goto (tgt := 18) (dt_J0_isLatin1_aae02 6 (14, .goto 4, 3) rfl) (by decide) (aw_iret (dt_J0_isLatin1_aae02 8 (18, .ireturn, 1) rfl) rfl rfl (aw_stk (st' := [.int 1]) rfl (aw_if_eq_F (pc' := 7) (tgt := 16) (dt_J0_charAt_5068e 2 (4, .ifCond .eq 12, 3) rfl) (by decide) rfl (by decide) (aw_aload_n (pc' := 8) (dt_J0_charAt_5068e 3 (7, .aload_n 0, 1) rfl) rfl rfl (aw_getSV (pc' := 11) (dt_J0_charAt_5068e 4 (8, .getfield 9, 3) rfl) sf_value rfl g1 ?_)))))))))))))
  intro b2 e3
  have h := h b2 e3
  refine aw_iload_n (pc' := 12) (dt_J0_charAt_5068e 5 (11, .iload_n 1, 1) rfl) rfl rfl (aw_callS0 (pc' := 15) (nc := nc) (ns := ns) (y2 := mJ1_charAt_3b067) (As := [.ref b2, .int x1]) (rest := []) (dt_J0_charAt_5068e 6 (12, .invokestatic 495, 3) rfl) ok_J1_charAt_3b067 ln_String_495 sm_J1_charAt_3b067 pr_J1_charAt_3b067 rfl (Nat.le_of_ble_eq_true rfl) (Nat.le_of_ble_eq_true rfl) rfl  h ?_)
  rintro v μ4 ⟨r6, rfl, hS5, h⟩
  refine aw_stk (st' := [.int r6]) rfl ?_
  obtain ⟨g7, h⟩ := h
  refine aw_iret (dt_J0_charAt_5068e 7 (15, .ireturn, 1) rfl) rfl g7 ?_
  exact h

theorem t_J0_indexOf_0f7a4 {E : ZE} {l : Launch} {d nc ns : Nat} {a0 : Nat} {x1 : Int32} {μ : ZM} {K : Option Value → ZM → Prop} (hS : Stat μ) (h :
  (zK μ a0 = 21) ∧
  AW E l (d + 5) 0 0 mJ0_indexOf_7cf53 0 (zargs 3 [.ref a0, .int x1, .int 0]) [] μ (fun v μ2 => ∃ r4 : Int32, v = some (.int r4) ∧ Stat μ2 ∧ 
    K (some (.int r4)) μ2)) : AW E l (d + 6) nc ns mJ0_indexOf_0f7a4 0 [some (.ref a0), some (.int x1)] [] μ K := by
  obtain ⟨g1, h⟩ := h
  refine aw_aload_n (pc' := 1) (dt_J0_indexOf_0f7a4 0 (0, .aload_n 0, 1) rfl) rfl rfl (aw_iload_n (pc' := 2) (dt_J0_indexOf_0f7a4 1 (1, .iload_n 1, 1) rfl) rfl rfl (aw_iconst (pc' := 3) (v := 0) (dt_J0_indexOf_0f7a4 2 (2, .iconst 0, 1) rfl) (by decide) rfl (aw_callV0 (pc' := 6) (nc := nc) (ns := ns) (y2 := mJ0_indexOf_7cf53) (As := [.int x1, .int 0]) (rest := []) (a := a0) (dt_J0_indexOf_0f7a4 3 (3, .invokevirtual 633, 3) rfl) ok_J0_indexOf_7cf53 ln_String_633 im_J0_indexOf_7cf53 se_J0_indexOf_7cf53 pr_J0_indexOf_7cf53 (Or.inr ⟨rfl, rfl⟩) rfl (Nat.le_of_ble_eq_true rfl) (Nat.le_of_ble_eq_true rfl) rfl g1 h ?_)))
  rintro v μ2 ⟨r4, rfl, hS3, h⟩
  refine aw_stk (st' := [.int r4]) rfl ?_
  refine aw_iret (dt_J0_indexOf_0f7a4 4 (6, .ireturn, 1) rfl) rfl rfl ?_
  exact h

theorem t_J0_indexOf_7cf53 {E : ZE} {l : Launch} {d nc ns : Nat} {a0 : Nat} {x1 : Int32} {x2 : Int32} {μ : ZM} {K : Option Value → ZM → Prop} (hS : Stat μ) (h :
  (zK μ a0 = 21) ∧
  ∀ b2, zA μ a0 0 = some b2 →
  AW E l (d + 4) 0 0 mJ0_length_8abf5 0 (zargs 1 [.ref a0]) [] μ (fun v μ4 => ∃ r6 : Int32, v = some (.int r6) ∧ Stat μ4 ∧ 
    AW E l (d + 4) 0 0 mJ1_indexOf_4cfef 0 (zargs 4 [.ref b2, .int x1, .int x2, .int r6]) [] μ4 (fun v μ7 => ∃ r9 : Int32, v = some (.int r9) ∧ Stat μ7 ∧ 
      K (some (.int r9)) μ7))) : AW E l (d + 5) nc ns mJ0_indexOf_7cf53 0 [some (.ref a0), some (.int x1), some (.int x2)] [] μ K := by
  obtain ⟨g1, h⟩ := h
  refine aw_aload_n (pc' := 1) (dt_J0_indexOf_7cf53 0 (0, .aload_n 0, 1) rfl) rfl rfl (aw_inV (pc' := 4) (nc1 := 0) (ns1 := 0) (nc := nc) (ns := ns) (ls' := [some (.ref a0)]) (y2 := mJ0_isLatin1_aae02) (As := []) (rest := []) (a := a0) (dt_J0_indexOf_7cf53 1 (1, .invokevirtual 492, 3) rfl) ok_J0_isLatin1_aae02 ln_String_492 im_J0_isLatin1_aae02 se_J0_isLatin1_aae02 pr_J0_isLatin1_aae02 (Or.inr ⟨rfl, rfl⟩) rfl (Nat.le_of_ble_eq_true rfl) (Nat.le_of_ble_eq_true rfl) rfl rfl g1 (aw_getCS (pc' := 3) (dt_J0_isLatin1_aae02 0 (0, .getstatic 38, 3) rfl) gs_String_COMPACT_STRINGS rfl (aw_if_eq_F (pc' := 6) (tgt := 17) (dt_J0_isLatin1_aae02 1 (3, .ifCond .eq 14, 3) rfl) (by decide) rfl (by decide) (aw_aload_n (pc' := 7) (dt_J0_isLatin1_aae02 2 (6, .aload_n 0, 1) rfl) rfl rfl (aw_getSC (pc' := 10) (dt_J0_isLatin1_aae02 3 (7, .getfield 15, 3) rfl) sf_coder rfl g1 (aw_if_ne_F (pc' := 13) (tgt := 17) (dt_J0_isLatin1_aae02 4 (10, .ifCond .ne 7, 3) rfl) (by decide) rfl (by decide) (aw_iconst (pc' := 14) (v := 1) (dt_J0_isLatin1_aae02 5 (13, .iconst 1, 1) rfl) (by decide) rfl (aw_goto (tgt := 18) (dt_J0_isLatin1_aae02 6 (14, .goto 4, 3) rfl) (by decide) (aw_iret (dt_J0_isLatin1_aae02 8 (18, .ireturn, 1) rfl) rfl rfl (aw_stk (st' := [.int 1]) rfl (aw_if_eq_F (pc' := 7) (tgt := 23) (dt_J0_indexOf_7cf53 2 (4, .ifCond .eq 19, 3) rfl) (by decide) rfl (by decide) (aw_aload_n (pc' := 8) (dt_J0_indexOf_7cf53 3 (7, .aload_n 0, 1) rfl) rfl rfl (aw_getSV (pc' := 11) (dt_J0_indexOf_7cf53 4 (8, .getfield 9, 3) rfl) sf_value rfl g1 ?_)))))))))))))
  intro b2 e3
  have h := h b2 e3
  refine aw_iload_n (pc' := 12) (dt_J0_indexOf_7cf53 5 (11, .iload_n 1, 1) rfl) rfl rfl (aw_iload_n (pc' := 13) (dt_J0_indexOf_7cf53 6 (12, .iload_n 2, 1) rfl) rfl rfl (aw_aload_n (pc' := 14) (dt_J0_indexOf_7cf53 7 (13, .aload_n 0, 1) rfl) rfl rfl (aw_callV0 (pc' := 17) (nc := nc) (ns := ns) (y2 := mJ0_length_8abf5) (As := []) (rest := [.int x2, .int x1, .ref b2]) (a := a0) (dt_J0_indexOf_7cf53 8 (14, .invokevirtual 505, 3) rfl) ok_J0_length_8abf5 ln_String_505 im_J0_length_8abf5 se_J0_length_8abf5 pr_J0_length_8abf5 (Or.inr ⟨rfl, rfl⟩) rfl (Nat.le_of_ble_eq_true rfl) (Nat.le_of_ble_eq_true rfl) rfl g1 h ?_)))
  rintro v μ4 ⟨r6, rfl, hS5, h⟩
  refine aw_stk (st' := [.int r6, .int x2, .int x1, .ref b2]) rfl ?_
  refine aw_callS0 (pc' := 20) (nc := nc) (ns := ns) (y2 := mJ1_indexOf_4cfef) (As := [.ref b2, .int x1, .int x2, .int r6]) (rest := []) (dt_J0_indexOf_7cf53 9 (17, .invokestatic 637, 3) rfl) ok_J1_indexOf_4cfef ln_String_637 sm_J1_indexOf_4cfef pr_J1_indexOf_4cfef rfl (Nat.le_of_ble_eq_true rfl) (Nat.le_of_ble_eq_true rfl) rfl  h ?_
  rintro v μ7 ⟨r9, rfl, hS8, h⟩
  refine aw_stk (st' := [.int r9]) rfl ?_
  refine aw_goto (tgt := 36) (dt_J0_indexOf_7cf53 10 (20, .goto 16, 3) rfl) (by decide) (aw_iret (dt_J0_indexOf_7cf53 18 (36, .ireturn, 1) rfl) rfl rfl ?_)
  exact h

theorem t_J1_charAt_3b067 {E : ZE} {l : Launch} {d nc ns : Nat} {a0 : Nat} {x1 : Int32} {μ : ZM} {K : Option Value → ZM → Prop} (hS : Stat μ) (h :
  (zK μ a0 = 12) ∧
  AW E l (d + 1) 0 0 mJ0_checkIndex_df160 0 (zargs 2 [.int x1, .int (nI (zL μ a0))]) [] μ (fun v μ2 => v = none ∧ Stat μ2 ∧ 
    (zK μ2 a0 = 12) ∧
    (vp_in x1 (zL μ2 a0)) ∧
    (narrow .char (.int ((((zI μ2 a0 x1.toNatClampNeg) &&& 255)).toUInt32 % 65536).toInt32) = .int ((((zI μ2 a0 x1.toNatClampNeg) &&& 255)).toUInt32 % 65536).toInt32) ∧
    K (some (.int ((((zI μ2 a0 x1.toNatClampNeg) &&& 255)).toUInt32 % 65536).toInt32)) μ2)) : AW E l (d + 2) nc ns mJ1_charAt_3b067 0 [some (.ref a0), some (.int x1)] [] μ K := by
  obtain ⟨g1, h⟩ := h
  refine aw_iload_n (pc' := 1) (dt_J1_charAt_3b067 0 (0, .iload_n 1, 1) rfl) rfl rfl (aw_aload_n (pc' := 2) (dt_J1_charAt_3b067 1 (1, .aload_n 0, 1) rfl) rfl rfl (aw_alen (pc' := 3) (dt_J1_charAt_3b067 2 (2, .arraylength, 1) rfl) (by decide) (by decide) rfl g1 (aw_callS0 (pc' := 6) (nc := nc) (ns := ns) (y2 := mJ0_checkIndex_df160) (As := [.int x1, .int (nI (zL μ a0))]) (rest := []) (dt_J1_charAt_3b067 3 (3, .invokestatic 9, 3) rfl) ok_J0_checkIndex_df160 ln_StringLatin1_9 sm_J0_checkIndex_df160 pr_J0_checkIndex_df160 rfl (Nat.le_of_ble_eq_true rfl) (Nat.le_of_ble_eq_true rfl) rfl  h ?_)))
  rintro v μ2 ⟨rfl, hS3, h⟩
  refine aw_stk (st' := []) rfl ?_
  obtain ⟨g4, h⟩ := h
  obtain ⟨g5, h⟩ := h
  obtain ⟨g6, h⟩ := h
  refine aw_aload_n (pc' := 7) (dt_J1_charAt_3b067 4 (6, .aload_n 0, 1) rfl) rfl rfl (aw_iload_n (pc' := 8) (dt_J1_charAt_3b067 5 (7, .iload_n 1, 1) rfl) rfl rfl (aw_bald (pc' := 9) (dt_J1_charAt_3b067 6 (8, .baload, 1) rfl) rfl g4 g5 (aw_sipush (pc' := 12) (v := 255) (dt_J1_charAt_3b067 7 (9, .sipush 255, 3) rfl) (by decide) rfl (aw_iand (pc' := 13) (dt_J1_charAt_3b067 8 (12, .iand, 1) rfl) rfl (aw_i2c (pc' := 14) (dt_J1_charAt_3b067 9 (13, .i2c, 1) rfl) rfl (aw_iret (dt_J1_charAt_3b067 10 (14, .ireturn, 1) rfl) rfl g6 ?_))))))
  exact h

theorem t_J1_indexOf_4cfef {E : ZE} {l : Launch} {d nc ns : Nat} {a0 : Nat} {x1 : Int32} {x2 : Int32} {x3 : Int32} {μ : ZM} {K : Option Value → ZM → Prop} (hS : Stat μ) (h :
  (x1 < 0 →
    K (some (.int (-1))) μ) ∧
  (¬ x1 < 0 →
    (255 < x1 →
      K (some (.int (-1))) μ) ∧
    (¬ 255 < x1 →
      (zK μ a0 = 12) ∧
      ((if x2 < 0 then 0 else x2) < (if (nI (zL μ a0)) < x3 then (nI (zL μ a0)) else x3) →
        AW E l d 0 0 mJ1_indexOfChar_4cfef 0 (zargs 6 [.ref a0, .int x1, .int (if x2 < 0 then 0 else x2), .int (if (nI (zL μ a0)) < x3 then (nI (zL μ a0)) else x3)]) [] μ (fun v μ5 => ∃ r7 : Int32, v = some (.int r7) ∧ Stat μ5 ∧ 
          K (some (.int r7)) μ5)) ∧
      (¬ (if x2 < 0 then 0 else x2) < (if (nI (zL μ a0)) < x3 then (nI (zL μ a0)) else x3) →
        K (some (.int (-1))) μ)))) : AW E l (d + 1) nc ns mJ1_indexOf_4cfef 0 [some (.ref a0), some (.int x1), some (.int x2), some (.int x3)] [] μ K := by
  refine aw_iload_n (pc' := 1) (dt_J1_indexOf_4cfef 0 (0, .iload_n 1, 1) rfl) rfl rfl (aw_inS (pc' := 4) (nc1 := 0) (ns1 := 0) (nc := nc) (ns := ns) (ls' := [some (.int x1)]) (y2 := mJ1_canEncode_9a6ad) (As := [.int x1]) (rest := []) (dt_J1_indexOf_4cfef 1 (1, .invokestatic 88, 3) rfl) ok_J1_canEncode_9a6ad ln_StringLatin1_88 sm_J1_canEncode_9a6ad pr_J1_canEncode_9a6ad rfl (Nat.le_of_ble_eq_true rfl) (Nat.le_of_ble_eq_true rfl) rfl rfl (aw_iload_n (pc' := 1) (dt_J1_canEncode_9a6ad 0 (0, .iload_n 0, 1) rfl) rfl rfl (aw_if_lt (pc' := 4) (tgt := 15) (dt_J1_canEncode_9a6ad 1 (1, .ifCond .lt 14, 3) rfl) (by decide) rfl ?_ ?_)))
  · intro q1
    have h := h.1 q1
    refine aw_iconst (pc' := 16) (v := 0) (dt_J1_canEncode_9a6ad 7 (15, .iconst 0, 1) rfl) (by decide) rfl (aw_iret (dt_J1_canEncode_9a6ad 8 (16, .ireturn, 1) rfl) rfl rfl (aw_stk (st' := [.int 0]) rfl (aw_if_ne_F (pc' := 7) (tgt := 9) (dt_J1_indexOf_4cfef 2 (4, .ifCond .ne 5, 3) rfl) (by decide) rfl (by decide) (aw_iconst (pc' := 8) (v := (-1)) (dt_J1_indexOf_4cfef 3 (7, .iconst (-1), 1) rfl) (by decide) rfl (aw_iret (dt_J1_indexOf_4cfef 4 (8, .ireturn, 1) rfl) rfl rfl ?_)))))
    exact h
  · intro q1
    have h := h.2 q1
    refine aw_iload_n (pc' := 5) (dt_J1_canEncode_9a6ad 2 (4, .iload_n 0, 1) rfl) rfl rfl (aw_sipush (pc' := 8) (v := 255) (dt_J1_canEncode_9a6ad 3 (5, .sipush 255, 3) rfl) (by decide) rfl (aw_icmp_gt (pc' := 11) (tgt := 15) (dt_J1_canEncode_9a6ad 4 (8, .if_icmp .gt 7, 3) rfl) (by decide) rfl ?_ ?_))
    · intro q2
      have h := h.1 q2
      refine aw_iconst (pc' := 16) (v := 0) (dt_J1_canEncode_9a6ad 7 (15, .iconst 0, 1) rfl) (by decide) rfl (aw_iret (dt_J1_canEncode_9a6ad 8 (16, .ireturn, 1) rfl) rfl rfl (aw_stk (st' := [.int 0]) rfl (aw_if_ne_F (pc' := 7) (tgt := 9) (dt_J1_indexOf_4cfef 2 (4, .ifCond .ne 5, 3) rfl) (by decide) rfl (by decide) (aw_iconst (pc' := 8) (v := (-1)) (dt_J1_indexOf_4cfef 3 (7, .iconst (-1), 1) rfl) (by decide) rfl (aw_iret (dt_J1_indexOf_4cfef 4 (8, .ireturn, 1) rfl) rfl rfl ?_)))))
      exact h
    · intro q2
      have h := h.2 q2
      obtain ⟨g3, h⟩ := h
      refine aw_iconst (pc' := 12) (v := 1) (dt_J1_canEncode_9a6ad 5 (11, .iconst 1, 1) rfl) (by decide) rfl (aw_goto (tgt := 16) (dt_J1_canEncode_9a6ad 6 (12, .goto 4, 3) rfl) (by decide) (aw_iret (dt_J1_canEncode_9a6ad 8 (16, .ireturn, 1) rfl) rfl rfl (aw_stk (st' := [.int 1]) rfl (aw_if_ne_T (pc' := 7) (tgt := 9) (dt_J1_indexOf_4cfef 2 (4, .ifCond .ne 5, 3) rfl) (by decide) rfl (by decide) (aw_iload_n (pc' := 10) (dt_J1_indexOf_4cfef 5 (9, .iload_n 2, 1) rfl) rfl rfl (aw_iconst (pc' := 11) (v := 0) (dt_J1_indexOf_4cfef 6 (10, .iconst 0, 1) rfl) (by decide) rfl (aw_mmax (pc' := 14) (dt_J1_indexOf_4cfef 7 (11, .invokestatic 92, 3) rfl) mm_StringLatin1_92 (Nat.le_of_ble_eq_true rfl) rfl (aw_istore_n (pc' := 15) (ls' := [some (.ref a0), some (.int x1), some (.int (if x2 < 0 then 0 else x2)), some (.int x3)]) (dt_J1_indexOf_4cfef 8 (14, .istore_n 2, 1) rfl) (by decide) rfl rfl (aw_iload_n (pc' := 16) (dt_J1_indexOf_4cfef 9 (15, .iload_n 3, 1) rfl) rfl rfl (aw_aload_n (pc' := 17) (dt_J1_indexOf_4cfef 10 (16, .aload_n 0, 1) rfl) rfl rfl (aw_alen (pc' := 18) (dt_J1_indexOf_4cfef 11 (17, .arraylength, 1) rfl) (by decide) (by decide) rfl g3 (aw_mmin (pc' := 21) (dt_J1_indexOf_4cfef 12 (18, .invokestatic 38, 3) rfl) mm_StringLatin1_38 (Nat.le_of_ble_eq_true rfl) rfl (aw_istore_n (pc' := 22) (ls' := [some (.ref a0), some (.int x1), some (.int (if x2 < 0 then 0 else x2)), some (.int (if (nI (zL μ a0)) < x3 then (nI (zL μ a0)) else x3))]) (dt_J1_indexOf_4cfef 13 (21, .istore_n 3, 1) rfl) (by decide) rfl rfl (aw_iload_n (pc' := 23) (dt_J1_indexOf_4cfef 14 (22, .iload_n 2, 1) rfl) rfl rfl (aw_iload_n (pc' := 24) (dt_J1_indexOf_4cfef 15 (23, .iload_n 3, 1) rfl) rfl rfl (aw_icmp_lt (pc' := 27) (tgt := 29) (dt_J1_indexOf_4cfef 16 (24, .if_icmp .lt 5, 3) rfl) (by decide) rfl ?_ ?_))))))))))))))))
      · intro q4
        have h := h.1 q4
        refine aw_aload_n (pc' := 30) (dt_J1_indexOf_4cfef 19 (29, .aload_n 0, 1) rfl) rfl rfl (aw_iload_n (pc' := 31) (dt_J1_indexOf_4cfef 20 (30, .iload_n 1, 1) rfl) rfl rfl (aw_iload_n (pc' := 32) (dt_J1_indexOf_4cfef 21 (31, .iload_n 2, 1) rfl) rfl rfl (aw_iload_n (pc' := 33) (dt_J1_indexOf_4cfef 22 (32, .iload_n 3, 1) rfl) rfl rfl (aw_callS0 (pc' := 36) (nc := nc) (ns := ns) (y2 := mJ1_indexOfChar_4cfef) (As := [.ref a0, .int x1, .int (if x2 < 0 then 0 else x2), .int (if (nI (zL μ a0)) < x3 then (nI (zL μ a0)) else x3)]) (rest := []) (dt_J1_indexOf_4cfef 23 (33, .invokestatic 95, 3) rfl) ok_J1_indexOfChar_4cfef ln_StringLatin1_95 sm_J1_indexOfChar_4cfef pr_J1_indexOfChar_4cfef rfl (Nat.le_of_ble_eq_true rfl) (Nat.le_of_ble_eq_true rfl) rfl  h ?_))))
        rintro v μ5 ⟨r7, rfl, hS6, h⟩
        refine aw_stk (st' := [.int r7]) rfl ?_
        refine aw_iret (dt_J1_indexOf_4cfef 24 (36, .ireturn, 1) rfl) rfl rfl ?_
        exact h
      · intro q4
        have h := h.2 q4
        refine aw_iconst (pc' := 28) (v := (-1)) (dt_J1_indexOf_4cfef 17 (27, .iconst (-1), 1) rfl) (by decide) rfl (aw_iret (dt_J1_indexOf_4cfef 18 (28, .ireturn, 1) rfl) rfl rfl ?_)
        exact h

theorem t_J1_indexOfChar_4cfef {E : ZE} {l : Launch} {d nc ns : Nat} {a0 : Nat} {x1 : Int32} {x2 : Int32} {x3 : Int32} {μ : ZM} {K : Option Value → ZM → Prop} (hS : Stat μ) (h :
  AW E l d nc ns mJ1_indexOfChar_4cfef 7 [some (.ref a0), none, none, some (.int x3), some (.int (x1).toInt8.toInt32), some (.int x2)] [] μ K) : AW E l d nc ns mJ1_indexOfChar_4cfef 0 [some (.ref a0), some (.int x1), some (.int x2), some (.int x3), none, none] [] μ K := by
  refine aw_iload_n (pc' := 1) (dt_J1_indexOfChar_4cfef 0 (0, .iload_n 1, 1) rfl) rfl rfl (aw_i2b (pc' := 2) (dt_J1_indexOfChar_4cfef 1 (1, .i2b, 1) rfl) rfl (aw_istore (pc' := 4) (ls' := [some (.ref a0), some (.int x1), some (.int x2), some (.int x3), some (.int (x1).toInt8.toInt32), none]) (dt_J1_indexOfChar_4cfef 2 (2, .istore 4, 2) rfl) (by decide) rfl rfl (aw_iload_n (pc' := 5) (dt_J1_indexOfChar_4cfef 3 (4, .iload_n 2, 1) rfl) rfl rfl (aw_istore (pc' := 7) (ls' := [some (.ref a0), some (.int x1), some (.int x2), some (.int x3), some (.int (x1).toInt8.toInt32), some (.int x2)]) (dt_J1_indexOfChar_4cfef 4 (5, .istore 5, 2) rfl) (by decide) rfl rfl (aw_drop (ls' := [some (.ref a0), none, none, some (.int x3), some (.int (x1).toInt8.toInt32), some (.int x2)]) ⟨rfl, rfl, rfl, rfl, trivial⟩ ?_)))))
  exact h

theorem t_J1_indexOfChar_4cfef_7 {E : ZE} {l : Launch} {d nc ns : Nat} {a0 : Nat} {x3 : Int32} {x4 : Int32} {x5 : Int32} {μ : ZM} {K : Option Value → ZM → Prop} (hS : Stat μ) (h :
  (x3 ≤ x5 →
    K (some (.int (-1))) μ) ∧
  (¬ x3 ≤ x5 →
    (zK μ a0 = 12) ∧
    (vp_in x5 (zL μ a0)) ∧
    (¬ (zI μ a0 x5.toNatClampNeg) = x4 →
      AW E l d nc ns mJ1_indexOfChar_4cfef 7 [some (.ref a0), none, none, some (.int x3), some (.int x4), some (.int (x5 + 1))] [] μ K) ∧
    ((zI μ a0 x5.toNatClampNeg) = x4 →
      K (some (.int x5)) μ))) : AW E l d nc ns mJ1_indexOfChar_4cfef 7 [some (.ref a0), none, none, some (.int x3), some (.int x4), some (.int x5)] [] μ K := by
  refine aw_iload (pc' := 9) (dt_J1_indexOfChar_4cfef 5 (7, .iload 5, 2) rfl) rfl rfl (aw_iload_n (pc' := 10) (dt_J1_indexOfChar_4cfef 6 (9, .iload_n 3, 1) rfl) rfl rfl (aw_icmp_ge (pc' := 13) (tgt := 31) (dt_J1_indexOfChar_4cfef 7 (10, .if_icmp .ge 21, 3) rfl) (by decide) rfl ?_ ?_))
  · intro q1
    have h := h.1 q1
    refine aw_iconst (pc' := 32) (v := (-1)) (dt_J1_indexOfChar_4cfef 17 (31, .iconst (-1), 1) rfl) (by decide) rfl (aw_iret (dt_J1_indexOfChar_4cfef 18 (32, .ireturn, 1) rfl) rfl rfl ?_)
    exact h
  · intro q1
    have h := h.2 q1
    obtain ⟨g2, h⟩ := h
    obtain ⟨g3, h⟩ := h
    refine aw_aload_n (pc' := 14) (dt_J1_indexOfChar_4cfef 8 (13, .aload_n 0, 1) rfl) rfl rfl (aw_iload (pc' := 16) (dt_J1_indexOfChar_4cfef 9 (14, .iload 5, 2) rfl) rfl rfl (aw_bald (pc' := 17) (dt_J1_indexOfChar_4cfef 10 (16, .baload, 1) rfl) rfl g2 g3 (aw_iload (pc' := 19) (dt_J1_indexOfChar_4cfef 11 (17, .iload 4, 2) rfl) rfl rfl (aw_icmp_ne (pc' := 22) (tgt := 25) (dt_J1_indexOfChar_4cfef 12 (19, .if_icmp .ne 6, 3) rfl) (by decide) rfl ?_ ?_))))
    · intro q4
      have h := h.1 q4
      refine aw_iinc (pc' := 28) (v := 1) (ls' := [some (.ref a0), none, none, some (.int x3), some (.int x4), some (.int (x5 + 1))]) (dt_J1_indexOfChar_4cfef 15 (25, .iinc 5 1, 3) rfl) rfl (by decide) (by decide) rfl rfl (aw_goto (tgt := 7) (dt_J1_indexOfChar_4cfef 16 (28, .goto (-21), 3) rfl) (by decide) ?_)
      exact h
    · intro q4
      have h := h.2 q4
      refine aw_iload (pc' := 24) (dt_J1_indexOfChar_4cfef 13 (22, .iload 5, 2) rfl) rfl rfl (aw_iret (dt_J1_indexOfChar_4cfef 14 (24, .ireturn, 1) rfl) rfl rfl ?_)
      exact h

