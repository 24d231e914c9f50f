theorem t_X11_nameOf {E : ZE} {l : Launch} {d nc ns : Nat} {x1 : Int32} {μ : ZM} {K : Option Value → ZM → Prop} (hS : Stat μ) (h :
  (¬ x1 = 0 →
    (¬ x1 = 0 →
      AW E l (d + 1) nc ns mX11_nameOf 25 [some (.ref 31), none, some (.int 12), some (.int 5), some (.int 0)] [] μ K) ∧
    (x1 = 0 →
      AW E l (d + 1) nc ns mX11_nameOf 25 [some (.ref 31), none, some (.int 12), some (.int 12), some (.int 0)] [] μ K)) ∧
  (x1 = 0 →
    (¬ x1 = 0 →
      AW E l (d + 1) nc ns mX11_nameOf 25 [some (.ref 31), none, some (.int 0), some (.int 5), some (.int 0)] [] μ K) ∧
    (x1 = 0 →
      AW E l (d + 1) nc ns mX11_nameOf 25 [some (.ref 31), none, some (.int 0), some (.int 12), some (.int 0)] [] μ K))) : AW E l (d + 1) nc ns mX11_nameOf 0 [some (.ref 31), some (.int x1), none, none, none] [] μ K := by
  refine aw_iload_n (pc' := 1) (dt_X11_nameOf 0 (0, .iload_n 1, 1) rfl) rfl rfl (aw_if_ne (pc' := 4) (tgt := 8) (dt_X11_nameOf 1 (1, .ifCond .ne 7, 3) rfl) (by decide) rfl ?_ ?_)
  · intro q1
    have h := h.1 q1
    refine aw_bipush (pc' := 10) (v := 12) (dt_X11_nameOf 4 (8, .bipush 12, 2) rfl) (by decide) rfl (aw_istore_n (pc' := 11) (ls' := [some (.ref 31), some (.int x1), some (.int 12), none, none]) (dt_X11_nameOf 5 (10, .istore_n 2, 1) rfl) (by decide) rfl rfl (aw_iload_n (pc' := 12) (dt_X11_nameOf 6 (11, .iload_n 1, 1) rfl) rfl rfl (aw_if_ne (pc' := 15) (tgt := 20) (dt_X11_nameOf 7 (12, .ifCond .ne 8, 3) rfl) (by decide) rfl ?_ ?_)))
    · intro q2
      have h := h.1 q2
      refine aw_iconst (pc' := 21) (v := 5) (dt_X11_nameOf 10 (20, .iconst 5, 1) rfl) (by decide) rfl (aw_istore_n (pc' := 22) (ls' := [some (.ref 31), some (.int x1), some (.int 12), some (.int 5), none]) (dt_X11_nameOf 11 (21, .istore_n 3, 1) rfl) (by decide) rfl rfl (aw_iconst (pc' := 23) (v := 0) (dt_X11_nameOf 12 (22, .iconst 0, 1) rfl) (by decide) rfl (aw_istore (pc' := 25) (ls' := [some (.ref 31), some (.int x1), some (.int 12), some (.int 5), some (.int 0)]) (dt_X11_nameOf 13 (23, .istore 4, 2) rfl) (by decide) rfl rfl (aw_drop (ls' := [some (.ref 31), none, some (.int 12), some (.int 5), some (.int 0)]) ⟨rfl, rfl, rfl, rfl, trivial⟩ ?_))))
      exact h
    · intro q2
      have h := h.2 q2
      refine aw_bipush (pc' := 17) (v := 12) (dt_X11_nameOf 8 (15, .bipush 12, 2) rfl) (by decide) rfl (aw_goto (tgt := 21) (dt_X11_nameOf 9 (17, .goto 4, 3) rfl) (by decide) (aw_istore_n (pc' := 22) (ls' := [some (.ref 31), some (.int x1), some (.int 12), some (.int 12), none]) (dt_X11_nameOf 11 (21, .istore_n 3, 1) rfl) (by decide) rfl rfl (aw_iconst (pc' := 23) (v := 0) (dt_X11_nameOf 12 (22, .iconst 0, 1) rfl) (by decide) rfl (aw_istore (pc' := 25) (ls' := [some (.ref 31), some (.int x1), some (.int 12), some (.int 12), some (.int 0)]) (dt_X11_nameOf 13 (23, .istore 4, 2) rfl) (by decide) rfl rfl (aw_drop (ls' := [some (.ref 31), none, some (.int 12), some (.int 12), some (.int 0)]) ⟨rfl, rfl, rfl, rfl, trivial⟩ ?_)))))
      exact h
  · intro q1
    have h := h.2 q1
    refine aw_iconst (pc' := 5) (v := 0) (dt_X11_nameOf 2 (4, .iconst 0, 1) rfl) (by decide) rfl (aw_goto (tgt := 10) (dt_X11_nameOf 3 (5, .goto 5, 3) rfl) (by decide) (aw_istore_n (pc' := 11) (ls' := [some (.ref 31), some (.int x1), some (.int 0), none, none]) (dt_X11_nameOf 5 (10, .istore_n 2, 1) rfl) (by decide) rfl rfl (aw_iload_n (pc' := 12) (dt_X11_nameOf 6 (11, .iload_n 1, 1) rfl) rfl rfl (aw_if_ne (pc' := 15) (tgt := 20) (dt_X11_nameOf 7 (12, .ifCond .ne 8, 3) rfl) (by decide) rfl ?_ ?_))))
    · intro q3
      have h := h.1 q3
      refine aw_iconst (pc' := 21) (v := 5) (dt_X11_nameOf 10 (20, .iconst 5, 1) rfl) (by decide) rfl (aw_istore_n (pc' := 22) (ls' := [some (.ref 31), some (.int x1), some (.int 0), some (.int 5), none]) (dt_X11_nameOf 11 (21, .istore_n 3, 1) rfl) (by decide) rfl rfl (aw_iconst (pc' := 23) (v := 0) (dt_X11_nameOf 12 (22, .iconst 0, 1) rfl) (by decide) rfl (aw_istore (pc' := 25) (ls' := [some (.ref 31), some (.int x1), some (.int 0), some (.int 5), some (.int 0)]) (dt_X11_nameOf 13 (23, .istore 4, 2) rfl) (by decide) rfl rfl (aw_drop (ls' := [some (.ref 31), none, some (.int 0), some (.int 5), some (.int 0)]) ⟨rfl, rfl, rfl, rfl, trivial⟩ ?_))))
      exact h
    · intro q3
      have h := h.2 q3
      refine aw_bipush (pc' := 17) (v := 12) (dt_X11_nameOf 8 (15, .bipush 12, 2) rfl) (by decide) rfl (aw_goto (tgt := 21) (dt_X11_nameOf 9 (17, .goto 4, 3) rfl) (by decide) (aw_istore_n (pc' := 22) (ls' := [some (.ref 31), some (.int x1), some (.int 0), some (.int 12), none]) (dt_X11_nameOf 11 (21, .istore_n 3, 1) rfl) (by decide) rfl rfl (aw_iconst (pc' := 23) (v := 0) (dt_X11_nameOf 12 (22, .iconst 0, 1) rfl) (by decide) rfl (aw_istore (pc' := 25) (ls' := [some (.ref 31), some (.int x1), some (.int 0), some (.int 12), some (.int 0)]) (dt_X11_nameOf 13 (23, .istore 4, 2) rfl) (by decide) rfl rfl (aw_drop (ls' := [some (.ref 31), none, some (.int 0), some (.int 12), some (.int 0)]) ⟨rfl, rfl, rfl, rfl, trivial⟩ ?_)))))
      exact h

theorem t_X11_nameOf_25 {E : ZE} {l : Launch} {d nc ns : Nat} {x2 : Int32} {x3 : Int32} {x4 : Int32} {μ : ZM} {K : Option Value → ZM → Prop} (hS : Stat μ) (h :
  (x3 ≤ x4 →
    K (some (.int (-1))) μ) ∧
  (¬ x3 ≤ x4 →
    (vp_in (x2 + x4) 17) ∧
    AW E l d 0 0 mX11_isWord 0 (zargs 6 [.ref 31, .long (zJ μ 10 (x2 + x4).toNatClampNeg)]) [] μ (fun v μ3 => ∃ r5 : Int32, v = some (.int r5) ∧ Stat μ3 ∧ 
      (r5 = 0 →
        AW E l (d + 1) nc ns mX11_nameOf 25 [some (.ref 31), none, some (.int x2), some (.int x3), some (.int (x4 + 1))] [] μ3 K) ∧
      (¬ r5 = 0 →
        K (some (.int (x2 + x4))) μ3)))) : AW E l (d + 1) nc ns mX11_nameOf 25 [some (.ref 31), none, some (.int x2), some (.int x3), some (.int x4)] [] μ K := by
  refine aw_iload (pc' := 27) (dt_X11_nameOf 14 (25, .iload 4, 2) rfl) rfl rfl (aw_iload_n (pc' := 28) (dt_X11_nameOf 15 (27, .iload_n 3, 1) rfl) rfl rfl (aw_icmp_ge (pc' := 31) (tgt := 57) (dt_X11_nameOf 16 (28, .if_icmp .ge 29, 3) rfl) (by decide) rfl ?_ ?_))
  · intro q1
    have h := h.1 q1
    refine aw_iconst (pc' := 58) (v := (-1)) (dt_X11_nameOf 31 (57, .iconst (-1), 1) rfl) (by decide) rfl (aw_iret (dt_X11_nameOf 32 (58, .ireturn, 1) rfl) rfl rfl ?_)
    exact h
  · intro q1
    have h := h.2 q1
    obtain ⟨g2, h⟩ := h
    refine aw_aload_n (pc' := 32) (dt_X11_nameOf 17 (31, .aload_n 0, 1) rfl) rfl rfl (aw_getNAMES (pc' := 35) (dt_X11_nameOf 18 (32, .getstatic 283, 3) rfl) gs_ReturnDeskModel_NAMES rfl (aw_iload_n (pc' := 36) (dt_X11_nameOf 19 (35, .iload_n 2, 1) rfl) rfl rfl (aw_iload (pc' := 38) (dt_X11_nameOf 20 (36, .iload 4, 2) rfl) rfl rfl (aw_iadd (pc' := 39) (dt_X11_nameOf 21 (38, .iadd, 1) rfl) rfl (aw_lald (pc' := 40) (dt_X11_nameOf 22 (39, .laload, 1) rfl) rfl (sk_10 hS) (vin_eq (sl_10 hS) g2) (aw_callV0 (pc' := 43) (nc := nc) (ns := ns) (y2 := mX11_isWord) (As := [.long (zJ μ 10 (x2 + x4).toNatClampNeg)]) (rest := []) (a := 31) (dt_X11_nameOf 23 (40, .invokevirtual 286, 3) rfl) ok_X11_isWord ln_ReturnDeskModel_286 im_X11_isWord se_X11_isWord pr_X11_isWord (Or.inl ⟨by decide, rfl⟩) rfl (Nat.le_of_ble_eq_true rfl) (Nat.le_of_ble_eq_true rfl) rfl (sk_31 hS) h ?_))))))
    rintro v μ3 ⟨r5, rfl, hS4, h⟩
    refine aw_stk (st' := [.int r5]) rfl ?_
    refine aw_if_eq (pc' := 46) (tgt := 51) (dt_X11_nameOf 24 (43, .ifCond .eq 8, 3) rfl) (by decide) rfl ?_ ?_
    · intro q6
      have h := h.1 q6
      refine aw_iinc (pc' := 54) (v := 1) (ls' := [some (.ref 31), none, some (.int x2), some (.int x3), some (.int (x4 + 1))]) (dt_X11_nameOf 29 (51, .iinc 4 1, 3) rfl) rfl (by decide) (by decide) rfl rfl (aw_goto (tgt := 25) (dt_X11_nameOf 30 (54, .goto (-29), 3) rfl) (by decide) ?_)
      exact h
    · intro q6
      have h := h.2 q6
      refine aw_iload_n (pc' := 47) (dt_X11_nameOf 25 (46, .iload_n 2, 1) rfl) rfl rfl (aw_iload (pc' := 49) (dt_X11_nameOf 26 (47, .iload 4, 2) rfl) rfl rfl (aw_iadd (pc' := 50) (dt_X11_nameOf 27 (49, .iadd, 1) rfl) rfl (aw_iret (dt_X11_nameOf 28 (50, .ireturn, 1) rfl) rfl rfl ?_)))
      exact h

theorem t_X11_operand {E : ZE} {l : Launch} {d nc ns : Nat} {x1 : Int32} {μ : ZM} {K : Option Value → ZM → Prop} (hS : Stat μ) (h :
  (¬ (zI μ 31 52) = 2 →
    (¬ (zI μ 31 52) = 40 →
      AW E l (d + 2) 0 0 mX11_nameOf 0 (zargs 5 [.ref 31, .int x1]) [] μ (fun v μ3 => ∃ r5 : Int32, v = some (.int r5) ∧ Stat μ3 ∧ 
        (r5 < 0 →
          (0 ≤ (zI μ3 31 54) →
            K none μ3) ∧
          (¬ 0 ≤ (zI μ3 31 54) →
            K none (sI μ3 31 54 (zI μ3 31 50)))) ∧
        (¬ r5 < 0 →
          AW E l (d + 2) 0 0 mX11_nameOf 0 (zargs 5 [.ref 31, .int x1]) [] μ3 (fun v μ8 => ∃ r10 : Int32, v = some (.int r10) ∧ Stat μ8 ∧ 
            (vp_in ((200 * (zI μ8 31 56)) + (zI μ8 31 57)) 4400) ∧
            (vp_in ((200 * (zI (sI μ8 70 ((200 * (zI μ8 31 56)) + (zI μ8 31 57)).toNatClampNeg 2) 31 56)) + (zI (sI μ8 70 ((200 * (zI μ8 31 56)) + (zI μ8 31 57)).toNatClampNeg 2) 31 57)) 4400) ∧
            ∀ μ13, μ13 = (sI (sI μ8 70 ((200 * (zI μ8 31 56)) + (zI μ8 31 57)).toNatClampNeg 2) 71 ((200 * (zI (sI μ8 70 ((200 * (zI μ8 31 56)) + (zI μ8 31 57)).toNatClampNeg 2) 31 56)) + (zI (sI μ8 70 ((200 * (zI μ8 31 56)) + (zI μ8 31 57)).toNatClampNeg 2) 31 57)).toNatClampNeg r10) →
            AW E l (d + 2) 0 0 mX11_next 0 (zargs 1 [.ref 31]) [] (sI μ13 31 57 ((zI μ13 31 57) + 1)) (fun v μ16 => v = none ∧ Stat μ16 ∧ 
              K none μ16))))) ∧
    ((zI μ 31 52) = 40 →
      (¬ (zI μ 31 55) = 10 →
        AW E l (d + 2) 0 0 mX11_next 0 (zargs 1 [.ref 31]) [] (sI μ 31 55 ((zI μ 31 55) + 1)) (fun v μ19 => v = none ∧ Stat μ19 ∧ 
          AW E l (d + 2) 0 0 mX11_question 0 (zargs 2 [.ref 31, .int x1]) [] μ19 (fun v μ21 => v = none ∧ Stat μ21 ∧ 
            ((zI μ21 31 54) < 0 →
              ((zI μ21 31 52) = 41 →
                AW E l (d + 2) 0 0 mX11_next 0 (zargs 1 [.ref 31]) [] (sI μ21 31 55 ((zI μ21 31 55) - 1)) (fun v μ25 => v = none ∧ Stat μ25 ∧ 
                  K none μ25)) ∧
              (¬ (zI μ21 31 52) = 41 →
                (0 ≤ (zI μ21 31 54) →
                  K none μ21) ∧
                (¬ 0 ≤ (zI μ21 31 54) →
                  K none (sI μ21 31 54 (zI μ21 31 50))))) ∧
            (¬ (zI μ21 31 54) < 0 →
              K none μ21)))) ∧
      ((zI μ 31 55) = 10 →
        (0 ≤ (zI μ 31 54) →
          K none μ) ∧
        (¬ 0 ≤ (zI μ 31 54) →
          K none (sI μ 31 54 (zI μ 31 50)))))) ∧
  ((zI μ 31 52) = 2 →
    (vp_in ((200 * (zI μ 31 56)) + (zI μ 31 57)) 4400) ∧
    (vp_in ((200 * (zI (sI μ 70 ((200 * (zI μ 31 56)) + (zI μ 31 57)).toNatClampNeg 1) 31 56)) + (zI (sI μ 70 ((200 * (zI μ 31 56)) + (zI μ 31 57)).toNatClampNeg 1) 31 57)) 4400) ∧
    ∀ μ31, μ31 = (sI (sI μ 70 ((200 * (zI μ 31 56)) + (zI μ 31 57)).toNatClampNeg 1) 71 ((200 * (zI (sI μ 70 ((200 * (zI μ 31 56)) + (zI μ 31 57)).toNatClampNeg 1) 31 56)) + (zI (sI μ 70 ((200 * (zI μ 31 56)) + (zI μ 31 57)).toNatClampNeg 1) 31 57)).toNatClampNeg (zI μ 31 53)) →
    AW E l (d + 2) 0 0 mX11_next 0 (zargs 1 [.ref 31]) [] (sI μ31 31 57 ((zI μ31 31 57) + 1)) (fun v μ34 => v = none ∧ Stat μ34 ∧ 
      K none μ34))) : AW E l (d + 3) nc ns mX11_operand 0 [some (.ref 31), some (.int x1)] [] μ K := by
  refine aw_aload_n (pc' := 1) (dt_X11_operand 0 (0, .aload_n 0, 1) rfl) rfl rfl (aw_getI (pc' := 4) (dt_X11_operand 1 (1, .getfield 252, 3) rfl) fl_ReturnDeskModel_252 rfl rfl (sk_31 hS) (aw_iconst (pc' := 5) (v := 2) (dt_X11_operand 2 (4, .iconst 2, 1) rfl) (by decide) rfl (aw_icmp_ne (pc' := 8) (tgt := 24) (dt_X11_operand 3 (5, .if_icmp .ne 19, 3) rfl) (by decide) rfl ?_ ?_)))
  · intro q1
    have h := h.1 q1
    refine aw_aload_n (pc' := 25) (dt_X11_operand 12 (24, .aload_n 0, 1) rfl) rfl rfl (aw_getI (pc' := 28) (dt_X11_operand 13 (25, .getfield 252, 3) rfl) fl_ReturnDeskModel_252 rfl rfl (sk_31 hS) (aw_bipush (pc' := 30) (v := 40) (dt_X11_operand 14 (28, .bipush 40, 2) rfl) (by decide) rfl (aw_icmp_ne (pc' := 33) (tgt := 89) (dt_X11_operand 15 (30, .if_icmp .ne 59, 3) rfl) (by decide) rfl ?_ ?_)))
    · intro q2
      have h := h.1 q2
      refine aw_aload_n (pc' := 90) (dt_X11_operand 45 (89, .aload_n 0, 1) rfl) rfl rfl (aw_iload_n (pc' := 91) (dt_X11_operand 46 (90, .iload_n 1, 1) rfl) rfl rfl (aw_callV0 (pc' := 94) (nc := nc) (ns := ns) (y2 := mX11_nameOf) (As := [.int x1]) (rest := []) (a := 31) (dt_X11_operand 47 (91, .invokevirtual 304, 3) rfl) ok_X11_nameOf ln_ReturnDeskModel_304 im_X11_nameOf se_X11_nameOf pr_X11_nameOf (Or.inl ⟨by decide, rfl⟩) rfl (Nat.le_of_ble_eq_true rfl) (Nat.le_of_ble_eq_true rfl) rfl (sk_31 hS) h ?_))
      rintro v μ3 ⟨r5, rfl, hS4, h⟩
      refine aw_stk (st' := [.int r5]) rfl ?_
      refine aw_if_lt (pc' := 97) (tgt := 114) (dt_X11_operand 48 (94, .ifCond .lt 20, 3) rfl) (by decide) rfl ?_ ?_
      · intro q6
        have h := h.1 q6
        refine aw_aload_n (pc' := 115) (dt_X11_operand 58 (114, .aload_n 0, 1) rfl) rfl rfl (aw_inV (pc' := 118) (nc1 := 0) (ns1 := 0) (nc := nc) (ns := ns) (ls' := [some (.ref 31)]) (y2 := mX11_wrong) (As := []) (rest := []) (a := 31) (dt_X11_operand 59 (115, .invokevirtual 280, 3) rfl) ok_X11_wrong ln_ReturnDeskModel_280 im_X11_wrong se_X11_wrong pr_X11_wrong (Or.inl ⟨by decide, rfl⟩) rfl (Nat.le_of_ble_eq_true rfl) (Nat.le_of_ble_eq_true rfl) rfl rfl (sk_31 hS4) (aw_aload_n (pc' := 1) (dt_X11_wrong 0 (0, .aload_n 0, 1) rfl) rfl rfl (aw_getI (pc' := 4) (dt_X11_wrong 1 (1, .getfield 268, 3) rfl) fl_ReturnDeskModel_268 rfl rfl (sk_31 hS4) (aw_if_ge (pc' := 7) (tgt := 15) (dt_X11_wrong 2 (4, .ifCond .ge 11, 3) rfl) (by decide) rfl ?_ ?_))))
        · intro q7
          have h := h.1 q7
          refine aw_ret (dt_X11_wrong 7 (15, .return_, 1) rfl) rfl (aw_stk (st' := []) rfl (aw_ret (dt_X11_operand 60 (118, .return_, 1) rfl) rfl ?_))
          exact h
        · intro q7
          have h := h.2 q7
          refine aw_aload_n (pc' := 8) (dt_X11_wrong 3 (7, .aload_n 0, 1) rfl) rfl rfl (aw_aload_n (pc' := 9) (dt_X11_wrong 4 (8, .aload_n 0, 1) rfl) rfl rfl (aw_getI (pc' := 12) (dt_X11_wrong 5 (9, .getfield 249, 3) rfl) fl_ReturnDeskModel_249 rfl rfl (sk_31 hS4) (aw_putI (pc' := 15) (dt_X11_wrong 6 (12, .putfield 268, 3) rfl) fl_ReturnDeskModel_268 rfl (by decide +kernel) rfl (sk_31 hS4) (aw_ret (dt_X11_wrong 7 (15, .return_, 1) rfl) rfl (aw_stk (st' := []) rfl (aw_ret (dt_X11_operand 60 (118, .return_, 1) rfl) rfl ?_))))))
          exact h
      · intro q6
        have h := h.2 q6
        refine aw_aload_n (pc' := 98) (dt_X11_operand 49 (97, .aload_n 0, 1) rfl) rfl rfl (aw_iconst (pc' := 99) (v := 2) (dt_X11_operand 50 (98, .iconst 2, 1) rfl) (by decide) rfl (aw_aload_n (pc' := 100) (dt_X11_operand 51 (99, .aload_n 0, 1) rfl) rfl rfl (aw_iload_n (pc' := 101) (dt_X11_operand 52 (100, .iload_n 1, 1) rfl) rfl rfl (aw_callV0 (pc' := 104) (nc := nc) (ns := ns) (y2 := mX11_nameOf) (As := [.int x1]) (rest := [.int 2, .ref 31]) (a := 31) (dt_X11_operand 53 (101, .invokevirtual 304, 3) rfl) ok_X11_nameOf ln_ReturnDeskModel_304 im_X11_nameOf se_X11_nameOf pr_X11_nameOf (Or.inl ⟨by decide, rfl⟩) rfl (Nat.le_of_ble_eq_true rfl) (Nat.le_of_ble_eq_true rfl) rfl (sk_31 hS4) h ?_))))
        rintro v μ8 ⟨r10, rfl, hS9, h⟩
        refine aw_stk (st' := [.int r10, .int 2, .ref 31]) rfl ?_
        obtain ⟨g11, h⟩ := h
        obtain ⟨g12, h⟩ := h
        refine aw_inV (pc' := 107) (nc1 := 0) (ns1 := 0) (nc := nc) (ns := ns) (ls' := [some (.ref 31), some (.int 2), some (.int r10)]) (y2 := mX11_lay) (As := [.int 2, .int r10]) (rest := []) (a := 31) (dt_X11_operand 54 (104, .invokevirtual 290, 3) rfl) ok_X11_lay ln_ReturnDeskModel_290 im_X11_lay se_X11_lay pr_X11_lay (Or.inl ⟨by decide, rfl⟩) rfl (Nat.le_of_ble_eq_true rfl) (Nat.le_of_ble_eq_true rfl) rfl rfl (sk_31 hS9) (aw_aload_n (pc' := 1) (dt_X11_lay 0 (0, .aload_n 0, 1) rfl) rfl rfl (aw_getAs (pc' := 4) (dt_X11_lay 1 (1, .getfield 126, 3) rfl) fl_ReturnDeskModel_126 rfl rfl (sk_31 hS9) (sa_31_47 hS9) (aw_sipush (pc' := 7) (v := 200) (dt_X11_lay 2 (4, .sipush 200, 3) rfl) (by decide) rfl (aw_aload_n (pc' := 8) (dt_X11_lay 3 (7, .aload_n 0, 1) rfl) rfl rfl (aw_getI (pc' := 11) (dt_X11_lay 4 (8, .getfield 271, 3) rfl) fl_ReturnDeskModel_271 rfl rfl (sk_31 hS9) (aw_imul (pc' := 12) (dt_X11_lay 5 (11, .imul, 1) rfl) rfl (aw_aload_n (pc' := 13) (dt_X11_lay 6 (12, .aload_n 0, 1) rfl) rfl rfl (aw_getI (pc' := 16) (dt_X11_lay 7 (13, .getfield 274, 3) rfl) fl_ReturnDeskModel_274 rfl rfl (sk_31 hS9) (aw_iadd (pc' := 17) (dt_X11_lay 8 (16, .iadd, 1) rfl) rfl (aw_iload_n (pc' := 18) (dt_X11_lay 9 (17, .iload_n 1, 1) rfl) rfl rfl (aw_iast (pc' := 19) (dt_X11_lay 10 (18, .iastore, 1) rfl) rfl (sk_70 hS9) (by decide) (vin_eq (sl_70 hS9) g11) (aw_aload_n (pc' := 20) (dt_X11_lay 11 (19, .aload_n 0, 1) rfl) rfl rfl (aw_getAs (pc' := 23) (dt_X11_lay 12 (20, .getfield 129, 3) rfl) fl_ReturnDeskModel_129 rfl rfl (sk_31 hS9.wI) (sa_31_48 hS9.wI) (aw_sipush (pc' := 26) (v := 200) (dt_X11_lay 13 (23, .sipush 200, 3) rfl) (by decide) rfl (aw_aload_n (pc' := 27) (dt_X11_lay 14 (26, .aload_n 0, 1) rfl) rfl rfl (aw_getI (pc' := 30) (dt_X11_lay 15 (27, .getfield 271, 3) rfl) fl_ReturnDeskModel_271 rfl rfl (sk_31 hS9.wI) (aw_imul (pc' := 31) (dt_X11_lay 16 (30, .imul, 1) rfl) rfl (aw_aload_n (pc' := 32) (dt_X11_lay 17 (31, .aload_n 0, 1) rfl) rfl rfl (aw_getI (pc' := 35) (dt_X11_lay 18 (32, .getfield 274, 3) rfl) fl_ReturnDeskModel_274 rfl rfl (sk_31 hS9.wI) (aw_iadd (pc' := 36) (dt_X11_lay 19 (35, .iadd, 1) rfl) rfl (aw_iload_n (pc' := 37) (dt_X11_lay 20 (36, .iload_n 2, 1) rfl) rfl rfl (aw_iast (pc' := 38) (dt_X11_lay 21 (37, .iastore, 1) rfl) rfl (sk_71 hS9.wI) (by decide) (vin_eq (sl_71 hS9.wI) g12) ?_))))))))))))))))))))))
        refine aw_mem (fun μ13 eμ14 => ?_)
        have h := h μ13 eμ14
        have hS15 : Stat μ13 := by rw [eμ14]; exact hS9.wI.wI
        refine aw_aload_n (pc' := 39) (dt_X11_lay 22 (38, .aload_n 0, 1) rfl) rfl rfl (aw_dup (pc' := 40) (dt_X11_lay 23 (39, .dup, 1) rfl) rfl rfl (aw_getI (pc' := 43) (dt_X11_lay 24 (40, .getfield 274, 3) rfl) fl_ReturnDeskModel_274 rfl rfl (sk_31 hS15) (aw_iconst (pc' := 44) (v := 1) (dt_X11_lay 25 (43, .iconst 1, 1) rfl) (by decide) rfl (aw_iadd (pc' := 45) (dt_X11_lay 26 (44, .iadd, 1) rfl) rfl (aw_putI (pc' := 48) (dt_X11_lay 27 (45, .putfield 274, 3) rfl) fl_ReturnDeskModel_274 rfl (by decide +kernel) rfl (sk_31 hS15) (aw_ret (dt_X11_lay 28 (48, .return_, 1) rfl) rfl (aw_stk (st' := []) rfl (aw_aload_n (pc' := 108) (dt_X11_operand 55 (107, .aload_n 0, 1) rfl) rfl rfl (aw_callV0 (pc' := 111) (nc := nc) (ns := ns) (y2 := mX11_next) (As := []) (rest := []) (a := 31) (dt_X11_operand 56 (108, .invokevirtual 294, 3) rfl) ok_X11_next ln_ReturnDeskModel_294 im_X11_next se_X11_next pr_X11_next (Or.inl ⟨by decide, rfl⟩) rfl (Nat.le_of_ble_eq_true rfl) (Nat.le_of_ble_eq_true rfl) rfl (sk_31 hS15.wI) h ?_)))))))))
        rintro v μ16 ⟨rfl, hS17, h⟩
        refine aw_stk (st' := []) rfl ?_
        refine aw_goto (tgt := 118) (dt_X11_operand 57 (111, .goto 7, 3) rfl) (by decide) (aw_ret (dt_X11_operand 60 (118, .return_, 1) rfl) rfl ?_)
        exact h
    · intro q2
      have h := h.2 q2
      refine aw_aload_n (pc' := 34) (dt_X11_operand 16 (33, .aload_n 0, 1) rfl) rfl rfl (aw_inV (pc' := 37) (nc1 := 0) (ns1 := 0) (nc := nc) (ns := ns) (ls' := [some (.ref 31)]) (y2 := mX11_opens) (As := []) (rest := []) (a := 31) (dt_X11_operand 17 (34, .invokevirtual 297, 3) rfl) ok_X11_opens ln_ReturnDeskModel_297 im_X11_opens se_X11_opens pr_X11_opens (Or.inl ⟨by decide, rfl⟩) rfl (Nat.le_of_ble_eq_true rfl) (Nat.le_of_ble_eq_true rfl) rfl rfl (sk_31 hS) (aw_aload_n (pc' := 1) (dt_X11_opens 0 (0, .aload_n 0, 1) rfl) rfl rfl (aw_getI (pc' := 4) (dt_X11_opens 1 (1, .getfield 277, 3) rfl) fl_ReturnDeskModel_277 rfl rfl (sk_31 hS) (aw_bipush (pc' := 6) (v := 10) (dt_X11_opens 2 (4, .bipush 10, 2) rfl) (by decide) rfl (aw_icmp_ne (pc' := 9) (tgt := 15) (dt_X11_opens 3 (6, .if_icmp .ne 9, 3) rfl) (by decide) rfl ?_ ?_)))))
      · intro q18
        have h := h.1 q18
        refine aw_aload_n (pc' := 16) (dt_X11_opens 8 (15, .aload_n 0, 1) rfl) rfl rfl (aw_dup (pc' := 17) (dt_X11_opens 9 (16, .dup, 1) rfl) rfl rfl (aw_getI (pc' := 20) (dt_X11_opens 10 (17, .getfield 277, 3) rfl) fl_ReturnDeskModel_277 rfl rfl (sk_31 hS) (aw_iconst (pc' := 21) (v := 1) (dt_X11_opens 11 (20, .iconst 1, 1) rfl) (by decide) rfl (aw_iadd (pc' := 22) (dt_X11_opens 12 (21, .iadd, 1) rfl) rfl (aw_putI (pc' := 25) (dt_X11_opens 13 (22, .putfield 277, 3) rfl) fl_ReturnDeskModel_277 rfl (by decide +kernel) rfl (sk_31 hS) (aw_iconst (pc' := 26) (v := 1) (dt_X11_opens 14 (25, .iconst 1, 1) rfl) (by decide) rfl (aw_iret (dt_X11_opens 15 (26, .ireturn, 1) rfl) rfl rfl (aw_stk (st' := [.int 1]) rfl (aw_if_ne_T (pc' := 40) (tgt := 41) (dt_X11_operand 18 (37, .ifCond .ne 4, 3) rfl) (by decide) rfl (by decide) (aw_aload_n (pc' := 42) (dt_X11_operand 20 (41, .aload_n 0, 1) rfl) rfl rfl (aw_callV0 (pc' := 45) (nc := nc) (ns := ns) (y2 := mX11_next) (As := []) (rest := []) (a := 31) (dt_X11_operand 21 (42, .invokevirtual 294, 3) rfl) ok_X11_next ln_ReturnDeskModel_294 im_X11_next se_X11_next pr_X11_next (Or.inl ⟨by decide, rfl⟩) rfl (Nat.le_of_ble_eq_true rfl) (Nat.le_of_ble_eq_true rfl) rfl (sk_31 hS.wI) h ?_)))))))))))
        rintro v μ19 ⟨rfl, hS20, h⟩
        refine aw_stk (st' := []) rfl ?_
        refine aw_aload_n (pc' := 46) (dt_X11_operand 22 (45, .aload_n 0, 1) rfl) rfl rfl (aw_iload_n (pc' := 47) (dt_X11_operand 23 (46, .iload_n 1, 1) rfl) rfl rfl (aw_callV0 (pc' := 50) (nc := nc) (ns := ns) (y2 := mX11_question) (As := [.int x1]) (rest := []) (a := 31) (dt_X11_operand 24 (47, .invokevirtual 301, 3) rfl) ok_X11_question ln_ReturnDeskModel_301 im_X11_question se_X11_question pr_X11_question (Or.inl ⟨by decide, rfl⟩) rfl (Nat.le_of_ble_eq_true rfl) (Nat.le_of_ble_eq_true rfl) rfl (sk_31 hS20) h ?_))
        rintro v μ21 ⟨rfl, hS22, h⟩
        refine aw_stk (st' := []) rfl ?_
        refine aw_aload_n (pc' := 51) (dt_X11_operand 25 (50, .aload_n 0, 1) rfl) rfl rfl (aw_getI (pc' := 54) (dt_X11_operand 26 (51, .getfield 268, 3) rfl) fl_ReturnDeskModel_268 rfl rfl (sk_31 hS22) (aw_if_lt (pc' := 57) (tgt := 58) (dt_X11_operand 27 (54, .ifCond .lt 4, 3) rfl) (by decide) rfl ?_ ?_))
        · intro q23
          have h := h.1 q23
          refine aw_aload_n (pc' := 59) (dt_X11_operand 29 (58, .aload_n 0, 1) rfl) rfl rfl (aw_getI (pc' := 62) (dt_X11_operand 30 (59, .getfield 252, 3) rfl) fl_ReturnDeskModel_252 rfl rfl (sk_31 hS22) (aw_bipush (pc' := 64) (v := 41) (dt_X11_operand 31 (62, .bipush 41, 2) rfl) (by decide) rfl (aw_icmp_eq (pc' := 67) (tgt := 72) (dt_X11_operand 32 (64, .if_icmp .eq 8, 3) rfl) (by decide) rfl ?_ ?_)))
          · intro q24
            have h := h.1 q24
            refine aw_aload_n (pc' := 73) (dt_X11_operand 36 (72, .aload_n 0, 1) rfl) rfl rfl (aw_dup (pc' := 74) (dt_X11_operand 37 (73, .dup, 1) rfl) rfl rfl (aw_getI (pc' := 77) (dt_X11_operand 38 (74, .getfield 277, 3) rfl) fl_ReturnDeskModel_277 rfl rfl (sk_31 hS22) (aw_iconst (pc' := 78) (v := 1) (dt_X11_operand 39 (77, .iconst 1, 1) rfl) (by decide) rfl (aw_isub (pc' := 79) (dt_X11_operand 40 (78, .isub, 1) rfl) rfl (aw_putI (pc' := 82) (dt_X11_operand 41 (79, .putfield 277, 3) rfl) fl_ReturnDeskModel_277 rfl (by decide +kernel) rfl (sk_31 hS22) (aw_aload_n (pc' := 83) (dt_X11_operand 42 (82, .aload_n 0, 1) rfl) rfl rfl (aw_callV0 (pc' := 86) (nc := nc) (ns := ns) (y2 := mX11_next) (As := []) (rest := []) (a := 31) (dt_X11_operand 43 (83, .invokevirtual 294, 3) rfl) ok_X11_next ln_ReturnDeskModel_294 im_X11_next se_X11_next pr_X11_next (Or.inl ⟨by decide, rfl⟩) rfl (Nat.le_of_ble_eq_true rfl) (Nat.le_of_ble_eq_true rfl) rfl (sk_31 hS22.wI) h ?_)))))))
            rintro v μ25 ⟨rfl, hS26, h⟩
            refine aw_stk (st' := []) rfl ?_
            refine aw_goto (tgt := 118) (dt_X11_operand 44 (86, .goto 32, 3) rfl) (by decide) (aw_ret (dt_X11_operand 60 (118, .return_, 1) rfl) rfl ?_)
            exact h
          · intro q24
            have h := h.2 q24
            refine aw_aload_n (pc' := 68) (dt_X11_operand 33 (67, .aload_n 0, 1) rfl) rfl rfl (aw_inV (pc' := 71) (nc1 := 0) (ns1 := 0) (nc := nc) (ns := ns) (ls' := [some (.ref 31)]) (y2 := mX11_wrong) (As := []) (rest := []) (a := 31) (dt_X11_operand 34 (68, .invokevirtual 280, 3) rfl) ok_X11_wrong ln_ReturnDeskModel_280 im_X11_wrong se_X11_wrong pr_X11_wrong (Or.inl ⟨by decide, rfl⟩) rfl (Nat.le_of_ble_eq_true rfl) (Nat.le_of_ble_eq_true rfl) rfl rfl (sk_31 hS22) (aw_aload_n (pc' := 1) (dt_X11_wrong 0 (0, .aload_n 0, 1) rfl) rfl rfl (aw_getI (pc' := 4) (dt_X11_wrong 1 (1, .getfield 268, 3) rfl) fl_ReturnDeskModel_268 rfl rfl (sk_31 hS22) (aw_if_ge (pc' := 7) (tgt := 15) (dt_X11_wrong 2 (4, .ifCond .ge 11, 3) rfl) (by decide) rfl ?_ ?_))))
            · intro q27
              have h := h.1 q27
              refine aw_ret (dt_X11_wrong 7 (15, .return_, 1) rfl) rfl (aw_stk (st' := []) rfl (aw_ret (dt_X11_operand 35 (71, .return_, 1) rfl) rfl ?_))
              exact h
            · intro q27
              have h := h.2 q27
              refine aw_aload_n (pc' := 8) (dt_X11_wrong 3 (7, .aload_n 0, 1) rfl) rfl rfl (aw_aload_n (pc' := 9) (dt_X11_wrong 4 (8, .aload_n 0, 1) rfl) rfl rfl (aw_getI (pc' := 12) (dt_X11_wrong 5 (9, .getfield 249, 3) rfl) fl_ReturnDeskModel_249 rfl rfl (sk_31 hS22) (aw_putI (pc' := 15) (dt_X11_wrong 6 (12, .putfield 268, 3) rfl) fl_ReturnDeskModel_268 rfl (by decide +kernel) rfl (sk_31 hS22) (aw_ret (dt_X11_wrong 7 (15, .return_, 1) rfl) rfl (aw_stk (st' := []) rfl (aw_ret (dt_X11_operand 35 (71, .return_, 1) rfl) rfl ?_))))))
              exact h
        · intro q23
          have h := h.2 q23
          refine aw_ret (dt_X11_operand 28 (57, .return_, 1) rfl) rfl ?_
          exact h
      · intro q18
        have h := h.2 q18
        refine aw_aload_n (pc' := 10) (dt_X11_opens 4 (9, .aload_n 0, 1) rfl) rfl rfl (aw_inV (pc' := 13) (nc1 := 0) (ns1 := 0) (nc := 0) (ns := 0) (ls' := [some (.ref 31)]) (y2 := mX11_wrong) (As := []) (rest := []) (a := 31) (dt_X11_opens 5 (10, .invokevirtual 280, 3) rfl) ok_X11_wrong ln_ReturnDeskModel_280 im_X11_wrong se_X11_wrong pr_X11_wrong (Or.inl ⟨by decide, rfl⟩) rfl (Nat.le_of_ble_eq_true rfl) (Nat.le_of_ble_eq_true rfl) rfl rfl (sk_31 hS) (aw_aload_n (pc' := 1) (dt_X11_wrong 0 (0, .aload_n 0, 1) rfl) rfl rfl (aw_getI (pc' := 4) (dt_X11_wrong 1 (1, .getfield 268, 3) rfl) fl_ReturnDeskModel_268 rfl rfl (sk_31 hS) (aw_if_ge (pc' := 7) (tgt := 15) (dt_X11_wrong 2 (4, .ifCond .ge 11, 3) rfl) (by decide) rfl ?_ ?_))))
        · intro q28
          have h := h.1 q28
          refine aw_ret (dt_X11_wrong 7 (15, .return_, 1) rfl) rfl (aw_stk (st' := []) rfl (aw_iconst (pc' := 14) (v := 0) (dt_X11_opens 6 (13, .iconst 0, 1) rfl) (by decide) rfl (aw_iret (dt_X11_opens 7 (14, .ireturn, 1) rfl) rfl rfl (aw_stk (st' := [.int 0]) rfl (aw_if_ne_F (pc' := 40) (tgt := 41) (dt_X11_operand 18 (37, .ifCond .ne 4, 3) rfl) (by decide) rfl (by decide) (aw_ret (dt_X11_operand 19 (40, .return_, 1) rfl) rfl ?_))))))
          exact h
        · intro q28
          have h := h.2 q28
          refine aw_aload_n (pc' := 8) (dt_X11_wrong 3 (7, .aload_n 0, 1) rfl) rfl rfl (aw_aload_n (pc' := 9) (dt_X11_wrong 4 (8, .aload_n 0, 1) rfl) rfl rfl (aw_getI (pc' := 12) (dt_X11_wrong 5 (9, .getfield 249, 3) rfl) fl_ReturnDeskModel_249 rfl rfl (sk_31 hS) (aw_putI (pc' := 15) (dt_X11_wrong 6 (12, .putfield 268, 3) rfl) fl_ReturnDeskModel_268 rfl (by decide +kernel) rfl (sk_31 hS) (aw_ret (dt_X11_wrong 7 (15, .return_, 1) rfl) rfl (aw_stk (st' := []) rfl (aw_iconst (pc' := 14) (v := 0) (dt_X11_opens 6 (13, .iconst 0, 1) rfl) (by decide) rfl (aw_iret (dt_X11_opens 7 (14, .ireturn, 1) rfl) rfl rfl (aw_stk (st' := [.int 0]) rfl (aw_if_ne_F (pc' := 40) (tgt := 41) (dt_X11_operand 18 (37, .ifCond .ne 4, 3) rfl) (by decide) rfl (by decide) (aw_ret (dt_X11_operand 19 (40, .return_, 1) rfl) rfl ?_))))))))))
          exact h
  · intro q1
    have h := h.2 q1
    obtain ⟨g29, h⟩ := h
    obtain ⟨g30, h⟩ := h
    refine aw_aload_n (pc' := 9) (dt_X11_operand 4 (8, .aload_n 0, 1) rfl) rfl rfl (aw_iconst (pc' := 10) (v := 1) (dt_X11_operand 5 (9, .iconst 1, 1) rfl) (by decide) rfl (aw_aload_n (pc' := 11) (dt_X11_operand 6 (10, .aload_n 0, 1) rfl) rfl rfl (aw_getI (pc' := 14) (dt_X11_operand 7 (11, .getfield 261, 3) rfl) fl_ReturnDeskModel_261 rfl rfl (sk_31 hS) (aw_inV (pc' := 17) (nc1 := 0) (ns1 := 0) (nc := nc) (ns := ns) (ls' := [some (.ref 31), some (.int 1), some (.int (zI μ 31 53))]) (y2 := mX11_lay) (As := [.int 1, .int (zI μ 31 53)]) (rest := []) (a := 31) (dt_X11_operand 8 (14, .invokevirtual 290, 3) rfl) ok_X11_lay ln_ReturnDeskModel_290 im_X11_lay se_X11_lay pr_X11_lay (Or.inl ⟨by decide, rfl⟩) rfl (Nat.le_of_ble_eq_true rfl) (Nat.le_of_ble_eq_true rfl) rfl rfl (sk_31 hS) (aw_aload_n (pc' := 1) (dt_X11_lay 0 (0, .aload_n 0, 1) rfl) rfl rfl (aw_getAs (pc' := 4) (dt_X11_lay 1 (1, .getfield 126, 3) rfl) fl_ReturnDeskModel_126 rfl rfl (sk_31 hS) (sa_31_47 hS) (aw_sipush (pc' := 7) (v := 200) (dt_X11_lay 2 (4, .sipush 200, 3) rfl) (by decide) rfl (aw_aload_n (pc' := 8) (dt_X11_lay 3 (7, .aload_n 0, 1) rfl) rfl rfl (aw_getI (pc' := 11) (dt_X11_lay 4 (8, .getfield 271, 3) rfl) fl_ReturnDeskModel_271 rfl rfl (sk_31 hS) (aw_imul (pc' := 12) (dt_X11_lay 5 (11, .imul, 1) rfl) rfl (aw_aload_n (pc' := 13) (dt_X11_lay 6 (12, .aload_n 0, 1) rfl) rfl rfl (aw_getI (pc' := 16) (dt_X11_lay 7 (13, .getfield 274, 3) rfl) fl_ReturnDeskModel_274 rfl rfl (sk_31 hS) (aw_iadd (pc' := 17) (dt_X11_lay 8 (16, .iadd, 1) rfl) rfl (aw_iload_n (pc' := 18) (dt_X11_lay 9 (17, .iload_n 1, 1) rfl) rfl rfl (aw_iast (pc' := 19) (dt_X11_lay 10 (18, .iastore, 1) rfl) rfl (sk_70 hS) (by decide) (vin_eq (sl_70 hS) g29) (aw_aload_n (pc' := 20) (dt_X11_lay 11 (19, .aload_n 0, 1) rfl) rfl rfl (aw_getAs (pc' := 23) (dt_X11_lay 12 (20, .getfield 129, 3) rfl) fl_ReturnDeskModel_129 rfl rfl (sk_31 hS.wI) (sa_31_48 hS.wI) (aw_sipush (pc' := 26) (v := 200) (dt_X11_lay 13 (23, .sipush 200, 3) rfl) (by decide) rfl (aw_aload_n (pc' := 27) (dt_X11_lay 14 (26, .aload_n 0, 1) rfl) rfl rfl (aw_getI (pc' := 30) (dt_X11_lay 15 (27, .getfield 271, 3) rfl) fl_ReturnDeskModel_271 rfl rfl (sk_31 hS.wI) (aw_imul (pc' := 31) (dt_X11_lay 16 (30, .imul, 1) rfl) rfl (aw_aload_n (pc' := 32) (dt_X11_lay 17 (31, .aload_n 0, 1) rfl) rfl rfl (aw_getI (pc' := 35) (dt_X11_lay 18 (32, .getfield 274, 3) rfl) fl_ReturnDeskModel_274 rfl rfl (sk_31 hS.wI) (aw_iadd (pc' := 36) (dt_X11_lay 19 (35, .iadd, 1) rfl) rfl (aw_iload_n (pc' := 37) (dt_X11_lay 20 (36, .iload_n 2, 1) rfl) rfl rfl (aw_iast (pc' := 38) (dt_X11_lay 21 (37, .iastore, 1) rfl) rfl (sk_71 hS.wI) (by decide) (vin_eq (sl_71 hS.wI) g30) ?_))))))))))))))))))))))))))
    refine aw_mem (fun μ31 eμ32 => ?_)
    have h := h μ31 eμ32
    have hS33 : Stat μ31 := by rw [eμ32]; exact hS.wI.wI
    refine aw_aload_n (pc' := 39) (dt_X11_lay 22 (38, .aload_n 0, 1) rfl) rfl rfl (aw_dup (pc' := 40) (dt_X11_lay 23 (39, .dup, 1) rfl) rfl rfl (aw_getI (pc' := 43) (dt_X11_lay 24 (40, .getfield 274, 3) rfl) fl_ReturnDeskModel_274 rfl rfl (sk_31 hS33) (aw_iconst (pc' := 44) (v := 1) (dt_X11_lay 25 (43, .iconst 1, 1) rfl) (by decide) rfl (aw_iadd (pc' := 45) (dt_X11_lay 26 (44, .iadd, 1) rfl) rfl (aw_putI (pc' := 48) (dt_X11_lay 27 (45, .putfield 274, 3) rfl) fl_ReturnDeskModel_274 rfl (by decide +kernel) rfl (sk_31 hS33) (aw_ret (dt_X11_lay 28 (48, .return_, 1) rfl) rfl (aw_stk (st' := []) rfl (aw_aload_n (pc' := 18) (dt_X11_operand 9 (17, .aload_n 0, 1) rfl) rfl rfl (aw_callV0 (pc' := 21) (nc := nc) (ns := ns) (y2 := mX11_next) (As := []) (rest := []) (a := 31) (dt_X11_operand 10 (18, .invokevirtual 294, 3) rfl) ok_X11_next ln_ReturnDeskModel_294 im_X11_next se_X11_next pr_X11_next (Or.inl ⟨by decide, rfl⟩) rfl (Nat.le_of_ble_eq_true rfl) (Nat.le_of_ble_eq_true rfl) rfl (sk_31 hS33.wI) h ?_)))))))))
    rintro v μ34 ⟨rfl, hS35, h⟩
    refine aw_stk (st' := []) rfl ?_
    refine aw_goto (tgt := 118) (dt_X11_operand 11 (21, .goto 97, 3) rfl) (by decide) (aw_ret (dt_X11_operand 60 (118, .return_, 1) rfl) rfl ?_)
    exact h

theorem t_X11_product {E : ZE} {l : Launch} {d nc ns : Nat} {x1 : Int32} {μ : ZM} {K : Option Value → ZM → Prop} (hS : Stat μ) (h :
  AW E l (d + 2) 0 0 mX11_operand 0 (zargs 2 [.ref 31, .int x1]) [] μ (fun v μ1 => v = none ∧ Stat μ1 ∧ 
    AW E l (d + 3) nc ns mX11_product 5 [some (.ref 31), some (.int x1), none] [] μ1 K)) : AW E l (d + 3) nc ns mX11_product 0 [some (.ref 31), some (.int x1), none] [] μ K := by
  refine aw_aload_n (pc' := 1) (dt_X11_product 0 (0, .aload_n 0, 1) rfl) rfl rfl (aw_iload_n (pc' := 2) (dt_X11_product 1 (1, .iload_n 1, 1) rfl) rfl rfl (aw_callV0 (pc' := 5) (nc := nc) (ns := ns) (y2 := mX11_operand) (As := [.int x1]) (rest := []) (a := 31) (dt_X11_product 2 (2, .invokevirtual 307, 3) rfl) ok_X11_operand ln_ReturnDeskModel_307 im_X11_operand se_X11_operand pr_X11_operand (Or.inl ⟨by decide, rfl⟩) rfl (Nat.le_of_ble_eq_true rfl) (Nat.le_of_ble_eq_true rfl) rfl (sk_31 hS) h ?_))
  rintro v μ1 ⟨rfl, hS2, h⟩
  refine aw_stk (st' := []) rfl ?_
  exact h

theorem t_X11_product_5 {E : ZE} {l : Launch} {d nc ns : Nat} {x1 : Int32} {μ : ZM} {K : Option Value → ZM → Prop} (hS : Stat μ) (h :
  (0 ≤ (zI μ 31 54) →
    K none μ) ∧
  (¬ 0 ≤ (zI μ 31 54) →
    ((zI μ 31 52) = 42 →
      (¬ (zI μ 31 52) = 42 →
        AW E l (d + 2) 0 0 mX11_next 0 (zargs 1 [.ref 31]) [] μ (fun v μ4 => v = none ∧ Stat μ4 ∧ 
          AW E l (d + 2) 0 0 mX11_operand 0 (zargs 2 [.ref 31, .int x1]) [] μ4 (fun v μ6 => v = none ∧ Stat μ6 ∧ 
            (vp_in ((200 * (zI μ6 31 56)) + (zI μ6 31 57)) 4400) ∧
            (vp_in ((200 * (zI (sI μ6 70 ((200 * (zI μ6 31 56)) + (zI μ6 31 57)).toNatClampNeg 33) 31 56)) + (zI (sI μ6 70 ((200 * (zI μ6 31 56)) + (zI μ6 31 57)).toNatClampNeg 33) 31 57)) 4400) ∧
            ∀ μ10, μ10 = (sI (sI μ6 70 ((200 * (zI μ6 31 56)) + (zI μ6 31 57)).toNatClampNeg 33) 71 ((200 * (zI (sI μ6 70 ((200 * (zI μ6 31 56)) + (zI μ6 31 57)).toNatClampNeg 33) 31 56)) + (zI (sI μ6 70 ((200 * (zI μ6 31 56)) + (zI μ6 31 57)).toNatClampNeg 33) 31 57)).toNatClampNeg 0) →
            AW E l (d + 3) nc ns mX11_product 5 [some (.ref 31), some (.int x1), none] [] (sI μ10 31 57 ((zI μ10 31 57) + 1)) K))) ∧
      ((zI μ 31 52) = 42 →
        AW E l (d + 2) 0 0 mX11_next 0 (zargs 1 [.ref 31]) [] μ (fun v μ13 => v = none ∧ Stat μ13 ∧ 
          AW E l (d + 2) 0 0 mX11_operand 0 (zargs 2 [.ref 31, .int x1]) [] μ13 (fun v μ15 => v = none ∧ Stat μ15 ∧ 
            (vp_in ((200 * (zI μ15 31 56)) + (zI μ15 31 57)) 4400) ∧
            (vp_in ((200 * (zI (sI μ15 70 ((200 * (zI μ15 31 56)) + (zI μ15 31 57)).toNatClampNeg 32) 31 56)) + (zI (sI μ15 70 ((200 * (zI μ15 31 56)) + (zI μ15 31 57)).toNatClampNeg 32) 31 57)) 4400) ∧
            ∀ μ19, μ19 = (sI (sI μ15 70 ((200 * (zI μ15 31 56)) + (zI μ15 31 57)).toNatClampNeg 32) 71 ((200 * (zI (sI μ15 70 ((200 * (zI μ15 31 56)) + (zI μ15 31 57)).toNatClampNeg 32) 31 56)) + (zI (sI μ15 70 ((200 * (zI μ15 31 56)) + (zI μ15 31 57)).toNatClampNeg 32) 31 57)).toNatClampNeg 0) →
            AW E l (d + 3) nc ns mX11_product 5 [some (.ref 31), some (.int x1), none] [] (sI μ19 31 57 ((zI μ19 31 57) + 1)) K)))) ∧
    (¬ (zI μ 31 52) = 42 →
      (¬ (zI μ 31 52) = 47 →
        K none μ) ∧
      ((zI μ 31 52) = 47 →
        (¬ (zI μ 31 52) = 42 →
          AW E l (d + 2) 0 0 mX11_next 0 (zargs 1 [.ref 31]) [] μ (fun v μ24 => v = none ∧ Stat μ24 ∧ 
            AW E l (d + 2) 0 0 mX11_operand 0 (zargs 2 [.ref 31, .int x1]) [] μ24 (fun v μ26 => v = none ∧ Stat μ26 ∧ 
              (vp_in ((200 * (zI μ26 31 56)) + (zI μ26 31 57)) 4400) ∧
              (vp_in ((200 * (zI (sI μ26 70 ((200 * (zI μ26 31 56)) + (zI μ26 31 57)).toNatClampNeg 33) 31 56)) + (zI (sI μ26 70 ((200 * (zI μ26 31 56)) + (zI μ26 31 57)).toNatClampNeg 33) 31 57)) 4400) ∧
              ∀ μ30, μ30 = (sI (sI μ26 70 ((200 * (zI μ26 31 56)) + (zI μ26 31 57)).toNatClampNeg 33) 71 ((200 * (zI (sI μ26 70 ((200 * (zI μ26 31 56)) + (zI μ26 31 57)).toNatClampNeg 33) 31 56)) + (zI (sI μ26 70 ((200 * (zI μ26 31 56)) + (zI μ26 31 57)).toNatClampNeg 33) 31 57)).toNatClampNeg 0) →
              AW E l (d + 3) nc ns mX11_product 5 [some (.ref 31), some (.int x1), none] [] (sI μ30 31 57 ((zI μ30 31 57) + 1)) K))) ∧
        ((zI μ 31 52) = 42 →
          AW E l (d + 2) 0 0 mX11_next 0 (zargs 1 [.ref 31]) [] μ (fun v μ33 => v = none ∧ Stat μ33 ∧ 
            AW E l (d + 2) 0 0 mX11_operand 0 (zargs 2 [.ref 31, .int x1]) [] μ33 (fun v μ35 => v = none ∧ Stat μ35 ∧ 
              (vp_in ((200 * (zI μ35 31 56)) + (zI μ35 31 57)) 4400) ∧
              (vp_in ((200 * (zI (sI μ35 70 ((200 * (zI μ35 31 56)) + (zI μ35 31 57)).toNatClampNeg 32) 31 56)) + (zI (sI μ35 70 ((200 * (zI μ35 31 56)) + (zI μ35 31 57)).toNatClampNeg 32) 31 57)) 4400) ∧
              ∀ μ39, μ39 = (sI (sI μ35 70 ((200 * (zI μ35 31 56)) + (zI μ35 31 57)).toNatClampNeg 32) 71 ((200 * (zI (sI μ35 70 ((200 * (zI μ35 31 56)) + (zI μ35 31 57)).toNatClampNeg 32) 31 56)) + (zI (sI μ35 70 ((200 * (zI μ35 31 56)) + (zI μ35 31 57)).toNatClampNeg 32) 31 57)).toNatClampNeg 0) →
              AW E l (d + 3) nc ns mX11_product 5 [some (.ref 31), some (.int x1), none] [] (sI μ39 31 57 ((zI μ39 31 57) + 1)) K))))))) : AW E l (d + 3) nc ns mX11_product 5 [some (.ref 31), some (.int x1), none] [] μ K := by
  refine aw_aload_n (pc' := 6) (dt_X11_product 3 (5, .aload_n 0, 1) rfl) rfl rfl (aw_getI (pc' := 9) (dt_X11_product 4 (6, .getfield 268, 3) rfl) fl_ReturnDeskModel_268 rfl rfl (sk_31 hS) (aw_if_ge (pc' := 12) (tgt := 65) (dt_X11_product 5 (9, .ifCond .ge 56, 3) rfl) (by decide) rfl ?_ ?_))
  · intro q1
    have h := h.1 q1
    refine aw_ret (dt_X11_product 32 (65, .return_, 1) rfl) rfl ?_
    exact h
  · intro q1
    have h := h.2 q1
    refine aw_aload_n (pc' := 13) (dt_X11_product 6 (12, .aload_n 0, 1) rfl) rfl rfl (aw_getI (pc' := 16) (dt_X11_product 7 (13, .getfield 252, 3) rfl) fl_ReturnDeskModel_252 rfl rfl (sk_31 hS) (aw_bipush (pc' := 18) (v := 42) (dt_X11_product 8 (16, .bipush 42, 2) rfl) (by decide) rfl (aw_icmp_eq (pc' := 21) (tgt := 30) (dt_X11_product 9 (18, .if_icmp .eq 12, 3) rfl) (by decide) rfl ?_ ?_)))
    · intro q2
      have h := h.1 q2
      refine aw_aload_n (pc' := 31) (dt_X11_product 14 (30, .aload_n 0, 1) rfl) rfl rfl (aw_getI (pc' := 34) (dt_X11_product 15 (31, .getfield 252, 3) rfl) fl_ReturnDeskModel_252 rfl rfl (sk_31 hS) (aw_bipush (pc' := 36) (v := 42) (dt_X11_product 16 (34, .bipush 42, 2) rfl) (by decide) rfl (aw_icmp_ne (pc' := 39) (tgt := 44) (dt_X11_product 17 (36, .if_icmp .ne 8, 3) rfl) (by decide) rfl ?_ ?_)))
      · intro q3
        have h := h.1 q3
        refine aw_bipush (pc' := 46) (v := 33) (dt_X11_product 20 (44, .bipush 33, 2) rfl) (by decide) rfl (aw_istore_n (pc' := 47) (ls' := [some (.ref 31), some (.int x1), some (.int 33)]) (dt_X11_product 21 (46, .istore_n 2, 1) rfl) (by decide) rfl rfl (aw_aload_n (pc' := 48) (dt_X11_product 22 (47, .aload_n 0, 1) rfl) rfl rfl (aw_callV0 (pc' := 51) (nc := nc) (ns := ns) (y2 := mX11_next) (As := []) (rest := []) (a := 31) (dt_X11_product 23 (48, .invokevirtual 294, 3) rfl) ok_X11_next ln_ReturnDeskModel_294 im_X11_next se_X11_next pr_X11_next (Or.inl ⟨by decide, rfl⟩) rfl (Nat.le_of_ble_eq_true rfl) (Nat.le_of_ble_eq_true rfl) rfl (sk_31 hS) h ?_)))
        rintro v μ4 ⟨rfl, hS5, h⟩
        refine aw_stk (st' := []) rfl ?_
        refine aw_aload_n (pc' := 52) (dt_X11_product 24 (51, .aload_n 0, 1) rfl) rfl rfl (aw_iload_n (pc' := 53) (dt_X11_product 25 (52, .iload_n 1, 1) rfl) rfl rfl (aw_callV0 (pc' := 56) (nc := nc) (ns := ns) (y2 := mX11_operand) (As := [.int x1]) (rest := []) (a := 31) (dt_X11_product 26 (53, .invokevirtual 307, 3) rfl) ok_X11_operand ln_ReturnDeskModel_307 im_X11_operand se_X11_operand pr_X11_operand (Or.inl ⟨by decide, rfl⟩) rfl (Nat.le_of_ble_eq_true rfl) (Nat.le_of_ble_eq_true rfl) rfl (sk_31 hS5) h ?_))
        rintro v μ6 ⟨rfl, hS7, h⟩
        refine aw_stk (st' := []) rfl ?_
        obtain ⟨g8, h⟩ := h
        obtain ⟨g9, h⟩ := h
        refine aw_aload_n (pc' := 57) (dt_X11_product 27 (56, .aload_n 0, 1) rfl) rfl rfl (aw_iload_n (pc' := 58) (dt_X11_product 28 (57, .iload_n 2, 1) rfl) rfl rfl (aw_iconst (pc' := 59) (v := 0) (dt_X11_product 29 (58, .iconst 0, 1) rfl) (by decide) rfl (aw_inV (pc' := 62) (nc1 := 0) (ns1 := 0) (nc := nc) (ns := ns) (ls' := [some (.ref 31), some (.int 33), some (.int 0)]) (y2 := mX11_lay) (As := [.int 33, .int 0]) (rest := []) (a := 31) (dt_X11_product 30 (59, .invokevirtual 290, 3) rfl) ok_X11_lay ln_ReturnDeskModel_290 im_X11_lay se_X11_lay pr_X11_lay (Or.inl ⟨by decide, rfl⟩) rfl (Nat.le_of_ble_eq_true rfl) (Nat.le_of_ble_eq_true rfl) rfl rfl (sk_31 hS7) (aw_aload_n (pc' := 1) (dt_X11_lay 0 (0, .aload_n 0, 1) rfl) rfl rfl (aw_getAs (pc' := 4) (dt_X11_lay 1 (1, .getfield 126, 3) rfl) fl_ReturnDeskModel_126 rfl rfl (sk_31 hS7) (sa_31_47 hS7) (aw_sipush (pc' := 7) (v := 200) (dt_X11_lay 2 (4, .sipush 200, 3) rfl) (by decide) rfl (aw_aload_n (pc' := 8) (dt_X11_lay 3 (7, .aload_n 0, 1) rfl) rfl rfl (aw_getI (pc' := 11) (dt_X11_lay 4 (8, .getfield 271, 3) rfl) fl_ReturnDeskModel_271 rfl rfl (sk_31 hS7) (aw_imul (pc' := 12) (dt_X11_lay 5 (11, .imul, 1) rfl) rfl (aw_aload_n (pc' := 13) (dt_X11_lay 6 (12, .aload_n 0, 1) rfl) rfl rfl (aw_getI (pc' := 16) (dt_X11_lay 7 (13, .getfield 274, 3) rfl) fl_ReturnDeskModel_274 rfl rfl (sk_31 hS7) (aw_iadd (pc' := 17) (dt_X11_lay 8 (16, .iadd, 1) rfl) rfl (aw_iload_n (pc' := 18) (dt_X11_lay 9 (17, .iload_n 1, 1) rfl) rfl rfl (aw_iast (pc' := 19) (dt_X11_lay 10 (18, .iastore, 1) rfl) rfl (sk_70 hS7) (by decide) (vin_eq (sl_70 hS7) g8) (aw_aload_n (pc' := 20) (dt_X11_lay 11 (19, .aload_n 0, 1) rfl) rfl rfl (aw_getAs (pc' := 23) (dt_X11_lay 12 (20, .getfield 129, 3) rfl) fl_ReturnDeskModel_129 rfl rfl (sk_31 hS7.wI) (sa_31_48 hS7.wI) (aw_sipush (pc' := 26) (v := 200) (dt_X11_lay 13 (23, .sipush 200, 3) rfl) (by decide) rfl (aw_aload_n (pc' := 27) (dt_X11_lay 14 (26, .aload_n 0, 1) rfl) rfl rfl (aw_getI (pc' := 30) (dt_X11_lay 15 (27, .getfield 271, 3) rfl) fl_ReturnDeskModel_271 rfl rfl (sk_31 hS7.wI) (aw_imul (pc' := 31) (dt_X11_lay 16 (30, .imul, 1) rfl) rfl (aw_aload_n (pc' := 32) (dt_X11_lay 17 (31, .aload_n 0, 1) rfl) rfl rfl (aw_getI (pc' := 35) (dt_X11_lay 18 (32, .getfield 274, 3) rfl) fl_ReturnDeskModel_274 rfl rfl (sk_31 hS7.wI) (aw_iadd (pc' := 36) (dt_X11_lay 19 (35, .iadd, 1) rfl) rfl (aw_iload_n (pc' := 37) (dt_X11_lay 20 (36, .iload_n 2, 1) rfl) rfl rfl (aw_iast (pc' := 38) (dt_X11_lay 21 (37, .iastore, 1) rfl) rfl (sk_71 hS7.wI) (by decide) (vin_eq (sl_71 hS7.wI) g9) ?_)))))))))))))))))))))))))
        refine aw_mem (fun μ10 eμ11 => ?_)
        have h := h μ10 eμ11
        have hS12 : Stat μ10 := by rw [eμ11]; exact hS7.wI.wI
        refine aw_aload_n (pc' := 39) (dt_X11_lay 22 (38, .aload_n 0, 1) rfl) rfl rfl (aw_dup (pc' := 40) (dt_X11_lay 23 (39, .dup, 1) rfl) rfl rfl (aw_getI (pc' := 43) (dt_X11_lay 24 (40, .getfield 274, 3) rfl) fl_ReturnDeskModel_274 rfl rfl (sk_31 hS12) (aw_iconst (pc' := 44) (v := 1) (dt_X11_lay 25 (43, .iconst 1, 1) rfl) (by decide) rfl (aw_iadd (pc' := 45) (dt_X11_lay 26 (44, .iadd, 1) rfl) rfl (aw_putI (pc' := 48) (dt_X11_lay 27 (45, .putfield 274, 3) rfl) fl_ReturnDeskModel_274 rfl (by decide +kernel) rfl (sk_31 hS12) (aw_ret (dt_X11_lay 28 (48, .return_, 1) rfl) rfl (aw_stk (st' := []) rfl (aw_goto (tgt := 5) (dt_X11_product 31 (62, .goto (-57), 3) rfl) (by decide) (aw_drop (ls' := [some (.ref 31), some (.int x1), none]) ⟨rfl, rfl, trivial⟩ ?_)))))))))
        exact h
      · intro q3
        have h := h.2 q3
        refine aw_bipush (pc' := 41) (v := 32) (dt_X11_product 18 (39, .bipush 32, 2) rfl) (by decide) rfl (aw_goto (tgt := 46) (dt_X11_product 19 (41, .goto 5, 3) rfl) (by decide) (aw_istore_n (pc' := 47) (ls' := [some (.ref 31), some (.int x1), some (.int 32)]) (dt_X11_product 21 (46, .istore_n 2, 1) rfl) (by decide) rfl rfl (aw_aload_n (pc' := 48) (dt_X11_product 22 (47, .aload_n 0, 1) rfl) rfl rfl (aw_callV0 (pc' := 51) (nc := nc) (ns := ns) (y2 := mX11_next) (As := []) (rest := []) (a := 31) (dt_X11_product 23 (48, .invokevirtual 294, 3) rfl) ok_X11_next ln_ReturnDeskModel_294 im_X11_next se_X11_next pr_X11_next (Or.inl ⟨by decide, rfl⟩) rfl (Nat.le_of_ble_eq_true rfl) (Nat.le_of_ble_eq_true rfl) rfl (sk_31 hS) h ?_))))
        rintro v μ13 ⟨rfl, hS14, h⟩
        refine aw_stk (st' := []) rfl ?_
        refine aw_aload_n (pc' := 52) (dt_X11_product 24 (51, .aload_n 0, 1) rfl) rfl rfl (aw_iload_n (pc' := 53) (dt_X11_product 25 (52, .iload_n 1, 1) rfl) rfl rfl (aw_callV0 (pc' := 56) (nc := nc) (ns := ns) (y2 := mX11_operand) (As := [.int x1]) (rest := []) (a := 31) (dt_X11_product 26 (53, .invokevirtual 307, 3) rfl) ok_X11_operand ln_ReturnDeskModel_307 im_X11_operand se_X11_operand pr_X11_operand (Or.inl ⟨by decide, rfl⟩) rfl (Nat.le_of_ble_eq_true rfl) (Nat.le_of_ble_eq_true rfl) rfl (sk_31 hS14) h ?_))
        rintro v μ15 ⟨rfl, hS16, h⟩
        refine aw_stk (st' := []) rfl ?_
        obtain ⟨g17, h⟩ := h
        obtain ⟨g18, h⟩ := h
        refine aw_aload_n (pc' := 57) (dt_X11_product 27 (56, .aload_n 0, 1) rfl) rfl rfl (aw_iload_n (pc' := 58) (dt_X11_product 28 (57, .iload_n 2, 1) rfl) rfl rfl (aw_iconst (pc' := 59) (v := 0) (dt_X11_product 29 (58, .iconst 0, 1) rfl) (by decide) rfl (aw_inV (pc' := 62) (nc1 := 0) (ns1 := 0) (nc := nc) (ns := ns) (ls' := [some (.ref 31), some (.int 32), some (.int 0)]) (y2 := mX11_lay) (As := [.int 32, .int 0]) (rest := []) (a := 31) (dt_X11_product 30 (59, .invokevirtual 290, 3) rfl) ok_X11_lay ln_ReturnDeskModel_290 im_X11_lay se_X11_lay pr_X11_lay (Or.inl ⟨by decide, rfl⟩) rfl (Nat.le_of_ble_eq_true rfl) (Nat.le_of_ble_eq_true rfl) rfl rfl (sk_31 hS16) (aw_aload_n (pc' := 1) (dt_X11_lay 0 (0, .aload_n 0, 1) rfl) rfl rfl (aw_getAs (pc' := 4) (dt_X11_lay 1 (1, .getfield 126, 3) rfl) fl_ReturnDeskModel_126 rfl rfl (sk_31 hS16) (sa_31_47 hS16) (aw_sipush (pc' := 7) (v := 200) (dt_X11_lay 2 (4, .sipush 200, 3) rfl) (by decide) rfl (aw_aload_n (pc' := 8) (dt_X11_lay 3 (7, .aload_n 0, 1) rfl) rfl rfl (aw_getI (pc' := 11) (dt_X11_lay 4 (8, .getfield 271, 3) rfl) fl_ReturnDeskModel_271 rfl rfl (sk_31 hS16) (aw_imul (pc' := 12) (dt_X11_lay 5 (11, .imul, 1) rfl) rfl (aw_aload_n (pc' := 13) (dt_X11_lay 6 (12, .aload_n 0, 1) rfl) rfl rfl (aw_getI (pc' := 16) (dt_X11_lay 7 (13, .getfield 274, 3) rfl) fl_ReturnDeskModel_274 rfl rfl (sk_31 hS16) (aw_iadd (pc' := 17) (dt_X11_lay 8 (16, .iadd, 1) rfl) rfl (aw_iload_n (pc' := 18) (dt_X11_lay 9 (17, .iload_n 1, 1) rfl) rfl rfl (aw_iast (pc' := 19) (dt_X11_lay 10 (18, .iastore, 1) rfl) rfl (sk_70 hS16) (by decide) (vin_eq (sl_70 hS16) g17) (aw_aload_n (pc' := 20) (dt_X11_lay 11 (19, .aload_n 0, 1) rfl) rfl rfl (aw_getAs (pc' := 23) (dt_X11_lay 12 (20, .getfield 129, 3) rfl) fl_ReturnDeskModel_129 rfl rfl (sk_31 hS16.wI) (sa_31_48 hS16.wI) (aw_sipush (pc' := 26) (v := 200) (dt_X11_lay 13 (23, .sipush 200, 3) rfl) (by decide) rfl (aw_aload_n (pc' := 27) (dt_X11_lay 14 (26, .aload_n 0, 1) rfl) rfl rfl (aw_getI (pc' := 30) (dt_X11_lay 15 (27, .getfield 271, 3) rfl) fl_ReturnDeskModel_271 rfl rfl (sk_31 hS16.wI) (aw_imul (pc' := 31) (dt_X11_lay 16 (30, .imul, 1) rfl) rfl (aw_aload_n (pc' := 32) (dt_X11_lay 17 (31, .aload_n 0, 1) rfl) rfl rfl (aw_getI (pc' := 35) (dt_X11_lay 18 (32, .getfield 274, 3) rfl) fl_ReturnDeskModel_274 rfl rfl (sk_31 hS16.wI) (aw_iadd (pc' := 36) (dt_X11_lay 19 (35, .iadd, 1) rfl) rfl (aw_iload_n (pc' := 37) (dt_X11_lay 20 (36, .iload_n 2, 1) rfl) rfl rfl (aw_iast (pc' := 38) (dt_X11_lay 21 (37, .iastore, 1) rfl) rfl (sk_71 hS16.wI) (by decide) (vin_eq (sl_71 hS16.wI) g18) ?_)))))))))))))))))))))))))
        refine aw_mem (fun μ19 eμ20 => ?_)
        have h := h μ19 eμ20
        have hS21 : Stat μ19 := by rw [eμ20]; exact hS16.wI.wI
        refine aw_aload_n (pc' := 39) (dt_X11_lay 22 (38, .aload_n 0, 1) rfl) rfl rfl (aw_dup (pc' := 40) (dt_X11_lay 23 (39, .dup, 1) rfl) rfl rfl (aw_getI (pc' := 43) (dt_X11_lay 24 (40, .getfield 274, 3) rfl) fl_ReturnDeskModel_274 rfl rfl (sk_31 hS21) (aw_iconst (pc' := 44) (v := 1) (dt_X11_lay 25 (43, .iconst 1, 1) rfl) (by decide) rfl (aw_iadd (pc' := 45) (dt_X11_lay 26 (44, .iadd, 1) rfl) rfl (aw_putI (pc' := 48) (dt_X11_lay 27 (45, .putfield 274, 3) rfl) fl_ReturnDeskModel_274 rfl (by decide +kernel) rfl (sk_31 hS21) (aw_ret (dt_X11_lay 28 (48, .return_, 1) rfl) rfl (aw_stk (st' := []) rfl (aw_goto (tgt := 5) (dt_X11_product 31 (62, .goto (-57), 3) rfl) (by decide) (aw_drop (ls' := [some (.ref 31), some (.int x1), none]) ⟨rfl, rfl, trivial⟩ ?_)))))))))
        exact h
    · intro q2
      have h := h.2 q2
      refine aw_aload_n (pc' := 22) (dt_X11_product 10 (21, .aload_n 0, 1) rfl) rfl rfl (aw_getI (pc' := 25) (dt_X11_product 11 (22, .getfield 252, 3) rfl) fl_ReturnDeskModel_252 rfl rfl (sk_31 hS) (aw_bipush (pc' := 27) (v := 47) (dt_X11_product 12 (25, .bipush 47, 2) rfl) (by decide) rfl (aw_icmp_ne (pc' := 30) (tgt := 65) (dt_X11_product 13 (27, .if_icmp .ne 38, 3) rfl) (by decide) rfl ?_ ?_)))
      · intro q22
        have h := h.1 q22
        refine aw_ret (dt_X11_product 32 (65, .return_, 1) rfl) rfl ?_
        exact h
      · intro q22
        have h := h.2 q22
        refine aw_aload_n (pc' := 31) (dt_X11_product 14 (30, .aload_n 0, 1) rfl) rfl rfl (aw_getI (pc' := 34) (dt_X11_product 15 (31, .getfield 252, 3) rfl) fl_ReturnDeskModel_252 rfl rfl (sk_31 hS) (aw_bipush (pc' := 36) (v := 42) (dt_X11_product 16 (34, .bipush 42, 2) rfl) (by decide) rfl (aw_icmp_ne (pc' := 39) (tgt := 44) (dt_X11_product 17 (36, .if_icmp .ne 8, 3) rfl) (by decide) rfl ?_ ?_)))
        · intro q23
          have h := h.1 q23
          refine aw_bipush (pc' := 46) (v := 33) (dt_X11_product 20 (44, .bipush 33, 2) rfl) (by decide) rfl (aw_istore_n (pc' := 47) (ls' := [some (.ref 31), some (.int x1), some (.int 33)]) (dt_X11_product 21 (46, .istore_n 2, 1) rfl) (by decide) rfl rfl (aw_aload_n (pc' := 48) (dt_X11_product 22 (47, .aload_n 0, 1) rfl) rfl rfl (aw_callV0 (pc' := 51) (nc := nc) (ns := ns) (y2 := mX11_next) (As := []) (rest := []) (a := 31) (dt_X11_product 23 (48, .invokevirtual 294, 3) rfl) ok_X11_next ln_ReturnDeskModel_294 im_X11_next se_X11_next pr_X11_next (Or.inl ⟨by decide, rfl⟩) rfl (Nat.le_of_ble_eq_true rfl) (Nat.le_of_ble_eq_true rfl) rfl (sk_31 hS) h ?_)))
          rintro v μ24 ⟨rfl, hS25, h⟩
          refine aw_stk (st' := []) rfl ?_
          refine aw_aload_n (pc' := 52) (dt_X11_product 24 (51, .aload_n 0, 1) rfl) rfl rfl (aw_iload_n (pc' := 53) (dt_X11_product 25 (52, .iload_n 1, 1) rfl) rfl rfl (aw_callV0 (pc' := 56) (nc := nc) (ns := ns) (y2 := mX11_operand) (As := [.int x1]) (rest := []) (a := 31) (dt_X11_product 26 (53, .invokevirtual 307, 3) rfl) ok_X11_operand ln_ReturnDeskModel_307 im_X11_operand se_X11_operand pr_X11_operand (Or.inl ⟨by decide, rfl⟩) rfl (Nat.le_of_ble_eq_true rfl) (Nat.le_of_ble_eq_true rfl) rfl (sk_31 hS25) h ?_))
          rintro v μ26 ⟨rfl, hS27, h⟩
          refine aw_stk (st' := []) rfl ?_
          obtain ⟨g28, h⟩ := h
          obtain ⟨g29, h⟩ := h
          refine aw_aload_n (pc' := 57) (dt_X11_product 27 (56, .aload_n 0, 1) rfl) rfl rfl (aw_iload_n (pc' := 58) (dt_X11_product 28 (57, .iload_n 2, 1) rfl) rfl rfl (aw_iconst (pc' := 59) (v := 0) (dt_X11_product 29 (58, .iconst 0, 1) rfl) (by decide) rfl (aw_inV (pc' := 62) (nc1 := 0) (ns1 := 0) (nc := nc) (ns := ns) (ls' := [some (.ref 31), some (.int 33), some (.int 0)]) (y2 := mX11_lay) (As := [.int 33, .int 0]) (rest := []) (a := 31) (dt_X11_product 30 (59, .invokevirtual 290, 3) rfl) ok_X11_lay ln_ReturnDeskModel_290 im_X11_lay se_X11_lay pr_X11_lay (Or.inl ⟨by decide, rfl⟩) rfl (Nat.le_of_ble_eq_true rfl) (Nat.le_of_ble_eq_true rfl) rfl rfl (sk_31 hS27) (aw_aload_n (pc' := 1) (dt_X11_lay 0 (0, .aload_n 0, 1) rfl) rfl rfl (aw_getAs (pc' := 4) (dt_X11_lay 1 (1, .getfield 126, 3) rfl) fl_ReturnDeskModel_126 rfl rfl (sk_31 hS27) (sa_31_47 hS27) (aw_sipush (pc' := 7) (v := 200) (dt_X11_lay 2 (4, .sipush 200, 3) rfl) (by decide) rfl (aw_aload_n (pc' := 8) (dt_X11_lay 3 (7, .aload_n 0, 1) rfl) rfl rfl (aw_getI (pc' := 11) (dt_X11_lay 4 (8, .getfield 271, 3) rfl) fl_ReturnDeskModel_271 rfl rfl (sk_31 hS27) (aw_imul (pc' := 12) (dt_X11_lay 5 (11, .imul, 1) rfl) rfl (aw_aload_n (pc' := 13) (dt_X11_lay 6 (12, .aload_n 0, 1) rfl) rfl rfl (aw_getI (pc' := 16) (dt_X11_lay 7 (13, .getfield 274, 3) rfl) fl_ReturnDeskModel_274 rfl rfl (sk_31 hS27) (aw_iadd (pc' := 17) (dt_X11_lay 8 (16, .iadd, 1) rfl) rfl (aw_iload_n (pc' := 18) (dt_X11_lay 9 (17, .iload_n 1, 1) rfl) rfl rfl (aw_iast (pc' := 19) (dt_X11_lay 10 (18, .iastore, 1) rfl) rfl (sk_70 hS27) (by decide) (vin_eq (sl_70 hS27) g28) (aw_aload_n (pc' := 20) (dt_X11_lay 11 (19, .aload_n 0, 1) rfl) rfl rfl (aw_getAs (pc' := 23) (dt_X11_lay 12 (20, .getfield 129, 3) rfl) fl_ReturnDeskModel_129 rfl rfl (sk_31 hS27.wI) (sa_31_48 hS27.wI) (aw_sipush (pc' := 26) (v := 200) (dt_X11_lay 13 (23, .sipush 200, 3) rfl) (by decide) rfl (aw_aload_n (pc' := 27) (dt_X11_lay 14 (26, .aload_n 0, 1) rfl) rfl rfl (aw_getI (pc' := 30) (dt_X11_lay 15 (27, .getfield 271, 3) rfl) fl_ReturnDeskModel_271 rfl rfl (sk_31 hS27.wI) (aw_imul (pc' := 31) (dt_X11_lay 16 (30, .imul, 1) rfl) rfl (aw_aload_n (pc' := 32) (dt_X11_lay 17 (31, .aload_n 0, 1) rfl) rfl rfl (aw_getI (pc' := 35) (dt_X11_lay 18 (32, .getfield 274, 3) rfl) fl_ReturnDeskModel_274 rfl rfl (sk_31 hS27.wI) (aw_iadd (pc' := 36) (dt_X11_lay 19 (35, .iadd, 1) rfl) rfl (aw_iload_n (pc' := 37) (dt_X11_lay 20 (36, .iload_n 2, 1) rfl) rfl rfl (aw_iast (pc' := 38) (dt_X11_lay 21 (37, .iastore, 1) rfl) rfl (sk_71 hS27.wI) (by decide) (vin_eq (sl_71 hS27.wI) g29) ?_)))))))))))))))))))))))))
          refine aw_mem (fun μ30 eμ31 => ?_)
          have h := h μ30 eμ31
          have hS32 : Stat μ30 := by rw [eμ31]; exact hS27.wI.wI
          refine aw_aload_n (pc' := 39) (dt_X11_lay 22 (38, .aload_n 0, 1) rfl) rfl rfl (aw_dup (pc' := 40) (dt_X11_lay 23 (39, .dup, 1) rfl) rfl rfl (aw_getI (pc' := 43) (dt_X11_lay 24 (40, .getfield 274, 3) rfl) fl_ReturnDeskModel_274 rfl rfl (sk_31 hS32) (aw_iconst (pc' := 44) (v := 1) (dt_X11_lay 25 (43, .iconst 1, 1) rfl) (by decide) rfl (aw_iadd (pc' := 45) (dt_X11_lay 26 (44, .iadd, 1) rfl) rfl (aw_putI (pc' := 48) (dt_X11_lay 27 (45, .putfield 274, 3) rfl) fl_ReturnDeskModel_274 rfl (by decide +kernel) rfl (sk_31 hS32) (aw_ret (dt_X11_lay 28 (48, .return_, 1) rfl) rfl (aw_stk (st' := []) rfl (aw_goto (tgt := 5) (dt_X11_product 31 (62, .goto (-57), 3) rfl) (by decide) (aw_drop (ls' := [some (.ref 31), some (.int x1), none]) ⟨rfl, rfl, trivial⟩ ?_)))))))))
          exact h
        · intro q23
          have h := h.2 q23
          refine aw_bipush (pc' := 41) (v := 32) (dt_X11_product 18 (39, .bipush 32, 2) rfl) (by decide) rfl (aw_goto (tgt := 46) (dt_X11_product 19 (41, .goto 5, 3) rfl) (by decide) (aw_istore_n (pc' := 47) (ls' := [some (.ref 31), some (.int x1), some (.int 32)]) (dt_X11_product 21 (46, .istore_n 2, 1) rfl) (by decide) rfl rfl (aw_aload_n (pc' := 48) (dt_X11_product 22 (47, .aload_n 0, 1) rfl) rfl rfl (aw_callV0 (pc' := 51) (nc := nc) (ns := ns) (y2 := mX11_next) (As := []) (rest := []) (a := 31) (dt_X11_product 23 (48, .invokevirtual 294, 3) rfl) ok_X11_next ln_ReturnDeskModel_294 im_X11_next se_X11_next pr_X11_next (Or.inl ⟨by decide, rfl⟩) rfl (Nat.le_of_ble_eq_true rfl) (Nat.le_of_ble_eq_true rfl) rfl (sk_31 hS) h ?_))))
          rintro v μ33 ⟨rfl, hS34, h⟩
          refine aw_stk (st' := []) rfl ?_
          refine aw_aload_n (pc' := 52) (dt_X11_product 24 (51, .aload_n 0, 1) rfl) rfl rfl (aw_iload_n (pc' := 53) (dt_X11_product 25 (52, .iload_n 1, 1) rfl) rfl rfl (aw_callV0 (pc' := 56) (nc := nc) (ns := ns) (y2 := mX11_operand) (As := [.int x1]) (rest := []) (a := 31) (dt_X11_product 26 (53, .invokevirtual 307, 3) rfl) ok_X11_operand ln_ReturnDeskModel_307 im_X11_operand se_X11_operand pr_X11_operand (Or.inl ⟨by decide, rfl⟩) rfl (Nat.le_of_ble_eq_true rfl) (Nat.le_of_ble_eq_true rfl) rfl (sk_31 hS34) h ?_))
          rintro v μ35 ⟨rfl, hS36, h⟩
          refine aw_stk (st' := []) rfl ?_
          obtain ⟨g37, h⟩ := h
          obtain ⟨g38, h⟩ := h
          refine aw_aload_n (pc' := 57) (dt_X11_product 27 (56, .aload_n 0, 1) rfl) rfl rfl (aw_iload_n (pc' := 58) (dt_X11_product 28 (57, .iload_n 2, 1) rfl) rfl rfl (aw_iconst (pc' := 59) (v := 0) (dt_X11_product 29 (58, .iconst 0, 1) rfl) (by decide) rfl (aw_inV (pc' := 62) (nc1 := 0) (ns1 := 0) (nc := nc) (ns := ns) (ls' := [some (.ref 31), some (.int 32), some (.int 0)]) (y2 := mX11_lay) (As := [.int 32, .int 0]) (rest := []) (a := 31) (dt_X11_product 30 (59, .invokevirtual 290, 3) rfl) ok_X11_lay ln_ReturnDeskModel_290 im_X11_lay se_X11_lay pr_X11_lay (Or.inl ⟨by decide, rfl⟩) rfl (Nat.le_of_ble_eq_true rfl) (Nat.le_of_ble_eq_true rfl) rfl rfl (sk_31 hS36) (aw_aload_n (pc' := 1) (dt_X11_lay 0 (0, .aload_n 0, 1) rfl) rfl rfl (aw_getAs (pc' := 4) (dt_X11_lay 1 (1, .getfield 126, 3) rfl) fl_ReturnDeskModel_126 rfl rfl (sk_31 hS36) (sa_31_47 hS36) (aw_sipush (pc' := 7) (v := 200) (dt_X11_lay 2 (4, .sipush 200, 3) rfl) (by decide) rfl (aw_aload_n (pc' := 8) (dt_X11_lay 3 (7, .aload_n 0, 1) rfl) rfl rfl (aw_getI (pc' := 11) (dt_X11_lay 4 (8, .getfield 271, 3) rfl) fl_ReturnDeskModel_271 rfl rfl (sk_31 hS36) (aw_imul (pc' := 12) (dt_X11_lay 5 (11, .imul, 1) rfl) rfl (aw_aload_n (pc' := 13) (dt_X11_lay 6 (12, .aload_n 0, 1) rfl) rfl rfl (aw_getI (pc' := 16) (dt_X11_lay 7 (13, .getfield 274, 3) rfl) fl_ReturnDeskModel_274 rfl rfl (sk_31 hS36) (aw_iadd (pc' := 17) (dt_X11_lay 8 (16, .iadd, 1) rfl) rfl (aw_iload_n (pc' := 18) (dt_X11_lay 9 (17, .iload_n 1, 1) rfl) rfl rfl (aw_iast (pc' := 19) (dt_X11_lay 10 (18, .iastore, 1) rfl) rfl (sk_70 hS36) (by decide) (vin_eq (sl_70 hS36) g37) (aw_aload_n (pc' := 20) (dt_X11_lay 11 (19, .aload_n 0, 1) rfl) rfl rfl (aw_getAs (pc' := 23) (dt_X11_lay 12 (20, .getfield 129, 3) rfl) fl_ReturnDeskModel_129 rfl rfl (sk_31 hS36.wI) (sa_31_48 hS36.wI) (aw_sipush (pc' := 26) (v := 200) (dt_X11_lay 13 (23, .sipush 200, 3) rfl) (by decide) rfl (aw_aload_n (pc' := 27) (dt_X11_lay 14 (26, .aload_n 0, 1) rfl) rfl rfl (aw_getI (pc' := 30) (dt_X11_lay 15 (27, .getfield 271, 3) rfl) fl_ReturnDeskModel_271 rfl rfl (sk_31 hS36.wI) (aw_imul (pc' := 31) (dt_X11_lay 16 (30, .imul, 1) rfl) rfl (aw_aload_n (pc' := 32) (dt_X11_lay 17 (31, .aload_n 0, 1) rfl) rfl rfl (aw_getI (pc' := 35) (dt_X11_lay 18 (32, .getfield 274, 3) rfl) fl_ReturnDeskModel_274 rfl rfl (sk_31 hS36.wI) (aw_iadd (pc' := 36) (dt_X11_lay 19 (35, .iadd, 1) rfl) rfl (aw_iload_n (pc' := 37) (dt_X11_lay 20 (36, .iload_n 2, 1) rfl) rfl rfl (aw_iast (pc' := 38) (dt_X11_lay 21 (37, .iastore, 1) rfl) rfl (sk_71 hS36.wI) (by decide) (vin_eq (sl_71 hS36.wI) g38) ?_)))))))))))))))))))))))))
          refine aw_mem (fun μ39 eμ40 => ?_)
          have h := h μ39 eμ40
          have hS41 : Stat μ39 := by rw [eμ40]; exact hS36.wI.wI
          refine aw_aload_n (pc' := 39) (dt_X11_lay 22 (38, .aload_n 0, 1) rfl) rfl rfl (aw_dup (pc' := 40) (dt_X11_lay 23 (39, .dup, 1) rfl) rfl rfl (aw_getI (pc' := 43) (dt_X11_lay 24 (40, .getfield 274, 3) rfl) fl_ReturnDeskModel_274 rfl rfl (sk_31 hS41) (aw_iconst (pc' := 44) (v := 1) (dt_X11_lay 25 (43, .iconst 1, 1) rfl) (by decide) rfl (aw_iadd (pc' := 45) (dt_X11_lay 26 (44, .iadd, 1) rfl) rfl (aw_putI (pc' := 48) (dt_X11_lay 27 (45, .putfield 274, 3) rfl) fl_ReturnDeskModel_274 rfl (by decide +kernel) rfl (sk_31 hS41) (aw_ret (dt_X11_lay 28 (48, .return_, 1) rfl) rfl (aw_stk (st' := []) rfl (aw_goto (tgt := 5) (dt_X11_product 31 (62, .goto (-57), 3) rfl) (by decide) (aw_drop (ls' := [some (.ref 31), some (.int x1), none]) ⟨rfl, rfl, trivial⟩ ?_)))))))))
          exact h

theorem t_X11_sum {E : ZE} {l : Launch} {d nc ns : Nat} {x1 : Int32} {μ : ZM} {K : Option Value → ZM → Prop} (hS : Stat μ) (h :
  AW E l (d + 2) 0 0 mX11_product 0 (zargs 3 [.ref 31, .int x1]) [] μ (fun v μ1 => v = none ∧ Stat μ1 ∧ 
    AW E l (d + 3) nc ns mX11_sum 5 [some (.ref 31), some (.int x1), none] [] μ1 K)) : AW E l (d + 3) nc ns mX11_sum 0 [some (.ref 31), some (.int x1), none] [] μ K := by
  refine aw_aload_n (pc' := 1) (dt_X11_sum 0 (0, .aload_n 0, 1) rfl) rfl rfl (aw_iload_n (pc' := 2) (dt_X11_sum 1 (1, .iload_n 1, 1) rfl) rfl rfl (aw_callV0 (pc' := 5) (nc := nc) (ns := ns) (y2 := mX11_product) (As := [.int x1]) (rest := []) (a := 31) (dt_X11_sum 2 (2, .invokevirtual 310, 3) rfl) ok_X11_product ln_ReturnDeskModel_310 im_X11_product se_X11_product pr_X11_product (Or.inl ⟨by decide, rfl⟩) rfl (Nat.le_of_ble_eq_true rfl) (Nat.le_of_ble_eq_true rfl) rfl (sk_31 hS) h ?_))
  rintro v μ1 ⟨rfl, hS2, h⟩
  refine aw_stk (st' := []) rfl ?_
  exact h

theorem t_X11_sum_5 {E : ZE} {l : Launch} {d nc ns : Nat} {x1 : Int32} {μ : ZM} {K : Option Value → ZM → Prop} (hS : Stat μ) (h :
  (0 ≤ (zI μ 31 54) →
    K none μ) ∧
  (¬ 0 ≤ (zI μ 31 54) →
    ((zI μ 31 52) = 43 →
      (¬ (zI μ 31 52) = 43 →
        AW E l (d + 2) 0 0 mX11_next 0 (zargs 1 [.ref 31]) [] μ (fun v μ4 => v = none ∧ Stat μ4 ∧ 
          AW E l (d + 2) 0 0 mX11_product 0 (zargs 3 [.ref 31, .int x1]) [] μ4 (fun v μ6 => v = none ∧ Stat μ6 ∧ 
            (vp_in ((200 * (zI μ6 31 56)) + (zI μ6 31 57)) 4400) ∧
            (vp_in ((200 * (zI (sI μ6 70 ((200 * (zI μ6 31 56)) + (zI μ6 31 57)).toNatClampNeg 31) 31 56)) + (zI (sI μ6 70 ((200 * (zI μ6 31 56)) + (zI μ6 31 57)).toNatClampNeg 31) 31 57)) 4400) ∧
            ∀ μ10, μ10 = (sI (sI μ6 70 ((200 * (zI μ6 31 56)) + (zI μ6 31 57)).toNatClampNeg 31) 71 ((200 * (zI (sI μ6 70 ((200 * (zI μ6 31 56)) + (zI μ6 31 57)).toNatClampNeg 31) 31 56)) + (zI (sI μ6 70 ((200 * (zI μ6 31 56)) + (zI μ6 31 57)).toNatClampNeg 31) 31 57)).toNatClampNeg 0) →
            AW E l (d + 3) nc ns mX11_sum 5 [some (.ref 31), some (.int x1), none] [] (sI μ10 31 57 ((zI μ10 31 57) + 1)) K))) ∧
      ((zI μ 31 52) = 43 →
        AW E l (d + 2) 0 0 mX11_next 0 (zargs 1 [.ref 31]) [] μ (fun v μ13 => v = none ∧ Stat μ13 ∧ 
          AW E l (d + 2) 0 0 mX11_product 0 (zargs 3 [.ref 31, .int x1]) [] μ13 (fun v μ15 => v = none ∧ Stat μ15 ∧ 
            (vp_in ((200 * (zI μ15 31 56)) + (zI μ15 31 57)) 4400) ∧
            (vp_in ((200 * (zI (sI μ15 70 ((200 * (zI μ15 31 56)) + (zI μ15 31 57)).toNatClampNeg 30) 31 56)) + (zI (sI μ15 70 ((200 * (zI μ15 31 56)) + (zI μ15 31 57)).toNatClampNeg 30) 31 57)) 4400) ∧
            ∀ μ19, μ19 = (sI (sI μ15 70 ((200 * (zI μ15 31 56)) + (zI μ15 31 57)).toNatClampNeg 30) 71 ((200 * (zI (sI μ15 70 ((200 * (zI μ15 31 56)) + (zI μ15 31 57)).toNatClampNeg 30) 31 56)) + (zI (sI μ15 70 ((200 * (zI μ15 31 56)) + (zI μ15 31 57)).toNatClampNeg 30) 31 57)).toNatClampNeg 0) →
            AW E l (d + 3) nc ns mX11_sum 5 [some (.ref 31), some (.int x1), none] [] (sI μ19 31 57 ((zI μ19 31 57) + 1)) K)))) ∧
    (¬ (zI μ 31 52) = 43 →
      (¬ (zI μ 31 52) = 45 →
        K none μ) ∧
      ((zI μ 31 52) = 45 →
        (¬ (zI μ 31 52) = 43 →
          AW E l (d + 2) 0 0 mX11_next 0 (zargs 1 [.ref 31]) [] μ (fun v μ24 => v = none ∧ Stat μ24 ∧ 
            AW E l (d + 2) 0 0 mX11_product 0 (zargs 3 [.ref 31, .int x1]) [] μ24 (fun v μ26 => v = none ∧ Stat μ26 ∧ 
              (vp_in ((200 * (zI μ26 31 56)) + (zI μ26 31 57)) 4400) ∧
              (vp_in ((200 * (zI (sI μ26 70 ((200 * (zI μ26 31 56)) + (zI μ26 31 57)).toNatClampNeg 31) 31 56)) + (zI (sI μ26 70 ((200 * (zI μ26 31 56)) + (zI μ26 31 57)).toNatClampNeg 31) 31 57)) 4400) ∧
              ∀ μ30, μ30 = (sI (sI μ26 70 ((200 * (zI μ26 31 56)) + (zI μ26 31 57)).toNatClampNeg 31) 71 ((200 * (zI (sI μ26 70 ((200 * (zI μ26 31 56)) + (zI μ26 31 57)).toNatClampNeg 31) 31 56)) + (zI (sI μ26 70 ((200 * (zI μ26 31 56)) + (zI μ26 31 57)).toNatClampNeg 31) 31 57)).toNatClampNeg 0) →
              AW E l (d + 3) nc ns mX11_sum 5 [some (.ref 31), some (.int x1), none] [] (sI μ30 31 57 ((zI μ30 31 57) + 1)) K))) ∧
        ((zI μ 31 52) = 43 →
          AW E l (d + 2) 0 0 mX11_next 0 (zargs 1 [.ref 31]) [] μ (fun v μ33 => v = none ∧ Stat μ33 ∧ 
            AW E l (d + 2) 0 0 mX11_product 0 (zargs 3 [.ref 31, .int x1]) [] μ33 (fun v μ35 => v = none ∧ Stat μ35 ∧ 
              (vp_in ((200 * (zI μ35 31 56)) + (zI μ35 31 57)) 4400) ∧
              (vp_in ((200 * (zI (sI μ35 70 ((200 * (zI μ35 31 56)) + (zI μ35 31 57)).toNatClampNeg 30) 31 56)) + (zI (sI μ35 70 ((200 * (zI μ35 31 56)) + (zI μ35 31 57)).toNatClampNeg 30) 31 57)) 4400) ∧
              ∀ μ39, μ39 = (sI (sI μ35 70 ((200 * (zI μ35 31 56)) + (zI μ35 31 57)).toNatClampNeg 30) 71 ((200 * (zI (sI μ35 70 ((200 * (zI μ35 31 56)) + (zI μ35 31 57)).toNatClampNeg 30) 31 56)) + (zI (sI μ35 70 ((200 * (zI μ35 31 56)) + (zI μ35 31 57)).toNatClampNeg 30) 31 57)).toNatClampNeg 0) →
              AW E l (d + 3) nc ns mX11_sum 5 [some (.ref 31), some (.int x1), none] [] (sI μ39 31 57 ((zI μ39 31 57) + 1)) K))))))) : AW E l (d + 3) nc ns mX11_sum 5 [some (.ref 31), some (.int x1), none] [] μ K := by
  refine aw_aload_n (pc' := 6) (dt_X11_sum 3 (5, .aload_n 0, 1) rfl) rfl rfl (aw_getI (pc' := 9) (dt_X11_sum 4 (6, .getfield 268, 3) rfl) fl_ReturnDeskModel_268 rfl rfl (sk_31 hS) (aw_if_ge (pc' := 12) (tgt := 65) (dt_X11_sum 5 (9, .ifCond .ge 56, 3) rfl) (by decide) rfl ?_ ?_))
  · intro q1
    have h := h.1 q1
    refine aw_ret (dt_X11_sum 32 (65, .return_, 1) rfl) rfl ?_
    exact h
  · intro q1
    have h := h.2 q1
    refine aw_aload_n (pc' := 13) (dt_X11_sum 6 (12, .aload_n 0, 1) rfl) rfl rfl (aw_getI (pc' := 16) (dt_X11_sum 7 (13, .getfield 252, 3) rfl) fl_ReturnDeskModel_252 rfl rfl (sk_31 hS) (aw_bipush (pc' := 18) (v := 43) (dt_X11_sum 8 (16, .bipush 43, 2) rfl) (by decide) rfl (aw_icmp_eq (pc' := 21) (tgt := 30) (dt_X11_sum 9 (18, .if_icmp .eq 12, 3) rfl) (by decide) rfl ?_ ?_)))
    · intro q2
      have h := h.1 q2
      refine aw_aload_n (pc' := 31) (dt_X11_sum 14 (30, .aload_n 0, 1) rfl) rfl rfl (aw_getI (pc' := 34) (dt_X11_sum 15 (31, .getfield 252, 3) rfl) fl_ReturnDeskModel_252 rfl rfl (sk_31 hS) (aw_bipush (pc' := 36) (v := 43) (dt_X11_sum 16 (34, .bipush 43, 2) rfl) (by decide) rfl (aw_icmp_ne (pc' := 39) (tgt := 44) (dt_X11_sum 17 (36, .if_icmp .ne 8, 3) rfl) (by decide) rfl ?_ ?_)))
      · intro q3
        have h := h.1 q3
        refine aw_bipush (pc' := 46) (v := 31) (dt_X11_sum 20 (44, .bipush 31, 2) rfl) (by decide) rfl (aw_istore_n (pc' := 47) (ls' := [some (.ref 31), some (.int x1), some (.int 31)]) (dt_X11_sum 21 (46, .istore_n 2, 1) rfl) (by decide) rfl rfl (aw_aload_n (pc' := 48) (dt_X11_sum 22 (47, .aload_n 0, 1) rfl) rfl rfl (aw_callV0 (pc' := 51) (nc := nc) (ns := ns) (y2 := mX11_next) (As := []) (rest := []) (a := 31) (dt_X11_sum 23 (48, .invokevirtual 294, 3) rfl) ok_X11_next ln_ReturnDeskModel_294 im_X11_next se_X11_next pr_X11_next (Or.inl ⟨by decide, rfl⟩) rfl (Nat.le_of_ble_eq_true rfl) (Nat.le_of_ble_eq_true rfl) rfl (sk_31 hS) h ?_)))
        rintro v μ4 ⟨rfl, hS5, h⟩
        refine aw_stk (st' := []) rfl ?_
        refine aw_aload_n (pc' := 52) (dt_X11_sum 24 (51, .aload_n 0, 1) rfl) rfl rfl (aw_iload_n (pc' := 53) (dt_X11_sum 25 (52, .iload_n 1, 1) rfl) rfl rfl (aw_callV0 (pc' := 56) (nc := nc) (ns := ns) (y2 := mX11_product) (As := [.int x1]) (rest := []) (a := 31) (dt_X11_sum 26 (53, .invokevirtual 310, 3) rfl) ok_X11_product ln_ReturnDeskModel_310 im_X11_product se_X11_product pr_X11_product (Or.inl ⟨by decide, rfl⟩) rfl (Nat.le_of_ble_eq_true rfl) (Nat.le_of_ble_eq_true rfl) rfl (sk_31 hS5) h ?_))
        rintro v μ6 ⟨rfl, hS7, h⟩
        refine aw_stk (st' := []) rfl ?_
        obtain ⟨g8, h⟩ := h
        obtain ⟨g9, h⟩ := h
        refine aw_aload_n (pc' := 57) (dt_X11_sum 27 (56, .aload_n 0, 1) rfl) rfl rfl (aw_iload_n (pc' := 58) (dt_X11_sum 28 (57, .iload_n 2, 1) rfl) rfl rfl (aw_iconst (pc' := 59) (v := 0) (dt_X11_sum 29 (58, .iconst 0, 1) rfl) (by decide) rfl (aw_inV (pc' := 62) (nc1 := 0) (ns1 := 0) (nc := nc) (ns := ns) (ls' := [some (.ref 31), some (.int 31), some (.int 0)]) (y2 := mX11_lay) (As := [.int 31, .int 0]) (rest := []) (a := 31) (dt_X11_sum 30 (59, .invokevirtual 290, 3) rfl) ok_X11_lay ln_ReturnDeskModel_290 im_X11_lay se_X11_lay pr_X11_lay (Or.inl ⟨by decide, rfl⟩) rfl (Nat.le_of_ble_eq_true rfl) (Nat.le_of_ble_eq_true rfl) rfl rfl (sk_31 hS7) (aw_aload_n (pc' := 1) (dt_X11_lay 0 (0, .aload_n 0, 1) rfl) rfl rfl (aw_getAs (pc' := 4) (dt_X11_lay 1 (1, .getfield 126, 3) rfl) fl_ReturnDeskModel_126 rfl rfl (sk_31 hS7) (sa_31_47 hS7) (aw_sipush (pc' := 7) (v := 200) (dt_X11_lay 2 (4, .sipush 200, 3) rfl) (by decide) rfl (aw_aload_n (pc' := 8) (dt_X11_lay 3 (7, .aload_n 0, 1) rfl) rfl rfl (aw_getI (pc' := 11) (dt_X11_lay 4 (8, .getfield 271, 3) rfl) fl_ReturnDeskModel_271 rfl rfl (sk_31 hS7) (aw_imul (pc' := 12) (dt_X11_lay 5 (11, .imul, 1) rfl) rfl (aw_aload_n (pc' := 13) (dt_X11_lay 6 (12, .aload_n 0, 1) rfl) rfl rfl (aw_getI (pc' := 16) (dt_X11_lay 7 (13, .getfield 274, 3) rfl) fl_ReturnDeskModel_274 rfl rfl (sk_31 hS7) (aw_iadd (pc' := 17) (dt_X11_lay 8 (16, .iadd, 1) rfl) rfl (aw_iload_n (pc' := 18) (dt_X11_lay 9 (17, .iload_n 1, 1) rfl) rfl rfl (aw_iast (pc' := 19) (dt_X11_lay 10 (18, .iastore, 1) rfl) rfl (sk_70 hS7) (by decide) (vin_eq (sl_70 hS7) g8) (aw_aload_n (pc' := 20) (dt_X11_lay 11 (19, .aload_n 0, 1) rfl) rfl rfl (aw_getAs (pc' := 23) (dt_X11_lay 12 (20, .getfield 129, 3) rfl) fl_ReturnDeskModel_129 rfl rfl (sk_31 hS7.wI) (sa_31_48 hS7.wI) (aw_sipush (pc' := 26) (v := 200) (dt_X11_lay 13 (23, .sipush 200, 3) rfl) (by decide) rfl (aw_aload_n (pc' := 27) (dt_X11_lay 14 (26, .aload_n 0, 1) rfl) rfl rfl (aw_getI (pc' := 30) (dt_X11_lay 15 (27, .getfield 271, 3) rfl) fl_ReturnDeskModel_271 rfl rfl (sk_31 hS7.wI) (aw_imul (pc' := 31) (dt_X11_lay 16 (30, .imul, 1) rfl) rfl (aw_aload_n (pc' := 32) (dt_X11_lay 17 (31, .aload_n 0, 1) rfl) rfl rfl (aw_getI (pc' := 35) (dt_X11_lay 18 (32, .getfield 274, 3) rfl) fl_ReturnDeskModel_274 rfl rfl (sk_31 hS7.wI) (aw_iadd (pc' := 36) (dt_X11_lay 19 (35, .iadd, 1) rfl) rfl (aw_iload_n (pc' := 37) (dt_X11_lay 20 (36, .iload_n 2, 1) rfl) rfl rfl (aw_iast (pc' := 38) (dt_X11_lay 21 (37, .iastore, 1) rfl) rfl (sk_71 hS7.wI) (by decide) (vin_eq (sl_71 hS7.wI) g9) ?_)))))))))))))))))))))))))
        refine aw_mem (fun μ10 eμ11 => ?_)
        have h := h μ10 eμ11
        have hS12 : Stat μ10 := by rw [eμ11]; exact hS7.wI.wI
        refine aw_aload_n (pc' := 39) (dt_X11_lay 22 (38, .aload_n 0, 1) rfl) rfl rfl (aw_dup (pc' := 40) (dt_X11_lay 23 (39, .dup, 1) rfl) rfl rfl (aw_getI (pc' := 43) (dt_X11_lay 24 (40, .getfield 274, 3) rfl) fl_ReturnDeskModel_274 rfl rfl (sk_31 hS12) (aw_iconst (pc' := 44) (v := 1) (dt_X11_lay 25 (43, .iconst 1, 1) rfl) (by decide) rfl (aw_iadd (pc' := 45) (dt_X11_lay 26 (44, .iadd, 1) rfl) rfl (aw_putI (pc' := 48) (dt_X11_lay 27 (45, .putfield 274, 3) rfl) fl_ReturnDeskModel_274 rfl (by decide +kernel) rfl (sk_31 hS12) (aw_ret (dt_X11_lay 28 (48, .return_, 1) rfl) rfl (aw_stk (st' := []) rfl (aw_goto (tgt := 5) (dt_X11_sum 31 (62, .goto (-57), 3) rfl) (by decide) (aw_drop (ls' := [some (.ref 31), some (.int x1), none]) ⟨rfl, rfl, trivial⟩ ?_)))))))))
        exact h
      · intro q3
        have h := h.2 q3
        refine aw_bipush (pc' := 41) (v := 30) (dt_X11_sum 18 (39, .bipush 30, 2) rfl) (by decide) rfl (aw_goto (tgt := 46) (dt_X11_sum 19 (41, .goto 5, 3) rfl) (by decide) (aw_istore_n (pc' := 47) (ls' := [some (.ref 31), some (.int x1), some (.int 30)]) (dt_X11_sum 21 (46, .istore_n 2, 1) rfl) (by decide) rfl rfl (aw_aload_n (pc' := 48) (dt_X11_sum 22 (47, .aload_n 0, 1) rfl) rfl rfl (aw_callV0 (pc' := 51) (nc := nc) (ns := ns) (y2 := mX11_next) (As := []) (rest := []) (a := 31) (dt_X11_sum 23 (48, .invokevirtual 294, 3) rfl) ok_X11_next ln_ReturnDeskModel_294 im_X11_next se_X11_next pr_X11_next (Or.inl ⟨by decide, rfl⟩) rfl (Nat.le_of_ble_eq_true rfl) (Nat.le_of_ble_eq_true rfl) rfl (sk_31 hS) h ?_))))
        rintro v μ13 ⟨rfl, hS14, h⟩
        refine aw_stk (st' := []) rfl ?_
        refine aw_aload_n (pc' := 52) (dt_X11_sum 24 (51, .aload_n 0, 1) rfl) rfl rfl (aw_iload_n (pc' := 53) (dt_X11_sum 25 (52, .iload_n 1, 1) rfl) rfl rfl (aw_callV0 (pc' := 56) (nc := nc) (ns := ns) (y2 := mX11_product) (As := [.int x1]) (rest := []) (a := 31) (dt_X11_sum 26 (53, .invokevirtual 310, 3) rfl) ok_X11_product ln_ReturnDeskModel_310 im_X11_product se_X11_product pr_X11_product (Or.inl ⟨by decide, rfl⟩) rfl (Nat.le_of_ble_eq_true rfl) (Nat.le_of_ble_eq_true rfl) rfl (sk_31 hS14) h ?_))
        rintro v μ15 ⟨rfl, hS16, h⟩
        refine aw_stk (st' := []) rfl ?_
        obtain ⟨g17, h⟩ := h
        obtain ⟨g18, h⟩ := h
        refine aw_aload_n (pc' := 57) (dt_X11_sum 27 (56, .aload_n 0, 1) rfl) rfl rfl (aw_iload_n (pc' := 58) (dt_X11_sum 28 (57, .iload_n 2, 1) rfl) rfl rfl (aw_iconst (pc' := 59) (v := 0) (dt_X11_sum 29 (58, .iconst 0, 1) rfl) (by decide) rfl (aw_inV (pc' := 62) (nc1 := 0) (ns1 := 0) (nc := nc) (ns := ns) (ls' := [some (.ref 31), some (.int 30), some (.int 0)]) (y2 := mX11_lay) (As := [.int 30, .int 0]) (rest := []) (a := 31) (dt_X11_sum 30 (59, .invokevirtual 290, 3) rfl) ok_X11_lay ln_ReturnDeskModel_290 im_X11_lay se_X11_lay pr_X11_lay (Or.inl ⟨by decide, rfl⟩) rfl (Nat.le_of_ble_eq_true rfl) (Nat.le_of_ble_eq_true rfl) rfl rfl (sk_31 hS16) (aw_aload_n (pc' := 1) (dt_X11_lay 0 (0, .aload_n 0, 1) rfl) rfl rfl (aw_getAs (pc' := 4) (dt_X11_lay 1 (1, .getfield 126, 3) rfl) fl_ReturnDeskModel_126 rfl rfl (sk_31 hS16) (sa_31_47 hS16) (aw_sipush (pc' := 7) (v := 200) (dt_X11_lay 2 (4, .sipush 200, 3) rfl) (by decide) rfl (aw_aload_n (pc' := 8) (dt_X11_lay 3 (7, .aload_n 0, 1) rfl) rfl rfl (aw_getI (pc' := 11) (dt_X11_lay 4 (8, .getfield 271, 3) rfl) fl_ReturnDeskModel_271 rfl rfl (sk_31 hS16) (aw_imul (pc' := 12) (dt_X11_lay 5 (11, .imul, 1) rfl) rfl (aw_aload_n (pc' := 13) (dt_X11_lay 6 (12, .aload_n 0, 1) rfl) rfl rfl (aw_getI (pc' := 16) (dt_X11_lay 7 (13, .getfield 274, 3) rfl) fl_ReturnDeskModel_274 rfl rfl (sk_31 hS16) (aw_iadd (pc' := 17) (dt_X11_lay 8 (16, .iadd, 1) rfl) rfl (aw_iload_n (pc' := 18) (dt_X11_lay 9 (17, .iload_n 1, 1) rfl) rfl rfl (aw_iast (pc' := 19) (dt_X11_lay 10 (18, .iastore, 1) rfl) rfl (sk_70 hS16) (by decide) (vin_eq (sl_70 hS16) g17) (aw_aload_n (pc' := 20) (dt_X11_lay 11 (19, .aload_n 0, 1) rfl) rfl rfl (aw_getAs (pc' := 23) (dt_X11_lay 12 (20, .getfield 129, 3) rfl) fl_ReturnDeskModel_129 rfl rfl (sk_31 hS16.wI) (sa_31_48 hS16.wI) (aw_sipush (pc' := 26) (v := 200) (dt_X11_lay 13 (23, .sipush 200, 3) rfl) (by decide) rfl (aw_aload_n (pc' := 27) (dt_X11_lay 14 (26, .aload_n 0, 1) rfl) rfl rfl (aw_getI (pc' := 30) (dt_X11_lay 15 (27, .getfield 271, 3) rfl) fl_ReturnDeskModel_271 rfl rfl (sk_31 hS16.wI) (aw_imul (pc' := 31) (dt_X11_lay 16 (30, .imul, 1) rfl) rfl (aw_aload_n (pc' := 32) (dt_X11_lay 17 (31, .aload_n 0, 1) rfl) rfl rfl (aw_getI (pc' := 35) (dt_X11_lay 18 (32, .getfield 274, 3) rfl) fl_ReturnDeskModel_274 rfl rfl (sk_31 hS16.wI) (aw_iadd (pc' := 36) (dt_X11_lay 19 (35, .iadd, 1) rfl) rfl (aw_iload_n (pc' := 37) (dt_X11_lay 20 (36, .iload_n 2, 1) rfl) rfl rfl (aw_iast (pc' := 38) (dt_X11_lay 21 (37, .iastore, 1) rfl) rfl (sk_71 hS16.wI) (by decide) (vin_eq (sl_71 hS16.wI) g18) ?_)))))))))))))))))))))))))
        refine aw_mem (fun μ19 eμ20 => ?_)
        have h := h μ19 eμ20
        have hS21 : Stat μ19 := by rw [eμ20]; exact hS16.wI.wI
        refine aw_aload_n (pc' := 39) (dt_X11_lay 22 (38, .aload_n 0, 1) rfl) rfl rfl (aw_dup (pc' := 40) (dt_X11_lay 23 (39, .dup, 1) rfl) rfl rfl (aw_getI (pc' := 43) (dt_X11_lay 24 (40, .getfield 274, 3) rfl) fl_ReturnDeskModel_274 rfl rfl (sk_31 hS21) (aw_iconst (pc' := 44) (v := 1) (dt_X11_lay 25 (43, .iconst 1, 1) rfl) (by decide) rfl (aw_iadd (pc' := 45) (dt_X11_lay 26 (44, .iadd, 1) rfl) rfl (aw_putI (pc' := 48) (dt_X11_lay 27 (45, .putfield 274, 3) rfl) fl_ReturnDeskModel_274 rfl (by decide +kernel) rfl (sk_31 hS21) (aw_ret (dt_X11_lay 28 (48, .return_, 1) rfl) rfl (aw_stk (st' := []) rfl (aw_goto (tgt := 5) (dt_X11_sum 31 (62, .goto (-57), 3) rfl) (by decide) (aw_drop (ls' := [some (.ref 31), some (.int x1), none]) ⟨rfl, rfl, trivial⟩ ?_)))))))))
        exact h
    · intro q2
      have h := h.2 q2
      refine aw_aload_n (pc' := 22) (dt_X11_sum 10 (21, .aload_n 0, 1) rfl) rfl rfl (aw_getI (pc' := 25) (dt_X11_sum 11 (22, .getfield 252, 3) rfl) fl_ReturnDeskModel_252 rfl rfl (sk_31 hS) (aw_bipush (pc' := 27) (v := 45) (dt_X11_sum 12 (25, .bipush 45, 2) rfl) (by decide) rfl (aw_icmp_ne (pc' := 30) (tgt := 65) (dt_X11_sum 13 (27, .if_icmp .ne 38, 3) rfl) (by decide) rfl ?_ ?_)))
      · intro q22
        have h := h.1 q22
        refine aw_ret (dt_X11_sum 32 (65, .return_, 1) rfl) rfl ?_
        exact h
      · intro q22
        have h := h.2 q22
        refine aw_aload_n (pc' := 31) (dt_X11_sum 14 (30, .aload_n 0, 1) rfl) rfl rfl (aw_getI (pc' := 34) (dt_X11_sum 15 (31, .getfield 252, 3) rfl) fl_ReturnDeskModel_252 rfl rfl (sk_31 hS) (aw_bipush (pc' := 36) (v := 43) (dt_X11_sum 16 (34, .bipush 43, 2) rfl) (by decide) rfl (aw_icmp_ne (pc' := 39) (tgt := 44) (dt_X11_sum 17 (36, .if_icmp .ne 8, 3) rfl) (by decide) rfl ?_ ?_)))
        · intro q23
          have h := h.1 q23
          refine aw_bipush (pc' := 46) (v := 31) (dt_X11_sum 20 (44, .bipush 31, 2) rfl) (by decide) rfl (aw_istore_n (pc' := 47) (ls' := [some (.ref 31), some (.int x1), some (.int 31)]) (dt_X11_sum 21 (46, .istore_n 2, 1) rfl) (by decide) rfl rfl (aw_aload_n (pc' := 48) (dt_X11_sum 22 (47, .aload_n 0, 1) rfl) rfl rfl (aw_callV0 (pc' := 51) (nc := nc) (ns := ns) (y2 := mX11_next) (As := []) (rest := []) (a := 31) (dt_X11_sum 23 (48, .invokevirtual 294, 3) rfl) ok_X11_next ln_ReturnDeskModel_294 im_X11_next se_X11_next pr_X11_next (Or.inl ⟨by decide, rfl⟩) rfl (Nat.le_of_ble_eq_true rfl) (Nat.le_of_ble_eq_true rfl) rfl (sk_31 hS) h ?_)))
          rintro v μ24 ⟨rfl, hS25, h⟩
          refine aw_stk (st' := []) rfl ?_
          refine aw_aload_n (pc' := 52) (dt_X11_sum 24 (51, .aload_n 0, 1) rfl) rfl rfl (aw_iload_n (pc' := 53) (dt_X11_sum 25 (52, .iload_n 1, 1) rfl) rfl rfl (aw_callV0 (pc' := 56) (nc := nc) (ns := ns) (y2 := mX11_product) (As := [.int x1]) (rest := []) (a := 31) (dt_X11_sum 26 (53, .invokevirtual 310, 3) rfl) ok_X11_product ln_ReturnDeskModel_310 im_X11_product se_X11_product pr_X11_product (Or.inl ⟨by decide, rfl⟩) rfl (Nat.le_of_ble_eq_true rfl) (Nat.le_of_ble_eq_true rfl) rfl (sk_31 hS25) h ?_))
          rintro v μ26 ⟨rfl, hS27, h⟩
          refine aw_stk (st' := []) rfl ?_
          obtain ⟨g28, h⟩ := h
          obtain ⟨g29, h⟩ := h
          refine aw_aload_n (pc' := 57) (dt_X11_sum 27 (56, .aload_n 0, 1) rfl) rfl rfl (aw_iload_n (pc' := 58) (dt_X11_sum 28 (57, .iload_n 2, 1) rfl) rfl rfl (aw_iconst (pc' := 59) (v := 0) (dt_X11_sum 29 (58, .iconst 0, 1) rfl) (by decide) rfl (aw_inV (pc' := 62) (nc1 := 0) (ns1 := 0) (nc := nc) (ns := ns) (ls' := [some (.ref 31), some (.int 31), some (.int 0)]) (y2 := mX11_lay) (As := [.int 31, .int 0]) (rest := []) (a := 31) (dt_X11_sum 30 (59, .invokevirtual 290, 3) rfl) ok_X11_lay ln_ReturnDeskModel_290 im_X11_lay se_X11_lay pr_X11_lay (Or.inl ⟨by decide, rfl⟩) rfl (Nat.le_of_ble_eq_true rfl) (Nat.le_of_ble_eq_true rfl) rfl rfl (sk_31 hS27) (aw_aload_n (pc' := 1) (dt_X11_lay 0 (0, .aload_n 0, 1) rfl) rfl rfl (aw_getAs (pc' := 4) (dt_X11_lay 1 (1, .getfield 126, 3) rfl) fl_ReturnDeskModel_126 rfl rfl (sk_31 hS27) (sa_31_47 hS27) (aw_sipush (pc' := 7) (v := 200) (dt_X11_lay 2 (4, .sipush 200, 3) rfl) (by decide) rfl (aw_aload_n (pc' := 8) (dt_X11_lay 3 (7, .aload_n 0, 1) rfl) rfl rfl (aw_getI (pc' := 11) (dt_X11_lay 4 (8, .getfield 271, 3) rfl) fl_ReturnDeskModel_271 rfl rfl (sk_31 hS27) (aw_imul (pc' := 12) (dt_X11_lay 5 (11, .imul, 1) rfl) rfl (aw_aload_n (pc' := 13) (dt_X11_lay 6 (12, .aload_n 0, 1) rfl) rfl rfl (aw_getI (pc' := 16) (dt_X11_lay 7 (13, .getfield 274, 3) rfl) fl_ReturnDeskModel_274 rfl rfl (sk_31 hS27) (aw_iadd (pc' := 17) (dt_X11_lay 8 (16, .iadd, 1) rfl) rfl (aw_iload_n (pc' := 18) (dt_X11_lay 9 (17, .iload_n 1, 1) rfl) rfl rfl (aw_iast (pc' := 19) (dt_X11_lay 10 (18, .iastore, 1) rfl) rfl (sk_70 hS27) (by decide) (vin_eq (sl_70 hS27) g28) (aw_aload_n (pc' := 20) (dt_X11_lay 11 (19, .aload_n 0, 1) rfl) rfl rfl (aw_getAs (pc' := 23) (dt_X11_lay 12 (20, .getfield 129, 3) rfl) fl_ReturnDeskModel_129 rfl rfl (sk_31 hS27.wI) (sa_31_48 hS27.wI) (aw_sipush (pc' := 26) (v := 200) (dt_X11_lay 13 (23, .sipush 200, 3) rfl) (by decide) rfl (aw_aload_n (pc' := 27) (dt_X11_lay 14 (26, .aload_n 0, 1) rfl) rfl rfl (aw_getI (pc' := 30) (dt_X11_lay 15 (27, .getfield 271, 3) rfl) fl_ReturnDeskModel_271 rfl rfl (sk_31 hS27.wI) (aw_imul (pc' := 31) (dt_X11_lay 16 (30, .imul, 1) rfl) rfl (aw_aload_n (pc' := 32) (dt_X11_lay 17 (31, .aload_n 0, 1) rfl) rfl rfl (aw_getI (pc' := 35) (dt_X11_lay 18 (32, .getfield 274, 3) rfl) fl_ReturnDeskModel_274 rfl rfl (sk_31 hS27.wI) (aw_iadd (pc' := 36) (dt_X11_lay 19 (35, .iadd, 1) rfl) rfl (aw_iload_n (pc' := 37) (dt_X11_lay 20 (36, .iload_n 2, 1) rfl) rfl rfl (aw_iast (pc' := 38) (dt_X11_lay 21 (37, .iastore, 1) rfl) rfl (sk_71 hS27.wI) (by decide) (vin_eq (sl_71 hS27.wI) g29) ?_)))))))))))))))))))))))))
          refine aw_mem (fun μ30 eμ31 => ?_)
          have h := h μ30 eμ31
          have hS32 : Stat μ30 := by rw [eμ31]; exact hS27.wI.wI
          refine aw_aload_n (pc' := 39) (dt_X11_lay 22 (38, .aload_n 0, 1) rfl) rfl rfl (aw_dup (pc' := 40) (dt_X11_lay 23 (39, .dup, 1) rfl) rfl rfl (aw_getI (pc' := 43) (dt_X11_lay 24 (40, .getfield 274, 3) rfl) fl_ReturnDeskModel_274 rfl rfl (sk_31 hS32) (aw_iconst (pc' := 44) (v := 1) (dt_X11_lay 25 (43, .iconst 1, 1) rfl) (by decide) rfl (aw_iadd (pc' := 45) (dt_X11_lay 26 (44, .iadd, 1) rfl) rfl (aw_putI (pc' := 48) (dt_X11_lay 27 (45, .putfield 274, 3) rfl) fl_ReturnDeskModel_274 rfl (by decide +kernel) rfl (sk_31 hS32) (aw_ret (dt_X11_lay 28 (48, .return_, 1) rfl) rfl (aw_stk (st' := []) rfl (aw_goto (tgt := 5) (dt_X11_sum 31 (62, .goto (-57), 3) rfl) (by decide) (aw_drop (ls' := [some (.ref 31), some (.int x1), none]) ⟨rfl, rfl, trivial⟩ ?_)))))))))
          exact h
        · intro q23
          have h := h.2 q23
          refine aw_bipush (pc' := 41) (v := 30) (dt_X11_sum 18 (39, .bipush 30, 2) rfl) (by decide) rfl (aw_goto (tgt := 46) (dt_X11_sum 19 (41, .goto 5, 3) rfl) (by decide) (aw_istore_n (pc' := 47) (ls' := [some (.ref 31), some (.int x1), some (.int 30)]) (dt_X11_sum 21 (46, .istore_n 2, 1) rfl) (by decide) rfl rfl (aw_aload_n (pc' := 48) (dt_X11_sum 22 (47, .aload_n 0, 1) rfl) rfl rfl (aw_callV0 (pc' := 51) (nc := nc) (ns := ns) (y2 := mX11_next) (As := []) (rest := []) (a := 31) (dt_X11_sum 23 (48, .invokevirtual 294, 3) rfl) ok_X11_next ln_ReturnDeskModel_294 im_X11_next se_X11_next pr_X11_next (Or.inl ⟨by decide, rfl⟩) rfl (Nat.le_of_ble_eq_true rfl) (Nat.le_of_ble_eq_true rfl) rfl (sk_31 hS) h ?_))))
          rintro v μ33 ⟨rfl, hS34, h⟩
          refine aw_stk (st' := []) rfl ?_
          refine aw_aload_n (pc' := 52) (dt_X11_sum 24 (51, .aload_n 0, 1) rfl) rfl rfl (aw_iload_n (pc' := 53) (dt_X11_sum 25 (52, .iload_n 1, 1) rfl) rfl rfl (aw_callV0 (pc' := 56) (nc := nc) (ns := ns) (y2 := mX11_product) (As := [.int x1]) (rest := []) (a := 31) (dt_X11_sum 26 (53, .invokevirtual 310, 3) rfl) ok_X11_product ln_ReturnDeskModel_310 im_X11_product se_X11_product pr_X11_product (Or.inl ⟨by decide, rfl⟩) rfl (Nat.le_of_ble_eq_true rfl) (Nat.le_of_ble_eq_true rfl) rfl (sk_31 hS34) h ?_))
          rintro v μ35 ⟨rfl, hS36, h⟩
          refine aw_stk (st' := []) rfl ?_
          obtain ⟨g37, h⟩ := h
          obtain ⟨g38, h⟩ := h
          refine aw_aload_n (pc' := 57) (dt_X11_sum 27 (56, .aload_n 0, 1) rfl) rfl rfl (aw_iload_n (pc' := 58) (dt_X11_sum 28 (57, .iload_n 2, 1) rfl) rfl rfl (aw_iconst (pc' := 59) (v := 0) (dt_X11_sum 29 (58, .iconst 0, 1) rfl) (by decide) rfl (aw_inV (pc' := 62) (nc1 := 0) (ns1 := 0) (nc := nc) (ns := ns) (ls' := [some (.ref 31), some (.int 30), some (.int 0)]) (y2 := mX11_lay) (As := [.int 30, .int 0]) (rest := []) (a := 31) (dt_X11_sum 30 (59, .invokevirtual 290, 3) rfl) ok_X11_lay ln_ReturnDeskModel_290 im_X11_lay se_X11_lay pr_X11_lay (Or.inl ⟨by decide, rfl⟩) rfl (Nat.le_of_ble_eq_true rfl) (Nat.le_of_ble_eq_true rfl) rfl rfl (sk_31 hS36) (aw_aload_n (pc' := 1) (dt_X11_lay 0 (0, .aload_n 0, 1) rfl) rfl rfl (aw_getAs (pc' := 4) (dt_X11_lay 1 (1, .getfield 126, 3) rfl) fl_ReturnDeskModel_126 rfl rfl (sk_31 hS36) (sa_31_47 hS36) (aw_sipush (pc' := 7) (v := 200) (dt_X11_lay 2 (4, .sipush 200, 3) rfl) (by decide) rfl (aw_aload_n (pc' := 8) (dt_X11_lay 3 (7, .aload_n 0, 1) rfl) rfl rfl (aw_getI (pc' := 11) (dt_X11_lay 4 (8, .getfield 271, 3) rfl) fl_ReturnDeskModel_271 rfl rfl (sk_31 hS36) (aw_imul (pc' := 12) (dt_X11_lay 5 (11, .imul, 1) rfl) rfl (aw_aload_n (pc' := 13) (dt_X11_lay 6 (12, .aload_n 0, 1) rfl) rfl rfl (aw_getI (pc' := 16) (dt_X11_lay 7 (13, .getfield 274, 3) rfl) fl_ReturnDeskModel_274 rfl rfl (sk_31 hS36) (aw_iadd (pc' := 17) (dt_X11_lay 8 (16, .iadd, 1) rfl) rfl (aw_iload_n (pc' := 18) (dt_X11_lay 9 (17, .iload_n 1, 1) rfl) rfl rfl (aw_iast (pc' := 19) (dt_X11_lay 10 (18, .iastore, 1) rfl) rfl (sk_70 hS36) (by decide) (vin_eq (sl_70 hS36) g37) (aw_aload_n (pc' := 20) (dt_X11_lay 11 (19, .aload_n 0, 1) rfl) rfl rfl (aw_getAs (pc' := 23) (dt_X11_lay 12 (20, .getfield 129, 3) rfl) fl_ReturnDeskModel_129 rfl rfl (sk_31 hS36.wI) (sa_31_48 hS36.wI) (aw_sipush (pc' := 26) (v := 200) (dt_X11_lay 13 (23, .sipush 200, 3) rfl) (by decide) rfl (aw_aload_n (pc' := 27) (dt_X11_lay 14 (26, .aload_n 0, 1) rfl) rfl rfl (aw_getI (pc' := 30) (dt_X11_lay 15 (27, .getfield 271, 3) rfl) fl_ReturnDeskModel_271 rfl rfl (sk_31 hS36.wI) (aw_imul (pc' := 31) (dt_X11_lay 16 (30, .imul, 1) rfl) rfl (aw_aload_n (pc' := 32) (dt_X11_lay 17 (31, .aload_n 0, 1) rfl) rfl rfl (aw_getI (pc' := 35) (dt_X11_lay 18 (32, .getfield 274, 3) rfl) fl_ReturnDeskModel_274 rfl rfl (sk_31 hS36.wI) (aw_iadd (pc' := 36) (dt_X11_lay 19 (35, .iadd, 1) rfl) rfl (aw_iload_n (pc' := 37) (dt_X11_lay 20 (36, .iload_n 2, 1) rfl) rfl rfl (aw_iast (pc' := 38) (dt_X11_lay 21 (37, .iastore, 1) rfl) rfl (sk_71 hS36.wI) (by decide) (vin_eq (sl_71 hS36.wI) g38) ?_)))))))))))))))))))))))))
          refine aw_mem (fun μ39 eμ40 => ?_)
          have h := h μ39 eμ40
          have hS41 : Stat μ39 := by rw [eμ40]; exact hS36.wI.wI
          refine aw_aload_n (pc' := 39) (dt_X11_lay 22 (38, .aload_n 0, 1) rfl) rfl rfl (aw_dup (pc' := 40) (dt_X11_lay 23 (39, .dup, 1) rfl) rfl rfl (aw_getI (pc' := 43) (dt_X11_lay 24 (40, .getfield 274, 3) rfl) fl_ReturnDeskModel_274 rfl rfl (sk_31 hS41) (aw_iconst (pc' := 44) (v := 1) (dt_X11_lay 25 (43, .iconst 1, 1) rfl) (by decide) rfl (aw_iadd (pc' := 45) (dt_X11_lay 26 (44, .iadd, 1) rfl) rfl (aw_putI (pc' := 48) (dt_X11_lay 27 (45, .putfield 274, 3) rfl) fl_ReturnDeskModel_274 rfl (by decide +kernel) rfl (sk_31 hS41) (aw_ret (dt_X11_lay 28 (48, .return_, 1) rfl) rfl (aw_stk (st' := []) rfl (aw_goto (tgt := 5) (dt_X11_sum 31 (62, .goto (-57), 3) rfl) (by decide) (aw_drop (ls' := [some (.ref 31), some (.int x1), none]) ⟨rfl, rfl, trivial⟩ ?_)))))))))
          exact h

theorem t_X11_base {E : ZE} {l : Launch} {d nc ns : Nat} {x1 : Int32} {μ : ZM} {K : Option Value → ZM → Prop} (hS : Stat μ) (h :
  AW E l (d + 2) 0 0 mX11_isWord 0 (zargs 6 [.ref 31, .long 10631]) [] μ (fun v μ1 => ∃ r3 : Int32, v = some (.int r3) ∧ Stat μ1 ∧ 
    (r3 = 0 →
      AW E l (d + 2) 0 0 mX11_sum 0 (zargs 3 [.ref 31, .int x1]) [] μ1 (fun v μ5 => v = none ∧ Stat μ5 ∧ 
        (0 ≤ (zI μ5 31 54) →
          K none μ5) ∧
        (¬ 0 ≤ (zI μ5 31 54) →
          ((zI μ5 31 52) = 60 →
            AW E l (d + 3) nc ns mX11_base 84 [some (.ref 31), some (.int x1), none] [] μ5 K) ∧
          (¬ (zI μ5 31 52) = 60 →
            ((zI μ5 31 52) = 61 →
              AW E l (d + 3) nc ns mX11_base 84 [some (.ref 31), some (.int x1), none] [] μ5 K) ∧
            (¬ (zI μ5 31 52) = 61 →
              ((zI μ5 31 52) = 62 →
                AW E l (d + 3) nc ns mX11_base 84 [some (.ref 31), some (.int x1), none] [] μ5 K) ∧
              (¬ (zI μ5 31 52) = 62 →
                K none μ5)))))) ∧
    (¬ r3 = 0 →
      (¬ (zI μ1 31 55) = 10 →
        AW E l (d + 2) 0 0 mX11_next 0 (zargs 1 [.ref 31]) [] (sI μ1 31 55 ((zI μ1 31 55) + 1)) (fun v μ12 => v = none ∧ Stat μ12 ∧ 
          AW E l (d + 2) 0 0 mX11_base 0 (zargs 3 [.ref 31, .int x1]) [] μ12 (fun v μ14 => v = none ∧ Stat μ14 ∧ 
            (vp_in ((200 * (zI (sI μ14 31 55 ((zI μ14 31 55) - 1)) 31 56)) + (zI (sI μ14 31 55 ((zI μ14 31 55) - 1)) 31 57)) 4400) ∧
            (vp_in ((200 * (zI (sI (sI μ14 31 55 ((zI μ14 31 55) - 1)) 70 ((200 * (zI (sI μ14 31 55 ((zI μ14 31 55) - 1)) 31 56)) + (zI (sI μ14 31 55 ((zI μ14 31 55) - 1)) 31 57)).toNatClampNeg 5) 31 56)) + (zI (sI (sI μ14 31 55 ((zI μ14 31 55) - 1)) 70 ((200 * (zI (sI μ14 31 55 ((zI μ14 31 55) - 1)) 31 56)) + (zI (sI μ14 31 55 ((zI μ14 31 55) - 1)) 31 57)).toNatClampNeg 5) 31 57)) 4400) ∧
            ∀ μ18, μ18 = (sI (sI (sI μ14 31 55 ((zI μ14 31 55) - 1)) 70 ((200 * (zI (sI μ14 31 55 ((zI μ14 31 55) - 1)) 31 56)) + (zI (sI μ14 31 55 ((zI μ14 31 55) - 1)) 31 57)).toNatClampNeg 5) 71 ((200 * (zI (sI (sI μ14 31 55 ((zI μ14 31 55) - 1)) 70 ((200 * (zI (sI μ14 31 55 ((zI μ14 31 55) - 1)) 31 56)) + (zI (sI μ14 31 55 ((zI μ14 31 55) - 1)) 31 57)).toNatClampNeg 5) 31 56)) + (zI (sI (sI μ14 31 55 ((zI μ14 31 55) - 1)) 70 ((200 * (zI (sI μ14 31 55 ((zI μ14 31 55) - 1)) 31 56)) + (zI (sI μ14 31 55 ((zI μ14 31 55) - 1)) 31 57)).toNatClampNeg 5) 31 57)).toNatClampNeg 0) →
            K none (sI μ18 31 57 ((zI μ18 31 57) + 1))))) ∧
      ((zI μ1 31 55) = 10 →
        (0 ≤ (zI μ1 31 54) →
          K none μ1) ∧
        (¬ 0 ≤ (zI μ1 31 54) →
          K none (sI μ1 31 54 (zI μ1 31 50))))))) : AW E l (d + 3) nc ns mX11_base 0 [some (.ref 31), some (.int x1), none] [] μ K := by
  refine aw_aload_n (pc' := 1) (dt_X11_base 0 (0, .aload_n 0, 1) rfl) rfl rfl (aw_ldc2 (pc' := 4) (dt_X11_base 1 (1, .ldc2_w 313, 3) rfl) ct_ReturnDeskModel_313 rfl (aw_callV0 (pc' := 7) (nc := nc) (ns := ns) (y2 := mX11_isWord) (As := [.long 10631]) (rest := []) (a := 31) (dt_X11_base 2 (4, .invokevirtual 286, 3) rfl) ok_X11_isWord ln_ReturnDeskModel_286 im_X11_isWord se_X11_isWord pr_X11_isWord (Or.inl ⟨by decide, rfl⟩) rfl (Nat.le_of_ble_eq_true rfl) (Nat.le_of_ble_eq_true rfl) rfl (sk_31 hS) h ?_))
  rintro v μ1 ⟨r3, rfl, hS2, h⟩
  refine aw_stk (st' := [.int r3]) rfl ?_
  refine aw_if_eq (pc' := 10) (tgt := 44) (dt_X11_base 3 (7, .ifCond .eq 37, 3) rfl) (by decide) rfl ?_ ?_
  · intro q4
    have h := h.1 q4
    refine aw_aload_n (pc' := 45) (dt_X11_base 24 (44, .aload_n 0, 1) rfl) rfl rfl (aw_iload_n (pc' := 46) (dt_X11_base 25 (45, .iload_n 1, 1) rfl) rfl rfl (aw_callV0 (pc' := 49) (nc := nc) (ns := ns) (y2 := mX11_sum) (As := [.int x1]) (rest := []) (a := 31) (dt_X11_base 26 (46, .invokevirtual 318, 3) rfl) ok_X11_sum ln_ReturnDeskModel_318 im_X11_sum se_X11_sum pr_X11_sum (Or.inl ⟨by decide, rfl⟩) rfl (Nat.le_of_ble_eq_true rfl) (Nat.le_of_ble_eq_true rfl) rfl (sk_31 hS2) h ?_))
    rintro v μ5 ⟨rfl, hS6, h⟩
    refine aw_stk (st' := []) rfl ?_
    refine aw_aload_n (pc' := 50) (dt_X11_base 27 (49, .aload_n 0, 1) rfl) rfl rfl (aw_getI (pc' := 53) (dt_X11_base 28 (50, .getfield 268, 3) rfl) fl_ReturnDeskModel_268 rfl rfl (sk_31 hS6) (aw_if_ge (pc' := 56) (tgt := 83) (dt_X11_base 29 (53, .ifCond .ge 30, 3) rfl) (by decide) rfl ?_ ?_))
    · intro q7
      have h := h.1 q7
      refine aw_ret (dt_X11_base 42 (83, .return_, 1) rfl) rfl ?_
      exact h
    · intro q7
      have h := h.2 q7
      refine aw_aload_n (pc' := 57) (dt_X11_base 30 (56, .aload_n 0, 1) rfl) rfl rfl (aw_getI (pc' := 60) (dt_X11_base 31 (57, .getfield 252, 3) rfl) fl_ReturnDeskModel_252 rfl rfl (sk_31 hS6) (aw_bipush (pc' := 62) (v := 60) (dt_X11_base 32 (60, .bipush 60, 2) rfl) (by decide) rfl (aw_icmp_eq (pc' := 65) (tgt := 84) (dt_X11_base 33 (62, .if_icmp .eq 22, 3) rfl) (by decide) rfl ?_ ?_)))
      · intro q8
        have h := h.1 q8
        exact h
      · intro q8
        have h := h.2 q8
        refine aw_aload_n (pc' := 66) (dt_X11_base 34 (65, .aload_n 0, 1) rfl) rfl rfl (aw_getI (pc' := 69) (dt_X11_base 35 (66, .getfield 252, 3) rfl) fl_ReturnDeskModel_252 rfl rfl (sk_31 hS6) (aw_bipush (pc' := 71) (v := 61) (dt_X11_base 36 (69, .bipush 61, 2) rfl) (by decide) rfl (aw_icmp_eq (pc' := 74) (tgt := 84) (dt_X11_base 37 (71, .if_icmp .eq 13, 3) rfl) (by decide) rfl ?_ ?_)))
        · intro q9
          have h := h.1 q9
          exact h
        · intro q9
          have h := h.2 q9
          refine aw_aload_n (pc' := 75) (dt_X11_base 38 (74, .aload_n 0, 1) rfl) rfl rfl (aw_getI (pc' := 78) (dt_X11_base 39 (75, .getfield 252, 3) rfl) fl_ReturnDeskModel_252 rfl rfl (sk_31 hS6) (aw_bipush (pc' := 80) (v := 62) (dt_X11_base 40 (78, .bipush 62, 2) rfl) (by decide) rfl (aw_icmp_eq (pc' := 83) (tgt := 84) (dt_X11_base 41 (80, .if_icmp .eq 4, 3) rfl) (by decide) rfl ?_ ?_)))
          · intro q10
            have h := h.1 q10
            exact h
          · intro q10
            have h := h.2 q10
            refine aw_ret (dt_X11_base 42 (83, .return_, 1) rfl) rfl ?_
            exact h
  · intro q4
    have h := h.2 q4
    refine aw_aload_n (pc' := 11) (dt_X11_base 4 (10, .aload_n 0, 1) rfl) rfl rfl (aw_inV (pc' := 14) (nc1 := 0) (ns1 := 0) (nc := nc) (ns := ns) (ls' := [some (.ref 31)]) (y2 := mX11_opens) (As := []) (rest := []) (a := 31) (dt_X11_base 5 (11, .invokevirtual 297, 3) rfl) ok_X11_opens ln_ReturnDeskModel_297 im_X11_opens se_X11_opens pr_X11_opens (Or.inl ⟨by decide, rfl⟩) rfl (Nat.le_of_ble_eq_true rfl) (Nat.le_of_ble_eq_true rfl) rfl rfl (sk_31 hS2) (aw_aload_n (pc' := 1) (dt_X11_opens 0 (0, .aload_n 0, 1) rfl) rfl rfl (aw_getI (pc' := 4) (dt_X11_opens 1 (1, .getfield 277, 3) rfl) fl_ReturnDeskModel_277 rfl rfl (sk_31 hS2) (aw_bipush (pc' := 6) (v := 10) (dt_X11_opens 2 (4, .bipush 10, 2) rfl) (by decide) rfl (aw_icmp_ne (pc' := 9) (tgt := 15) (dt_X11_opens 3 (6, .if_icmp .ne 9, 3) rfl) (by decide) rfl ?_ ?_)))))
    · intro q11
      have h := h.1 q11
      refine aw_aload_n (pc' := 16) (dt_X11_opens 8 (15, .aload_n 0, 1) rfl) rfl rfl (aw_dup (pc' := 17) (dt_X11_opens 9 (16, .dup, 1) rfl) rfl rfl (aw_getI (pc' := 20) (dt_X11_opens 10 (17, .getfield 277, 3) rfl) fl_ReturnDeskModel_277 rfl rfl (sk_31 hS2) (aw_iconst (pc' := 21) (v := 1) (dt_X11_opens 11 (20, .iconst 1, 1) rfl) (by decide) rfl (aw_iadd (pc' := 22) (dt_X11_opens 12 (21, .iadd, 1) rfl) rfl (aw_putI (pc' := 25) (dt_X11_opens 13 (22, .putfield 277, 3) rfl) fl_ReturnDeskModel_277 rfl (by decide +kernel) rfl (sk_31 hS2) (aw_iconst (pc' := 26) (v := 1) (dt_X11_opens 14 (25, .iconst 1, 1) rfl) (by decide) rfl (aw_iret (dt_X11_opens 15 (26, .ireturn, 1) rfl) rfl rfl (aw_stk (st' := [.int 1]) rfl (aw_if_ne_T (pc' := 17) (tgt := 18) (dt_X11_base 6 (14, .ifCond .ne 4, 3) rfl) (by decide) rfl (by decide) (aw_aload_n (pc' := 19) (dt_X11_base 8 (18, .aload_n 0, 1) rfl) rfl rfl (aw_callV0 (pc' := 22) (nc := nc) (ns := ns) (y2 := mX11_next) (As := []) (rest := []) (a := 31) (dt_X11_base 9 (19, .invokevirtual 294, 3) rfl) ok_X11_next ln_ReturnDeskModel_294 im_X11_next se_X11_next pr_X11_next (Or.inl ⟨by decide, rfl⟩) rfl (Nat.le_of_ble_eq_true rfl) (Nat.le_of_ble_eq_true rfl) rfl (sk_31 hS2.wI) h ?_)))))))))))
      rintro v μ12 ⟨rfl, hS13, h⟩
      refine aw_stk (st' := []) rfl ?_
      refine aw_aload_n (pc' := 23) (dt_X11_base 10 (22, .aload_n 0, 1) rfl) rfl rfl (aw_iload_n (pc' := 24) (dt_X11_base 11 (23, .iload_n 1, 1) rfl) rfl rfl (aw_callV0 (pc' := 27) (nc := nc) (ns := ns) (y2 := mX11_base) (As := [.int x1]) (rest := []) (a := 31) (dt_X11_base 12 (24, .invokevirtual 315, 3) rfl) ok_X11_base ln_ReturnDeskModel_315 im_X11_base se_X11_base pr_X11_base (Or.inl ⟨by decide, rfl⟩) rfl (Nat.le_of_ble_eq_true rfl) (Nat.le_of_ble_eq_true rfl) rfl (sk_31 hS13) h ?_))
      rintro v μ14 ⟨rfl, hS15, h⟩
      refine aw_stk (st' := []) rfl ?_
      obtain ⟨g16, h⟩ := h
      obtain ⟨g17, h⟩ := h
      refine aw_aload_n (pc' := 28) (dt_X11_base 13 (27, .aload_n 0, 1) rfl) rfl rfl (aw_dup (pc' := 29) (dt_X11_base 14 (28, .dup, 1) rfl) rfl rfl (aw_getI (pc' := 32) (dt_X11_base 15 (29, .getfield 277, 3) rfl) fl_ReturnDeskModel_277 rfl rfl (sk_31 hS15) (aw_iconst (pc' := 33) (v := 1) (dt_X11_base 16 (32, .iconst 1, 1) rfl) (by decide) rfl (aw_isub (pc' := 34) (dt_X11_base 17 (33, .isub, 1) rfl) rfl (aw_putI (pc' := 37) (dt_X11_base 18 (34, .putfield 277, 3) rfl) fl_ReturnDeskModel_277 rfl (by decide +kernel) rfl (sk_31 hS15) (aw_aload_n (pc' := 38) (dt_X11_base 19 (37, .aload_n 0, 1) rfl) rfl rfl (aw_iconst (pc' := 39) (v := 5) (dt_X11_base 20 (38, .iconst 5, 1) rfl) (by decide) rfl (aw_iconst (pc' := 40) (v := 0) (dt_X11_base 21 (39, .iconst 0, 1) rfl) (by decide) rfl (aw_inV (pc' := 43) (nc1 := 0) (ns1 := 0) (nc := nc) (ns := ns) (ls' := [some (.ref 31), some (.int 5), some (.int 0)]) (y2 := mX11_lay) (As := [.int 5, .int 0]) (rest := []) (a := 31) (dt_X11_base 22 (40, .invokevirtual 290, 3) rfl) ok_X11_lay ln_ReturnDeskModel_290 im_X11_lay se_X11_lay pr_X11_lay (Or.inl ⟨by decide, rfl⟩) rfl (Nat.le_of_ble_eq_true rfl) (Nat.le_of_ble_eq_true rfl) rfl rfl (sk_31 hS15.wI) (aw_aload_n (pc' := 1) (dt_X11_lay 0 (0, .aload_n 0, 1) rfl) rfl rfl (aw_getAs (pc' := 4) (dt_X11_lay 1 (1, .getfield 126, 3) rfl) fl_ReturnDeskModel_126 rfl rfl (sk_31 hS15.wI) (sa_31_47 hS15.wI) (aw_sipush (pc' := 7) (v := 200) (dt_X11_lay 2 (4, .sipush 200, 3) rfl) (by decide) rfl (aw_aload_n (pc' := 8) (dt_X11_lay 3 (7, .aload_n 0, 1) rfl) rfl rfl (aw_getI (pc' := 11) (dt_X11_lay 4 (8, .getfield 271, 3) rfl) fl_ReturnDeskModel_271 rfl rfl (sk_31 hS15.wI) (aw_imul (pc' := 12) (dt_X11_lay 5 (11, .imul, 1) rfl) rfl (aw_aload_n (pc' := 13) (dt_X11_lay 6 (12, .aload_n 0, 1) rfl) rfl rfl (aw_getI (pc' := 16) (dt_X11_lay 7 (13, .getfield 274, 3) rfl) fl_ReturnDeskModel_274 rfl rfl (sk_31 hS15.wI) (aw_iadd (pc' := 17) (dt_X11_lay 8 (16, .iadd, 1) rfl) rfl (aw_iload_n (pc' := 18) (dt_X11_lay 9 (17, .iload_n 1, 1) rfl) rfl rfl (aw_iast (pc' := 19) (dt_X11_lay 10 (18, .iastore, 1) rfl) rfl (sk_70 hS15.wI) (by decide) (vin_eq (sl_70 hS15.wI) g16) (aw_aload_n (pc' := 20) (dt_X11_lay 11 (19, .aload_n 0, 1) rfl) rfl rfl (aw_getAs (pc' := 23) (dt_X11_lay 12 (20, .getfield 129, 3) rfl) fl_ReturnDeskModel_129 rfl rfl (sk_31 hS15.wI.wI) (sa_31_48 hS15.wI.wI) (aw_sipush (pc' := 26) (v := 200) (dt_X11_lay 13 (23, .sipush 200, 3) rfl) (by decide) rfl (aw_aload_n (pc' := 27) (dt_X11_lay 14 (26, .aload_n 0, 1) rfl) rfl rfl (aw_getI (pc' := 30) (dt_X11_lay 15 (27, .getfield 271, 3) rfl) fl_ReturnDeskModel_271 rfl rfl (sk_31 hS15.wI.wI) (aw_imul (pc' := 31) (dt_X11_lay 16 (30, .imul, 1) rfl) rfl (aw_aload_n (pc' := 32) (dt_X11_lay 17 (31, .aload_n 0, 1) rfl) rfl rfl (aw_getI (pc' := 35) (dt_X11_lay 18 (32, .getfield 274, 3) rfl) fl_ReturnDeskModel_274 rfl rfl (sk_31 hS15.wI.wI) (aw_iadd (pc' := 36) (dt_X11_lay 19 (35, .iadd, 1) rfl) rfl (aw_iload_n (pc' := 37) (dt_X11_lay 20 (36, .iload_n 2, 1) rfl) rfl rfl (aw_iast (pc' := 38) (dt_X11_lay 21 (37, .iastore, 1) rfl) rfl (sk_71 hS15.wI.wI) (by decide) (vin_eq (sl_71 hS15.wI.wI) g17) ?_)))))))))))))))))))))))))))))))
      refine aw_mem (fun μ18 eμ19 => ?_)
      have h := h μ18 eμ19
      have hS20 : Stat μ18 := by rw [eμ19]; exact hS15.wI.wI.wI
      refine aw_aload_n (pc' := 39) (dt_X11_lay 22 (38, .aload_n 0, 1) rfl) rfl rfl (aw_dup (pc' := 40) (dt_X11_lay 23 (39, .dup, 1) rfl) rfl rfl (aw_getI (pc' := 43) (dt_X11_lay 24 (40, .getfield 274, 3) rfl) fl_ReturnDeskModel_274 rfl rfl (sk_31 hS20) (aw_iconst (pc' := 44) (v := 1) (dt_X11_lay 25 (43, .iconst 1, 1) rfl) (by decide) rfl (aw_iadd (pc' := 45) (dt_X11_lay 26 (44, .iadd, 1) rfl) rfl (aw_putI (pc' := 48) (dt_X11_lay 27 (45, .putfield 274, 3) rfl) fl_ReturnDeskModel_274 rfl (by decide +kernel) rfl (sk_31 hS20) (aw_ret (dt_X11_lay 28 (48, .return_, 1) rfl) rfl (aw_stk (st' := []) rfl (aw_ret (dt_X11_base 23 (43, .return_, 1) rfl) rfl ?_))))))))
      exact h
    · intro q11
      have h := h.2 q11
      refine aw_aload_n (pc' := 10) (dt_X11_opens 4 (9, .aload_n 0, 1) rfl) rfl rfl (aw_inV (pc' := 13) (nc1 := 0) (ns1 := 0) (nc := 0) (ns := 0) (ls' := [some (.ref 31)]) (y2 := mX11_wrong) (As := []) (rest := []) (a := 31) (dt_X11_opens 5 (10, .invokevirtual 280, 3) rfl) ok_X11_wrong ln_ReturnDeskModel_280 im_X11_wrong se_X11_wrong pr_X11_wrong (Or.inl ⟨by decide, rfl⟩) rfl (Nat.le_of_ble_eq_true rfl) (Nat.le_of_ble_eq_true rfl) rfl rfl (sk_31 hS2) (aw_aload_n (pc' := 1) (dt_X11_wrong 0 (0, .aload_n 0, 1) rfl) rfl rfl (aw_getI (pc' := 4) (dt_X11_wrong 1 (1, .getfield 268, 3) rfl) fl_ReturnDeskModel_268 rfl rfl (sk_31 hS2) (aw_if_ge (pc' := 7) (tgt := 15) (dt_X11_wrong 2 (4, .ifCond .ge 11, 3) rfl) (by decide) rfl ?_ ?_))))
      · intro q21
        have h := h.1 q21
        refine aw_ret (dt_X11_wrong 7 (15, .return_, 1) rfl) rfl (aw_stk (st' := []) rfl (aw_iconst (pc' := 14) (v := 0) (dt_X11_opens 6 (13, .iconst 0, 1) rfl) (by decide) rfl (aw_iret (dt_X11_opens 7 (14, .ireturn, 1) rfl) rfl rfl (aw_stk (st' := [.int 0]) rfl (aw_if_ne_F (pc' := 17) (tgt := 18) (dt_X11_base 6 (14, .ifCond .ne 4, 3) rfl) (by decide) rfl (by decide) (aw_ret (dt_X11_base 7 (17, .return_, 1) rfl) rfl ?_))))))
        exact h
      · intro q21
        have h := h.2 q21
        refine aw_aload_n (pc' := 8) (dt_X11_wrong 3 (7, .aload_n 0, 1) rfl) rfl rfl (aw_aload_n (pc' := 9) (dt_X11_wrong 4 (8, .aload_n 0, 1) rfl) rfl rfl (aw_getI (pc' := 12) (dt_X11_wrong 5 (9, .getfield 249, 3) rfl) fl_ReturnDeskModel_249 rfl rfl (sk_31 hS2) (aw_putI (pc' := 15) (dt_X11_wrong 6 (12, .putfield 268, 3) rfl) fl_ReturnDeskModel_268 rfl (by decide +kernel) rfl (sk_31 hS2) (aw_ret (dt_X11_wrong 7 (15, .return_, 1) rfl) rfl (aw_stk (st' := []) rfl (aw_iconst (pc' := 14) (v := 0) (dt_X11_opens 6 (13, .iconst 0, 1) rfl) (by decide) rfl (aw_iret (dt_X11_opens 7 (14, .ireturn, 1) rfl) rfl rfl (aw_stk (st' := [.int 0]) rfl (aw_if_ne_F (pc' := 17) (tgt := 18) (dt_X11_base 6 (14, .ifCond .ne 4, 3) rfl) (by decide) rfl (by decide) (aw_ret (dt_X11_base 7 (17, .return_, 1) rfl) rfl ?_))))))))))
        exact h

theorem t_X11_base_84 {E : ZE} {l : Launch} {d nc ns : Nat} {x1 : Int32} {μ : ZM} {K : Option Value → ZM → Prop} (hS : Stat μ) (h :
  (¬ (zI μ 31 52) = 60 →
    (¬ (zI μ 31 52) = 61 →
      AW E l (d + 3) nc ns mX11_base 114 [some (.ref 31), some (.int x1), none] [.int 22] μ K) ∧
    ((zI μ 31 52) = 61 →
      AW E l (d + 3) nc ns mX11_base 114 [some (.ref 31), some (.int x1), none] [.int 21] μ K)) ∧
  ((zI μ 31 52) = 60 →
    AW E l (d + 3) nc ns mX11_base 114 [some (.ref 31), some (.int x1), none] [.int 20] μ K)) : AW E l (d + 3) nc ns mX11_base 84 [some (.ref 31), some (.int x1), none] [] μ K := by
  refine aw_aload_n (pc' := 85) (dt_X11_base 43 (84, .aload_n 0, 1) rfl) rfl rfl (aw_getI (pc' := 88) (dt_X11_base 44 (85, .getfield 252, 3) rfl) fl_ReturnDeskModel_252 rfl rfl (sk_31 hS) (aw_bipush (pc' := 90) (v := 60) (dt_X11_base 45 (88, .bipush 60, 2) rfl) (by decide) rfl (aw_icmp_ne (pc' := 93) (tgt := 98) (dt_X11_base 46 (90, .if_icmp .ne 8, 3) rfl) (by decide) rfl ?_ ?_)))
  · intro q1
    have h := h.1 q1
    refine aw_aload_n (pc' := 99) (dt_X11_base 49 (98, .aload_n 0, 1) rfl) rfl rfl (aw_getI (pc' := 102) (dt_X11_base 50 (99, .getfield 252, 3) rfl) fl_ReturnDeskModel_252 rfl rfl (sk_31 hS) (aw_bipush (pc' := 104) (v := 61) (dt_X11_base 51 (102, .bipush 61, 2) rfl) (by decide) rfl (aw_icmp_ne (pc' := 107) (tgt := 112) (dt_X11_base 52 (104, .if_icmp .ne 8, 3) rfl) (by decide) rfl ?_ ?_)))
    · intro q2
      have h := h.1 q2
      refine aw_bipush (pc' := 114) (v := 22) (dt_X11_base 55 (112, .bipush 22, 2) rfl) (by decide) rfl ?_
      exact h
    · intro q2
      have h := h.2 q2
      refine aw_bipush (pc' := 109) (v := 21) (dt_X11_base 53 (107, .bipush 21, 2) rfl) (by decide) rfl (aw_goto (tgt := 114) (dt_X11_base 54 (109, .goto 5, 3) rfl) (by decide) ?_)
      exact h
  · intro q1
    have h := h.2 q1
    refine aw_bipush (pc' := 95) (v := 20) (dt_X11_base 47 (93, .bipush 20, 2) rfl) (by decide) rfl (aw_goto (tgt := 114) (dt_X11_base 48 (95, .goto 19, 3) rfl) (by decide) ?_)
    exact h

theorem t_X11_base_114 {E : ZE} {l : Launch} {d nc ns : Nat} {x1 : Int32} {y0 : Int32} {μ : ZM} {K : Option Value → ZM → Prop} (hS : Stat μ) (h :
  AW E l (d + 2) 0 0 mX11_next 0 (zargs 1 [.ref 31]) [] μ (fun v μ1 => v = none ∧ Stat μ1 ∧ 
    AW E l (d + 2) 0 0 mX11_sum 0 (zargs 3 [.ref 31, .int x1]) [] μ1 (fun v μ3 => v = none ∧ Stat μ3 ∧ 
      (vp_in ((200 * (zI μ3 31 56)) + (zI μ3 31 57)) 4400) ∧
      (vp_in ((200 * (zI (sI μ3 70 ((200 * (zI μ3 31 56)) + (zI μ3 31 57)).toNatClampNeg y0) 31 56)) + (zI (sI μ3 70 ((200 * (zI μ3 31 56)) + (zI μ3 31 57)).toNatClampNeg y0) 31 57)) 4400) ∧
      ∀ μ7, μ7 = (sI (sI μ3 70 ((200 * (zI μ3 31 56)) + (zI μ3 31 57)).toNatClampNeg y0) 71 ((200 * (zI (sI μ3 70 ((200 * (zI μ3 31 56)) + (zI μ3 31 57)).toNatClampNeg y0) 31 56)) + (zI (sI μ3 70 ((200 * (zI μ3 31 56)) + (zI μ3 31 57)).toNatClampNeg y0) 31 57)).toNatClampNeg 0) →
      K none (sI μ7 31 57 ((zI μ7 31 57) + 1))))) : AW E l (d + 3) nc ns mX11_base 114 [some (.ref 31), some (.int x1), none] [.int y0] μ K := by
  refine aw_istore_n (pc' := 115) (ls' := [some (.ref 31), some (.int x1), some (.int y0)]) (dt_X11_base 56 (114, .istore_n 2, 1) rfl) (by decide) rfl rfl (aw_aload_n (pc' := 116) (dt_X11_base 57 (115, .aload_n 0, 1) rfl) rfl rfl (aw_callV0 (pc' := 119) (nc := nc) (ns := ns) (y2 := mX11_next) (As := []) (rest := []) (a := 31) (dt_X11_base 58 (116, .invokevirtual 294, 3) rfl) ok_X11_next ln_ReturnDeskModel_294 im_X11_next se_X11_next pr_X11_next (Or.inl ⟨by decide, rfl⟩) rfl (Nat.le_of_ble_eq_true rfl) (Nat.le_of_ble_eq_true rfl) rfl (sk_31 hS) h ?_))
  rintro v μ1 ⟨rfl, hS2, h⟩
  refine aw_stk (st' := []) rfl ?_
  refine aw_aload_n (pc' := 120) (dt_X11_base 59 (119, .aload_n 0, 1) rfl) rfl rfl (aw_iload_n (pc' := 121) (dt_X11_base 60 (120, .iload_n 1, 1) rfl) rfl rfl (aw_callV0 (pc' := 124) (nc := nc) (ns := ns) (y2 := mX11_sum) (As := [.int x1]) (rest := []) (a := 31) (dt_X11_base 61 (121, .invokevirtual 318, 3) rfl) ok_X11_sum ln_ReturnDeskModel_318 im_X11_sum se_X11_sum pr_X11_sum (Or.inl ⟨by decide, rfl⟩) rfl (Nat.le_of_ble_eq_true rfl) (Nat.le_of_ble_eq_true rfl) rfl (sk_31 hS2) h ?_))
  rintro v μ3 ⟨rfl, hS4, h⟩
  refine aw_stk (st' := []) rfl ?_
  obtain ⟨g5, h⟩ := h
  obtain ⟨g6, h⟩ := h
  refine aw_aload_n (pc' := 125) (dt_X11_base 62 (124, .aload_n 0, 1) rfl) rfl rfl (aw_iload_n (pc' := 126) (dt_X11_base 63 (125, .iload_n 2, 1) rfl) rfl rfl (aw_iconst (pc' := 127) (v := 0) (dt_X11_base 64 (126, .iconst 0, 1) rfl) (by decide) rfl (aw_inV (pc' := 130) (nc1 := 0) (ns1 := 0) (nc := nc) (ns := ns) (ls' := [some (.ref 31), some (.int y0), some (.int 0)]) (y2 := mX11_lay) (As := [.int y0, .int 0]) (rest := []) (a := 31) (dt_X11_base 65 (127, .invokevirtual 290, 3) rfl) ok_X11_lay ln_ReturnDeskModel_290 im_X11_lay se_X11_lay pr_X11_lay (Or.inl ⟨by decide, rfl⟩) rfl (Nat.le_of_ble_eq_true rfl) (Nat.le_of_ble_eq_true rfl) rfl rfl (sk_31 hS4) (aw_aload_n (pc' := 1) (dt_X11_lay 0 (0, .aload_n 0, 1) rfl) rfl rfl (aw_getAs (pc' := 4) (dt_X11_lay 1 (1, .getfield 126, 3) rfl) fl_ReturnDeskModel_126 rfl rfl (sk_31 hS4) (sa_31_47 hS4) (aw_sipush (pc' := 7) (v := 200) (dt_X11_lay 2 (4, .sipush 200, 3) rfl) (by decide) rfl (aw_aload_n (pc' := 8) (dt_X11_lay 3 (7, .aload_n 0, 1) rfl) rfl rfl (aw_getI (pc' := 11) (dt_X11_lay 4 (8, .getfield 271, 3) rfl) fl_ReturnDeskModel_271 rfl rfl (sk_31 hS4) (aw_imul (pc' := 12) (dt_X11_lay 5 (11, .imul, 1) rfl) rfl (aw_aload_n (pc' := 13) (dt_X11_lay 6 (12, .aload_n 0, 1) rfl) rfl rfl (aw_getI (pc' := 16) (dt_X11_lay 7 (13, .getfield 274, 3) rfl) fl_ReturnDeskModel_274 rfl rfl (sk_31 hS4) (aw_iadd (pc' := 17) (dt_X11_lay 8 (16, .iadd, 1) rfl) rfl (aw_iload_n (pc' := 18) (dt_X11_lay 9 (17, .iload_n 1, 1) rfl) rfl rfl (aw_iast (pc' := 19) (dt_X11_lay 10 (18, .iastore, 1) rfl) rfl (sk_70 hS4) (by decide) (vin_eq (sl_70 hS4) g5) (aw_aload_n (pc' := 20) (dt_X11_lay 11 (19, .aload_n 0, 1) rfl) rfl rfl (aw_getAs (pc' := 23) (dt_X11_lay 12 (20, .getfield 129, 3) rfl) fl_ReturnDeskModel_129 rfl rfl (sk_31 hS4.wI) (sa_31_48 hS4.wI) (aw_sipush (pc' := 26) (v := 200) (dt_X11_lay 13 (23, .sipush 200, 3) rfl) (by decide) rfl (aw_aload_n (pc' := 27) (dt_X11_lay 14 (26, .aload_n 0, 1) rfl) rfl rfl (aw_getI (pc' := 30) (dt_X11_lay 15 (27, .getfield 271, 3) rfl) fl_ReturnDeskModel_271 rfl rfl (sk_31 hS4.wI) (aw_imul (pc' := 31) (dt_X11_lay 16 (30, .imul, 1) rfl) rfl (aw_aload_n (pc' := 32) (dt_X11_lay 17 (31, .aload_n 0, 1) rfl) rfl rfl (aw_getI (pc' := 35) (dt_X11_lay 18 (32, .getfield 274, 3) rfl) fl_ReturnDeskModel_274 rfl rfl (sk_31 hS4.wI) (aw_iadd (pc' := 36) (dt_X11_lay 19 (35, .iadd, 1) rfl) rfl (aw_iload_n (pc' := 37) (dt_X11_lay 20 (36, .iload_n 2, 1) rfl) rfl rfl (aw_iast (pc' := 38) (dt_X11_lay 21 (37, .iastore, 1) rfl) rfl (sk_71 hS4.wI) (by decide) (vin_eq (sl_71 hS4.wI) g6) ?_)))))))))))))))))))))))))
  refine aw_mem (fun μ7 eμ8 => ?_)
  have h := h μ7 eμ8
  have hS9 : Stat μ7 := by rw [eμ8]; exact hS4.wI.wI
  refine aw_aload_n (pc' := 39) (dt_X11_lay 22 (38, .aload_n 0, 1) rfl) rfl rfl (aw_dup (pc' := 40) (dt_X11_lay 23 (39, .dup, 1) rfl) rfl rfl (aw_getI (pc' := 43) (dt_X11_lay 24 (40, .getfield 274, 3) rfl) fl_ReturnDeskModel_274 rfl rfl (sk_31 hS9) (aw_iconst (pc' := 44) (v := 1) (dt_X11_lay 25 (43, .iconst 1, 1) rfl) (by decide) rfl (aw_iadd (pc' := 45) (dt_X11_lay 26 (44, .iadd, 1) rfl) rfl (aw_putI (pc' := 48) (dt_X11_lay 27 (45, .putfield 274, 3) rfl) fl_ReturnDeskModel_274 rfl (by decide +kernel) rfl (sk_31 hS9) (aw_ret (dt_X11_lay 28 (48, .return_, 1) rfl) rfl (aw_stk (st' := []) rfl (aw_ret (dt_X11_base 66 (130, .return_, 1) rfl) rfl ?_))))))))
  exact h

theorem t_X11_all {E : ZE} {l : Launch} {d nc ns : Nat} {x1 : Int32} {μ : ZM} {K : Option Value → ZM → Prop} (hS : Stat μ) (h :
  AW E l (d + 2) 0 0 mX11_base 0 (zargs 3 [.ref 31, .int x1]) [] μ (fun v μ1 => v = none ∧ Stat μ1 ∧ 
    AW E l (d + 3) nc ns mX11_all 5 [some (.ref 31), some (.int x1)] [] μ1 K)) : AW E l (d + 3) nc ns mX11_all 0 [some (.ref 31), some (.int x1)] [] μ K := by
  refine aw_aload_n (pc' := 1) (dt_X11_all 0 (0, .aload_n 0, 1) rfl) rfl rfl (aw_iload_n (pc' := 2) (dt_X11_all 1 (1, .iload_n 1, 1) rfl) rfl rfl (aw_callV0 (pc' := 5) (nc := nc) (ns := ns) (y2 := mX11_base) (As := [.int x1]) (rest := []) (a := 31) (dt_X11_all 2 (2, .invokevirtual 315, 3) rfl) ok_X11_base ln_ReturnDeskModel_315 im_X11_base se_X11_base pr_X11_base (Or.inl ⟨by decide, rfl⟩) rfl (Nat.le_of_ble_eq_true rfl) (Nat.le_of_ble_eq_true rfl) rfl (sk_31 hS) h ?_))
  rintro v μ1 ⟨rfl, hS2, h⟩
  refine aw_stk (st' := []) rfl ?_
  exact h

theorem t_X11_all_5 {E : ZE} {l : Launch} {d nc ns : Nat} {x1 : Int32} {μ : ZM} {K : Option Value → ZM → Prop} (hS : Stat μ) (h :
  (0 ≤ (zI μ 31 54) →
    K none μ) ∧
  (¬ 0 ≤ (zI μ 31 54) →
    AW E l (d + 2) 0 0 mX11_isWord 0 (zargs 6 [.ref 31, .long 1111]) [] μ (fun v μ2 => ∃ r4 : Int32, v = some (.int r4) ∧ Stat μ2 ∧ 
      (r4 = 0 →
        K none μ2) ∧
      (¬ r4 = 0 →
        AW E l (d + 2) 0 0 mX11_next 0 (zargs 1 [.ref 31]) [] μ2 (fun v μ6 => v = none ∧ Stat μ6 ∧ 
          AW E l (d + 2) 0 0 mX11_base 0 (zargs 3 [.ref 31, .int x1]) [] μ6 (fun v μ8 => v = none ∧ Stat μ8 ∧ 
            (vp_in ((200 * (zI μ8 31 56)) + (zI μ8 31 57)) 4400) ∧
            (vp_in ((200 * (zI (sI μ8 70 ((200 * (zI μ8 31 56)) + (zI μ8 31 57)).toNatClampNeg 11) 31 56)) + (zI (sI μ8 70 ((200 * (zI μ8 31 56)) + (zI μ8 31 57)).toNatClampNeg 11) 31 57)) 4400) ∧
            ∀ μ12, μ12 = (sI (sI μ8 70 ((200 * (zI μ8 31 56)) + (zI μ8 31 57)).toNatClampNeg 11) 71 ((200 * (zI (sI μ8 70 ((200 * (zI μ8 31 56)) + (zI μ8 31 57)).toNatClampNeg 11) 31 56)) + (zI (sI μ8 70 ((200 * (zI μ8 31 56)) + (zI μ8 31 57)).toNatClampNeg 11) 31 57)).toNatClampNeg 0) →
            AW E l (d + 3) nc ns mX11_all 5 [some (.ref 31), some (.int x1)] [] (sI μ12 31 57 ((zI μ12 31 57) + 1)) K)))))) : AW E l (d + 3) nc ns mX11_all 5 [some (.ref 31), some (.int x1)] [] μ K := by
  refine aw_aload_n (pc' := 6) (dt_X11_all 3 (5, .aload_n 0, 1) rfl) rfl rfl (aw_getI (pc' := 9) (dt_X11_all 4 (6, .getfield 268, 3) rfl) fl_ReturnDeskModel_268 rfl rfl (sk_31 hS) (aw_if_ge (pc' := 12) (tgt := 41) (dt_X11_all 5 (9, .ifCond .ge 32, 3) rfl) (by decide) rfl ?_ ?_))
  · intro q1
    have h := h.1 q1
    refine aw_ret (dt_X11_all 20 (41, .return_, 1) rfl) rfl ?_
    exact h
  · intro q1
    have h := h.2 q1
    refine aw_aload_n (pc' := 13) (dt_X11_all 6 (12, .aload_n 0, 1) rfl) rfl rfl (aw_ldc2 (pc' := 16) (dt_X11_all 7 (13, .ldc2_w 321, 3) rfl) ct_ReturnDeskModel_321 rfl (aw_callV0 (pc' := 19) (nc := nc) (ns := ns) (y2 := mX11_isWord) (As := [.long 1111]) (rest := []) (a := 31) (dt_X11_all 8 (16, .invokevirtual 286, 3) rfl) ok_X11_isWord ln_ReturnDeskModel_286 im_X11_isWord se_X11_isWord pr_X11_isWord (Or.inl ⟨by decide, rfl⟩) rfl (Nat.le_of_ble_eq_true rfl) (Nat.le_of_ble_eq_true rfl) rfl (sk_31 hS) h ?_))
    rintro v μ2 ⟨r4, rfl, hS3, h⟩
    refine aw_stk (st' := [.int r4]) rfl ?_
    refine aw_if_eq (pc' := 22) (tgt := 41) (dt_X11_all 9 (19, .ifCond .eq 22, 3) rfl) (by decide) rfl ?_ ?_
    · intro q5
      have h := h.1 q5
      refine aw_ret (dt_X11_all 20 (41, .return_, 1) rfl) rfl ?_
      exact h
    · intro q5
      have h := h.2 q5
      refine aw_aload_n (pc' := 23) (dt_X11_all 10 (22, .aload_n 0, 1) rfl) rfl rfl (aw_callV0 (pc' := 26) (nc := nc) (ns := ns) (y2 := mX11_next) (As := []) (rest := []) (a := 31) (dt_X11_all 11 (23, .invokevirtual 294, 3) rfl) ok_X11_next ln_ReturnDeskModel_294 im_X11_next se_X11_next pr_X11_next (Or.inl ⟨by decide, rfl⟩) rfl (Nat.le_of_ble_eq_true rfl) (Nat.le_of_ble_eq_true rfl) rfl (sk_31 hS3) h ?_)
      rintro v μ6 ⟨rfl, hS7, h⟩
      refine aw_stk (st' := []) rfl ?_
      refine aw_aload_n (pc' := 27) (dt_X11_all 12 (26, .aload_n 0, 1) rfl) rfl rfl (aw_iload_n (pc' := 28) (dt_X11_all 13 (27, .iload_n 1, 1) rfl) rfl rfl (aw_callV0 (pc' := 31) (nc := nc) (ns := ns) (y2 := mX11_base) (As := [.int x1]) (rest := []) (a := 31) (dt_X11_all 14 (28, .invokevirtual 315, 3) rfl) ok_X11_base ln_ReturnDeskModel_315 im_X11_base se_X11_base pr_X11_base (Or.inl ⟨by decide, rfl⟩) rfl (Nat.le_of_ble_eq_true rfl) (Nat.le_of_ble_eq_true rfl) rfl (sk_31 hS7) h ?_))
      rintro v μ8 ⟨rfl, hS9, h⟩
      refine aw_stk (st' := []) rfl ?_
      obtain ⟨g10, h⟩ := h
      obtain ⟨g11, h⟩ := h
      refine aw_aload_n (pc' := 32) (dt_X11_all 15 (31, .aload_n 0, 1) rfl) rfl rfl (aw_bipush (pc' := 34) (v := 11) (dt_X11_all 16 (32, .bipush 11, 2) rfl) (by decide) rfl (aw_iconst (pc' := 35) (v := 0) (dt_X11_all 17 (34, .iconst 0, 1) rfl) (by decide) rfl (aw_inV (pc' := 38) (nc1 := 0) (ns1 := 0) (nc := nc) (ns := ns) (ls' := [some (.ref 31), some (.int 11), some (.int 0)]) (y2 := mX11_lay) (As := [.int 11, .int 0]) (rest := []) (a := 31) (dt_X11_all 18 (35, .invokevirtual 290, 3) rfl) ok_X11_lay ln_ReturnDeskModel_290 im_X11_lay se_X11_lay pr_X11_lay (Or.inl ⟨by decide, rfl⟩) rfl (Nat.le_of_ble_eq_true rfl) (Nat.le_of_ble_eq_true rfl) rfl rfl (sk_31 hS9) (aw_aload_n (pc' := 1) (dt_X11_lay 0 (0, .aload_n 0, 1) rfl) rfl rfl (aw_getAs (pc' := 4) (dt_X11_lay 1 (1, .getfield 126, 3) rfl) fl_ReturnDeskModel_126 rfl rfl (sk_31 hS9) (sa_31_47 hS9) (aw_sipush (pc' := 7) (v := 200) (dt_X11_lay 2 (4, .sipush 200, 3) rfl) (by decide) rfl (aw_aload_n (pc' := 8) (dt_X11_lay 3 (7, .aload_n 0, 1) rfl) rfl rfl (aw_getI (pc' := 11) (dt_X11_lay 4 (8, .getfield 271, 3) rfl) fl_ReturnDeskModel_271 rfl rfl (sk_31 hS9) (aw_imul (pc' := 12) (dt_X11_lay 5 (11, .imul, 1) rfl) rfl (aw_aload_n (pc' := 13) (dt_X11_lay 6 (12, .aload_n 0, 1) rfl) rfl rfl (aw_getI (pc' := 16) (dt_X11_lay 7 (13, .getfield 274, 3) rfl) fl_ReturnDeskModel_274 rfl rfl (sk_31 hS9) (aw_iadd (pc' := 17) (dt_X11_lay 8 (16, .iadd, 1) rfl) rfl (aw_iload_n (pc' := 18) (dt_X11_lay 9 (17, .iload_n 1, 1) rfl) rfl rfl (aw_iast (pc' := 19) (dt_X11_lay 10 (18, .iastore, 1) rfl) rfl (sk_70 hS9) (by decide) (vin_eq (sl_70 hS9) g10) (aw_aload_n (pc' := 20) (dt_X11_lay 11 (19, .aload_n 0, 1) rfl) rfl rfl (aw_getAs (pc' := 23) (dt_X11_lay 12 (20, .getfield 129, 3) rfl) fl_ReturnDeskModel_129 rfl rfl (sk_31 hS9.wI) (sa_31_48 hS9.wI) (aw_sipush (pc' := 26) (v := 200) (dt_X11_lay 13 (23, .sipush 200, 3) rfl) (by decide) rfl (aw_aload_n (pc' := 27) (dt_X11_lay 14 (26, .aload_n 0, 1) rfl) rfl rfl (aw_getI (pc' := 30) (dt_X11_lay 15 (27, .getfield 271, 3) rfl) fl_ReturnDeskModel_271 rfl rfl (sk_31 hS9.wI) (aw_imul (pc' := 31) (dt_X11_lay 16 (30, .imul, 1) rfl) rfl (aw_aload_n (pc' := 32) (dt_X11_lay 17 (31, .aload_n 0, 1) rfl) rfl rfl (aw_getI (pc' := 35) (dt_X11_lay 18 (32, .getfield 274, 3) rfl) fl_ReturnDeskModel_274 rfl rfl (sk_31 hS9.wI) (aw_iadd (pc' := 36) (dt_X11_lay 19 (35, .iadd, 1) rfl) rfl (aw_iload_n (pc' := 37) (dt_X11_lay 20 (36, .iload_n 2, 1) rfl) rfl rfl (aw_iast (pc' := 38) (dt_X11_lay 21 (37, .iastore, 1) rfl) rfl (sk_71 hS9.wI) (by decide) (vin_eq (sl_71 hS9.wI) g11) ?_)))))))))))))))))))))))))
      refine aw_mem (fun μ12 eμ13 => ?_)
      have h := h μ12 eμ13
      have hS14 : Stat μ12 := by rw [eμ13]; exact hS9.wI.wI
      refine aw_aload_n (pc' := 39) (dt_X11_lay 22 (38, .aload_n 0, 1) rfl) rfl rfl (aw_dup (pc' := 40) (dt_X11_lay 23 (39, .dup, 1) rfl) rfl rfl (aw_getI (pc' := 43) (dt_X11_lay 24 (40, .getfield 274, 3) rfl) fl_ReturnDeskModel_274 rfl rfl (sk_31 hS14) (aw_iconst (pc' := 44) (v := 1) (dt_X11_lay 25 (43, .iconst 1, 1) rfl) (by decide) rfl (aw_iadd (pc' := 45) (dt_X11_lay 26 (44, .iadd, 1) rfl) rfl (aw_putI (pc' := 48) (dt_X11_lay 27 (45, .putfield 274, 3) rfl) fl_ReturnDeskModel_274 rfl (by decide +kernel) rfl (sk_31 hS14) (aw_ret (dt_X11_lay 28 (48, .return_, 1) rfl) rfl (aw_stk (st' := []) rfl (aw_goto (tgt := 5) (dt_X11_all 19 (38, .goto (-33), 3) rfl) (by decide) ?_))))))))
      exact h

theorem t_X11_question {E : ZE} {l : Launch} {d nc ns : Nat} {x1 : Int32} {μ : ZM} {K : Option Value → ZM → Prop} (hS : Stat μ) (h :
  AW E l (d + 2) 0 0 mX11_all 0 (zargs 2 [.ref 31, .int x1]) [] μ (fun v μ1 => v = none ∧ Stat μ1 ∧ 
    AW E l (d + 3) nc ns mX11_question 5 [some (.ref 31), some (.int x1)] [] μ1 K)) : AW E l (d + 3) nc ns mX11_question 0 [some (.ref 31), some (.int x1)] [] μ K := by
  refine aw_aload_n (pc' := 1) (dt_X11_question 0 (0, .aload_n 0, 1) rfl) rfl rfl (aw_iload_n (pc' := 2) (dt_X11_question 1 (1, .iload_n 1, 1) rfl) rfl rfl (aw_callV0 (pc' := 5) (nc := nc) (ns := ns) (y2 := mX11_all) (As := [.int x1]) (rest := []) (a := 31) (dt_X11_question 2 (2, .invokevirtual 323, 3) rfl) ok_X11_all ln_ReturnDeskModel_323 im_X11_all se_X11_all pr_X11_all (Or.inl ⟨by decide, rfl⟩) rfl (Nat.le_of_ble_eq_true rfl) (Nat.le_of_ble_eq_true rfl) rfl (sk_31 hS) h ?_))
  rintro v μ1 ⟨rfl, hS2, h⟩
  refine aw_stk (st' := []) rfl ?_
  exact h

theorem t_X11_question_5 {E : ZE} {l : Launch} {d nc ns : Nat} {x1 : Int32} {μ : ZM} {K : Option Value → ZM → Prop} (hS : Stat μ) (h :
  (0 ≤ (zI μ 31 54) →
    K none μ) ∧
  (¬ 0 ≤ (zI μ 31 54) →
    AW E l (d + 2) 0 0 mX11_isWord 0 (zargs 6 [.ref 31, .long 423]) [] μ (fun v μ2 => ∃ r4 : Int32, v = some (.int r4) ∧ Stat μ2 ∧ 
      (r4 = 0 →
        K none μ2) ∧
      (¬ r4 = 0 →
        AW E l (d + 2) 0 0 mX11_next 0 (zargs 1 [.ref 31]) [] μ2 (fun v μ6 => v = none ∧ Stat μ6 ∧ 
          AW E l (d + 2) 0 0 mX11_all 0 (zargs 2 [.ref 31, .int x1]) [] μ6 (fun v μ8 => v = none ∧ Stat μ8 ∧ 
            (vp_in ((200 * (zI μ8 31 56)) + (zI μ8 31 57)) 4400) ∧
            (vp_in ((200 * (zI (sI μ8 70 ((200 * (zI μ8 31 56)) + (zI μ8 31 57)).toNatClampNeg 10) 31 56)) + (zI (sI μ8 70 ((200 * (zI μ8 31 56)) + (zI μ8 31 57)).toNatClampNeg 10) 31 57)) 4400) ∧
            ∀ μ12, μ12 = (sI (sI μ8 70 ((200 * (zI μ8 31 56)) + (zI μ8 31 57)).toNatClampNeg 10) 71 ((200 * (zI (sI μ8 70 ((200 * (zI μ8 31 56)) + (zI μ8 31 57)).toNatClampNeg 10) 31 56)) + (zI (sI μ8 70 ((200 * (zI μ8 31 56)) + (zI μ8 31 57)).toNatClampNeg 10) 31 57)).toNatClampNeg 0) →
            AW E l (d + 3) nc ns mX11_question 5 [some (.ref 31), some (.int x1)] [] (sI μ12 31 57 ((zI μ12 31 57) + 1)) K)))))) : AW E l (d + 3) nc ns mX11_question 5 [some (.ref 31), some (.int x1)] [] μ K := by
  refine aw_aload_n (pc' := 6) (dt_X11_question 3 (5, .aload_n 0, 1) rfl) rfl rfl (aw_getI (pc' := 9) (dt_X11_question 4 (6, .getfield 268, 3) rfl) fl_ReturnDeskModel_268 rfl rfl (sk_31 hS) (aw_if_ge (pc' := 12) (tgt := 41) (dt_X11_question 5 (9, .ifCond .ge 32, 3) rfl) (by decide) rfl ?_ ?_))
  · intro q1
    have h := h.1 q1
    refine aw_ret (dt_X11_question 20 (41, .return_, 1) rfl) rfl ?_
    exact h
  · intro q1
    have h := h.2 q1
    refine aw_aload_n (pc' := 13) (dt_X11_question 6 (12, .aload_n 0, 1) rfl) rfl rfl (aw_ldc2 (pc' := 16) (dt_X11_question 7 (13, .ldc2_w 326, 3) rfl) ct_ReturnDeskModel_326 rfl (aw_callV0 (pc' := 19) (nc := nc) (ns := ns) (y2 := mX11_isWord) (As := [.long 423]) (rest := []) (a := 31) (dt_X11_question 8 (16, .invokevirtual 286, 3) rfl) ok_X11_isWord ln_ReturnDeskModel_286 im_X11_isWord se_X11_isWord pr_X11_isWord (Or.inl ⟨by decide, rfl⟩) rfl (Nat.le_of_ble_eq_true rfl) (Nat.le_of_ble_eq_true rfl) rfl (sk_31 hS) h ?_))
    rintro v μ2 ⟨r4, rfl, hS3, h⟩
    refine aw_stk (st' := [.int r4]) rfl ?_
    refine aw_if_eq (pc' := 22) (tgt := 41) (dt_X11_question 9 (19, .ifCond .eq 22, 3) rfl) (by decide) rfl ?_ ?_
    · intro q5
      have h := h.1 q5
      refine aw_ret (dt_X11_question 20 (41, .return_, 1) rfl) rfl ?_
      exact h
    · intro q5
      have h := h.2 q5
      refine aw_aload_n (pc' := 23) (dt_X11_question 10 (22, .aload_n 0, 1) rfl) rfl rfl (aw_callV0 (pc' := 26) (nc := nc) (ns := ns) (y2 := mX11_next) (As := []) (rest := []) (a := 31) (dt_X11_question 11 (23, .invokevirtual 294, 3) rfl) ok_X11_next ln_ReturnDeskModel_294 im_X11_next se_X11_next pr_X11_next (Or.inl ⟨by decide, rfl⟩) rfl (Nat.le_of_ble_eq_true rfl) (Nat.le_of_ble_eq_true rfl) rfl (sk_31 hS3) h ?_)
      rintro v μ6 ⟨rfl, hS7, h⟩
      refine aw_stk (st' := []) rfl ?_
      refine aw_aload_n (pc' := 27) (dt_X11_question 12 (26, .aload_n 0, 1) rfl) rfl rfl (aw_iload_n (pc' := 28) (dt_X11_question 13 (27, .iload_n 1, 1) rfl) rfl rfl (aw_callV0 (pc' := 31) (nc := nc) (ns := ns) (y2 := mX11_all) (As := [.int x1]) (rest := []) (a := 31) (dt_X11_question 14 (28, .invokevirtual 323, 3) rfl) ok_X11_all ln_ReturnDeskModel_323 im_X11_all se_X11_all pr_X11_all (Or.inl ⟨by decide, rfl⟩) rfl (Nat.le_of_ble_eq_true rfl) (Nat.le_of_ble_eq_true rfl) rfl (sk_31 hS7) h ?_))
      rintro v μ8 ⟨rfl, hS9, h⟩
      refine aw_stk (st' := []) rfl ?_
      obtain ⟨g10, h⟩ := h
      obtain ⟨g11, h⟩ := h
      refine aw_aload_n (pc' := 32) (dt_X11_question 15 (31, .aload_n 0, 1) rfl) rfl rfl (aw_bipush (pc' := 34) (v := 10) (dt_X11_question 16 (32, .bipush 10, 2) rfl) (by decide) rfl (aw_iconst (pc' := 35) (v := 0) (dt_X11_question 17 (34, .iconst 0, 1) rfl) (by decide) rfl (aw_inV (pc' := 38) (nc1 := 0) (ns1 := 0) (nc := nc) (ns := ns) (ls' := [some (.ref 31), some (.int 10), some (.int 0)]) (y2 := mX11_lay) (As := [.int 10, .int 0]) (rest := []) (a := 31) (dt_X11_question 18 (35, .invokevirtual 290, 3) rfl) ok_X11_lay ln_ReturnDeskModel_290 im_X11_lay se_X11_lay pr_X11_lay (Or.inl ⟨by decide, rfl⟩) rfl (Nat.le_of_ble_eq_true rfl) (Nat.le_of_ble_eq_true rfl) rfl rfl (sk_31 hS9) (aw_aload_n (pc' := 1) (dt_X11_lay 0 (0, .aload_n 0, 1) rfl) rfl rfl (aw_getAs (pc' := 4) (dt_X11_lay 1 (1, .getfield 126, 3) rfl) fl_ReturnDeskModel_126 rfl rfl (sk_31 hS9) (sa_31_47 hS9) (aw_sipush (pc' := 7) (v := 200) (dt_X11_lay 2 (4, .sipush 200, 3) rfl) (by decide) rfl (aw_aload_n (pc' := 8) (dt_X11_lay 3 (7, .aload_n 0, 1) rfl) rfl rfl (aw_getI (pc' := 11) (dt_X11_lay 4 (8, .getfield 271, 3) rfl) fl_ReturnDeskModel_271 rfl rfl (sk_31 hS9) (aw_imul (pc' := 12) (dt_X11_lay 5 (11, .imul, 1) rfl) rfl (aw_aload_n (pc' := 13) (dt_X11_lay 6 (12, .aload_n 0, 1) rfl) rfl rfl (aw_getI (pc' := 16) (dt_X11_lay 7 (13, .getfield 274, 3) rfl) fl_ReturnDeskModel_274 rfl rfl (sk_31 hS9) (aw_iadd (pc' := 17) (dt_X11_lay 8 (16, .iadd, 1) rfl) rfl (aw_iload_n (pc' := 18) (dt_X11_lay 9 (17, .iload_n 1, 1) rfl) rfl rfl (aw_iast (pc' := 19) (dt_X11_lay 10 (18, .iastore, 1) rfl) rfl (sk_70 hS9) (by decide) (vin_eq (sl_70 hS9) g10) (aw_aload_n (pc' := 20) (dt_X11_lay 11 (19, .aload_n 0, 1) rfl) rfl rfl (aw_getAs (pc' := 23) (dt_X11_lay 12 (20, .getfield 129, 3) rfl) fl_ReturnDeskModel_129 rfl rfl (sk_31 hS9.wI) (sa_31_48 hS9.wI) (aw_sipush (pc' := 26) (v := 200) (dt_X11_lay 13 (23, .sipush 200, 3) rfl) (by decide) rfl (aw_aload_n (pc' := 27) (dt_X11_lay 14 (26, .aload_n 0, 1) rfl) rfl rfl (aw_getI (pc' := 30) (dt_X11_lay 15 (27, .getfield 271, 3) rfl) fl_ReturnDeskModel_271 rfl rfl (sk_31 hS9.wI) (aw_imul (pc' := 31) (dt_X11_lay 16 (30, .imul, 1) rfl) rfl (aw_aload_n (pc' := 32) (dt_X11_lay 17 (31, .aload_n 0, 1) rfl) rfl rfl (aw_getI (pc' := 35) (dt_X11_lay 18 (32, .getfield 274, 3) rfl) fl_ReturnDeskModel_274 rfl rfl (sk_31 hS9.wI) (aw_iadd (pc' := 36) (dt_X11_lay 19 (35, .iadd, 1) rfl) rfl (aw_iload_n (pc' := 37) (dt_X11_lay 20 (36, .iload_n 2, 1) rfl) rfl rfl (aw_iast (pc' := 38) (dt_X11_lay 21 (37, .iastore, 1) rfl) rfl (sk_71 hS9.wI) (by decide) (vin_eq (sl_71 hS9.wI) g11) ?_)))))))))))))))))))))))))
      refine aw_mem (fun μ12 eμ13 => ?_)
      have h := h μ12 eμ13
      have hS14 : Stat μ12 := by rw [eμ13]; exact hS9.wI.wI
      refine aw_aload_n (pc' := 39) (dt_X11_lay 22 (38, .aload_n 0, 1) rfl) rfl rfl (aw_dup (pc' := 40) (dt_X11_lay 23 (39, .dup, 1) rfl) rfl rfl (aw_getI (pc' := 43) (dt_X11_lay 24 (40, .getfield 274, 3) rfl) fl_ReturnDeskModel_274 rfl rfl (sk_31 hS14) (aw_iconst (pc' := 44) (v := 1) (dt_X11_lay 25 (43, .iconst 1, 1) rfl) (by decide) rfl (aw_iadd (pc' := 45) (dt_X11_lay 26 (44, .iadd, 1) rfl) rfl (aw_putI (pc' := 48) (dt_X11_lay 27 (45, .putfield 274, 3) rfl) fl_ReturnDeskModel_274 rfl (by decide +kernel) rfl (sk_31 hS14) (aw_ret (dt_X11_lay 28 (48, .return_, 1) rfl) rfl (aw_stk (st' := []) rfl (aw_goto (tgt := 5) (dt_X11_question 19 (38, .goto (-33), 3) rfl) (by decide) ?_))))))))
      exact h

theorem t_X11_outOf {E : ZE} {l : Launch} {d nc ns : Nat}  {μ : ZM} {K : Option Value → ZM → Prop} (hS : Stat μ) (h :
  AW E l d 0 0 mX11_isWord 0 (zargs 6 [.ref 31, .long 393]) [] μ (fun v μ1 => ∃ r3 : Int32, v = some (.int r3) ∧ Stat μ1 ∧ 
    (r3 = 0 →
      AW E l d 0 0 mX11_isWord 0 (zargs 6 [.ref 31, .long 259906]) [] μ1 (fun v μ5 => ∃ r7 : Int32, v = some (.int r7) ∧ Stat μ5 ∧ 
        (r7 = 0 →
          AW E l d 0 0 mX11_isWord 0 (zargs 6 [.ref 31, .long 390787]) [] μ5 (fun v μ9 => ∃ r11 : Int32, v = some (.int r11) ∧ Stat μ9 ∧ 
            (r11 = 0 →
              AW E l d 0 0 mX11_isWord 0 (zargs 6 [.ref 31, .long 287042]) [] μ9 (fun v μ13 => ∃ r15 : Int32, v = some (.int r15) ∧ Stat μ13 ∧ 
                (r15 = 0 →
                  AW E l d 0 0 mX11_isWord 0 (zargs 6 [.ref 31, .long 261071320]) [] μ13 (fun v μ17 => ∃ r19 : Int32, v = some (.int r19) ∧ Stat μ17 ∧ 
                    (r19 = 0 →
                      K (some (.int (-1))) μ17) ∧
                    (¬ r19 = 0 →
                      K (some (.int 4)) μ17))) ∧
                (¬ r15 = 0 →
                  K (some (.int 3)) μ13))) ∧
            (¬ r11 = 0 →
              K (some (.int 2)) μ9))) ∧
        (¬ r7 = 0 →
          K (some (.int 1)) μ5))) ∧
    (¬ r3 = 0 →
      K (some (.int 0)) μ1))) : AW E l (d + 1) nc ns mX11_outOf 0 [some (.ref 31)] [] μ K := by
  refine aw_aload_n (pc' := 1) (dt_X11_outOf 0 (0, .aload_n 0, 1) rfl) rfl rfl (aw_ldc2 (pc' := 4) (dt_X11_outOf 1 (1, .ldc2_w 328, 3) rfl) ct_ReturnDeskModel_328 rfl (aw_callV0 (pc' := 7) (nc := nc) (ns := ns) (y2 := mX11_isWord) (As := [.long 393]) (rest := []) (a := 31) (dt_X11_outOf 2 (4, .invokevirtual 286, 3) rfl) ok_X11_isWord ln_ReturnDeskModel_286 im_X11_isWord se_X11_isWord pr_X11_isWord (Or.inl ⟨by decide, rfl⟩) rfl (Nat.le_of_ble_eq_true rfl) (Nat.le_of_ble_eq_true rfl) rfl (sk_31 hS) h ?_))
  rintro v μ1 ⟨r3, rfl, hS2, h⟩
  refine aw_stk (st' := [.int r3]) rfl ?_
  refine aw_if_eq (pc' := 10) (tgt := 14) (dt_X11_outOf 3 (7, .ifCond .eq 7, 3) rfl) (by decide) rfl ?_ ?_
  · intro q4
    have h := h.1 q4
    refine aw_aload_n (pc' := 15) (dt_X11_outOf 6 (14, .aload_n 0, 1) rfl) rfl rfl (aw_ldc2 (pc' := 18) (dt_X11_outOf 7 (15, .ldc2_w 330, 3) rfl) ct_ReturnDeskModel_330 rfl (aw_callV0 (pc' := 21) (nc := nc) (ns := ns) (y2 := mX11_isWord) (As := [.long 259906]) (rest := []) (a := 31) (dt_X11_outOf 8 (18, .invokevirtual 286, 3) rfl) ok_X11_isWord ln_ReturnDeskModel_286 im_X11_isWord se_X11_isWord pr_X11_isWord (Or.inl ⟨by decide, rfl⟩) rfl (Nat.le_of_ble_eq_true rfl) (Nat.le_of_ble_eq_true rfl) rfl (sk_31 hS2) h ?_))
    rintro v μ5 ⟨r7, rfl, hS6, h⟩
    refine aw_stk (st' := [.int r7]) rfl ?_
    refine aw_if_eq (pc' := 24) (tgt := 28) (dt_X11_outOf 9 (21, .ifCond .eq 7, 3) rfl) (by decide) rfl ?_ ?_
    · intro q8
      have h := h.1 q8
      refine aw_aload_n (pc' := 29) (dt_X11_outOf 12 (28, .aload_n 0, 1) rfl) rfl rfl (aw_ldc2 (pc' := 32) (dt_X11_outOf 13 (29, .ldc2_w 332, 3) rfl) ct_ReturnDeskModel_332 rfl (aw_callV0 (pc' := 35) (nc := nc) (ns := ns) (y2 := mX11_isWord) (As := [.long 390787]) (rest := []) (a := 31) (dt_X11_outOf 14 (32, .invokevirtual 286, 3) rfl) ok_X11_isWord ln_ReturnDeskModel_286 im_X11_isWord se_X11_isWord pr_X11_isWord (Or.inl ⟨by decide, rfl⟩) rfl (Nat.le_of_ble_eq_true rfl) (Nat.le_of_ble_eq_true rfl) rfl (sk_31 hS6) h ?_))
      rintro v μ9 ⟨r11, rfl, hS10, h⟩
      refine aw_stk (st' := [.int r11]) rfl ?_
      refine aw_if_eq (pc' := 38) (tgt := 42) (dt_X11_outOf 15 (35, .ifCond .eq 7, 3) rfl) (by decide) rfl ?_ ?_
      · intro q12
        have h := h.1 q12
        refine aw_aload_n (pc' := 43) (dt_X11_outOf 18 (42, .aload_n 0, 1) rfl) rfl rfl (aw_ldc2 (pc' := 46) (dt_X11_outOf 19 (43, .ldc2_w 334, 3) rfl) ct_ReturnDeskModel_334 rfl (aw_callV0 (pc' := 49) (nc := nc) (ns := ns) (y2 := mX11_isWord) (As := [.long 287042]) (rest := []) (a := 31) (dt_X11_outOf 20 (46, .invokevirtual 286, 3) rfl) ok_X11_isWord ln_ReturnDeskModel_286 im_X11_isWord se_X11_isWord pr_X11_isWord (Or.inl ⟨by decide, rfl⟩) rfl (Nat.le_of_ble_eq_true rfl) (Nat.le_of_ble_eq_true rfl) rfl (sk_31 hS10) h ?_))
        rintro v μ13 ⟨r15, rfl, hS14, h⟩
        refine aw_stk (st' := [.int r15]) rfl ?_
        refine aw_if_eq (pc' := 52) (tgt := 56) (dt_X11_outOf 21 (49, .ifCond .eq 7, 3) rfl) (by decide) rfl ?_ ?_
        · intro q16
          have h := h.1 q16
          refine aw_aload_n (pc' := 57) (dt_X11_outOf 24 (56, .aload_n 0, 1) rfl) rfl rfl (aw_ldc2 (pc' := 60) (dt_X11_outOf 25 (57, .ldc2_w 336, 3) rfl) ct_ReturnDeskModel_336 rfl (aw_callV0 (pc' := 63) (nc := nc) (ns := ns) (y2 := mX11_isWord) (As := [.long 261071320]) (rest := []) (a := 31) (dt_X11_outOf 26 (60, .invokevirtual 286, 3) rfl) ok_X11_isWord ln_ReturnDeskModel_286 im_X11_isWord se_X11_isWord pr_X11_isWord (Or.inl ⟨by decide, rfl⟩) rfl (Nat.le_of_ble_eq_true rfl) (Nat.le_of_ble_eq_true rfl) rfl (sk_31 hS14) h ?_))
          rintro v μ17 ⟨r19, rfl, hS18, h⟩
          refine aw_stk (st' := [.int r19]) rfl ?_
          refine aw_if_eq (pc' := 66) (tgt := 70) (dt_X11_outOf 27 (63, .ifCond .eq 7, 3) rfl) (by decide) rfl ?_ ?_
          · intro q20
            have h := h.1 q20
            refine aw_iconst (pc' := 71) (v := (-1)) (dt_X11_outOf 30 (70, .iconst (-1), 1) rfl) (by decide) rfl (aw_iret (dt_X11_outOf 31 (71, .ireturn, 1) rfl) rfl rfl ?_)
            exact h
          · intro q20
            have h := h.2 q20
            refine aw_iconst (pc' := 67) (v := 4) (dt_X11_outOf 28 (66, .iconst 4, 1) rfl) (by decide) rfl (aw_goto (tgt := 71) (dt_X11_outOf 29 (67, .goto 4, 3) rfl) (by decide) (aw_iret (dt_X11_outOf 31 (71, .ireturn, 1) rfl) rfl rfl ?_))
            exact h
        · intro q16
          have h := h.2 q16
          refine aw_iconst (pc' := 53) (v := 3) (dt_X11_outOf 22 (52, .iconst 3, 1) rfl) (by decide) rfl (aw_goto (tgt := 71) (dt_X11_outOf 23 (53, .goto 18, 3) rfl) (by decide) (aw_iret (dt_X11_outOf 31 (71, .ireturn, 1) rfl) rfl rfl ?_))
          exact h
      · intro q12
        have h := h.2 q12
        refine aw_iconst (pc' := 39) (v := 2) (dt_X11_outOf 16 (38, .iconst 2, 1) rfl) (by decide) rfl (aw_goto (tgt := 71) (dt_X11_outOf 17 (39, .goto 32, 3) rfl) (by decide) (aw_iret (dt_X11_outOf 31 (71, .ireturn, 1) rfl) rfl rfl ?_))
        exact h
    · intro q8
      have h := h.2 q8
      refine aw_iconst (pc' := 25) (v := 1) (dt_X11_outOf 10 (24, .iconst 1, 1) rfl) (by decide) rfl (aw_goto (tgt := 71) (dt_X11_outOf 11 (25, .goto 46, 3) rfl) (by decide) (aw_iret (dt_X11_outOf 31 (71, .ireturn, 1) rfl) rfl rfl ?_))
      exact h
  · intro q4
    have h := h.2 q4
    refine aw_iconst (pc' := 11) (v := 0) (dt_X11_outOf 4 (10, .iconst 0, 1) rfl) (by decide) rfl (aw_goto (tgt := 71) (dt_X11_outOf 5 (11, .goto 60, 3) rfl) (by decide) (aw_iret (dt_X11_outOf 31 (71, .ireturn, 1) rfl) rfl rfl ?_))
    exact h

theorem t_X11_rule {E : ZE} {l : Launch} {d nc ns : Nat}  {μ : ZM} {K : Option Value → ZM → Prop} (hS : Stat μ) (h :
  AW E l (d + 3) 0 0 mX11_outOf 0 (zargs 1 [.ref 31]) [] μ (fun v μ1 => ∃ r3 : Int32, v = some (.int r3) ∧ Stat μ1 ∧ 
    (0 ≤ r3 →
      AW E l (d + 3) 0 0 mX11_outOf 0 (zargs 1 [.ref 31]) [] μ1 (fun v μ5 => ∃ r7 : Int32, v = some (.int r7) ∧ Stat μ5 ∧ 
        (0 ≤ r7 →
          AW E l (d + 3) 0 0 mX11_next 0 (zargs 1 [.ref 31]) [] μ5 (fun v μ9 => v = none ∧ Stat μ9 ∧ 
            (r7 < 3 →
              (¬ r7 = 0 →
                (vp_in ((200 * (zI μ9 31 56)) + (zI μ9 31 57)) 4400) ∧
                (vp_in ((200 * (zI (sI μ9 70 ((200 * (zI μ9 31 56)) + (zI μ9 31 57)).toNatClampNeg 1) 31 56)) + (zI (sI μ9 70 ((200 * (zI μ9 31 56)) + (zI μ9 31 57)).toNatClampNeg 1) 31 57)) 4400) ∧
                ∀ μ15, μ15 = (sI (sI μ9 70 ((200 * (zI μ9 31 56)) + (zI μ9 31 57)).toNatClampNeg 1) 71 ((200 * (zI (sI μ9 70 ((200 * (zI μ9 31 56)) + (zI μ9 31 57)).toNatClampNeg 1) 31 56)) + (zI (sI μ9 70 ((200 * (zI μ9 31 56)) + (zI μ9 31 57)).toNatClampNeg 1) 31 57)).toNatClampNeg 100) →
                (vp_in ((200 * (zI (sI μ15 31 57 ((zI μ15 31 57) + 1)) 31 56)) + (zI (sI μ15 31 57 ((zI μ15 31 57) + 1)) 31 57)) 4400) ∧
                (vp_in ((200 * (zI (sI (sI μ15 31 57 ((zI μ15 31 57) + 1)) 70 ((200 * (zI (sI μ15 31 57 ((zI μ15 31 57) + 1)) 31 56)) + (zI (sI μ15 31 57 ((zI μ15 31 57) + 1)) 31 57)).toNatClampNeg 4) 31 56)) + (zI (sI (sI μ15 31 57 ((zI μ15 31 57) + 1)) 70 ((200 * (zI (sI μ15 31 57 ((zI μ15 31 57) + 1)) 31 56)) + (zI (sI μ15 31 57 ((zI μ15 31 57) + 1)) 31 57)).toNatClampNeg 4) 31 57)) 4400) ∧
                ∀ μ20, μ20 = (sI (sI (sI μ15 31 57 ((zI μ15 31 57) + 1)) 70 ((200 * (zI (sI μ15 31 57 ((zI μ15 31 57) + 1)) 31 56)) + (zI (sI μ15 31 57 ((zI μ15 31 57) + 1)) 31 57)).toNatClampNeg 4) 71 ((200 * (zI (sI (sI μ15 31 57 ((zI μ15 31 57) + 1)) 70 ((200 * (zI (sI μ15 31 57 ((zI μ15 31 57) + 1)) 31 56)) + (zI (sI μ15 31 57 ((zI μ15 31 57) + 1)) 31 57)).toNatClampNeg 4) 31 56)) + (zI (sI (sI μ15 31 57 ((zI μ15 31 57) + 1)) 70 ((200 * (zI (sI μ15 31 57 ((zI μ15 31 57) + 1)) 31 56)) + (zI (sI μ15 31 57 ((zI μ15 31 57) + 1)) 31 57)).toNatClampNeg 4) 31 57)).toNatClampNeg r7) →
                K none (sI μ20 31 57 ((zI μ20 31 57) + 1))) ∧
              (r7 = 0 →
                (vp_in ((200 * (zI μ9 31 56)) + (zI μ9 31 57)) 4400) ∧
                (vp_in ((200 * (zI (sI μ9 70 ((200 * (zI μ9 31 56)) + (zI μ9 31 57)).toNatClampNeg 1) 31 56)) + (zI (sI μ9 70 ((200 * (zI μ9 31 56)) + (zI μ9 31 57)).toNatClampNeg 1) 31 57)) 4400) ∧
                ∀ μ25, μ25 = (sI (sI μ9 70 ((200 * (zI μ9 31 56)) + (zI μ9 31 57)).toNatClampNeg 1) 71 ((200 * (zI (sI μ9 70 ((200 * (zI μ9 31 56)) + (zI μ9 31 57)).toNatClampNeg 1) 31 56)) + (zI (sI μ9 70 ((200 * (zI μ9 31 56)) + (zI μ9 31 57)).toNatClampNeg 1) 31 57)).toNatClampNeg 0) →
                (vp_in ((200 * (zI (sI μ25 31 57 ((zI μ25 31 57) + 1)) 31 56)) + (zI (sI μ25 31 57 ((zI μ25 31 57) + 1)) 31 57)) 4400) ∧
                (vp_in ((200 * (zI (sI (sI μ25 31 57 ((zI μ25 31 57) + 1)) 70 ((200 * (zI (sI μ25 31 57 ((zI μ25 31 57) + 1)) 31 56)) + (zI (sI μ25 31 57 ((zI μ25 31 57) + 1)) 31 57)).toNatClampNeg 4) 31 56)) + (zI (sI (sI μ25 31 57 ((zI μ25 31 57) + 1)) 70 ((200 * (zI (sI μ25 31 57 ((zI μ25 31 57) + 1)) 31 56)) + (zI (sI μ25 31 57 ((zI μ25 31 57) + 1)) 31 57)).toNatClampNeg 4) 31 57)) 4400) ∧
                ∀ μ30, μ30 = (sI (sI (sI μ25 31 57 ((zI μ25 31 57) + 1)) 70 ((200 * (zI (sI μ25 31 57 ((zI μ25 31 57) + 1)) 31 56)) + (zI (sI μ25 31 57 ((zI μ25 31 57) + 1)) 31 57)).toNatClampNeg 4) 71 ((200 * (zI (sI (sI μ25 31 57 ((zI μ25 31 57) + 1)) 70 ((200 * (zI (sI μ25 31 57 ((zI μ25 31 57) + 1)) 31 56)) + (zI (sI μ25 31 57 ((zI μ25 31 57) + 1)) 31 57)).toNatClampNeg 4) 31 56)) + (zI (sI (sI μ25 31 57 ((zI μ25 31 57) + 1)) 70 ((200 * (zI (sI μ25 31 57 ((zI μ25 31 57) + 1)) 31 56)) + (zI (sI μ25 31 57 ((zI μ25 31 57) + 1)) 31 57)).toNatClampNeg 4) 31 57)).toNatClampNeg r7) →
                K none (sI μ30 31 57 ((zI μ30 31 57) + 1)))) ∧
            (¬ r7 < 3 →
              AW E l (d + 3) 0 0 mX11_sum 0 (zargs 3 [.ref 31, .int 0]) [] μ9 (fun v μ33 => v = none ∧ Stat μ33 ∧ 
                (vp_in ((200 * (zI μ33 31 56)) + (zI μ33 31 57)) 4400) ∧
                (vp_in ((200 * (zI (sI μ33 70 ((200 * (zI μ33 31 56)) + (zI μ33 31 57)).toNatClampNeg 4) 31 56)) + (zI (sI μ33 70 ((200 * (zI μ33 31 56)) + (zI μ33 31 57)).toNatClampNeg 4) 31 57)) 4400) ∧
                ∀ μ37, μ37 = (sI (sI μ33 70 ((200 * (zI μ33 31 56)) + (zI μ33 31 57)).toNatClampNeg 4) 71 ((200 * (zI (sI μ33 70 ((200 * (zI μ33 31 56)) + (zI μ33 31 57)).toNatClampNeg 4) 31 56)) + (zI (sI μ33 70 ((200 * (zI μ33 31 56)) + (zI μ33 31 57)).toNatClampNeg 4) 31 57)).toNatClampNeg r7) →
                K none (sI μ37 31 57 ((zI μ37 31 57) + 1)))))) ∧
        (¬ 0 ≤ r7 →
          (0 ≤ (zI μ5 31 54) →
            K none μ5) ∧
          (¬ 0 ≤ (zI μ5 31 54) →
            K none (sI μ5 31 54 (zI μ5 31 50)))))) ∧
    (¬ 0 ≤ r3 →
      AW E l (d + 3) 0 0 mX11_question 0 (zargs 2 [.ref 31, .int 0]) [] μ1 (fun v μ41 => v = none ∧ Stat μ41 ∧ 
        ((zI μ41 31 54) < 0 →
          ((zI μ41 31 52) = 58 →
            (vp_in ((200 * (zI μ41 31 56)) + (zI μ41 31 57)) 4400) ∧
            (vp_in ((200 * (zI (sI μ41 70 ((200 * (zI μ41 31 56)) + (zI μ41 31 57)).toNatClampNeg 3) 31 56)) + (zI (sI μ41 70 ((200 * (zI μ41 31 56)) + (zI μ41 31 57)).toNatClampNeg 3) 31 57)) 4400) ∧
            ∀ μ47, μ47 = (sI (sI μ41 70 ((200 * (zI μ41 31 56)) + (zI μ41 31 57)).toNatClampNeg 3) 71 ((200 * (zI (sI μ41 70 ((200 * (zI μ41 31 56)) + (zI μ41 31 57)).toNatClampNeg 3) 31 56)) + (zI (sI μ41 70 ((200 * (zI μ41 31 56)) + (zI μ41 31 57)).toNatClampNeg 3) 31 57)).toNatClampNeg 0) →
            AW E l (d + 3) 0 0 mX11_next 0 (zargs 1 [.ref 31]) [] (sI μ47 31 57 ((zI μ47 31 57) + 1)) (fun v μ50 => v = none ∧ Stat μ50 ∧ 
              AW E l (d + 3) 0 0 mX11_outOf 0 (zargs 1 [.ref 31]) [] μ50 (fun v μ52 => ∃ r54 : Int32, v = some (.int r54) ∧ Stat μ52 ∧ 
                (0 ≤ r54 →
                  AW E l (d + 3) 0 0 mX11_next 0 (zargs 1 [.ref 31]) [] μ52 (fun v μ56 => v = none ∧ Stat μ56 ∧ 
                    (r54 < 3 →
                      (¬ r54 = 0 →
                        (vp_in ((200 * (zI μ56 31 56)) + (zI μ56 31 57)) 4400) ∧
                        (vp_in ((200 * (zI (sI μ56 70 ((200 * (zI μ56 31 56)) + (zI μ56 31 57)).toNatClampNeg 1) 31 56)) + (zI (sI μ56 70 ((200 * (zI μ56 31 56)) + (zI μ56 31 57)).toNatClampNeg 1) 31 57)) 4400) ∧
                        ∀ μ62, μ62 = (sI (sI μ56 70 ((200 * (zI μ56 31 56)) + (zI μ56 31 57)).toNatClampNeg 1) 71 ((200 * (zI (sI μ56 70 ((200 * (zI μ56 31 56)) + (zI μ56 31 57)).toNatClampNeg 1) 31 56)) + (zI (sI μ56 70 ((200 * (zI μ56 31 56)) + (zI μ56 31 57)).toNatClampNeg 1) 31 57)).toNatClampNeg 100) →
                        (vp_in ((200 * (zI (sI μ62 31 57 ((zI μ62 31 57) + 1)) 31 56)) + (zI (sI μ62 31 57 ((zI μ62 31 57) + 1)) 31 57)) 4400) ∧
                        (vp_in ((200 * (zI (sI (sI μ62 31 57 ((zI μ62 31 57) + 1)) 70 ((200 * (zI (sI μ62 31 57 ((zI μ62 31 57) + 1)) 31 56)) + (zI (sI μ62 31 57 ((zI μ62 31 57) + 1)) 31 57)).toNatClampNeg 4) 31 56)) + (zI (sI (sI μ62 31 57 ((zI μ62 31 57) + 1)) 70 ((200 * (zI (sI μ62 31 57 ((zI μ62 31 57) + 1)) 31 56)) + (zI (sI μ62 31 57 ((zI μ62 31 57) + 1)) 31 57)).toNatClampNeg 4) 31 57)) 4400) ∧
                        ∀ μ67, μ67 = (sI (sI (sI μ62 31 57 ((zI μ62 31 57) + 1)) 70 ((200 * (zI (sI μ62 31 57 ((zI μ62 31 57) + 1)) 31 56)) + (zI (sI μ62 31 57 ((zI μ62 31 57) + 1)) 31 57)).toNatClampNeg 4) 71 ((200 * (zI (sI (sI μ62 31 57 ((zI μ62 31 57) + 1)) 70 ((200 * (zI (sI μ62 31 57 ((zI μ62 31 57) + 1)) 31 56)) + (zI (sI μ62 31 57 ((zI μ62 31 57) + 1)) 31 57)).toNatClampNeg 4) 31 56)) + (zI (sI (sI μ62 31 57 ((zI μ62 31 57) + 1)) 70 ((200 * (zI (sI μ62 31 57 ((zI μ62 31 57) + 1)) 31 56)) + (zI (sI μ62 31 57 ((zI μ62 31 57) + 1)) 31 57)).toNatClampNeg 4) 31 57)).toNatClampNeg r54) →
                        K none (sI μ67 31 57 ((zI μ67 31 57) + 1))) ∧
                      (r54 = 0 →
                        (vp_in ((200 * (zI μ56 31 56)) + (zI μ56 31 57)) 4400) ∧
                        (vp_in ((200 * (zI (sI μ56 70 ((200 * (zI μ56 31 56)) + (zI μ56 31 57)).toNatClampNeg 1) 31 56)) + (zI (sI μ56 70 ((200 * (zI μ56 31 56)) + (zI μ56 31 57)).toNatClampNeg 1) 31 57)) 4400) ∧
                        ∀ μ72, μ72 = (sI (sI μ56 70 ((200 * (zI μ56 31 56)) + (zI μ56 31 57)).toNatClampNeg 1) 71 ((200 * (zI (sI μ56 70 ((200 * (zI μ56 31 56)) + (zI μ56 31 57)).toNatClampNeg 1) 31 56)) + (zI (sI μ56 70 ((200 * (zI μ56 31 56)) + (zI μ56 31 57)).toNatClampNeg 1) 31 57)).toNatClampNeg 0) →
                        (vp_in ((200 * (zI (sI μ72 31 57 ((zI μ72 31 57) + 1)) 31 56)) + (zI (sI μ72 31 57 ((zI μ72 31 57) + 1)) 31 57)) 4400) ∧
                        (vp_in ((200 * (zI (sI (sI μ72 31 57 ((zI μ72 31 57) + 1)) 70 ((200 * (zI (sI μ72 31 57 ((zI μ72 31 57) + 1)) 31 56)) + (zI (sI μ72 31 57 ((zI μ72 31 57) + 1)) 31 57)).toNatClampNeg 4) 31 56)) + (zI (sI (sI μ72 31 57 ((zI μ72 31 57) + 1)) 70 ((200 * (zI (sI μ72 31 57 ((zI μ72 31 57) + 1)) 31 56)) + (zI (sI μ72 31 57 ((zI μ72 31 57) + 1)) 31 57)).toNatClampNeg 4) 31 57)) 4400) ∧
                        ∀ μ77, μ77 = (sI (sI (sI μ72 31 57 ((zI μ72 31 57) + 1)) 70 ((200 * (zI (sI μ72 31 57 ((zI μ72 31 57) + 1)) 31 56)) + (zI (sI μ72 31 57 ((zI μ72 31 57) + 1)) 31 57)).toNatClampNeg 4) 71 ((200 * (zI (sI (sI μ72 31 57 ((zI μ72 31 57) + 1)) 70 ((200 * (zI (sI μ72 31 57 ((zI μ72 31 57) + 1)) 31 56)) + (zI (sI μ72 31 57 ((zI μ72 31 57) + 1)) 31 57)).toNatClampNeg 4) 31 56)) + (zI (sI (sI μ72 31 57 ((zI μ72 31 57) + 1)) 70 ((200 * (zI (sI μ72 31 57 ((zI μ72 31 57) + 1)) 31 56)) + (zI (sI μ72 31 57 ((zI μ72 31 57) + 1)) 31 57)).toNatClampNeg 4) 31 57)).toNatClampNeg r54) →
                        K none (sI μ77 31 57 ((zI μ77 31 57) + 1)))) ∧
                    (¬ r54 < 3 →
                      AW E l (d + 3) 0 0 mX11_sum 0 (zargs 3 [.ref 31, .int 0]) [] μ56 (fun v μ80 => v = none ∧ Stat μ80 ∧ 
                        (vp_in ((200 * (zI μ80 31 56)) + (zI μ80 31 57)) 4400) ∧
                        (vp_in ((200 * (zI (sI μ80 70 ((200 * (zI μ80 31 56)) + (zI μ80 31 57)).toNatClampNeg 4) 31 56)) + (zI (sI μ80 70 ((200 * (zI μ80 31 56)) + (zI μ80 31 57)).toNatClampNeg 4) 31 57)) 4400) ∧
                        ∀ μ84, μ84 = (sI (sI μ80 70 ((200 * (zI μ80 31 56)) + (zI μ80 31 57)).toNatClampNeg 4) 71 ((200 * (zI (sI μ80 70 ((200 * (zI μ80 31 56)) + (zI μ80 31 57)).toNatClampNeg 4) 31 56)) + (zI (sI μ80 70 ((200 * (zI μ80 31 56)) + (zI μ80 31 57)).toNatClampNeg 4) 31 57)).toNatClampNeg r54) →
                        K none (sI μ84 31 57 ((zI μ84 31 57) + 1)))))) ∧
                (¬ 0 ≤ r54 →
                  (0 ≤ (zI μ52 31 54) →
                    K none μ52) ∧
                  (¬ 0 ≤ (zI μ52 31 54) →
                    K none (sI μ52 31 54 (zI μ52 31 50))))))) ∧
          (¬ (zI μ41 31 52) = 58 →
            (0 ≤ (zI μ41 31 54) →
              K none μ41) ∧
            (¬ 0 ≤ (zI μ41 31 54) →
              K none (sI μ41 31 54 (zI μ41 31 50))))) ∧
        (¬ (zI μ41 31 54) < 0 →
          K none μ41))))) : AW E l (d + 4) nc ns mX11_rule 0 [some (.ref 31), none] [] μ K := by
  refine aw_aload_n (pc' := 1) (dt_X11_rule 0 (0, .aload_n 0, 1) rfl) rfl rfl (aw_callV0 (pc' := 4) (nc := nc) (ns := ns) (y2 := mX11_outOf) (As := []) (rest := []) (a := 31) (dt_X11_rule 1 (1, .invokevirtual 338, 3) rfl) ok_X11_outOf ln_ReturnDeskModel_338 im_X11_outOf se_X11_outOf pr_X11_outOf (Or.inl ⟨by decide, rfl⟩) rfl (Nat.le_of_ble_eq_true rfl) (Nat.le_of_ble_eq_true rfl) rfl (sk_31 hS) h ?_)
  rintro v μ1 ⟨r3, rfl, hS2, h⟩
  refine aw_stk (st' := [.int r3]) rfl ?_
  refine aw_if_ge (pc' := 7) (tgt := 44) (dt_X11_rule 2 (4, .ifCond .ge 40, 3) rfl) (by decide) rfl ?_ ?_
  · intro q4
    have h := h.1 q4
    refine aw_aload_n (pc' := 45) (dt_X11_rule 23 (44, .aload_n 0, 1) rfl) rfl rfl (aw_callV0 (pc' := 48) (nc := nc) (ns := ns) (y2 := mX11_outOf) (As := []) (rest := []) (a := 31) (dt_X11_rule 24 (45, .invokevirtual 338, 3) rfl) ok_X11_outOf ln_ReturnDeskModel_338 im_X11_outOf se_X11_outOf pr_X11_outOf (Or.inl ⟨by decide, rfl⟩) rfl (Nat.le_of_ble_eq_true rfl) (Nat.le_of_ble_eq_true rfl) rfl (sk_31 hS2) h ?_)
    rintro v μ5 ⟨r7, rfl, hS6, h⟩
    refine aw_stk (st' := [.int r7]) rfl ?_
    refine aw_istore_n (pc' := 49) (ls' := [some (.ref 31), some (.int r7)]) (dt_X11_rule 25 (48, .istore_n 1, 1) rfl) (by decide) rfl rfl (aw_iload_n (pc' := 50) (dt_X11_rule 26 (49, .iload_n 1, 1) rfl) rfl rfl (aw_if_ge (pc' := 53) (tgt := 58) (dt_X11_rule 27 (50, .ifCond .ge 8, 3) rfl) (by decide) rfl ?_ ?_))
    · intro q8
      have h := h.1 q8
      refine aw_aload_n (pc' := 59) (dt_X11_rule 31 (58, .aload_n 0, 1) rfl) rfl rfl (aw_callV0 (pc' := 62) (nc := nc) (ns := ns) (y2 := mX11_next) (As := []) (rest := []) (a := 31) (dt_X11_rule 32 (59, .invokevirtual 294, 3) rfl) ok_X11_next ln_ReturnDeskModel_294 im_X11_next se_X11_next pr_X11_next (Or.inl ⟨by decide, rfl⟩) rfl (Nat.le_of_ble_eq_true rfl) (Nat.le_of_ble_eq_true rfl) rfl (sk_31 hS6) h ?_)
      rintro v μ9 ⟨rfl, hS10, h⟩
      refine aw_stk (st' := []) rfl ?_
      refine aw_iload_n (pc' := 63) (dt_X11_rule 33 (62, .iload_n 1, 1) rfl) rfl rfl (aw_iconst (pc' := 64) (v := 3) (dt_X11_rule 34 (63, .iconst 3, 1) rfl) (by decide) rfl (aw_icmp_lt (pc' := 67) (tgt := 75) (dt_X11_rule 35 (64, .if_icmp .lt 11, 3) rfl) (by decide) rfl ?_ ?_))
      · intro q11
        have h := h.1 q11
        refine aw_aload_n (pc' := 76) (dt_X11_rule 40 (75, .aload_n 0, 1) rfl) rfl rfl (aw_iconst (pc' := 77) (v := 1) (dt_X11_rule 41 (76, .iconst 1, 1) rfl) (by decide) rfl (aw_iload_n (pc' := 78) (dt_X11_rule 42 (77, .iload_n 1, 1) rfl) rfl rfl (aw_if_ne (pc' := 81) (tgt := 85) (dt_X11_rule 43 (78, .ifCond .ne 7, 3) rfl) (by decide) rfl ?_ ?_)))
        · intro q12
          have h := h.1 q12
          obtain ⟨g13, h⟩ := h
          obtain ⟨g14, h⟩ := h
          refine aw_bipush (pc' := 87) (v := 100) (dt_X11_rule 46 (85, .bipush 100, 2) rfl) (by decide) rfl (aw_inV (pc' := 90) (nc1 := 0) (ns1 := 0) (nc := nc) (ns := ns) (ls' := [some (.ref 31), some (.int 1), some (.int 100)]) (y2 := mX11_lay) (As := [.int 1, .int 100]) (rest := []) (a := 31) (dt_X11_rule 47 (87, .invokevirtual 290, 3) rfl) ok_X11_lay ln_ReturnDeskModel_290 im_X11_lay se_X11_lay pr_X11_lay (Or.inl ⟨by decide, rfl⟩) rfl (Nat.le_of_ble_eq_true rfl) (Nat.le_of_ble_eq_true rfl) rfl rfl (sk_31 hS10) (aw_aload_n (pc' := 1) (dt_X11_lay 0 (0, .aload_n 0, 1) rfl) rfl rfl (aw_getAs (pc' := 4) (dt_X11_lay 1 (1, .getfield 126, 3) rfl) fl_ReturnDeskModel_126 rfl rfl (sk_31 hS10) (sa_31_47 hS10) (aw_sipush (pc' := 7) (v := 200) (dt_X11_lay 2 (4, .sipush 200, 3) rfl) (by decide) rfl (aw_aload_n (pc' := 8) (dt_X11_lay 3 (7, .aload_n 0, 1) rfl) rfl rfl (aw_getI (pc' := 11) (dt_X11_lay 4 (8, .getfield 271, 3) rfl) fl_ReturnDeskModel_271 rfl rfl (sk_31 hS10) (aw_imul (pc' := 12) (dt_X11_lay 5 (11, .imul, 1) rfl) rfl (aw_aload_n (pc' := 13) (dt_X11_lay 6 (12, .aload_n 0, 1) rfl) rfl rfl (aw_getI (pc' := 16) (dt_X11_lay 7 (13, .getfield 274, 3) rfl) fl_ReturnDeskModel_274 rfl rfl (sk_31 hS10) (aw_iadd (pc' := 17) (dt_X11_lay 8 (16, .iadd, 1) rfl) rfl (aw_iload_n (pc' := 18) (dt_X11_lay 9 (17, .iload_n 1, 1) rfl) rfl rfl (aw_iast (pc' := 19) (dt_X11_lay 10 (18, .iastore, 1) rfl) rfl (sk_70 hS10) (by decide) (vin_eq (sl_70 hS10) g13) (aw_aload_n (pc' := 20) (dt_X11_lay 11 (19, .aload_n 0, 1) rfl) rfl rfl (aw_getAs (pc' := 23) (dt_X11_lay 12 (20, .getfield 129, 3) rfl) fl_ReturnDeskModel_129 rfl rfl (sk_31 hS10.wI) (sa_31_48 hS10.wI) (aw_sipush (pc' := 26) (v := 200) (dt_X11_lay 13 (23, .sipush 200, 3) rfl) (by decide) rfl (aw_aload_n (pc' := 27) (dt_X11_lay 14 (26, .aload_n 0, 1) rfl) rfl rfl (aw_getI (pc' := 30) (dt_X11_lay 15 (27, .getfield 271, 3) rfl) fl_ReturnDeskModel_271 rfl rfl (sk_31 hS10.wI) (aw_imul (pc' := 31) (dt_X11_lay 16 (30, .imul, 1) rfl) rfl (aw_aload_n (pc' := 32) (dt_X11_lay 17 (31, .aload_n 0, 1) rfl) rfl rfl (aw_getI (pc' := 35) (dt_X11_lay 18 (32, .getfield 274, 3) rfl) fl_ReturnDeskModel_274 rfl rfl (sk_31 hS10.wI) (aw_iadd (pc' := 36) (dt_X11_lay 19 (35, .iadd, 1) rfl) rfl (aw_iload_n (pc' := 37) (dt_X11_lay 20 (36, .iload_n 2, 1) rfl) rfl rfl (aw_iast (pc' := 38) (dt_X11_lay 21 (37, .iastore, 1) rfl) rfl (sk_71 hS10.wI) (by decide) (vin_eq (sl_71 hS10.wI) g14) ?_)))))))))))))))))))))))
          refine aw_mem (fun μ15 eμ16 => ?_)
          have h := h μ15 eμ16
          have hS17 : Stat μ15 := by rw [eμ16]; exact hS10.wI.wI
          obtain ⟨g18, h⟩ := h
          obtain ⟨g19, h⟩ := h
          refine aw_aload_n (pc' := 39) (dt_X11_lay 22 (38, .aload_n 0, 1) rfl) rfl rfl (aw_dup (pc' := 40) (dt_X11_lay 23 (39, .dup, 1) rfl) rfl rfl (aw_getI (pc' := 43) (dt_X11_lay 24 (40, .getfield 274, 3) rfl) fl_ReturnDeskModel_274 rfl rfl (sk_31 hS17) (aw_iconst (pc' := 44) (v := 1) (dt_X11_lay 25 (43, .iconst 1, 1) rfl) (by decide) rfl (aw_iadd (pc' := 45) (dt_X11_lay 26 (44, .iadd, 1) rfl) rfl (aw_putI (pc' := 48) (dt_X11_lay 27 (45, .putfield 274, 3) rfl) fl_ReturnDeskModel_274 rfl (by decide +kernel) rfl (sk_31 hS17) (aw_ret (dt_X11_lay 28 (48, .return_, 1) rfl) rfl (aw_stk (st' := []) rfl (aw_aload_n (pc' := 91) (dt_X11_rule 48 (90, .aload_n 0, 1) rfl) rfl rfl (aw_iconst (pc' := 92) (v := 4) (dt_X11_rule 49 (91, .iconst 4, 1) rfl) (by decide) rfl (aw_iload_n (pc' := 93) (dt_X11_rule 50 (92, .iload_n 1, 1) rfl) rfl rfl (aw_inV (pc' := 96) (nc1 := 0) (ns1 := 0) (nc := nc) (ns := ns) (ls' := [some (.ref 31), some (.int 4), some (.int r7)]) (y2 := mX11_lay) (As := [.int 4, .int r7]) (rest := []) (a := 31) (dt_X11_rule 51 (93, .invokevirtual 290, 3) rfl) ok_X11_lay ln_ReturnDeskModel_290 im_X11_lay se_X11_lay pr_X11_lay (Or.inl ⟨by decide, rfl⟩) rfl (Nat.le_of_ble_eq_true rfl) (Nat.le_of_ble_eq_true rfl) rfl rfl (sk_31 hS17.wI) (aw_aload_n (pc' := 1) (dt_X11_lay 0 (0, .aload_n 0, 1) rfl) rfl rfl (aw_getAs (pc' := 4) (dt_X11_lay 1 (1, .getfield 126, 3) rfl) fl_ReturnDeskModel_126 rfl rfl (sk_31 hS17.wI) (sa_31_47 hS17.wI) (aw_sipush (pc' := 7) (v := 200) (dt_X11_lay 2 (4, .sipush 200, 3) rfl) (by decide) rfl (aw_aload_n (pc' := 8) (dt_X11_lay 3 (7, .aload_n 0, 1) rfl) rfl rfl (aw_getI (pc' := 11) (dt_X11_lay 4 (8, .getfield 271, 3) rfl) fl_ReturnDeskModel_271 rfl rfl (sk_31 hS17.wI) (aw_imul (pc' := 12) (dt_X11_lay 5 (11, .imul, 1) rfl) rfl (aw_aload_n (pc' := 13) (dt_X11_lay 6 (12, .aload_n 0, 1) rfl) rfl rfl (aw_getI (pc' := 16) (dt_X11_lay 7 (13, .getfield 274, 3) rfl) fl_ReturnDeskModel_274 rfl rfl (sk_31 hS17.wI) (aw_iadd (pc' := 17) (dt_X11_lay 8 (16, .iadd, 1) rfl) rfl (aw_iload_n (pc' := 18) (dt_X11_lay 9 (17, .iload_n 1, 1) rfl) rfl rfl (aw_iast (pc' := 19) (dt_X11_lay 10 (18, .iastore, 1) rfl) rfl (sk_70 hS17.wI) (by decide) (vin_eq (sl_70 hS17.wI) g18) (aw_aload_n (pc' := 20) (dt_X11_lay 11 (19, .aload_n 0, 1) rfl) rfl rfl (aw_getAs (pc' := 23) (dt_X11_lay 12 (20, .getfield 129, 3) rfl) fl_ReturnDeskModel_129 rfl rfl (sk_31 hS17.wI.wI) (sa_31_48 hS17.wI.wI) (aw_sipush (pc' := 26) (v := 200) (dt_X11_lay 13 (23, .sipush 200, 3) rfl) (by decide) rfl (aw_aload_n (pc' := 27) (dt_X11_lay 14 (26, .aload_n 0, 1) rfl) rfl rfl (aw_getI (pc' := 30) (dt_X11_lay 15 (27, .getfield 271, 3) rfl) fl_ReturnDeskModel_271 rfl rfl (sk_31 hS17.wI.wI) (aw_imul (pc' := 31) (dt_X11_lay 16 (30, .imul, 1) rfl) rfl (aw_aload_n (pc' := 32) (dt_X11_lay 17 (31, .aload_n 0, 1) rfl) rfl rfl (aw_getI (pc' := 35) (dt_X11_lay 18 (32, .getfield 274, 3) rfl) fl_ReturnDeskModel_274 rfl rfl (sk_31 hS17.wI.wI) (aw_iadd (pc' := 36) (dt_X11_lay 19 (35, .iadd, 1) rfl) rfl (aw_iload_n (pc' := 37) (dt_X11_lay 20 (36, .iload_n 2, 1) rfl) rfl rfl (aw_iast (pc' := 38) (dt_X11_lay 21 (37, .iastore, 1) rfl) rfl (sk_71 hS17.wI.wI) (by decide) (vin_eq (sl_71 hS17.wI.wI) g19) ?_)))))))))))))))))))))))))))))))))
          refine aw_mem (fun μ20 eμ21 => ?_)
          have h := h μ20 eμ21
          have hS22 : Stat μ20 := by rw [eμ21]; exact hS17.wI.wI.wI
          refine aw_aload_n (pc' := 39) (dt_X11_lay 22 (38, .aload_n 0, 1) rfl) rfl rfl (aw_dup (pc' := 40) (dt_X11_lay 23 (39, .dup, 1) rfl) rfl rfl (aw_getI (pc' := 43) (dt_X11_lay 24 (40, .getfield 274, 3) rfl) fl_ReturnDeskModel_274 rfl rfl (sk_31 hS22) (aw_iconst (pc' := 44) (v := 1) (dt_X11_lay 25 (43, .iconst 1, 1) rfl) (by decide) rfl (aw_iadd (pc' := 45) (dt_X11_lay 26 (44, .iadd, 1) rfl) rfl (aw_putI (pc' := 48) (dt_X11_lay 27 (45, .putfield 274, 3) rfl) fl_ReturnDeskModel_274 rfl (by decide +kernel) rfl (sk_31 hS22) (aw_ret (dt_X11_lay 28 (48, .return_, 1) rfl) rfl (aw_stk (st' := []) rfl (aw_ret (dt_X11_rule 52 (96, .return_, 1) rfl) rfl ?_))))))))
          exact h
        · intro q12
          have h := h.2 q12
          obtain ⟨g23, h⟩ := h
          obtain ⟨g24, h⟩ := h
          refine aw_iconst (pc' := 82) (v := 0) (dt_X11_rule 44 (81, .iconst 0, 1) rfl) (by decide) rfl (aw_goto (tgt := 87) (dt_X11_rule 45 (82, .goto 5, 3) rfl) (by decide) (aw_inV (pc' := 90) (nc1 := 0) (ns1 := 0) (nc := nc) (ns := ns) (ls' := [some (.ref 31), some (.int 1), some (.int 0)]) (y2 := mX11_lay) (As := [.int 1, .int 0]) (rest := []) (a := 31) (dt_X11_rule 47 (87, .invokevirtual 290, 3) rfl) ok_X11_lay ln_ReturnDeskModel_290 im_X11_lay se_X11_lay pr_X11_lay (Or.inl ⟨by decide, rfl⟩) rfl (Nat.le_of_ble_eq_true rfl) (Nat.le_of_ble_eq_true rfl) rfl rfl (sk_31 hS10) (aw_aload_n (pc' := 1) (dt_X11_lay 0 (0, .aload_n 0, 1) rfl) rfl rfl (aw_getAs (pc' := 4) (dt_X11_lay 1 (1, .getfield 126, 3) rfl) fl_ReturnDeskModel_126 rfl rfl (sk_31 hS10) (sa_31_47 hS10) (aw_sipush (pc' := 7) (v := 200) (dt_X11_lay 2 (4, .sipush 200, 3) rfl) (by decide) rfl (aw_aload_n (pc' := 8) (dt_X11_lay 3 (7, .aload_n 0, 1) rfl) rfl rfl (aw_getI (pc' := 11) (dt_X11_lay 4 (8, .getfield 271, 3) rfl) fl_ReturnDeskModel_271 rfl rfl (sk_31 hS10) (aw_imul (pc' := 12) (dt_X11_lay 5 (11, .imul, 1) rfl) rfl (aw_aload_n (pc' := 13) (dt_X11_lay 6 (12, .aload_n 0, 1) rfl) rfl rfl (aw_getI (pc' := 16) (dt_X11_lay 7 (13, .getfield 274, 3) rfl) fl_ReturnDeskModel_274 rfl rfl (sk_31 hS10) (aw_iadd (pc' := 17) (dt_X11_lay 8 (16, .iadd, 1) rfl) rfl (aw_iload_n (pc' := 18) (dt_X11_lay 9 (17, .iload_n 1, 1) rfl) rfl rfl (aw_iast (pc' := 19) (dt_X11_lay 10 (18, .iastore, 1) rfl) rfl (sk_70 hS10) (by decide) (vin_eq (sl_70 hS10) g23) (aw_aload_n (pc' := 20) (dt_X11_lay 11 (19, .aload_n 0, 1) rfl) rfl rfl (aw_getAs (pc' := 23) (dt_X11_lay 12 (20, .getfield 129, 3) rfl) fl_ReturnDeskModel_129 rfl rfl (sk_31 hS10.wI) (sa_31_48 hS10.wI) (aw_sipush (pc' := 26) (v := 200) (dt_X11_lay 13 (23, .sipush 200, 3) rfl) (by decide) rfl (aw_aload_n (pc' := 27) (dt_X11_lay 14 (26, .aload_n 0, 1) rfl) rfl rfl (aw_getI (pc' := 30) (dt_X11_lay 15 (27, .getfield 271, 3) rfl) fl_ReturnDeskModel_271 rfl rfl (sk_31 hS10.wI) (aw_imul (pc' := 31) (dt_X11_lay 16 (30, .imul, 1) rfl) rfl (aw_aload_n (pc' := 32) (dt_X11_lay 17 (31, .aload_n 0, 1) rfl) rfl rfl (aw_getI (pc' := 35) (dt_X11_lay 18 (32, .getfield 274, 3) rfl) fl_ReturnDeskModel_274 rfl rfl (sk_31 hS10.wI) (aw_iadd (pc' := 36) (dt_X11_lay 19 (35, .iadd, 1) rfl) rfl (aw_iload_n (pc' := 37) (dt_X11_lay 20 (36, .iload_n 2, 1) rfl) rfl rfl (aw_iast (pc' := 38) (dt_X11_lay 21 (37, .iastore, 1) rfl) rfl (sk_71 hS10.wI) (by decide) (vin_eq (sl_71 hS10.wI) g24) ?_))))))))))))))))))))))))
          refine aw_mem (fun μ25 eμ26 => ?_)
          have h := h μ25 eμ26
          have hS27 : Stat μ25 := by rw [eμ26]; exact hS10.wI.wI
          obtain ⟨g28, h⟩ := h
          obtain ⟨g29, h⟩ := h
          refine aw_aload_n (pc' := 39) (dt_X11_lay 22 (38, .aload_n 0, 1) rfl) rfl rfl (aw_dup (pc' := 40) (dt_X11_lay 23 (39, .dup, 1) rfl) rfl rfl (aw_getI (pc' := 43) (dt_X11_lay 24 (40, .getfield 274, 3) rfl) fl_ReturnDeskModel_274 rfl rfl (sk_31 hS27) (aw_iconst (pc' := 44) (v := 1) (dt_X11_lay 25 (43, .iconst 1, 1) rfl) (by decide) rfl (aw_iadd (pc' := 45) (dt_X11_lay 26 (44, .iadd, 1) rfl) rfl (aw_putI (pc' := 48) (dt_X11_lay 27 (45, .putfield 274, 3) rfl) fl_ReturnDeskModel_274 rfl (by decide +kernel) rfl (sk_31 hS27) (aw_ret (dt_X11_lay 28 (48, .return_, 1) rfl) rfl (aw_stk (st' := []) rfl (aw_aload_n (pc' := 91) (dt_X11_rule 48 (90, .aload_n 0, 1) rfl) rfl rfl (aw_iconst (pc' := 92) (v := 4) (dt_X11_rule 49 (91, .iconst 4, 1) rfl) (by decide) rfl (aw_iload_n (pc' := 93) (dt_X11_rule 50 (92, .iload_n 1, 1) rfl) rfl rfl (aw_inV (pc' := 96) (nc1 := 0) (ns1 := 0) (nc := nc) (ns := ns) (ls' := [some (.ref 31), some (.int 4), some (.int r7)]) (y2 := mX11_lay) (As := [.int 4, .int r7]) (rest := []) (a := 31) (dt_X11_rule 51 (93, .invokevirtual 290, 3) rfl) ok_X11_lay ln_ReturnDeskModel_290 im_X11_lay se_X11_lay pr_X11_lay (Or.inl ⟨by decide, rfl⟩) rfl (Nat.le_of_ble_eq_true rfl) (Nat.le_of_ble_eq_true rfl) rfl rfl (sk_31 hS27.wI) (aw_aload_n (pc' := 1) (dt_X11_lay 0 (0, .aload_n 0, 1) rfl) rfl rfl (aw_getAs (pc' := 4) (dt_X11_lay 1 (1, .getfield 126, 3) rfl) fl_ReturnDeskModel_126 rfl rfl (sk_31 hS27.wI) (sa_31_47 hS27.wI) (aw_sipush (pc' := 7) (v := 200) (dt_X11_lay 2 (4, .sipush 200, 3) rfl) (by decide) rfl (aw_aload_n (pc' := 8) (dt_X11_lay 3 (7, .aload_n 0, 1) rfl) rfl rfl (aw_getI (pc' := 11) (dt_X11_lay 4 (8, .getfield 271, 3) rfl) fl_ReturnDeskModel_271 rfl rfl (sk_31 hS27.wI) (aw_imul (pc' := 12) (dt_X11_lay 5 (11, .imul, 1) rfl) rfl (aw_aload_n (pc' := 13) (dt_X11_lay 6 (12, .aload_n 0, 1) rfl) rfl rfl (aw_getI (pc' := 16) (dt_X11_lay 7 (13, .getfield 274, 3) rfl) fl_ReturnDeskModel_274 rfl rfl (sk_31 hS27.wI) (aw_iadd (pc' := 17) (dt_X11_lay 8 (16, .iadd, 1) rfl) rfl (aw_iload_n (pc' := 18) (dt_X11_lay 9 (17, .iload_n 1, 1) rfl) rfl rfl (aw_iast (pc' := 19) (dt_X11_lay 10 (18, .iastore, 1) rfl) rfl (sk_70 hS27.wI) (by decide) (vin_eq (sl_70 hS27.wI) g28) (aw_aload_n (pc' := 20) (dt_X11_lay 11 (19, .aload_n 0, 1) rfl) rfl rfl (aw_getAs (pc' := 23) (dt_X11_lay 12 (20, .getfield 129, 3) rfl) fl_ReturnDeskModel_129 rfl rfl (sk_31 hS27.wI.wI) (sa_31_48 hS27.wI.wI) (aw_sipush (pc' := 26) (v := 200) (dt_X11_lay 13 (23, .sipush 200, 3) rfl) (by decide) rfl (aw_aload_n (pc' := 27) (dt_X11_lay 14 (26, .aload_n 0, 1) rfl) rfl rfl (aw_getI (pc' := 30) (dt_X11_lay 15 (27, .getfield 271, 3) rfl) fl_ReturnDeskModel_271 rfl rfl (sk_31 hS27.wI.wI) (aw_imul (pc' := 31) (dt_X11_lay 16 (30, .imul, 1) rfl) rfl (aw_aload_n (pc' := 32) (dt_X11_lay 17 (31, .aload_n 0, 1) rfl) rfl rfl (aw_getI (pc' := 35) (dt_X11_lay 18 (32, .getfield 274, 3) rfl) fl_ReturnDeskModel_274 rfl rfl (sk_31 hS27.wI.wI) (aw_iadd (pc' := 36) (dt_X11_lay 19 (35, .iadd, 1) rfl) rfl (aw_iload_n (pc' := 37) (dt_X11_lay 20 (36, .iload_n 2, 1) rfl) rfl rfl (aw_iast (pc' := 38) (dt_X11_lay 21 (37, .iastore, 1) rfl) rfl (sk_71 hS27.wI.wI) (by decide) (vin_eq (sl_71 hS27.wI.wI) g29) ?_)))))))))))))))))))))))))))))))))
          refine aw_mem (fun μ30 eμ31 => ?_)
          have h := h μ30 eμ31
          have hS32 : Stat μ30 := by rw [eμ31]; exact hS27.wI.wI.wI
          refine aw_aload_n (pc' := 39) (dt_X11_lay 22 (38, .aload_n 0, 1) rfl) rfl rfl (aw_dup (pc' := 40) (dt_X11_lay 23 (39, .dup, 1) rfl) rfl rfl (aw_getI (pc' := 43) (dt_X11_lay 24 (40, .getfield 274, 3) rfl) fl_ReturnDeskModel_274 rfl rfl (sk_31 hS32) (aw_iconst (pc' := 44) (v := 1) (dt_X11_lay 25 (43, .iconst 1, 1) rfl) (by decide) rfl (aw_iadd (pc' := 45) (dt_X11_lay 26 (44, .iadd, 1) rfl) rfl (aw_putI (pc' := 48) (dt_X11_lay 27 (45, .putfield 274, 3) rfl) fl_ReturnDeskModel_274 rfl (by decide +kernel) rfl (sk_31 hS32) (aw_ret (dt_X11_lay 28 (48, .return_, 1) rfl) rfl (aw_stk (st' := []) rfl (aw_ret (dt_X11_rule 52 (96, .return_, 1) rfl) rfl ?_))))))))
          exact h
      · intro q11
        have h := h.2 q11
        refine aw_aload_n (pc' := 68) (dt_X11_rule 36 (67, .aload_n 0, 1) rfl) rfl rfl (aw_iconst (pc' := 69) (v := 0) (dt_X11_rule 37 (68, .iconst 0, 1) rfl) (by decide) rfl (aw_callV0 (pc' := 72) (nc := nc) (ns := ns) (y2 := mX11_sum) (As := [.int 0]) (rest := []) (a := 31) (dt_X11_rule 38 (69, .invokevirtual 318, 3) rfl) ok_X11_sum ln_ReturnDeskModel_318 im_X11_sum se_X11_sum pr_X11_sum (Or.inl ⟨by decide, rfl⟩) rfl (Nat.le_of_ble_eq_true rfl) (Nat.le_of_ble_eq_true rfl) rfl (sk_31 hS10) h ?_))
        rintro v μ33 ⟨rfl, hS34, h⟩
        refine aw_stk (st' := []) rfl ?_
        obtain ⟨g35, h⟩ := h
        obtain ⟨g36, h⟩ := h
        refine aw_goto (tgt := 90) (dt_X11_rule 39 (72, .goto 18, 3) rfl) (by decide) (aw_aload_n (pc' := 91) (dt_X11_rule 48 (90, .aload_n 0, 1) rfl) rfl rfl (aw_iconst (pc' := 92) (v := 4) (dt_X11_rule 49 (91, .iconst 4, 1) rfl) (by decide) rfl (aw_iload_n (pc' := 93) (dt_X11_rule 50 (92, .iload_n 1, 1) rfl) rfl rfl (aw_inV (pc' := 96) (nc1 := 0) (ns1 := 0) (nc := nc) (ns := ns) (ls' := [some (.ref 31), some (.int 4), some (.int r7)]) (y2 := mX11_lay) (As := [.int 4, .int r7]) (rest := []) (a := 31) (dt_X11_rule 51 (93, .invokevirtual 290, 3) rfl) ok_X11_lay ln_ReturnDeskModel_290 im_X11_lay se_X11_lay pr_X11_lay (Or.inl ⟨by decide, rfl⟩) rfl (Nat.le_of_ble_eq_true rfl) (Nat.le_of_ble_eq_true rfl) rfl rfl (sk_31 hS34) (aw_aload_n (pc' := 1) (dt_X11_lay 0 (0, .aload_n 0, 1) rfl) rfl rfl (aw_getAs (pc' := 4) (dt_X11_lay 1 (1, .getfield 126, 3) rfl) fl_ReturnDeskModel_126 rfl rfl (sk_31 hS34) (sa_31_47 hS34) (aw_sipush (pc' := 7) (v := 200) (dt_X11_lay 2 (4, .sipush 200, 3) rfl) (by decide) rfl (aw_aload_n (pc' := 8) (dt_X11_lay 3 (7, .aload_n 0, 1) rfl) rfl rfl (aw_getI (pc' := 11) (dt_X11_lay 4 (8, .getfield 271, 3) rfl) fl_ReturnDeskModel_271 rfl rfl (sk_31 hS34) (aw_imul (pc' := 12) (dt_X11_lay 5 (11, .imul, 1) rfl) rfl (aw_aload_n (pc' := 13) (dt_X11_lay 6 (12, .aload_n 0, 1) rfl) rfl rfl (aw_getI (pc' := 16) (dt_X11_lay 7 (13, .getfield 274, 3) rfl) fl_ReturnDeskModel_274 rfl rfl (sk_31 hS34) (aw_iadd (pc' := 17) (dt_X11_lay 8 (16, .iadd, 1) rfl) rfl (aw_iload_n (pc' := 18) (dt_X11_lay 9 (17, .iload_n 1, 1) rfl) rfl rfl (aw_iast (pc' := 19) (dt_X11_lay 10 (18, .iastore, 1) rfl) rfl (sk_70 hS34) (by decide) (vin_eq (sl_70 hS34) g35) (aw_aload_n (pc' := 20) (dt_X11_lay 11 (19, .aload_n 0, 1) rfl) rfl rfl (aw_getAs (pc' := 23) (dt_X11_lay 12 (20, .getfield 129, 3) rfl) fl_ReturnDeskModel_129 rfl rfl (sk_31 hS34.wI) (sa_31_48 hS34.wI) (aw_sipush (pc' := 26) (v := 200) (dt_X11_lay 13 (23, .sipush 200, 3) rfl) (by decide) rfl (aw_aload_n (pc' := 27) (dt_X11_lay 14 (26, .aload_n 0, 1) rfl) rfl rfl (aw_getI (pc' := 30) (dt_X11_lay 15 (27, .getfield 271, 3) rfl) fl_ReturnDeskModel_271 rfl rfl (sk_31 hS34.wI) (aw_imul (pc' := 31) (dt_X11_lay 16 (30, .imul, 1) rfl) rfl (aw_aload_n (pc' := 32) (dt_X11_lay 17 (31, .aload_n 0, 1) rfl) rfl rfl (aw_getI (pc' := 35) (dt_X11_lay 18 (32, .getfield 274, 3) rfl) fl_ReturnDeskModel_274 rfl rfl (sk_31 hS34.wI) (aw_iadd (pc' := 36) (dt_X11_lay 19 (35, .iadd, 1) rfl) rfl (aw_iload_n (pc' := 37) (dt_X11_lay 20 (36, .iload_n 2, 1) rfl) rfl rfl (aw_iast (pc' := 38) (dt_X11_lay 21 (37, .iastore, 1) rfl) rfl (sk_71 hS34.wI) (by decide) (vin_eq (sl_71 hS34.wI) g36) ?_))))))))))))))))))))))))))
        refine aw_mem (fun μ37 eμ38 => ?_)
        have h := h μ37 eμ38
        have hS39 : Stat μ37 := by rw [eμ38]; exact hS34.wI.wI
        refine aw_aload_n (pc' := 39) (dt_X11_lay 22 (38, .aload_n 0, 1) rfl) rfl rfl (aw_dup (pc' := 40) (dt_X11_lay 23 (39, .dup, 1) rfl) rfl rfl (aw_getI (pc' := 43) (dt_X11_lay 24 (40, .getfield 274, 3) rfl) fl_ReturnDeskModel_274 rfl rfl (sk_31 hS39) (aw_iconst (pc' := 44) (v := 1) (dt_X11_lay 25 (43, .iconst 1, 1) rfl) (by decide) rfl (aw_iadd (pc' := 45) (dt_X11_lay 26 (44, .iadd, 1) rfl) rfl (aw_putI (pc' := 48) (dt_X11_lay 27 (45, .putfield 274, 3) rfl) fl_ReturnDeskModel_274 rfl (by decide +kernel) rfl (sk_31 hS39) (aw_ret (dt_X11_lay 28 (48, .return_, 1) rfl) rfl (aw_stk (st' := []) rfl (aw_ret (dt_X11_rule 52 (96, .return_, 1) rfl) rfl ?_))))))))
        exact h
    · intro q8
      have h := h.2 q8
      refine aw_aload_n (pc' := 54) (dt_X11_rule 28 (53, .aload_n 0, 1) rfl) rfl rfl (aw_inV (pc' := 57) (nc1 := 0) (ns1 := 0) (nc := nc) (ns := ns) (ls' := [some (.ref 31)]) (y2 := mX11_wrong) (As := []) (rest := []) (a := 31) (dt_X11_rule 29 (54, .invokevirtual 280, 3) rfl) ok_X11_wrong ln_ReturnDeskModel_280 im_X11_wrong se_X11_wrong pr_X11_wrong (Or.inl ⟨by decide, rfl⟩) rfl (Nat.le_of_ble_eq_true rfl) (Nat.le_of_ble_eq_true rfl) rfl rfl (sk_31 hS6) (aw_aload_n (pc' := 1) (dt_X11_wrong 0 (0, .aload_n 0, 1) rfl) rfl rfl (aw_getI (pc' := 4) (dt_X11_wrong 1 (1, .getfield 268, 3) rfl) fl_ReturnDeskModel_268 rfl rfl (sk_31 hS6) (aw_if_ge (pc' := 7) (tgt := 15) (dt_X11_wrong 2 (4, .ifCond .ge 11, 3) rfl) (by decide) rfl ?_ ?_))))
      · intro q40
        have h := h.1 q40
        refine aw_ret (dt_X11_wrong 7 (15, .return_, 1) rfl) rfl (aw_stk (st' := []) rfl (aw_ret (dt_X11_rule 30 (57, .return_, 1) rfl) rfl ?_))
        exact h
      · intro q40
        have h := h.2 q40
        refine aw_aload_n (pc' := 8) (dt_X11_wrong 3 (7, .aload_n 0, 1) rfl) rfl rfl (aw_aload_n (pc' := 9) (dt_X11_wrong 4 (8, .aload_n 0, 1) rfl) rfl rfl (aw_getI (pc' := 12) (dt_X11_wrong 5 (9, .getfield 249, 3) rfl) fl_ReturnDeskModel_249 rfl rfl (sk_31 hS6) (aw_putI (pc' := 15) (dt_X11_wrong 6 (12, .putfield 268, 3) rfl) fl_ReturnDeskModel_268 rfl (by decide +kernel) rfl (sk_31 hS6) (aw_ret (dt_X11_wrong 7 (15, .return_, 1) rfl) rfl (aw_stk (st' := []) rfl (aw_ret (dt_X11_rule 30 (57, .return_, 1) rfl) rfl ?_))))))
        exact h
  · intro q4
    have h := h.2 q4
    refine aw_aload_n (pc' := 8) (dt_X11_rule 3 (7, .aload_n 0, 1) rfl) rfl rfl (aw_iconst (pc' := 9) (v := 0) (dt_X11_rule 4 (8, .iconst 0, 1) rfl) (by decide) rfl (aw_callV0 (pc' := 12) (nc := nc) (ns := ns) (y2 := mX11_question) (As := [.int 0]) (rest := []) (a := 31) (dt_X11_rule 5 (9, .invokevirtual 301, 3) rfl) ok_X11_question ln_ReturnDeskModel_301 im_X11_question se_X11_question pr_X11_question (Or.inl ⟨by decide, rfl⟩) rfl (Nat.le_of_ble_eq_true rfl) (Nat.le_of_ble_eq_true rfl) rfl (sk_31 hS2) h ?_))
    rintro v μ41 ⟨rfl, hS42, h⟩
    refine aw_stk (st' := []) rfl ?_
    refine aw_aload_n (pc' := 13) (dt_X11_rule 6 (12, .aload_n 0, 1) rfl) rfl rfl (aw_getI (pc' := 16) (dt_X11_rule 7 (13, .getfield 268, 3) rfl) fl_ReturnDeskModel_268 rfl rfl (sk_31 hS42) (aw_if_lt (pc' := 19) (tgt := 20) (dt_X11_rule 8 (16, .ifCond .lt 4, 3) rfl) (by decide) rfl ?_ ?_))
    · intro q43
      have h := h.1 q43
      refine aw_aload_n (pc' := 21) (dt_X11_rule 10 (20, .aload_n 0, 1) rfl) rfl rfl (aw_getI (pc' := 24) (dt_X11_rule 11 (21, .getfield 252, 3) rfl) fl_ReturnDeskModel_252 rfl rfl (sk_31 hS42) (aw_bipush (pc' := 26) (v := 58) (dt_X11_rule 12 (24, .bipush 58, 2) rfl) (by decide) rfl (aw_icmp_eq (pc' := 29) (tgt := 34) (dt_X11_rule 13 (26, .if_icmp .eq 8, 3) rfl) (by decide) rfl ?_ ?_)))
      · intro q44
        have h := h.1 q44
        obtain ⟨g45, h⟩ := h
        obtain ⟨g46, h⟩ := h
        refine aw_aload_n (pc' := 35) (dt_X11_rule 17 (34, .aload_n 0, 1) rfl) rfl rfl (aw_iconst (pc' := 36) (v := 3) (dt_X11_rule 18 (35, .iconst 3, 1) rfl) (by decide) rfl (aw_iconst (pc' := 37) (v := 0) (dt_X11_rule 19 (36, .iconst 0, 1) rfl) (by decide) rfl (aw_inV (pc' := 40) (nc1 := 0) (ns1 := 0) (nc := nc) (ns := ns) (ls' := [some (.ref 31), some (.int 3), some (.int 0)]) (y2 := mX11_lay) (As := [.int 3, .int 0]) (rest := []) (a := 31) (dt_X11_rule 20 (37, .invokevirtual 290, 3) rfl) ok_X11_lay ln_ReturnDeskModel_290 im_X11_lay se_X11_lay pr_X11_lay (Or.inl ⟨by decide, rfl⟩) rfl (Nat.le_of_ble_eq_true rfl) (Nat.le_of_ble_eq_true rfl) rfl rfl (sk_31 hS42) (aw_aload_n (pc' := 1) (dt_X11_lay 0 (0, .aload_n 0, 1) rfl) rfl rfl (aw_getAs (pc' := 4) (dt_X11_lay 1 (1, .getfield 126, 3) rfl) fl_ReturnDeskModel_126 rfl rfl (sk_31 hS42) (sa_31_47 hS42) (aw_sipush (pc' := 7) (v := 200) (dt_X11_lay 2 (4, .sipush 200, 3) rfl) (by decide) rfl (aw_aload_n (pc' := 8) (dt_X11_lay 3 (7, .aload_n 0, 1) rfl) rfl rfl (aw_getI (pc' := 11) (dt_X11_lay 4 (8, .getfield 271, 3) rfl) fl_ReturnDeskModel_271 rfl rfl (sk_31 hS42) (aw_imul (pc' := 12) (dt_X11_lay 5 (11, .imul, 1) rfl) rfl (aw_aload_n (pc' := 13) (dt_X11_lay 6 (12, .aload_n 0, 1) rfl) rfl rfl (aw_getI (pc' := 16) (dt_X11_lay 7 (13, .getfield 274, 3) rfl) fl_ReturnDeskModel_274 rfl rfl (sk_31 hS42) (aw_iadd (pc' := 17) (dt_X11_lay 8 (16, .iadd, 1) rfl) rfl (aw_iload_n (pc' := 18) (dt_X11_lay 9 (17, .iload_n 1, 1) rfl) rfl rfl (aw_iast (pc' := 19) (dt_X11_lay 10 (18, .iastore, 1) rfl) rfl (sk_70 hS42) (by decide) (vin_eq (sl_70 hS42) g45) (aw_aload_n (pc' := 20) (dt_X11_lay 11 (19, .aload_n 0, 1) rfl) rfl rfl (aw_getAs (pc' := 23) (dt_X11_lay 12 (20, .getfield 129, 3) rfl) fl_ReturnDeskModel_129 rfl rfl (sk_31 hS42.wI) (sa_31_48 hS42.wI) (aw_sipush (pc' := 26) (v := 200) (dt_X11_lay 13 (23, .sipush 200, 3) rfl) (by decide) rfl (aw_aload_n (pc' := 27) (dt_X11_lay 14 (26, .aload_n 0, 1) rfl) rfl rfl (aw_getI (pc' := 30) (dt_X11_lay 15 (27, .getfield 271, 3) rfl) fl_ReturnDeskModel_271 rfl rfl (sk_31 hS42.wI) (aw_imul (pc' := 31) (dt_X11_lay 16 (30, .imul, 1) rfl) rfl (aw_aload_n (pc' := 32) (dt_X11_lay 17 (31, .aload_n 0, 1) rfl) rfl rfl (aw_getI (pc' := 35) (dt_X11_lay 18 (32, .getfield 274, 3) rfl) fl_ReturnDeskModel_274 rfl rfl (sk_31 hS42.wI) (aw_iadd (pc' := 36) (dt_X11_lay 19 (35, .iadd, 1) rfl) rfl (aw_iload_n (pc' := 37) (dt_X11_lay 20 (36, .iload_n 2, 1) rfl) rfl rfl (aw_iast (pc' := 38) (dt_X11_lay 21 (37, .iastore, 1) rfl) rfl (sk_71 hS42.wI) (by decide) (vin_eq (sl_71 hS42.wI) g46) ?_)))))))))))))))))))))))))
        refine aw_mem (fun μ47 eμ48 => ?_)
        have h := h μ47 eμ48
        have hS49 : Stat μ47 := by rw [eμ48]; exact hS42.wI.wI
        refine aw_aload_n (pc' := 39) (dt_X11_lay 22 (38, .aload_n 0, 1) rfl) rfl rfl (aw_dup (pc' := 40) (dt_X11_lay 23 (39, .dup, 1) rfl) rfl rfl (aw_getI (pc' := 43) (dt_X11_lay 24 (40, .getfield 274, 3) rfl) fl_ReturnDeskModel_274 rfl rfl (sk_31 hS49) (aw_iconst (pc' := 44) (v := 1) (dt_X11_lay 25 (43, .iconst 1, 1) rfl) (by decide) rfl (aw_iadd (pc' := 45) (dt_X11_lay 26 (44, .iadd, 1) rfl) rfl (aw_putI (pc' := 48) (dt_X11_lay 27 (45, .putfield 274, 3) rfl) fl_ReturnDeskModel_274 rfl (by decide +kernel) rfl (sk_31 hS49) (aw_ret (dt_X11_lay 28 (48, .return_, 1) rfl) rfl (aw_stk (st' := []) rfl (aw_aload_n (pc' := 41) (dt_X11_rule 21 (40, .aload_n 0, 1) rfl) rfl rfl (aw_callV0 (pc' := 44) (nc := nc) (ns := ns) (y2 := mX11_next) (As := []) (rest := []) (a := 31) (dt_X11_rule 22 (41, .invokevirtual 294, 3) rfl) ok_X11_next ln_ReturnDeskModel_294 im_X11_next se_X11_next pr_X11_next (Or.inl ⟨by decide, rfl⟩) rfl (Nat.le_of_ble_eq_true rfl) (Nat.le_of_ble_eq_true rfl) rfl (sk_31 hS49.wI) h ?_)))))))))
        rintro v μ50 ⟨rfl, hS51, h⟩
        refine aw_stk (st' := []) rfl ?_
        refine aw_aload_n (pc' := 45) (dt_X11_rule 23 (44, .aload_n 0, 1) rfl) rfl rfl (aw_callV0 (pc' := 48) (nc := nc) (ns := ns) (y2 := mX11_outOf) (As := []) (rest := []) (a := 31) (dt_X11_rule 24 (45, .invokevirtual 338, 3) rfl) ok_X11_outOf ln_ReturnDeskModel_338 im_X11_outOf se_X11_outOf pr_X11_outOf (Or.inl ⟨by decide, rfl⟩) rfl (Nat.le_of_ble_eq_true rfl) (Nat.le_of_ble_eq_true rfl) rfl (sk_31 hS51) h ?_)
        rintro v μ52 ⟨r54, rfl, hS53, h⟩
        refine aw_stk (st' := [.int r54]) rfl ?_
        refine aw_istore_n (pc' := 49) (ls' := [some (.ref 31), some (.int r54)]) (dt_X11_rule 25 (48, .istore_n 1, 1) rfl) (by decide) rfl rfl (aw_iload_n (pc' := 50) (dt_X11_rule 26 (49, .iload_n 1, 1) rfl) rfl rfl (aw_if_ge (pc' := 53) (tgt := 58) (dt_X11_rule 27 (50, .ifCond .ge 8, 3) rfl) (by decide) rfl ?_ ?_))
        · intro q55
          have h := h.1 q55
          refine aw_aload_n (pc' := 59) (dt_X11_rule 31 (58, .aload_n 0, 1) rfl) rfl rfl (aw_callV0 (pc' := 62) (nc := nc) (ns := ns) (y2 := mX11_next) (As := []) (rest := []) (a := 31) (dt_X11_rule 32 (59, .invokevirtual 294, 3) rfl) ok_X11_next ln_ReturnDeskModel_294 im_X11_next se_X11_next pr_X11_next (Or.inl ⟨by decide, rfl⟩) rfl (Nat.le_of_ble_eq_true rfl) (Nat.le_of_ble_eq_true rfl) rfl (sk_31 hS53) h ?_)
          rintro v μ56 ⟨rfl, hS57, h⟩
          refine aw_stk (st' := []) rfl ?_
          refine aw_iload_n (pc' := 63) (dt_X11_rule 33 (62, .iload_n 1, 1) rfl) rfl rfl (aw_iconst (pc' := 64) (v := 3) (dt_X11_rule 34 (63, .iconst 3, 1) rfl) (by decide) rfl (aw_icmp_lt (pc' := 67) (tgt := 75) (dt_X11_rule 35 (64, .if_icmp .lt 11, 3) rfl) (by decide) rfl ?_ ?_))
          · intro q58
            have h := h.1 q58
            refine aw_aload_n (pc' := 76) (dt_X11_rule 40 (75, .aload_n 0, 1) rfl) rfl rfl (aw_iconst (pc' := 77) (v := 1) (dt_X11_rule 41 (76, .iconst 1, 1) rfl) (by decide) rfl (aw_iload_n (pc' := 78) (dt_X11_rule 42 (77, .iload_n 1, 1) rfl) rfl rfl (aw_if_ne (pc' := 81) (tgt := 85) (dt_X11_rule 43 (78, .ifCond .ne 7, 3) rfl) (by decide) rfl ?_ ?_)))
            · intro q59
              have h := h.1 q59
              obtain ⟨g60, h⟩ := h
              obtain ⟨g61, h⟩ := h
              refine aw_bipush (pc' := 87) (v := 100) (dt_X11_rule 46 (85, .bipush 100, 2) rfl) (by decide) rfl (aw_inV (pc' := 90) (nc1 := 0) (ns1 := 0) (nc := nc) (ns := ns) (ls' := [some (.ref 31), some (.int 1), some (.int 100)]) (y2 := mX11_lay) (As := [.int 1, .int 100]) (rest := []) (a := 31) (dt_X11_rule 47 (87, .invokevirtual 290, 3) rfl) ok_X11_lay ln_ReturnDeskModel_290 im_X11_lay se_X11_lay pr_X11_lay (Or.inl ⟨by decide, rfl⟩) rfl (Nat.le_of_ble_eq_true rfl) (Nat.le_of_ble_eq_true rfl) rfl rfl (sk_31 hS57) (aw_aload_n (pc' := 1) (dt_X11_lay 0 (0, .aload_n 0, 1) rfl) rfl rfl (aw_getAs (pc' := 4) (dt_X11_lay 1 (1, .getfield 126, 3) rfl) fl_ReturnDeskModel_126 rfl rfl (sk_31 hS57) (sa_31_47 hS57) (aw_sipush (pc' := 7) (v := 200) (dt_X11_lay 2 (4, .sipush 200, 3) rfl) (by decide) rfl (aw_aload_n (pc' := 8) (dt_X11_lay 3 (7, .aload_n 0, 1) rfl) rfl rfl (aw_getI (pc' := 11) (dt_X11_lay 4 (8, .getfield 271, 3) rfl) fl_ReturnDeskModel_271 rfl rfl (sk_31 hS57) (aw_imul (pc' := 12) (dt_X11_lay 5 (11, .imul, 1) rfl) rfl (aw_aload_n (pc' := 13) (dt_X11_lay 6 (12, .aload_n 0, 1) rfl) rfl rfl (aw_getI (pc' := 16) (dt_X11_lay 7 (13, .getfield 274, 3) rfl) fl_ReturnDeskModel_274 rfl rfl (sk_31 hS57) (aw_iadd (pc' := 17) (dt_X11_lay 8 (16, .iadd, 1) rfl) rfl (aw_iload_n (pc' := 18) (dt_X11_lay 9 (17, .iload_n 1, 1) rfl) rfl rfl (aw_iast (pc' := 19) (dt_X11_lay 10 (18, .iastore, 1) rfl) rfl (sk_70 hS57) (by decide) (vin_eq (sl_70 hS57) g60) (aw_aload_n (pc' := 20) (dt_X11_lay 11 (19, .aload_n 0, 1) rfl) rfl rfl (aw_getAs (pc' := 23) (dt_X11_lay 12 (20, .getfield 129, 3) rfl) fl_ReturnDeskModel_129 rfl rfl (sk_31 hS57.wI) (sa_31_48 hS57.wI) (aw_sipush (pc' := 26) (v := 200) (dt_X11_lay 13 (23, .sipush 200, 3) rfl) (by decide) rfl (aw_aload_n (pc' := 27) (dt_X11_lay 14 (26, .aload_n 0, 1) rfl) rfl rfl (aw_getI (pc' := 30) (dt_X11_lay 15 (27, .getfield 271, 3) rfl) fl_ReturnDeskModel_271 rfl rfl (sk_31 hS57.wI) (aw_imul (pc' := 31) (dt_X11_lay 16 (30, .imul, 1) rfl) rfl (aw_aload_n (pc' := 32) (dt_X11_lay 17 (31, .aload_n 0, 1) rfl) rfl rfl (aw_getI (pc' := 35) (dt_X11_lay 18 (32, .getfield 274, 3) rfl) fl_ReturnDeskModel_274 rfl rfl (sk_31 hS57.wI) (aw_iadd (pc' := 36) (dt_X11_lay 19 (35, .iadd, 1) rfl) rfl (aw_iload_n (pc' := 37) (dt_X11_lay 20 (36, .iload_n 2, 1) rfl) rfl rfl (aw_iast (pc' := 38) (dt_X11_lay 21 (37, .iastore, 1) rfl) rfl (sk_71 hS57.wI) (by decide) (vin_eq (sl_71 hS57.wI) g61) ?_)))))))))))))))))))))))
              refine aw_mem (fun μ62 eμ63 => ?_)
              have h := h μ62 eμ63
              have hS64 : Stat μ62 := by rw [eμ63]; exact hS57.wI.wI
              obtain ⟨g65, h⟩ := h
              obtain ⟨g66, h⟩ := h
              refine aw_aload_n (pc' := 39) (dt_X11_lay 22 (38, .aload_n 0, 1) rfl) rfl rfl (aw_dup (pc' := 40) (dt_X11_lay 23 (39, .dup, 1) rfl) rfl rfl (aw_getI (pc' := 43) (dt_X11_lay 24 (40, .getfield 274, 3) rfl) fl_ReturnDeskModel_274 rfl rfl (sk_31 hS64) (aw_iconst (pc' := 44) (v := 1) (dt_X11_lay 25 (43, .iconst 1, 1) rfl) (by decide) rfl (aw_iadd (pc' := 45) (dt_X11_lay 26 (44, .iadd, 1) rfl) rfl (aw_putI (pc' := 48) (dt_X11_lay 27 (45, .putfield 274, 3) rfl) fl_ReturnDeskModel_274 rfl (by decide +kernel) rfl (sk_31 hS64) (aw_ret (dt_X11_lay 28 (48, .return_, 1) rfl) rfl (aw_stk (st' := []) rfl (aw_aload_n (pc' := 91) (dt_X11_rule 48 (90, .aload_n 0, 1) rfl) rfl rfl (aw_iconst (pc' := 92) (v := 4) (dt_X11_rule 49 (91, .iconst 4, 1) rfl) (by decide) rfl (aw_iload_n (pc' := 93) (dt_X11_rule 50 (92, .iload_n 1, 1) rfl) rfl rfl (aw_inV (pc' := 96) (nc1 := 0) (ns1 := 0) (nc := nc) (ns := ns) (ls' := [some (.ref 31), some (.int 4), some (.int r54)]) (y2 := mX11_lay) (As := [.int 4, .int r54]) (rest := []) (a := 31) (dt_X11_rule 51 (93, .invokevirtual 290, 3) rfl) ok_X11_lay ln_ReturnDeskModel_290 im_X11_lay se_X11_lay pr_X11_lay (Or.inl ⟨by decide, rfl⟩) rfl (Nat.le_of_ble_eq_true rfl) (Nat.le_of_ble_eq_true rfl) rfl rfl (sk_31 hS64.wI) (aw_aload_n (pc' := 1) (dt_X11_lay 0 (0, .aload_n 0, 1) rfl) rfl rfl (aw_getAs (pc' := 4) (dt_X11_lay 1 (1, .getfield 126, 3) rfl) fl_ReturnDeskModel_126 rfl rfl (sk_31 hS64.wI) (sa_31_47 hS64.wI) (aw_sipush (pc' := 7) (v := 200) (dt_X11_lay 2 (4, .sipush 200, 3) rfl) (by decide) rfl (aw_aload_n (pc' := 8) (dt_X11_lay 3 (7, .aload_n 0, 1) rfl) rfl rfl (aw_getI (pc' := 11) (dt_X11_lay 4 (8, .getfield 271, 3) rfl) fl_ReturnDeskModel_271 rfl rfl (sk_31 hS64.wI) (aw_imul (pc' := 12) (dt_X11_lay 5 (11, .imul, 1) rfl) rfl (aw_aload_n (pc' := 13) (dt_X11_lay 6 (12, .aload_n 0, 1) rfl) rfl rfl (aw_getI (pc' := 16) (dt_X11_lay 7 (13, .getfield 274, 3) rfl) fl_ReturnDeskModel_274 rfl rfl (sk_31 hS64.wI) (aw_iadd (pc' := 17) (dt_X11_lay 8 (16, .iadd, 1) rfl) rfl (aw_iload_n (pc' := 18) (dt_X11_lay 9 (17, .iload_n 1, 1) rfl) rfl rfl (aw_iast (pc' := 19) (dt_X11_lay 10 (18, .iastore, 1) rfl) rfl (sk_70 hS64.wI) (by decide) (vin_eq (sl_70 hS64.wI) g65) (aw_aload_n (pc' := 20) (dt_X11_lay 11 (19, .aload_n 0, 1) rfl) rfl rfl (aw_getAs (pc' := 23) (dt_X11_lay 12 (20, .getfield 129, 3) rfl) fl_ReturnDeskModel_129 rfl rfl (sk_31 hS64.wI.wI) (sa_31_48 hS64.wI.wI) (aw_sipush (pc' := 26) (v := 200) (dt_X11_lay 13 (23, .sipush 200, 3) rfl) (by decide) rfl (aw_aload_n (pc' := 27) (dt_X11_lay 14 (26, .aload_n 0, 1) rfl) rfl rfl (aw_getI (pc' := 30) (dt_X11_lay 15 (27, .getfield 271, 3) rfl) fl_ReturnDeskModel_271 rfl rfl (sk_31 hS64.wI.wI) (aw_imul (pc' := 31) (dt_X11_lay 16 (30, .imul, 1) rfl) rfl (aw_aload_n (pc' := 32) (dt_X11_lay 17 (31, .aload_n 0, 1) rfl) rfl rfl (aw_getI (pc' := 35) (dt_X11_lay 18 (32, .getfield 274, 3) rfl) fl_ReturnDeskModel_274 rfl rfl (sk_31 hS64.wI.wI) (aw_iadd (pc' := 36) (dt_X11_lay 19 (35, .iadd, 1) rfl) rfl (aw_iload_n (pc' := 37) (dt_X11_lay 20 (36, .iload_n 2, 1) rfl) rfl rfl (aw_iast (pc' := 38) (dt_X11_lay 21 (37, .iastore, 1) rfl) rfl (sk_71 hS64.wI.wI) (by decide) (vin_eq (sl_71 hS64.wI.wI) g66) ?_)))))))))))))))))))))))))))))))))
              refine aw_mem (fun μ67 eμ68 => ?_)
              have h := h μ67 eμ68
              have hS69 : Stat μ67 := by rw [eμ68]; exact hS64.wI.wI.wI
              refine aw_aload_n (pc' := 39) (dt_X11_lay 22 (38, .aload_n 0, 1) rfl) rfl rfl (aw_dup (pc' := 40) (dt_X11_lay 23 (39, .dup, 1) rfl) rfl rfl (aw_getI (pc' := 43) (dt_X11_lay 24 (40, .getfield 274, 3) rfl) fl_ReturnDeskModel_274 rfl rfl (sk_31 hS69) (aw_iconst (pc' := 44) (v := 1) (dt_X11_lay 25 (43, .iconst 1, 1) rfl) (by decide) rfl (aw_iadd (pc' := 45) (dt_X11_lay 26 (44, .iadd, 1) rfl) rfl (aw_putI (pc' := 48) (dt_X11_lay 27 (45, .putfield 274, 3) rfl) fl_ReturnDeskModel_274 rfl (by decide +kernel) rfl (sk_31 hS69) (aw_ret (dt_X11_lay 28 (48, .return_, 1) rfl) rfl (aw_stk (st' := []) rfl (aw_ret (dt_X11_rule 52 (96, .return_, 1) rfl) rfl ?_))))))))
              exact h
            · intro q59
              have h := h.2 q59
              obtain ⟨g70, h⟩ := h
              obtain ⟨g71, h⟩ := h
              refine aw_iconst (pc' := 82) (v := 0) (dt_X11_rule 44 (81, .iconst 0, 1) rfl) (by decide) rfl (aw_goto (tgt := 87) (dt_X11_rule 45 (82, .goto 5, 3) rfl) (by decide) (aw_inV (pc' := 90) (nc1 := 0) (ns1 := 0) (nc := nc) (ns := ns) (ls' := [some (.ref 31), some (.int 1), some (.int 0)]) (y2 := mX11_lay) (As := [.int 1, .int 0]) (rest := []) (a := 31) (dt_X11_rule 47 (87, .invokevirtual 290, 3) rfl) ok_X11_lay ln_ReturnDeskModel_290 im_X11_lay se_X11_lay pr_X11_lay (Or.inl ⟨by decide, rfl⟩) rfl (Nat.le_of_ble_eq_true rfl) (Nat.le_of_ble_eq_true rfl) rfl rfl (sk_31 hS57) (aw_aload_n (pc' := 1) (dt_X11_lay 0 (0, .aload_n 0, 1) rfl) rfl rfl (aw_getAs (pc' := 4) (dt_X11_lay 1 (1, .getfield 126, 3) rfl) fl_ReturnDeskModel_126 rfl rfl (sk_31 hS57) (sa_31_47 hS57) (aw_sipush (pc' := 7) (v := 200) (dt_X11_lay 2 (4, .sipush 200, 3) rfl) (by decide) rfl (aw_aload_n (pc' := 8) (dt_X11_lay 3 (7, .aload_n 0, 1) rfl) rfl rfl (aw_getI (pc' := 11) (dt_X11_lay 4 (8, .getfield 271, 3) rfl) fl_ReturnDeskModel_271 rfl rfl (sk_31 hS57) (aw_imul (pc' := 12) (dt_X11_lay 5 (11, .imul, 1) rfl) rfl (aw_aload_n (pc' := 13) (dt_X11_lay 6 (12, .aload_n 0, 1) rfl) rfl rfl (aw_getI (pc' := 16) (dt_X11_lay 7 (13, .getfield 274, 3) rfl) fl_ReturnDeskModel_274 rfl rfl (sk_31 hS57) (aw_iadd (pc' := 17) (dt_X11_lay 8 (16, .iadd, 1) rfl) rfl (aw_iload_n (pc' := 18) (dt_X11_lay 9 (17, .iload_n 1, 1) rfl) rfl rfl (aw_iast (pc' := 19) (dt_X11_lay 10 (18, .iastore, 1) rfl) rfl (sk_70 hS57) (by decide) (vin_eq (sl_70 hS57) g70) (aw_aload_n (pc' := 20) (dt_X11_lay 11 (19, .aload_n 0, 1) rfl) rfl rfl (aw_getAs (pc' := 23) (dt_X11_lay 12 (20, .getfield 129, 3) rfl) fl_ReturnDeskModel_129 rfl rfl (sk_31 hS57.wI) (sa_31_48 hS57.wI) (aw_sipush (pc' := 26) (v := 200) (dt_X11_lay 13 (23, .sipush 200, 3) rfl) (by decide) rfl (aw_aload_n (pc' := 27) (dt_X11_lay 14 (26, .aload_n 0, 1) rfl) rfl rfl (aw_getI (pc' := 30) (dt_X11_lay 15 (27, .getfield 271, 3) rfl) fl_ReturnDeskModel_271 rfl rfl (sk_31 hS57.wI) (aw_imul (pc' := 31) (dt_X11_lay 16 (30, .imul, 1) rfl) rfl (aw_aload_n (pc' := 32) (dt_X11_lay 17 (31, .aload_n 0, 1) rfl) rfl rfl (aw_getI (pc' := 35) (dt_X11_lay 18 (32, .getfield 274, 3) rfl) fl_ReturnDeskModel_274 rfl rfl (sk_31 hS57.wI) (aw_iadd (pc' := 36) (dt_X11_lay 19 (35, .iadd, 1) rfl) rfl (aw_iload_n (pc' := 37) (dt_X11_lay 20 (36, .iload_n 2, 1) rfl) rfl rfl (aw_iast (pc' := 38) (dt_X11_lay 21 (37, .iastore, 1) rfl) rfl (sk_71 hS57.wI) (by decide) (vin_eq (sl_71 hS57.wI) g71) ?_))))))))))))))))))))))))
              refine aw_mem (fun μ72 eμ73 => ?_)
              have h := h μ72 eμ73
              have hS74 : Stat μ72 := by rw [eμ73]; exact hS57.wI.wI
              obtain ⟨g75, h⟩ := h
              obtain ⟨g76, h⟩ := h
              refine aw_aload_n (pc' := 39) (dt_X11_lay 22 (38, .aload_n 0, 1) rfl) rfl rfl (aw_dup (pc' := 40) (dt_X11_lay 23 (39, .dup, 1) rfl) rfl rfl (aw_getI (pc' := 43) (dt_X11_lay 24 (40, .getfield 274, 3) rfl) fl_ReturnDeskModel_274 rfl rfl (sk_31 hS74) (aw_iconst (pc' := 44) (v := 1) (dt_X11_lay 25 (43, .iconst 1, 1) rfl) (by decide) rfl (aw_iadd (pc' := 45) (dt_X11_lay 26 (44, .iadd, 1) rfl) rfl (aw_putI (pc' := 48) (dt_X11_lay 27 (45, .putfield 274, 3) rfl) fl_ReturnDeskModel_274 rfl (by decide +kernel) rfl (sk_31 hS74) (aw_ret (dt_X11_lay 28 (48, .return_, 1) rfl) rfl (aw_stk (st' := []) rfl (aw_aload_n (pc' := 91) (dt_X11_rule 48 (90, .aload_n 0, 1) rfl) rfl rfl (aw_iconst (pc' := 92) (v := 4) (dt_X11_rule 49 (91, .iconst 4, 1) rfl) (by decide) rfl (aw_iload_n (pc' := 93) (dt_X11_rule 50 (92, .iload_n 1, 1) rfl) rfl rfl (aw_inV (pc' := 96) (nc1 := 0) (ns1 := 0) (nc := nc) (ns := ns) (ls' := [some (.ref 31), some (.int 4), some (.int r54)]) (y2 := mX11_lay) (As := [.int 4, .int r54]) (rest := []) (a := 31) (dt_X11_rule 51 (93, .invokevirtual 290, 3) rfl) ok_X11_lay ln_ReturnDeskModel_290 im_X11_lay se_X11_lay pr_X11_lay (Or.inl ⟨by decide, rfl⟩) rfl (Nat.le_of_ble_eq_true rfl) (Nat.le_of_ble_eq_true rfl) rfl rfl (sk_31 hS74.wI) (aw_aload_n (pc' := 1) (dt_X11_lay 0 (0, .aload_n 0, 1) rfl) rfl rfl (aw_getAs (pc' := 4) (dt_X11_lay 1 (1, .getfield 126, 3) rfl) fl_ReturnDeskModel_126 rfl rfl (sk_31 hS74.wI) (sa_31_47 hS74.wI) (aw_sipush (pc' := 7) (v := 200) (dt_X11_lay 2 (4, .sipush 200, 3) rfl) (by decide) rfl (aw_aload_n (pc' := 8) (dt_X11_lay 3 (7, .aload_n 0, 1) rfl) rfl rfl (aw_getI (pc' := 11) (dt_X11_lay 4 (8, .getfield 271, 3) rfl) fl_ReturnDeskModel_271 rfl rfl (sk_31 hS74.wI) (aw_imul (pc' := 12) (dt_X11_lay 5 (11, .imul, 1) rfl) rfl (aw_aload_n (pc' := 13) (dt_X11_lay 6 (12, .aload_n 0, 1) rfl) rfl rfl (aw_getI (pc' := 16) (dt_X11_lay 7 (13, .getfield 274, 3) rfl) fl_ReturnDeskModel_274 rfl rfl (sk_31 hS74.wI) (aw_iadd (pc' := 17) (dt_X11_lay 8 (16, .iadd, 1) rfl) rfl (aw_iload_n (pc' := 18) (dt_X11_lay 9 (17, .iload_n 1, 1) rfl) rfl rfl (aw_iast (pc' := 19) (dt_X11_lay 10 (18, .iastore, 1) rfl) rfl (sk_70 hS74.wI) (by decide) (vin_eq (sl_70 hS74.wI) g75) (aw_aload_n (pc' := 20) (dt_X11_lay 11 (19, .aload_n 0, 1) rfl) rfl rfl (aw_getAs (pc' := 23) (dt_X11_lay 12 (20, .getfield 129, 3) rfl) fl_ReturnDeskModel_129 rfl rfl (sk_31 hS74.wI.wI) (sa_31_48 hS74.wI.wI) (aw_sipush (pc' := 26) (v := 200) (dt_X11_lay 13 (23, .sipush 200, 3) rfl) (by decide) rfl (aw_aload_n (pc' := 27) (dt_X11_lay 14 (26, .aload_n 0, 1) rfl) rfl rfl (aw_getI (pc' := 30) (dt_X11_lay 15 (27, .getfield 271, 3) rfl) fl_ReturnDeskModel_271 rfl rfl (sk_31 hS74.wI.wI) (aw_imul (pc' := 31) (dt_X11_lay 16 (30, .imul, 1) rfl) rfl (aw_aload_n (pc' := 32) (dt_X11_lay 17 (31, .aload_n 0, 1) rfl) rfl rfl (aw_getI (pc' := 35) (dt_X11_lay 18 (32, .getfield 274, 3) rfl) fl_ReturnDeskModel_274 rfl rfl (sk_31 hS74.wI.wI) (aw_iadd (pc' := 36) (dt_X11_lay 19 (35, .iadd, 1) rfl) rfl (aw_iload_n (pc' := 37) (dt_X11_lay 20 (36, .iload_n 2, 1) rfl) rfl rfl (aw_iast (pc' := 38) (dt_X11_lay 21 (37, .iastore, 1) rfl) rfl (sk_71 hS74.wI.wI) (by decide) (vin_eq (sl_71 hS74.wI.wI) g76) ?_)))))))))))))))))))))))))))))))))
              refine aw_mem (fun μ77 eμ78 => ?_)
              have h := h μ77 eμ78
              have hS79 : Stat μ77 := by rw [eμ78]; exact hS74.wI.wI.wI
              refine aw_aload_n (pc' := 39) (dt_X11_lay 22 (38, .aload_n 0, 1) rfl) rfl rfl (aw_dup (pc' := 40) (dt_X11_lay 23 (39, .dup, 1) rfl) rfl rfl (aw_getI (pc' := 43) (dt_X11_lay 24 (40, .getfield 274, 3) rfl) fl_ReturnDeskModel_274 rfl rfl (sk_31 hS79) (aw_iconst (pc' := 44) (v := 1) (dt_X11_lay 25 (43, .iconst 1, 1) rfl) (by decide) rfl (aw_iadd (pc' := 45) (dt_X11_lay 26 (44, .iadd, 1) rfl) rfl (aw_putI (pc' := 48) (dt_X11_lay 27 (45, .putfield 274, 3) rfl) fl_ReturnDeskModel_274 rfl (by decide +kernel) rfl (sk_31 hS79) (aw_ret (dt_X11_lay 28 (48, .return_, 1) rfl) rfl (aw_stk (st' := []) rfl (aw_ret (dt_X11_rule 52 (96, .return_, 1) rfl) rfl ?_))))))))
              exact h
          · intro q58
            have h := h.2 q58
            refine aw_aload_n (pc' := 68) (dt_X11_rule 36 (67, .aload_n 0, 1) rfl) rfl rfl (aw_iconst (pc' := 69) (v := 0) (dt_X11_rule 37 (68, .iconst 0, 1) rfl) (by decide) rfl (aw_callV0 (pc' := 72) (nc := nc) (ns := ns) (y2 := mX11_sum) (As := [.int 0]) (rest := []) (a := 31) (dt_X11_rule 38 (69, .invokevirtual 318, 3) rfl) ok_X11_sum ln_ReturnDeskModel_318 im_X11_sum se_X11_sum pr_X11_sum (Or.inl ⟨by decide, rfl⟩) rfl (Nat.le_of_ble_eq_true rfl) (Nat.le_of_ble_eq_true rfl) rfl (sk_31 hS57) h ?_))
            rintro v μ80 ⟨rfl, hS81, h⟩
            refine aw_stk (st' := []) rfl ?_
            obtain ⟨g82, h⟩ := h
            obtain ⟨g83, h⟩ := h
            refine aw_goto (tgt := 90) (dt_X11_rule 39 (72, .goto 18, 3) rfl) (by decide) (aw_aload_n (pc' := 91) (dt_X11_rule 48 (90, .aload_n 0, 1) rfl) rfl rfl (aw_iconst (pc' := 92) (v := 4) (dt_X11_rule 49 (91, .iconst 4, 1) rfl) (by decide) rfl (aw_iload_n (pc' := 93) (dt_X11_rule 50 (92, .iload_n 1, 1) rfl) rfl rfl (aw_inV (pc' := 96) (nc1 := 0) (ns1 := 0) (nc := nc) (ns := ns) (ls' := [some (.ref 31), some (.int 4), some (.int r54)]) (y2 := mX11_lay) (As := [.int 4, .int r54]) (rest := []) (a := 31) (dt_X11_rule 51 (93, .invokevirtual 290, 3) rfl) ok_X11_lay ln_ReturnDeskModel_290 im_X11_lay se_X11_lay pr_X11_lay (Or.inl ⟨by decide, rfl⟩) rfl (Nat.le_of_ble_eq_true rfl) (Nat.le_of_ble_eq_true rfl) rfl rfl (sk_31 hS81) (aw_aload_n (pc' := 1) (dt_X11_lay 0 (0, .aload_n 0, 1) rfl) rfl rfl (aw_getAs (pc' := 4) (dt_X11_lay 1 (1, .getfield 126, 3) rfl) fl_ReturnDeskModel_126 rfl rfl (sk_31 hS81) (sa_31_47 hS81) (aw_sipush (pc' := 7) (v := 200) (dt_X11_lay 2 (4, .sipush 200, 3) rfl) (by decide) rfl (aw_aload_n (pc' := 8) (dt_X11_lay 3 (7, .aload_n 0, 1) rfl) rfl rfl (aw_getI (pc' := 11) (dt_X11_lay 4 (8, .getfield 271, 3) rfl) fl_ReturnDeskModel_271 rfl rfl (sk_31 hS81) (aw_imul (pc' := 12) (dt_X11_lay 5 (11, .imul, 1) rfl) rfl (aw_aload_n (pc' := 13) (dt_X11_lay 6 (12, .aload_n 0, 1) rfl) rfl rfl (aw_getI (pc' := 16) (dt_X11_lay 7 (13, .getfield 274, 3) rfl) fl_ReturnDeskModel_274 rfl rfl (sk_31 hS81) (aw_iadd (pc' := 17) (dt_X11_lay 8 (16, .iadd, 1) rfl) rfl (aw_iload_n (pc' := 18) (dt_X11_lay 9 (17, .iload_n 1, 1) rfl) rfl rfl (aw_iast (pc' := 19) (dt_X11_lay 10 (18, .iastore, 1) rfl) rfl (sk_70 hS81) (by decide) (vin_eq (sl_70 hS81) g82) (aw_aload_n (pc' := 20) (dt_X11_lay 11 (19, .aload_n 0, 1) rfl) rfl rfl (aw_getAs (pc' := 23) (dt_X11_lay 12 (20, .getfield 129, 3) rfl) fl_ReturnDeskModel_129 rfl rfl (sk_31 hS81.wI) (sa_31_48 hS81.wI) (aw_sipush (pc' := 26) (v := 200) (dt_X11_lay 13 (23, .sipush 200, 3) rfl) (by decide) rfl (aw_aload_n (pc' := 27) (dt_X11_lay 14 (26, .aload_n 0, 1) rfl) rfl rfl (aw_getI (pc' := 30) (dt_X11_lay 15 (27, .getfield 271, 3) rfl) fl_ReturnDeskModel_271 rfl rfl (sk_31 hS81.wI) (aw_imul (pc' := 31) (dt_X11_lay 16 (30, .imul, 1) rfl) rfl (aw_aload_n (pc' := 32) (dt_X11_lay 17 (31, .aload_n 0, 1) rfl) rfl rfl (aw_getI (pc' := 35) (dt_X11_lay 18 (32, .getfield 274, 3) rfl) fl_ReturnDeskModel_274 rfl rfl (sk_31 hS81.wI) (aw_iadd (pc' := 36) (dt_X11_lay 19 (35, .iadd, 1) rfl) rfl (aw_iload_n (pc' := 37) (dt_X11_lay 20 (36, .iload_n 2, 1) rfl) rfl rfl (aw_iast (pc' := 38) (dt_X11_lay 21 (37, .iastore, 1) rfl) rfl (sk_71 hS81.wI) (by decide) (vin_eq (sl_71 hS81.wI) g83) ?_))))))))))))))))))))))))))
            refine aw_mem (fun μ84 eμ85 => ?_)
            have h := h μ84 eμ85
            have hS86 : Stat μ84 := by rw [eμ85]; exact hS81.wI.wI
            refine aw_aload_n (pc' := 39) (dt_X11_lay 22 (38, .aload_n 0, 1) rfl) rfl rfl (aw_dup (pc' := 40) (dt_X11_lay 23 (39, .dup, 1) rfl) rfl rfl (aw_getI (pc' := 43) (dt_X11_lay 24 (40, .getfield 274, 3) rfl) fl_ReturnDeskModel_274 rfl rfl (sk_31 hS86) (aw_iconst (pc' := 44) (v := 1) (dt_X11_lay 25 (43, .iconst 1, 1) rfl) (by decide) rfl (aw_iadd (pc' := 45) (dt_X11_lay 26 (44, .iadd, 1) rfl) rfl (aw_putI (pc' := 48) (dt_X11_lay 27 (45, .putfield 274, 3) rfl) fl_ReturnDeskModel_274 rfl (by decide +kernel) rfl (sk_31 hS86) (aw_ret (dt_X11_lay 28 (48, .return_, 1) rfl) rfl (aw_stk (st' := []) rfl (aw_ret (dt_X11_rule 52 (96, .return_, 1) rfl) rfl ?_))))))))
            exact h
        · intro q55
          have h := h.2 q55
          refine aw_aload_n (pc' := 54) (dt_X11_rule 28 (53, .aload_n 0, 1) rfl) rfl rfl (aw_inV (pc' := 57) (nc1 := 0) (ns1 := 0) (nc := nc) (ns := ns) (ls' := [some (.ref 31)]) (y2 := mX11_wrong) (As := []) (rest := []) (a := 31) (dt_X11_rule 29 (54, .invokevirtual 280, 3) rfl) ok_X11_wrong ln_ReturnDeskModel_280 im_X11_wrong se_X11_wrong pr_X11_wrong (Or.inl ⟨by decide, rfl⟩) rfl (Nat.le_of_ble_eq_true rfl) (Nat.le_of_ble_eq_true rfl) rfl rfl (sk_31 hS53) (aw_aload_n (pc' := 1) (dt_X11_wrong 0 (0, .aload_n 0, 1) rfl) rfl rfl (aw_getI (pc' := 4) (dt_X11_wrong 1 (1, .getfield 268, 3) rfl) fl_ReturnDeskModel_268 rfl rfl (sk_31 hS53) (aw_if_ge (pc' := 7) (tgt := 15) (dt_X11_wrong 2 (4, .ifCond .ge 11, 3) rfl) (by decide) rfl ?_ ?_))))
          · intro q87
            have h := h.1 q87
            refine aw_ret (dt_X11_wrong 7 (15, .return_, 1) rfl) rfl (aw_stk (st' := []) rfl (aw_ret (dt_X11_rule 30 (57, .return_, 1) rfl) rfl ?_))
            exact h
          · intro q87
            have h := h.2 q87
            refine aw_aload_n (pc' := 8) (dt_X11_wrong 3 (7, .aload_n 0, 1) rfl) rfl rfl (aw_aload_n (pc' := 9) (dt_X11_wrong 4 (8, .aload_n 0, 1) rfl) rfl rfl (aw_getI (pc' := 12) (dt_X11_wrong 5 (9, .getfield 249, 3) rfl) fl_ReturnDeskModel_249 rfl rfl (sk_31 hS53) (aw_putI (pc' := 15) (dt_X11_wrong 6 (12, .putfield 268, 3) rfl) fl_ReturnDeskModel_268 rfl (by decide +kernel) rfl (sk_31 hS53) (aw_ret (dt_X11_wrong 7 (15, .return_, 1) rfl) rfl (aw_stk (st' := []) rfl (aw_ret (dt_X11_rule 30 (57, .return_, 1) rfl) rfl ?_))))))
            exact h
      · intro q44
        have h := h.2 q44
        refine aw_aload_n (pc' := 30) (dt_X11_rule 14 (29, .aload_n 0, 1) rfl) rfl rfl (aw_inV (pc' := 33) (nc1 := 0) (ns1 := 0) (nc := nc) (ns := ns) (ls' := [some (.ref 31)]) (y2 := mX11_wrong) (As := []) (rest := []) (a := 31) (dt_X11_rule 15 (30, .invokevirtual 280, 3) rfl) ok_X11_wrong ln_ReturnDeskModel_280 im_X11_wrong se_X11_wrong pr_X11_wrong (Or.inl ⟨by decide, rfl⟩) rfl (Nat.le_of_ble_eq_true rfl) (Nat.le_of_ble_eq_true rfl) rfl rfl (sk_31 hS42) (aw_aload_n (pc' := 1) (dt_X11_wrong 0 (0, .aload_n 0, 1) rfl) rfl rfl (aw_getI (pc' := 4) (dt_X11_wrong 1 (1, .getfield 268, 3) rfl) fl_ReturnDeskModel_268 rfl rfl (sk_31 hS42) (aw_if_ge (pc' := 7) (tgt := 15) (dt_X11_wrong 2 (4, .ifCond .ge 11, 3) rfl) (by decide) rfl ?_ ?_))))
        · intro q88
          have h := h.1 q88
          refine aw_ret (dt_X11_wrong 7 (15, .return_, 1) rfl) rfl (aw_stk (st' := []) rfl (aw_ret (dt_X11_rule 16 (33, .return_, 1) rfl) rfl ?_))
          exact h
        · intro q88
          have h := h.2 q88
          refine aw_aload_n (pc' := 8) (dt_X11_wrong 3 (7, .aload_n 0, 1) rfl) rfl rfl (aw_aload_n (pc' := 9) (dt_X11_wrong 4 (8, .aload_n 0, 1) rfl) rfl rfl (aw_getI (pc' := 12) (dt_X11_wrong 5 (9, .getfield 249, 3) rfl) fl_ReturnDeskModel_249 rfl rfl (sk_31 hS42) (aw_putI (pc' := 15) (dt_X11_wrong 6 (12, .putfield 268, 3) rfl) fl_ReturnDeskModel_268 rfl (by decide +kernel) rfl (sk_31 hS42) (aw_ret (dt_X11_wrong 7 (15, .return_, 1) rfl) rfl (aw_stk (st' := []) rfl (aw_ret (dt_X11_rule 16 (33, .return_, 1) rfl) rfl ?_))))))
          exact h
    · intro q43
      have h := h.2 q43
      refine aw_ret (dt_X11_rule 9 (19, .return_, 1) rfl) rfl ?_
      exact h

theorem t_X11_begin {E : ZE} {l : Launch} {d nc ns : Nat} {x1 : Int32} {μ : ZM} {K : Option Value → ZM → Prop} (hS : Stat μ) (h :
  AW E l (d + 2) 0 0 mX11_next 0 (zargs 1 [.ref 31]) [] (sI (sI (sI (sI (sI μ 31 56 x1) 31 57 0) 31 54 (-1)) 31 55 0) 31 51 0) (fun v μ1 => v = none ∧ Stat μ1 ∧ 
    K none μ1)) : AW E l (d + 3) nc ns mX11_begin 0 [some (.ref 31), some (.int x1)] [] μ K := by
  refine aw_aload_n (pc' := 1) (dt_X11_begin 0 (0, .aload_n 0, 1) rfl) rfl rfl (aw_iload_n (pc' := 2) (dt_X11_begin 1 (1, .iload_n 1, 1) rfl) rfl rfl (aw_putI (pc' := 5) (dt_X11_begin 2 (2, .putfield 271, 3) rfl) fl_ReturnDeskModel_271 rfl (by decide +kernel) rfl (sk_31 hS) (aw_aload_n (pc' := 6) (dt_X11_begin 3 (5, .aload_n 0, 1) rfl) rfl rfl (aw_iconst (pc' := 7) (v := 0) (dt_X11_begin 4 (6, .iconst 0, 1) rfl) (by decide) rfl (aw_putI (pc' := 10) (dt_X11_begin 5 (7, .putfield 274, 3) rfl) fl_ReturnDeskModel_274 rfl (by decide +kernel) rfl (sk_31 hS.wI) (aw_aload_n (pc' := 11) (dt_X11_begin 6 (10, .aload_n 0, 1) rfl) rfl rfl (aw_iconst (pc' := 12) (v := (-1)) (dt_X11_begin 7 (11, .iconst (-1), 1) rfl) (by decide) rfl (aw_putI (pc' := 15) (dt_X11_begin 8 (12, .putfield 268, 3) rfl) fl_ReturnDeskModel_268 rfl (by decide +kernel) rfl (sk_31 hS.wI.wI) (aw_aload_n (pc' := 16) (dt_X11_begin 9 (15, .aload_n 0, 1) rfl) rfl rfl (aw_iconst (pc' := 17) (v := 0) (dt_X11_begin 10 (16, .iconst 0, 1) rfl) (by decide) rfl (aw_putI (pc' := 20) (dt_X11_begin 11 (17, .putfield 277, 3) rfl) fl_ReturnDeskModel_277 rfl (by decide +kernel) rfl (sk_31 hS.wI.wI.wI) (aw_aload_n (pc' := 21) (dt_X11_begin 12 (20, .aload_n 0, 1) rfl) rfl rfl (aw_iconst (pc' := 22) (v := 0) (dt_X11_begin 13 (21, .iconst 0, 1) rfl) (by decide) rfl (aw_putI (pc' := 25) (dt_X11_begin 14 (22, .putfield 246, 3) rfl) fl_ReturnDeskModel_246 rfl (by decide +kernel) rfl (sk_31 hS.wI.wI.wI.wI) (aw_aload_n (pc' := 26) (dt_X11_begin 15 (25, .aload_n 0, 1) rfl) rfl rfl (aw_callV0 (pc' := 29) (nc := nc) (ns := ns) (y2 := mX11_next) (As := []) (rest := []) (a := 31) (dt_X11_begin 16 (26, .invokevirtual 294, 3) rfl) ok_X11_next ln_ReturnDeskModel_294 im_X11_next se_X11_next pr_X11_next (Or.inl ⟨by decide, rfl⟩) rfl (Nat.le_of_ble_eq_true rfl) (Nat.le_of_ble_eq_true rfl) rfl (sk_31 hS.wI.wI.wI.wI.wI) h ?_))))))))))))))))
  rintro v μ1 ⟨rfl, hS2, h⟩
  refine aw_stk (st' := []) rfl ?_
  refine aw_ret (dt_X11_begin 17 (29, .return_, 1) rfl) rfl ?_
  exact h

theorem t_X11_text {E : ZE} {l : Launch} {d nc ns : Nat} {x1 : Int32} {x2 : Int32} {μ : ZM} {K : Option Value → ZM → Prop} (hS : Stat μ) (h :
  (x1 < 0 →
    K (some (.int (-1))) μ) ∧
  (¬ x1 < 0 →
    (1 < x1 →
      K (some (.int (-1))) μ) ∧
    (¬ 1 < x1 →
      (x2 < 0 →
        K (some (.int (-1))) μ) ∧
      (¬ x2 < 0 →
        (2999 < x2 →
          K (some (.int (-1))) μ) ∧
        (¬ 2999 < x2 →
          (¬ (zI μ 31 42) = 20 →
            AW E l (d + 4) 0 0 mX11_begin 0 (zargs 2 [.ref 31, .int (zI μ 31 42)]) [] μ (fun v μ6 => v = none ∧ Stat μ6 ∧ 
              AW E l (d + 4) 0 0 mX11_rule 0 (zargs 2 [.ref 31]) [] μ6 (fun v μ8 => v = none ∧ Stat μ8 ∧ 
                AW E l (d + 5) nc ns mX11_text 42 [some (.ref 31), some (.int x1), some (.int x2)] [] μ8 K))) ∧
          ((zI μ 31 42) = 20 →
            K (some (.int (-3))) μ)))))) : AW E l (d + 5) nc ns mX11_text 0 [some (.ref 31), some (.int x1), some (.int x2)] [] μ K := by
  refine aw_iload_n (pc' := 1) (dt_X11_text 0 (0, .iload_n 1, 1) rfl) rfl rfl (aw_iconst (pc' := 2) (v := 0) (dt_X11_text 1 (1, .iconst 0, 1) rfl) (by decide) rfl (aw_iconst (pc' := 3) (v := 1) (dt_X11_text 2 (2, .iconst 1, 1) rfl) (by decide) rfl (aw_inS (pc' := 6) (nc1 := 0) (ns1 := 0) (nc := nc) (ns := ns) (ls' := [some (.int x1), some (.int 0), some (.int 1)]) (y2 := mX11_in) (As := [.int x1, .int 0, .int 1]) (rest := []) (dt_X11_text 3 (3, .invokestatic 185, 3) rfl) ok_X11_in ln_ReturnDeskModel_185 sm_X11_in pr_X11_in rfl (Nat.le_of_ble_eq_true rfl) (Nat.le_of_ble_eq_true rfl) rfl rfl (aw_iload_n (pc' := 1) (dt_X11_in 0 (0, .iload_n 0, 1) rfl) rfl rfl (aw_iload_n (pc' := 2) (dt_X11_in 1 (1, .iload_n 1, 1) rfl) rfl rfl (aw_icmp_lt (pc' := 5) (tgt := 14) (dt_X11_in 2 (2, .if_icmp .lt 12, 3) rfl) (by decide) rfl ?_ ?_))))))
  · intro q1
    have h := h.1 q1
    refine aw_iconst (pc' := 15) (v := 0) (dt_X11_in 8 (14, .iconst 0, 1) rfl) (by decide) rfl (aw_iret (dt_X11_in 9 (15, .ireturn, 1) rfl) rfl rfl (aw_stk (st' := [.int 0]) rfl (aw_if_eq_T (pc' := 9) (tgt := 16) (dt_X11_text 4 (6, .ifCond .eq 10, 3) rfl) (by decide) rfl (by decide) (aw_iconst (pc' := 17) (v := (-1)) (dt_X11_text 8 (16, .iconst (-1), 1) rfl) (by decide) rfl (aw_iret (dt_X11_text 9 (17, .ireturn, 1) rfl) rfl rfl ?_)))))
    exact h
  · intro q1
    have h := h.2 q1
    refine aw_iload_n (pc' := 6) (dt_X11_in 3 (5, .iload_n 0, 1) rfl) rfl rfl (aw_iload_n (pc' := 7) (dt_X11_in 4 (6, .iload_n 2, 1) rfl) rfl rfl (aw_icmp_gt (pc' := 10) (tgt := 14) (dt_X11_in 5 (7, .if_icmp .gt 7, 3) rfl) (by decide) rfl ?_ ?_))
    · intro q2
      have h := h.1 q2
      refine aw_iconst (pc' := 15) (v := 0) (dt_X11_in 8 (14, .iconst 0, 1) rfl) (by decide) rfl (aw_iret (dt_X11_in 9 (15, .ireturn, 1) rfl) rfl rfl (aw_stk (st' := [.int 0]) rfl (aw_if_eq_T (pc' := 9) (tgt := 16) (dt_X11_text 4 (6, .ifCond .eq 10, 3) rfl) (by decide) rfl (by decide) (aw_iconst (pc' := 17) (v := (-1)) (dt_X11_text 8 (16, .iconst (-1), 1) rfl) (by decide) rfl (aw_iret (dt_X11_text 9 (17, .ireturn, 1) rfl) rfl rfl ?_)))))
      exact h
    · intro q2
      have h := h.2 q2
      refine aw_iconst (pc' := 11) (v := 1) (dt_X11_in 6 (10, .iconst 1, 1) rfl) (by decide) rfl (aw_goto (tgt := 15) (dt_X11_in 7 (11, .goto 4, 3) rfl) (by decide) (aw_iret (dt_X11_in 9 (15, .ireturn, 1) rfl) rfl rfl (aw_stk (st' := [.int 1]) rfl (aw_if_eq_F (pc' := 9) (tgt := 16) (dt_X11_text 4 (6, .ifCond .eq 10, 3) rfl) (by decide) rfl (by decide) (aw_iload_n (pc' := 10) (dt_X11_text 5 (9, .iload_n 2, 1) rfl) rfl rfl (aw_inS (pc' := 13) (nc1 := 0) (ns1 := 0) (nc := nc) (ns := ns) (ls' := [some (.int x2)]) (y2 := mX11_isDay) (As := [.int x2]) (rest := []) (dt_X11_text 6 (10, .invokestatic 203, 3) rfl) ok_X11_isDay ln_ReturnDeskModel_203 sm_X11_isDay pr_X11_isDay rfl (Nat.le_of_ble_eq_true rfl) (Nat.le_of_ble_eq_true rfl) rfl rfl (aw_iload_n (pc' := 1) (dt_X11_isDay 0 (0, .iload_n 0, 1) rfl) rfl rfl (aw_iconst (pc' := 2) (v := 0) (dt_X11_isDay 1 (1, .iconst 0, 1) rfl) (by decide) rfl (aw_sipush (pc' := 5) (v := 2999) (dt_X11_isDay 2 (2, .sipush 2999, 3) rfl) (by decide) rfl (aw_inS (pc' := 8) (nc1 := 0) (ns1 := 0) (nc := 0) (ns := 0) (ls' := [some (.int x2), some (.int 0), some (.int 2999)]) (y2 := mX11_in) (As := [.int x2, .int 0, .int 2999]) (rest := []) (dt_X11_isDay 3 (5, .invokestatic 185, 3) rfl) ok_X11_in ln_ReturnDeskModel_185 sm_X11_in pr_X11_in rfl (Nat.le_of_ble_eq_true rfl) (Nat.le_of_ble_eq_true rfl) rfl rfl (aw_iload_n (pc' := 1) (dt_X11_in 0 (0, .iload_n 0, 1) rfl) rfl rfl (aw_iload_n (pc' := 2) (dt_X11_in 1 (1, .iload_n 1, 1) rfl) rfl rfl (aw_icmp_lt (pc' := 5) (tgt := 14) (dt_X11_in 2 (2, .if_icmp .lt 12, 3) rfl) (by decide) rfl ?_ ?_)))))))))))))
      · intro q3
        have h := h.1 q3
        refine aw_iconst (pc' := 15) (v := 0) (dt_X11_in 8 (14, .iconst 0, 1) rfl) (by decide) rfl (aw_iret (dt_X11_in 9 (15, .ireturn, 1) rfl) rfl rfl (aw_stk (st' := [.int 0]) rfl (aw_iret (dt_X11_isDay 4 (8, .ireturn, 1) rfl) rfl rfl (aw_stk (st' := [.int 0]) rfl (aw_if_ne_F (pc' := 16) (tgt := 18) (dt_X11_text 7 (13, .ifCond .ne 5, 3) rfl) (by decide) rfl (by decide) (aw_iconst (pc' := 17) (v := (-1)) (dt_X11_text 8 (16, .iconst (-1), 1) rfl) (by decide) rfl (aw_iret (dt_X11_text 9 (17, .ireturn, 1) rfl) rfl rfl ?_)))))))
        exact h
      · intro q3
        have h := h.2 q3
        refine aw_iload_n (pc' := 6) (dt_X11_in 3 (5, .iload_n 0, 1) rfl) rfl rfl (aw_iload_n (pc' := 7) (dt_X11_in 4 (6, .iload_n 2, 1) rfl) rfl rfl (aw_icmp_gt (pc' := 10) (tgt := 14) (dt_X11_in 5 (7, .if_icmp .gt 7, 3) rfl) (by decide) rfl ?_ ?_))
        · intro q4
          have h := h.1 q4
          refine aw_iconst (pc' := 15) (v := 0) (dt_X11_in 8 (14, .iconst 0, 1) rfl) (by decide) rfl (aw_iret (dt_X11_in 9 (15, .ireturn, 1) rfl) rfl rfl (aw_stk (st' := [.int 0]) rfl (aw_iret (dt_X11_isDay 4 (8, .ireturn, 1) rfl) rfl rfl (aw_stk (st' := [.int 0]) rfl (aw_if_ne_F (pc' := 16) (tgt := 18) (dt_X11_text 7 (13, .ifCond .ne 5, 3) rfl) (by decide) rfl (by decide) (aw_iconst (pc' := 17) (v := (-1)) (dt_X11_text 8 (16, .iconst (-1), 1) rfl) (by decide) rfl (aw_iret (dt_X11_text 9 (17, .ireturn, 1) rfl) rfl rfl ?_)))))))
          exact h
        · intro q4
          have h := h.2 q4
          refine aw_iconst (pc' := 11) (v := 1) (dt_X11_in 6 (10, .iconst 1, 1) rfl) (by decide) rfl (aw_goto (tgt := 15) (dt_X11_in 7 (11, .goto 4, 3) rfl) (by decide) (aw_iret (dt_X11_in 9 (15, .ireturn, 1) rfl) rfl rfl (aw_stk (st' := [.int 1]) rfl (aw_iret (dt_X11_isDay 4 (8, .ireturn, 1) rfl) rfl rfl (aw_stk (st' := [.int 1]) rfl (aw_if_ne_T (pc' := 16) (tgt := 18) (dt_X11_text 7 (13, .ifCond .ne 5, 3) rfl) (by decide) rfl (by decide) (aw_aload_n (pc' := 19) (dt_X11_text 10 (18, .aload_n 0, 1) rfl) rfl rfl (aw_getI (pc' := 22) (dt_X11_text 11 (19, .getfield 341, 3) rfl) fl_ReturnDeskModel_341 rfl rfl (sk_31 hS) (aw_bipush (pc' := 24) (v := 20) (dt_X11_text 12 (22, .bipush 20, 2) rfl) (by decide) rfl (aw_icmp_ne (pc' := 27) (tgt := 30) (dt_X11_text 13 (24, .if_icmp .ne 6, 3) rfl) (by decide) rfl ?_ ?_))))))))))
          · intro q5
            have h := h.1 q5
            refine aw_aload_n (pc' := 31) (dt_X11_text 16 (30, .aload_n 0, 1) rfl) rfl rfl (aw_aload_n (pc' := 32) (dt_X11_text 17 (31, .aload_n 0, 1) rfl) rfl rfl (aw_getI (pc' := 35) (dt_X11_text 18 (32, .getfield 341, 3) rfl) fl_ReturnDeskModel_341 rfl rfl (sk_31 hS) (aw_callV0 (pc' := 38) (nc := nc) (ns := ns) (y2 := mX11_begin) (As := [.int (zI μ 31 42)]) (rest := []) (a := 31) (dt_X11_text 19 (35, .invokevirtual 344, 3) rfl) ok_X11_begin ln_ReturnDeskModel_344 im_X11_begin se_X11_begin pr_X11_begin (Or.inl ⟨by decide, rfl⟩) rfl (Nat.le_of_ble_eq_true rfl) (Nat.le_of_ble_eq_true rfl) rfl (sk_31 hS) h ?_)))
            rintro v μ6 ⟨rfl, hS7, h⟩
            refine aw_stk (st' := []) rfl ?_
            refine aw_aload_n (pc' := 39) (dt_X11_text 20 (38, .aload_n 0, 1) rfl) rfl rfl (aw_callV0 (pc' := 42) (nc := nc) (ns := ns) (y2 := mX11_rule) (As := []) (rest := []) (a := 31) (dt_X11_text 21 (39, .invokevirtual 347, 3) rfl) ok_X11_rule ln_ReturnDeskModel_347 im_X11_rule se_X11_rule pr_X11_rule (Or.inl ⟨by decide, rfl⟩) rfl (Nat.le_of_ble_eq_true rfl) (Nat.le_of_ble_eq_true rfl) rfl (sk_31 hS7) h ?_)
            rintro v μ8 ⟨rfl, hS9, h⟩
            refine aw_stk (st' := []) rfl ?_
            exact h
          · intro q5
            have h := h.2 q5
            refine aw_bipush (pc' := 29) (v := (-3)) (dt_X11_text 14 (27, .bipush (-3), 2) rfl) (by decide) rfl (aw_iret (dt_X11_text 15 (29, .ireturn, 1) rfl) rfl rfl ?_)
            exact h

theorem t_X11_text_42 {E : ZE} {l : Launch} {d nc ns : Nat} {x1 : Int32} {x2 : Int32} {μ : ZM} {K : Option Value → ZM → Prop} (hS : Stat μ) (h :
  (0 ≤ (zI μ 31 54) →
    (0 ≤ (zI μ 31 54) →
      ((zI (sI μ 31 41 0) 31 54) < 0 →
        (vp_in (zI (sI μ 31 41 0) 31 42) 20) ∧
        (vp_in (zI (sI (sI μ 31 41 0) 66 (zI (sI μ 31 41 0) 31 42).toNatClampNeg x1) 31 42) 20) ∧
        (vp_in (zI (sI (sI (sI μ 31 41 0) 66 (zI (sI μ 31 41 0) 31 42).toNatClampNeg x1) 67 (zI (sI (sI μ 31 41 0) 66 (zI (sI μ 31 41 0) 31 42).toNatClampNeg x1) 31 42).toNatClampNeg ((zI (sI (sI μ 31 41 0) 66 (zI (sI μ 31 41 0) 31 42).toNatClampNeg x1) 31 1) / 24)) 31 42) 20) ∧
        ∀ μ7, μ7 = (sI (sI (sI (sI μ 31 41 0) 66 (zI (sI μ 31 41 0) 31 42).toNatClampNeg x1) 67 (zI (sI (sI μ 31 41 0) 66 (zI (sI μ 31 41 0) 31 42).toNatClampNeg x1) 31 42).toNatClampNeg ((zI (sI (sI μ 31 41 0) 66 (zI (sI μ 31 41 0) 31 42).toNatClampNeg x1) 31 1) / 24)) 68 (zI (sI (sI (sI μ 31 41 0) 66 (zI (sI μ 31 41 0) 31 42).toNatClampNeg x1) 67 (zI (sI (sI μ 31 41 0) 66 (zI (sI μ 31 41 0) 31 42).toNatClampNeg x1) 31 42).toNatClampNeg ((zI (sI (sI μ 31 41 0) 66 (zI (sI μ 31 41 0) 31 42).toNatClampNeg x1) 31 1) / 24)) 31 42).toNatClampNeg x2) →
        (vp_in (zI μ7 31 42) 22) ∧
        K (some (.int ((zI (sI (sI μ7 69 (zI μ7 31 42).toNatClampNeg (zI μ7 31 57)) 31 42 ((zI (sI μ7 69 (zI μ7 31 42).toNatClampNeg (zI μ7 31 57)) 31 42) + 1)) 31 42) - 1))) (sI (sI μ7 69 (zI μ7 31 42).toNatClampNeg (zI μ7 31 57)) 31 42 ((zI (sI μ7 69 (zI μ7 31 42).toNatClampNeg (zI μ7 31 57)) 31 42) + 1))) ∧
      (¬ (zI (sI μ 31 41 0) 31 54) < 0 →
        K (some (.int ((-100) - (zI (sI μ 31 41 0) 31 54)))) (sI μ 31 41 0))) ∧
    (¬ 0 ≤ (zI μ 31 54) →
      ((zI μ 31 52) = 0 →
        ((zI (sI μ 31 41 0) 31 54) < 0 →
          (vp_in (zI (sI μ 31 41 0) 31 42) 20) ∧
          (vp_in (zI (sI (sI μ 31 41 0) 66 (zI (sI μ 31 41 0) 31 42).toNatClampNeg x1) 31 42) 20) ∧
          (vp_in (zI (sI (sI (sI μ 31 41 0) 66 (zI (sI μ 31 41 0) 31 42).toNatClampNeg x1) 67 (zI (sI (sI μ 31 41 0) 66 (zI (sI μ 31 41 0) 31 42).toNatClampNeg x1) 31 42).toNatClampNeg ((zI (sI (sI μ 31 41 0) 66 (zI (sI μ 31 41 0) 31 42).toNatClampNeg x1) 31 1) / 24)) 31 42) 20) ∧
          ∀ μ16, μ16 = (sI (sI (sI (sI μ 31 41 0) 66 (zI (sI μ 31 41 0) 31 42).toNatClampNeg x1) 67 (zI (sI (sI μ 31 41 0) 66 (zI (sI μ 31 41 0) 31 42).toNatClampNeg x1) 31 42).toNatClampNeg ((zI (sI (sI μ 31 41 0) 66 (zI (sI μ 31 41 0) 31 42).toNatClampNeg x1) 31 1) / 24)) 68 (zI (sI (sI (sI μ 31 41 0) 66 (zI (sI μ 31 41 0) 31 42).toNatClampNeg x1) 67 (zI (sI (sI μ 31 41 0) 66 (zI (sI μ 31 41 0) 31 42).toNatClampNeg x1) 31 42).toNatClampNeg ((zI (sI (sI μ 31 41 0) 66 (zI (sI μ 31 41 0) 31 42).toNatClampNeg x1) 31 1) / 24)) 31 42).toNatClampNeg x2) →
          (vp_in (zI μ16 31 42) 22) ∧
          K (some (.int ((zI (sI (sI μ16 69 (zI μ16 31 42).toNatClampNeg (zI μ16 31 57)) 31 42 ((zI (sI μ16 69 (zI μ16 31 42).toNatClampNeg (zI μ16 31 57)) 31 42) + 1)) 31 42) - 1))) (sI (sI μ16 69 (zI μ16 31 42).toNatClampNeg (zI μ16 31 57)) 31 42 ((zI (sI μ16 69 (zI μ16 31 42).toNatClampNeg (zI μ16 31 57)) 31 42) + 1))) ∧
        (¬ (zI (sI μ 31 41 0) 31 54) < 0 →
          K (some (.int ((-100) - (zI (sI μ 31 41 0) 31 54)))) (sI μ 31 41 0))) ∧
      (¬ (zI μ 31 52) = 0 →
        (0 ≤ (zI μ 31 54) →
          ((zI (sI μ 31 41 0) 31 54) < 0 →
            (vp_in (zI (sI μ 31 41 0) 31 42) 20) ∧
            (vp_in (zI (sI (sI μ 31 41 0) 66 (zI (sI μ 31 41 0) 31 42).toNatClampNeg x1) 31 42) 20) ∧
            (vp_in (zI (sI (sI (sI μ 31 41 0) 66 (zI (sI μ 31 41 0) 31 42).toNatClampNeg x1) 67 (zI (sI (sI μ 31 41 0) 66 (zI (sI μ 31 41 0) 31 42).toNatClampNeg x1) 31 42).toNatClampNeg ((zI (sI (sI μ 31 41 0) 66 (zI (sI μ 31 41 0) 31 42).toNatClampNeg x1) 31 1) / 24)) 31 42) 20) ∧
            ∀ μ25, μ25 = (sI (sI (sI (sI μ 31 41 0) 66 (zI (sI μ 31 41 0) 31 42).toNatClampNeg x1) 67 (zI (sI (sI μ 31 41 0) 66 (zI (sI μ 31 41 0) 31 42).toNatClampNeg x1) 31 42).toNatClampNeg ((zI (sI (sI μ 31 41 0) 66 (zI (sI μ 31 41 0) 31 42).toNatClampNeg x1) 31 1) / 24)) 68 (zI (sI (sI (sI μ 31 41 0) 66 (zI (sI μ 31 41 0) 31 42).toNatClampNeg x1) 67 (zI (sI (sI μ 31 41 0) 66 (zI (sI μ 31 41 0) 31 42).toNatClampNeg x1) 31 42).toNatClampNeg ((zI (sI (sI μ 31 41 0) 66 (zI (sI μ 31 41 0) 31 42).toNatClampNeg x1) 31 1) / 24)) 31 42).toNatClampNeg x2) →
            (vp_in (zI μ25 31 42) 22) ∧
            K (some (.int ((zI (sI (sI μ25 69 (zI μ25 31 42).toNatClampNeg (zI μ25 31 57)) 31 42 ((zI (sI μ25 69 (zI μ25 31 42).toNatClampNeg (zI μ25 31 57)) 31 42) + 1)) 31 42) - 1))) (sI (sI μ25 69 (zI μ25 31 42).toNatClampNeg (zI μ25 31 57)) 31 42 ((zI (sI μ25 69 (zI μ25 31 42).toNatClampNeg (zI μ25 31 57)) 31 42) + 1))) ∧
          (¬ (zI (sI μ 31 41 0) 31 54) < 0 →
            K (some (.int ((-100) - (zI (sI μ 31 41 0) 31 54)))) (sI μ 31 41 0))) ∧
        (¬ 0 ≤ (zI μ 31 54) →
          ((zI (sI (sI μ 31 54 (zI μ 31 50)) 31 41 0) 31 54) < 0 →
            (vp_in (zI (sI (sI μ 31 54 (zI μ 31 50)) 31 41 0) 31 42) 20) ∧
            (vp_in (zI (sI (sI (sI μ 31 54 (zI μ 31 50)) 31 41 0) 66 (zI (sI (sI μ 31 54 (zI μ 31 50)) 31 41 0) 31 42).toNatClampNeg x1) 31 42) 20) ∧
            ∀ μ32, μ32 = (sI (sI (sI (sI μ 31 54 (zI μ 31 50)) 31 41 0) 66 (zI (sI (sI μ 31 54 (zI μ 31 50)) 31 41 0) 31 42).toNatClampNeg x1) 67 (zI (sI (sI (sI μ 31 54 (zI μ 31 50)) 31 41 0) 66 (zI (sI (sI μ 31 54 (zI μ 31 50)) 31 41 0) 31 42).toNatClampNeg x1) 31 42).toNatClampNeg ((zI (sI (sI (sI μ 31 54 (zI μ 31 50)) 31 41 0) 66 (zI (sI (sI μ 31 54 (zI μ 31 50)) 31 41 0) 31 42).toNatClampNeg x1) 31 1) / 24)) →
            (vp_in (zI μ32 31 42) 20) ∧
            (vp_in (zI (sI μ32 68 (zI μ32 31 42).toNatClampNeg x2) 31 42) 22) ∧
            ∀ μ37, μ37 = (sI (sI (sI μ32 68 (zI μ32 31 42).toNatClampNeg x2) 69 (zI (sI μ32 68 (zI μ32 31 42).toNatClampNeg x2) 31 42).toNatClampNeg (zI (sI μ32 68 (zI μ32 31 42).toNatClampNeg x2) 31 57)) 31 42 ((zI (sI (sI μ32 68 (zI μ32 31 42).toNatClampNeg x2) 69 (zI (sI μ32 68 (zI μ32 31 42).toNatClampNeg x2) 31 42).toNatClampNeg (zI (sI μ32 68 (zI μ32 31 42).toNatClampNeg x2) 31 57)) 31 42) + 1)) →
            K (some (.int ((zI μ37 31 42) - 1))) μ37) ∧
          (¬ (zI (sI (sI μ 31 54 (zI μ 31 50)) 31 41 0) 31 54) < 0 →
            K (some (.int ((-100) - (zI (sI (sI μ 31 54 (zI μ 31 50)) 31 41 0) 31 54)))) (sI (sI μ 31 54 (zI μ 31 50)) 31 41 0)))))) ∧
  (¬ 0 ≤ (zI μ 31 54) →
    (¬ (zI μ 31 52) = 59 →
      (0 ≤ (zI μ 31 54) →
        ((zI (sI μ 31 41 0) 31 54) < 0 →
          (vp_in (zI (sI μ 31 41 0) 31 42) 20) ∧
          (vp_in (zI (sI (sI μ 31 41 0) 66 (zI (sI μ 31 41 0) 31 42).toNatClampNeg x1) 31 42) 20) ∧
          (vp_in (zI (sI (sI (sI μ 31 41 0) 66 (zI (sI μ 31 41 0) 31 42).toNatClampNeg x1) 67 (zI (sI (sI μ 31 41 0) 66 (zI (sI μ 31 41 0) 31 42).toNatClampNeg x1) 31 42).toNatClampNeg ((zI (sI (sI μ 31 41 0) 66 (zI (sI μ 31 41 0) 31 42).toNatClampNeg x1) 31 1) / 24)) 31 42) 20) ∧
          ∀ μ46, μ46 = (sI (sI (sI (sI μ 31 41 0) 66 (zI (sI μ 31 41 0) 31 42).toNatClampNeg x1) 67 (zI (sI (sI μ 31 41 0) 66 (zI (sI μ 31 41 0) 31 42).toNatClampNeg x1) 31 42).toNatClampNeg ((zI (sI (sI μ 31 41 0) 66 (zI (sI μ 31 41 0) 31 42).toNatClampNeg x1) 31 1) / 24)) 68 (zI (sI (sI (sI μ 31 41 0) 66 (zI (sI μ 31 41 0) 31 42).toNatClampNeg x1) 67 (zI (sI (sI μ 31 41 0) 66 (zI (sI μ 31 41 0) 31 42).toNatClampNeg x1) 31 42).toNatClampNeg ((zI (sI (sI μ 31 41 0) 66 (zI (sI μ 31 41 0) 31 42).toNatClampNeg x1) 31 1) / 24)) 31 42).toNatClampNeg x2) →
          (vp_in (zI μ46 31 42) 22) ∧
          K (some (.int ((zI (sI (sI μ46 69 (zI μ46 31 42).toNatClampNeg (zI μ46 31 57)) 31 42 ((zI (sI μ46 69 (zI μ46 31 42).toNatClampNeg (zI μ46 31 57)) 31 42) + 1)) 31 42) - 1))) (sI (sI μ46 69 (zI μ46 31 42).toNatClampNeg (zI μ46 31 57)) 31 42 ((zI (sI μ46 69 (zI μ46 31 42).toNatClampNeg (zI μ46 31 57)) 31 42) + 1))) ∧
        (¬ (zI (sI μ 31 41 0) 31 54) < 0 →
          K (some (.int ((-100) - (zI (sI μ 31 41 0) 31 54)))) (sI μ 31 41 0))) ∧
      (¬ 0 ≤ (zI μ 31 54) →
        ((zI μ 31 52) = 0 →
          ((zI (sI μ 31 41 0) 31 54) < 0 →
            (vp_in (zI (sI μ 31 41 0) 31 42) 20) ∧
            (vp_in (zI (sI (sI μ 31 41 0) 66 (zI (sI μ 31 41 0) 31 42).toNatClampNeg x1) 31 42) 20) ∧
            (vp_in (zI (sI (sI (sI μ 31 41 0) 66 (zI (sI μ 31 41 0) 31 42).toNatClampNeg x1) 67 (zI (sI (sI μ 31 41 0) 66 (zI (sI μ 31 41 0) 31 42).toNatClampNeg x1) 31 42).toNatClampNeg ((zI (sI (sI μ 31 41 0) 66 (zI (sI μ 31 41 0) 31 42).toNatClampNeg x1) 31 1) / 24)) 31 42) 20) ∧
            ∀ μ55, μ55 = (sI (sI (sI (sI μ 31 41 0) 66 (zI (sI μ 31 41 0) 31 42).toNatClampNeg x1) 67 (zI (sI (sI μ 31 41 0) 66 (zI (sI μ 31 41 0) 31 42).toNatClampNeg x1) 31 42).toNatClampNeg ((zI (sI (sI μ 31 41 0) 66 (zI (sI μ 31 41 0) 31 42).toNatClampNeg x1) 31 1) / 24)) 68 (zI (sI (sI (sI μ 31 41 0) 66 (zI (sI μ 31 41 0) 31 42).toNatClampNeg x1) 67 (zI (sI (sI μ 31 41 0) 66 (zI (sI μ 31 41 0) 31 42).toNatClampNeg x1) 31 42).toNatClampNeg ((zI (sI (sI μ 31 41 0) 66 (zI (sI μ 31 41 0) 31 42).toNatClampNeg x1) 31 1) / 24)) 31 42).toNatClampNeg x2) →
            (vp_in (zI μ55 31 42) 22) ∧
            K (some (.int ((zI (sI (sI μ55 69 (zI μ55 31 42).toNatClampNeg (zI μ55 31 57)) 31 42 ((zI (sI μ55 69 (zI μ55 31 42).toNatClampNeg (zI μ55 31 57)) 31 42) + 1)) 31 42) - 1))) (sI (sI μ55 69 (zI μ55 31 42).toNatClampNeg (zI μ55 31 57)) 31 42 ((zI (sI μ55 69 (zI μ55 31 42).toNatClampNeg (zI μ55 31 57)) 31 42) + 1))) ∧
          (¬ (zI (sI μ 31 41 0) 31 54) < 0 →
            K (some (.int ((-100) - (zI (sI μ 31 41 0) 31 54)))) (sI μ 31 41 0))) ∧
        (¬ (zI μ 31 52) = 0 →
          (0 ≤ (zI μ 31 54) →
            ((zI (sI μ 31 41 0) 31 54) < 0 →
              (vp_in (zI (sI μ 31 41 0) 31 42) 20) ∧
              (vp_in (zI (sI (sI μ 31 41 0) 66 (zI (sI μ 31 41 0) 31 42).toNatClampNeg x1) 31 42) 20) ∧
              (vp_in (zI (sI (sI (sI μ 31 41 0) 66 (zI (sI μ 31 41 0) 31 42).toNatClampNeg x1) 67 (zI (sI (sI μ 31 41 0) 66 (zI (sI μ 31 41 0) 31 42).toNatClampNeg x1) 31 42).toNatClampNeg ((zI (sI (sI μ 31 41 0) 66 (zI (sI μ 31 41 0) 31 42).toNatClampNeg x1) 31 1) / 24)) 31 42) 20) ∧
              ∀ μ64, μ64 = (sI (sI (sI (sI μ 31 41 0) 66 (zI (sI μ 31 41 0) 31 42).toNatClampNeg x1) 67 (zI (sI (sI μ 31 41 0) 66 (zI (sI μ 31 41 0) 31 42).toNatClampNeg x1) 31 42).toNatClampNeg ((zI (sI (sI μ 31 41 0) 66 (zI (sI μ 31 41 0) 31 42).toNatClampNeg x1) 31 1) / 24)) 68 (zI (sI (sI (sI μ 31 41 0) 66 (zI (sI μ 31 41 0) 31 42).toNatClampNeg x1) 67 (zI (sI (sI μ 31 41 0) 66 (zI (sI μ 31 41 0) 31 42).toNatClampNeg x1) 31 42).toNatClampNeg ((zI (sI (sI μ 31 41 0) 66 (zI (sI μ 31 41 0) 31 42).toNatClampNeg x1) 31 1) / 24)) 31 42).toNatClampNeg x2) →
              (vp_in (zI μ64 31 42) 22) ∧
              K (some (.int ((zI (sI (sI μ64 69 (zI μ64 31 42).toNatClampNeg (zI μ64 31 57)) 31 42 ((zI (sI μ64 69 (zI μ64 31 42).toNatClampNeg (zI μ64 31 57)) 31 42) + 1)) 31 42) - 1))) (sI (sI μ64 69 (zI μ64 31 42).toNatClampNeg (zI μ64 31 57)) 31 42 ((zI (sI μ64 69 (zI μ64 31 42).toNatClampNeg (zI μ64 31 57)) 31 42) + 1))) ∧
            (¬ (zI (sI μ 31 41 0) 31 54) < 0 →
              K (some (.int ((-100) - (zI (sI μ 31 41 0) 31 54)))) (sI μ 31 41 0))) ∧
          (¬ 0 ≤ (zI μ 31 54) →
            ((zI (sI (sI μ 31 54 (zI μ 31 50)) 31 41 0) 31 54) < 0 →
              (vp_in (zI (sI (sI μ 31 54 (zI μ 31 50)) 31 41 0) 31 42) 20) ∧
              (vp_in (zI (sI (sI (sI μ 31 54 (zI μ 31 50)) 31 41 0) 66 (zI (sI (sI μ 31 54 (zI μ 31 50)) 31 41 0) 31 42).toNatClampNeg x1) 31 42) 20) ∧
              ∀ μ71, μ71 = (sI (sI (sI (sI μ 31 54 (zI μ 31 50)) 31 41 0) 66 (zI (sI (sI μ 31 54 (zI μ 31 50)) 31 41 0) 31 42).toNatClampNeg x1) 67 (zI (sI (sI (sI μ 31 54 (zI μ 31 50)) 31 41 0) 66 (zI (sI (sI μ 31 54 (zI μ 31 50)) 31 41 0) 31 42).toNatClampNeg x1) 31 42).toNatClampNeg ((zI (sI (sI (sI μ 31 54 (zI μ 31 50)) 31 41 0) 66 (zI (sI (sI μ 31 54 (zI μ 31 50)) 31 41 0) 31 42).toNatClampNeg x1) 31 1) / 24)) →
              (vp_in (zI μ71 31 42) 20) ∧
              (vp_in (zI (sI μ71 68 (zI μ71 31 42).toNatClampNeg x2) 31 42) 22) ∧
              ∀ μ76, μ76 = (sI (sI (sI μ71 68 (zI μ71 31 42).toNatClampNeg x2) 69 (zI (sI μ71 68 (zI μ71 31 42).toNatClampNeg x2) 31 42).toNatClampNeg (zI (sI μ71 68 (zI μ71 31 42).toNatClampNeg x2) 31 57)) 31 42 ((zI (sI (sI μ71 68 (zI μ71 31 42).toNatClampNeg x2) 69 (zI (sI μ71 68 (zI μ71 31 42).toNatClampNeg x2) 31 42).toNatClampNeg (zI (sI μ71 68 (zI μ71 31 42).toNatClampNeg x2) 31 57)) 31 42) + 1)) →
              K (some (.int ((zI μ76 31 42) - 1))) μ76) ∧
            (¬ (zI (sI (sI μ 31 54 (zI μ 31 50)) 31 41 0) 31 54) < 0 →
              K (some (.int ((-100) - (zI (sI (sI μ 31 54 (zI μ 31 50)) 31 41 0) 31 54)))) (sI (sI μ 31 54 (zI μ 31 50)) 31 41 0)))))) ∧
    ((zI μ 31 52) = 59 →
      AW E l (d + 4) 0 0 mX11_next 0 (zargs 1 [.ref 31]) [] μ (fun v μ79 => v = none ∧ Stat μ79 ∧ 
        AW E l (d + 4) 0 0 mX11_rule 0 (zargs 2 [.ref 31]) [] μ79 (fun v μ81 => v = none ∧ Stat μ81 ∧ 
          AW E l (d + 5) nc ns mX11_text 42 [some (.ref 31), some (.int x1), some (.int x2)] [] μ81 K))))) : AW E l (d + 5) nc ns mX11_text 42 [some (.ref 31), some (.int x1), some (.int x2)] [] μ K := by
  refine aw_aload_n (pc' := 43) (dt_X11_text 22 (42, .aload_n 0, 1) rfl) rfl rfl (aw_getI (pc' := 46) (dt_X11_text 23 (43, .getfield 268, 3) rfl) fl_ReturnDeskModel_268 rfl rfl (sk_31 hS) (aw_if_ge (pc' := 49) (tgt := 69) (dt_X11_text 24 (46, .ifCond .ge 23, 3) rfl) (by decide) rfl ?_ ?_))
  · intro q1
    have h := h.1 q1
    refine aw_aload_n (pc' := 70) (dt_X11_text 34 (69, .aload_n 0, 1) rfl) rfl rfl (aw_getI (pc' := 73) (dt_X11_text 35 (70, .getfield 268, 3) rfl) fl_ReturnDeskModel_268 rfl rfl (sk_31 hS) (aw_if_ge (pc' := 76) (tgt := 87) (dt_X11_text 36 (73, .ifCond .ge 14, 3) rfl) (by decide) rfl ?_ ?_))
    · intro q2
      have h := h.1 q2
      refine aw_aload_n (pc' := 88) (dt_X11_text 42 (87, .aload_n 0, 1) rfl) rfl rfl (aw_iconst (pc' := 89) (v := 0) (dt_X11_text 43 (88, .iconst 0, 1) rfl) (by decide) rfl (aw_putI (pc' := 92) (dt_X11_text 44 (89, .putfield 239, 3) rfl) fl_ReturnDeskModel_239 rfl (by decide +kernel) rfl (sk_31 hS) (aw_aload_n (pc' := 93) (dt_X11_text 45 (92, .aload_n 0, 1) rfl) rfl rfl (aw_getI (pc' := 96) (dt_X11_text 46 (93, .getfield 268, 3) rfl) fl_ReturnDeskModel_268 rfl rfl (sk_31 hS.wI) (aw_if_lt (pc' := 99) (tgt := 107) (dt_X11_text 47 (96, .ifCond .lt 11, 3) rfl) (by decide) rfl ?_ ?_)))))
      · intro q3
        have h := h.1 q3
        obtain ⟨g4, h⟩ := h
        obtain ⟨g5, h⟩ := h
        obtain ⟨g6, h⟩ := h
        refine aw_aload_n (pc' := 108) (dt_X11_text 53 (107, .aload_n 0, 1) rfl) rfl rfl (aw_getAs (pc' := 111) (dt_X11_text 54 (108, .getfield 114, 3) rfl) fl_ReturnDeskModel_114 rfl rfl (sk_31 hS.wI) (sa_31_43 hS.wI) (aw_aload_n (pc' := 112) (dt_X11_text 55 (111, .aload_n 0, 1) rfl) rfl rfl (aw_getI (pc' := 115) (dt_X11_text 56 (112, .getfield 341, 3) rfl) fl_ReturnDeskModel_341 rfl rfl (sk_31 hS.wI) (aw_iload_n (pc' := 116) (dt_X11_text 57 (115, .iload_n 1, 1) rfl) rfl rfl (aw_iast (pc' := 117) (dt_X11_text 58 (116, .iastore, 1) rfl) rfl (sk_66 hS.wI) (by decide) (vin_eq (sl_66 hS.wI) g4) (aw_aload_n (pc' := 118) (dt_X11_text 59 (117, .aload_n 0, 1) rfl) rfl rfl (aw_getAs (pc' := 121) (dt_X11_text 60 (118, .getfield 117, 3) rfl) fl_ReturnDeskModel_117 rfl rfl (sk_31 hS.wI.wI) (sa_31_44 hS.wI.wI) (aw_aload_n (pc' := 122) (dt_X11_text 61 (121, .aload_n 0, 1) rfl) rfl rfl (aw_getI (pc' := 125) (dt_X11_text 62 (122, .getfield 341, 3) rfl) fl_ReturnDeskModel_341 rfl rfl (sk_31 hS.wI.wI) (aw_aload_n (pc' := 126) (dt_X11_text 63 (125, .aload_n 0, 1) rfl) rfl rfl (aw_inV (pc' := 129) (nc1 := 0) (ns1 := 0) (nc := nc) (ns := ns) (ls' := [some (.ref 31)]) (y2 := mX11_today) (As := []) (rest := [.int (zI (sI (sI μ 31 41 0) 66 (zI (sI μ 31 41 0) 31 42).toNatClampNeg x1) 31 42), .ref 67]) (a := 31) (dt_X11_text 64 (126, .invokevirtual 224, 3) rfl) ok_X11_today ln_ReturnDeskModel_224 im_X11_today se_X11_today pr_X11_today (Or.inl ⟨by decide, rfl⟩) rfl (Nat.le_of_ble_eq_true rfl) (Nat.le_of_ble_eq_true rfl) rfl rfl (sk_31 hS.wI.wI) (aw_aload_n (pc' := 1) (dt_X11_today 0 (0, .aload_n 0, 1) rfl) rfl rfl (aw_getI (pc' := 4) (dt_X11_today 1 (1, .getfield 189, 3) rfl) fl_ReturnDeskModel_189 rfl rfl (sk_31 hS.wI.wI) (aw_bipush (pc' := 6) (v := 24) (dt_X11_today 2 (4, .bipush 24, 2) rfl) (by decide) rfl (aw_idiv (pc' := 7) (dt_X11_today 3 (6, .idiv, 1) rfl) (by decide) rfl (aw_iret (dt_X11_today 4 (7, .ireturn, 1) rfl) rfl rfl (aw_stk (st' := [.int ((zI (sI (sI μ 31 41 0) 66 (zI (sI μ 31 41 0) 31 42).toNatClampNeg x1) 31 1) / 24), .int (zI (sI (sI μ 31 41 0) 66 (zI (sI μ 31 41 0) 31 42).toNatClampNeg x1) 31 42), .ref 67]) rfl (aw_iast (pc' := 130) (dt_X11_text 65 (129, .iastore, 1) rfl) rfl (sk_67 hS.wI.wI) (by decide) (vin_eq (sl_67 hS.wI.wI) g5) (aw_aload_n (pc' := 131) (dt_X11_text 66 (130, .aload_n 0, 1) rfl) rfl rfl (aw_getAs (pc' := 134) (dt_X11_text 67 (131, .getfield 120, 3) rfl) fl_ReturnDeskModel_120 rfl rfl (sk_31 hS.wI.wI.wI) (sa_31_45 hS.wI.wI.wI) (aw_aload_n (pc' := 135) (dt_X11_text 68 (134, .aload_n 0, 1) rfl) rfl rfl (aw_getI (pc' := 138) (dt_X11_text 69 (135, .getfield 341, 3) rfl) fl_ReturnDeskModel_341 rfl rfl (sk_31 hS.wI.wI.wI) (aw_iload_n (pc' := 139) (dt_X11_text 70 (138, .iload_n 2, 1) rfl) rfl rfl (aw_iast (pc' := 140) (dt_X11_text 71 (139, .iastore, 1) rfl) rfl (sk_68 hS.wI.wI.wI) (by decide) (vin_eq (sl_68 hS.wI.wI.wI) g6) ?_))))))))))))))))))))))))
        refine aw_mem (fun μ7 eμ8 => ?_)
        have h := h μ7 eμ8
        have hS9 : Stat μ7 := by rw [eμ8]; exact hS.wI.wI.wI.wI
        obtain ⟨g10, h⟩ := h
        refine aw_aload_n (pc' := 141) (dt_X11_text 72 (140, .aload_n 0, 1) rfl) rfl rfl (aw_getAs (pc' := 144) (dt_X11_text 73 (141, .getfield 123, 3) rfl) fl_ReturnDeskModel_123 rfl rfl (sk_31 hS9) (sa_31_46 hS9) (aw_aload_n (pc' := 145) (dt_X11_text 74 (144, .aload_n 0, 1) rfl) rfl rfl (aw_getI (pc' := 148) (dt_X11_text 75 (145, .getfield 341, 3) rfl) fl_ReturnDeskModel_341 rfl rfl (sk_31 hS9) (aw_aload_n (pc' := 149) (dt_X11_text 76 (148, .aload_n 0, 1) rfl) rfl rfl (aw_getI (pc' := 152) (dt_X11_text 77 (149, .getfield 274, 3) rfl) fl_ReturnDeskModel_274 rfl rfl (sk_31 hS9) (aw_iast (pc' := 153) (dt_X11_text 78 (152, .iastore, 1) rfl) rfl (sk_69 hS9) (by decide) (vin_eq (sl_69 hS9) g10) (aw_aload_n (pc' := 154) (dt_X11_text 79 (153, .aload_n 0, 1) rfl) rfl rfl (aw_dup (pc' := 155) (dt_X11_text 80 (154, .dup, 1) rfl) rfl rfl (aw_getI (pc' := 158) (dt_X11_text 81 (155, .getfield 341, 3) rfl) fl_ReturnDeskModel_341 rfl rfl (sk_31 hS9.wI) (aw_iconst (pc' := 159) (v := 1) (dt_X11_text 82 (158, .iconst 1, 1) rfl) (by decide) rfl (aw_iadd (pc' := 160) (dt_X11_text 83 (159, .iadd, 1) rfl) rfl (aw_putI (pc' := 163) (dt_X11_text 84 (160, .putfield 341, 3) rfl) fl_ReturnDeskModel_341 rfl (by decide +kernel) rfl (sk_31 hS9.wI) (aw_aload_n (pc' := 164) (dt_X11_text 85 (163, .aload_n 0, 1) rfl) rfl rfl (aw_getI (pc' := 167) (dt_X11_text 86 (164, .getfield 341, 3) rfl) fl_ReturnDeskModel_341 rfl rfl (sk_31 hS9.wI.wI) (aw_iconst (pc' := 168) (v := 1) (dt_X11_text 87 (167, .iconst 1, 1) rfl) (by decide) rfl (aw_isub (pc' := 169) (dt_X11_text 88 (168, .isub, 1) rfl) rfl (aw_iret (dt_X11_text 89 (169, .ireturn, 1) rfl) rfl rfl ?_)))))))))))))))))
        exact h
      · intro q3
        have h := h.2 q3
        refine aw_bipush (pc' := 101) (v := (-100)) (dt_X11_text 48 (99, .bipush (-100), 2) rfl) (by decide) rfl (aw_aload_n (pc' := 102) (dt_X11_text 49 (101, .aload_n 0, 1) rfl) rfl rfl (aw_getI (pc' := 105) (dt_X11_text 50 (102, .getfield 268, 3) rfl) fl_ReturnDeskModel_268 rfl rfl (sk_31 hS.wI) (aw_isub (pc' := 106) (dt_X11_text 51 (105, .isub, 1) rfl) rfl (aw_iret (dt_X11_text 52 (106, .ireturn, 1) rfl) rfl rfl ?_))))
        exact h
    · intro q2
      have h := h.2 q2
      refine aw_aload_n (pc' := 77) (dt_X11_text 37 (76, .aload_n 0, 1) rfl) rfl rfl (aw_getI (pc' := 80) (dt_X11_text 38 (77, .getfield 252, 3) rfl) fl_ReturnDeskModel_252 rfl rfl (sk_31 hS) (aw_if_eq (pc' := 83) (tgt := 87) (dt_X11_text 39 (80, .ifCond .eq 7, 3) rfl) (by decide) rfl ?_ ?_))
      · intro q11
        have h := h.1 q11
        refine aw_aload_n (pc' := 88) (dt_X11_text 42 (87, .aload_n 0, 1) rfl) rfl rfl (aw_iconst (pc' := 89) (v := 0) (dt_X11_text 43 (88, .iconst 0, 1) rfl) (by decide) rfl (aw_putI (pc' := 92) (dt_X11_text 44 (89, .putfield 239, 3) rfl) fl_ReturnDeskModel_239 rfl (by decide +kernel) rfl (sk_31 hS) (aw_aload_n (pc' := 93) (dt_X11_text 45 (92, .aload_n 0, 1) rfl) rfl rfl (aw_getI (pc' := 96) (dt_X11_text 46 (93, .getfield 268, 3) rfl) fl_ReturnDeskModel_268 rfl rfl (sk_31 hS.wI) (aw_if_lt (pc' := 99) (tgt := 107) (dt_X11_text 47 (96, .ifCond .lt 11, 3) rfl) (by decide) rfl ?_ ?_)))))
        · intro q12
          have h := h.1 q12
          obtain ⟨g13, h⟩ := h
          obtain ⟨g14, h⟩ := h
          obtain ⟨g15, h⟩ := h
          refine aw_aload_n (pc' := 108) (dt_X11_text 53 (107, .aload_n 0, 1) rfl) rfl rfl (aw_getAs (pc' := 111) (dt_X11_text 54 (108, .getfield 114, 3) rfl) fl_ReturnDeskModel_114 rfl rfl (sk_31 hS.wI) (sa_31_43 hS.wI) (aw_aload_n (pc' := 112) (dt_X11_text 55 (111, .aload_n 0, 1) rfl) rfl rfl (aw_getI (pc' := 115) (dt_X11_text 56 (112, .getfield 341, 3) rfl) fl_ReturnDeskModel_341 rfl rfl (sk_31 hS.wI) (aw_iload_n (pc' := 116) (dt_X11_text 57 (115, .iload_n 1, 1) rfl) rfl rfl (aw_iast (pc' := 117) (dt_X11_text 58 (116, .iastore, 1) rfl) rfl (sk_66 hS.wI) (by decide) (vin_eq (sl_66 hS.wI) g13) (aw_aload_n (pc' := 118) (dt_X11_text 59 (117, .aload_n 0, 1) rfl) rfl rfl (aw_getAs (pc' := 121) (dt_X11_text 60 (118, .getfield 117, 3) rfl) fl_ReturnDeskModel_117 rfl rfl (sk_31 hS.wI.wI) (sa_31_44 hS.wI.wI) (aw_aload_n (pc' := 122) (dt_X11_text 61 (121, .aload_n 0, 1) rfl) rfl rfl (aw_getI (pc' := 125) (dt_X11_text 62 (122, .getfield 341, 3) rfl) fl_ReturnDeskModel_341 rfl rfl (sk_31 hS.wI.wI) (aw_aload_n (pc' := 126) (dt_X11_text 63 (125, .aload_n 0, 1) rfl) rfl rfl (aw_inV (pc' := 129) (nc1 := 0) (ns1 := 0) (nc := nc) (ns := ns) (ls' := [some (.ref 31)]) (y2 := mX11_today) (As := []) (rest := [.int (zI (sI (sI μ 31 41 0) 66 (zI (sI μ 31 41 0) 31 42).toNatClampNeg x1) 31 42), .ref 67]) (a := 31) (dt_X11_text 64 (126, .invokevirtual 224, 3) rfl) ok_X11_today ln_ReturnDeskModel_224 im_X11_today se_X11_today pr_X11_today (Or.inl ⟨by decide, rfl⟩) rfl (Nat.le_of_ble_eq_true rfl) (Nat.le_of_ble_eq_true rfl) rfl rfl (sk_31 hS.wI.wI) (aw_aload_n (pc' := 1) (dt_X11_today 0 (0, .aload_n 0, 1) rfl) rfl rfl (aw_getI (pc' := 4) (dt_X11_today 1 (1, .getfield 189, 3) rfl) fl_ReturnDeskModel_189 rfl rfl (sk_31 hS.wI.wI) (aw_bipush (pc' := 6) (v := 24) (dt_X11_today 2 (4, .bipush 24, 2) rfl) (by decide) rfl (aw_idiv (pc' := 7) (dt_X11_today 3 (6, .idiv, 1) rfl) (by decide) rfl (aw_iret (dt_X11_today 4 (7, .ireturn, 1) rfl) rfl rfl (aw_stk (st' := [.int ((zI (sI (sI μ 31 41 0) 66 (zI (sI μ 31 41 0) 31 42).toNatClampNeg x1) 31 1) / 24), .int (zI (sI (sI μ 31 41 0) 66 (zI (sI μ 31 41 0) 31 42).toNatClampNeg x1) 31 42), .ref 67]) rfl (aw_iast (pc' := 130) (dt_X11_text 65 (129, .iastore, 1) rfl) rfl (sk_67 hS.wI.wI) (by decide) (vin_eq (sl_67 hS.wI.wI) g14) (aw_aload_n (pc' := 131) (dt_X11_text 66 (130, .aload_n 0, 1) rfl) rfl rfl (aw_getAs (pc' := 134) (dt_X11_text 67 (131, .getfield 120, 3) rfl) fl_ReturnDeskModel_120 rfl rfl (sk_31 hS.wI.wI.wI) (sa_31_45 hS.wI.wI.wI) (aw_aload_n (pc' := 135) (dt_X11_text 68 (134, .aload_n 0, 1) rfl) rfl rfl (aw_getI (pc' := 138) (dt_X11_text 69 (135, .getfield 341, 3) rfl) fl_ReturnDeskModel_341 rfl rfl (sk_31 hS.wI.wI.wI) (aw_iload_n (pc' := 139) (dt_X11_text 70 (138, .iload_n 2, 1) rfl) rfl rfl (aw_iast (pc' := 140) (dt_X11_text 71 (139, .iastore, 1) rfl) rfl (sk_68 hS.wI.wI.wI) (by decide) (vin_eq (sl_68 hS.wI.wI.wI) g15) ?_))))))))))))))))))))))))
          refine aw_mem (fun μ16 eμ17 => ?_)
          have h := h μ16 eμ17
          have hS18 : Stat μ16 := by rw [eμ17]; exact hS.wI.wI.wI.wI
          obtain ⟨g19, h⟩ := h
          refine aw_aload_n (pc' := 141) (dt_X11_text 72 (140, .aload_n 0, 1) rfl) rfl rfl (aw_getAs (pc' := 144) (dt_X11_text 73 (141, .getfield 123, 3) rfl) fl_ReturnDeskModel_123 rfl rfl (sk_31 hS18) (sa_31_46 hS18) (aw_aload_n (pc' := 145) (dt_X11_text 74 (144, .aload_n 0, 1) rfl) rfl rfl (aw_getI (pc' := 148) (dt_X11_text 75 (145, .getfield 341, 3) rfl) fl_ReturnDeskModel_341 rfl rfl (sk_31 hS18) (aw_aload_n (pc' := 149) (dt_X11_text 76 (148, .aload_n 0, 1) rfl) rfl rfl (aw_getI (pc' := 152) (dt_X11_text 77 (149, .getfield 274, 3) rfl) fl_ReturnDeskModel_274 rfl rfl (sk_31 hS18) (aw_iast (pc' := 153) (dt_X11_text 78 (152, .iastore, 1) rfl) rfl (sk_69 hS18) (by decide) (vin_eq (sl_69 hS18) g19) (aw_aload_n (pc' := 154) (dt_X11_text 79 (153, .aload_n 0, 1) rfl) rfl rfl (aw_dup (pc' := 155) (dt_X11_text 80 (154, .dup, 1) rfl) rfl rfl (aw_getI (pc' := 158) (dt_X11_text 81 (155, .getfield 341, 3) rfl) fl_ReturnDeskModel_341 rfl rfl (sk_31 hS18.wI) (aw_iconst (pc' := 159) (v := 1) (dt_X11_text 82 (158, .iconst 1, 1) rfl) (by decide) rfl (aw_iadd (pc' := 160) (dt_X11_text 83 (159, .iadd, 1) rfl) rfl (aw_putI (pc' := 163) (dt_X11_text 84 (160, .putfield 341, 3) rfl) fl_ReturnDeskModel_341 rfl (by decide +kernel) rfl (sk_31 hS18.wI) (aw_aload_n (pc' := 164) (dt_X11_text 85 (163, .aload_n 0, 1) rfl) rfl rfl (aw_getI (pc' := 167) (dt_X11_text 86 (164, .getfield 341, 3) rfl) fl_ReturnDeskModel_341 rfl rfl (sk_31 hS18.wI.wI) (aw_iconst (pc' := 168) (v := 1) (dt_X11_text 87 (167, .iconst 1, 1) rfl) (by decide) rfl (aw_isub (pc' := 169) (dt_X11_text 88 (168, .isub, 1) rfl) rfl (aw_iret (dt_X11_text 89 (169, .ireturn, 1) rfl) rfl rfl ?_)))))))))))))))))
          exact h
        · intro q12
          have h := h.2 q12
          refine aw_bipush (pc' := 101) (v := (-100)) (dt_X11_text 48 (99, .bipush (-100), 2) rfl) (by decide) rfl (aw_aload_n (pc' := 102) (dt_X11_text 49 (101, .aload_n 0, 1) rfl) rfl rfl (aw_getI (pc' := 105) (dt_X11_text 50 (102, .getfield 268, 3) rfl) fl_ReturnDeskModel_268 rfl rfl (sk_31 hS.wI) (aw_isub (pc' := 106) (dt_X11_text 51 (105, .isub, 1) rfl) rfl (aw_iret (dt_X11_text 52 (106, .ireturn, 1) rfl) rfl rfl ?_))))
          exact h
      · intro q11
        have h := h.2 q11
        refine aw_aload_n (pc' := 84) (dt_X11_text 40 (83, .aload_n 0, 1) rfl) rfl rfl (aw_inV (pc' := 87) (nc1 := 0) (ns1 := 0) (nc := nc) (ns := ns) (ls' := [some (.ref 31)]) (y2 := mX11_wrong) (As := []) (rest := []) (a := 31) (dt_X11_text 41 (84, .invokevirtual 280, 3) rfl) ok_X11_wrong ln_ReturnDeskModel_280 im_X11_wrong se_X11_wrong pr_X11_wrong (Or.inl ⟨by decide, rfl⟩) rfl (Nat.le_of_ble_eq_true rfl) (Nat.le_of_ble_eq_true rfl) rfl rfl (sk_31 hS) (aw_aload_n (pc' := 1) (dt_X11_wrong 0 (0, .aload_n 0, 1) rfl) rfl rfl (aw_getI (pc' := 4) (dt_X11_wrong 1 (1, .getfield 268, 3) rfl) fl_ReturnDeskModel_268 rfl rfl (sk_31 hS) (aw_if_ge (pc' := 7) (tgt := 15) (dt_X11_wrong 2 (4, .ifCond .ge 11, 3) rfl) (by decide) rfl ?_ ?_))))
        · intro q20
          have h := h.1 q20
          refine aw_ret (dt_X11_wrong 7 (15, .return_, 1) rfl) rfl (aw_stk (st' := []) rfl (aw_aload_n (pc' := 88) (dt_X11_text 42 (87, .aload_n 0, 1) rfl) rfl rfl (aw_iconst (pc' := 89) (v := 0) (dt_X11_text 43 (88, .iconst 0, 1) rfl) (by decide) rfl (aw_putI (pc' := 92) (dt_X11_text 44 (89, .putfield 239, 3) rfl) fl_ReturnDeskModel_239 rfl (by decide +kernel) rfl (sk_31 hS) (aw_aload_n (pc' := 93) (dt_X11_text 45 (92, .aload_n 0, 1) rfl) rfl rfl (aw_getI (pc' := 96) (dt_X11_text 46 (93, .getfield 268, 3) rfl) fl_ReturnDeskModel_268 rfl rfl (sk_31 hS.wI) (aw_if_lt (pc' := 99) (tgt := 107) (dt_X11_text 47 (96, .ifCond .lt 11, 3) rfl) (by decide) rfl ?_ ?_)))))))
          · intro q21
            have h := h.1 q21
            obtain ⟨g22, h⟩ := h
            obtain ⟨g23, h⟩ := h
            obtain ⟨g24, h⟩ := h
            refine aw_aload_n (pc' := 108) (dt_X11_text 53 (107, .aload_n 0, 1) rfl) rfl rfl (aw_getAs (pc' := 111) (dt_X11_text 54 (108, .getfield 114, 3) rfl) fl_ReturnDeskModel_114 rfl rfl (sk_31 hS.wI) (sa_31_43 hS.wI) (aw_aload_n (pc' := 112) (dt_X11_text 55 (111, .aload_n 0, 1) rfl) rfl rfl (aw_getI (pc' := 115) (dt_X11_text 56 (112, .getfield 341, 3) rfl) fl_ReturnDeskModel_341 rfl rfl (sk_31 hS.wI) (aw_iload_n (pc' := 116) (dt_X11_text 57 (115, .iload_n 1, 1) rfl) rfl rfl (aw_iast (pc' := 117) (dt_X11_text 58 (116, .iastore, 1) rfl) rfl (sk_66 hS.wI) (by decide) (vin_eq (sl_66 hS.wI) g22) (aw_aload_n (pc' := 118) (dt_X11_text 59 (117, .aload_n 0, 1) rfl) rfl rfl (aw_getAs (pc' := 121) (dt_X11_text 60 (118, .getfield 117, 3) rfl) fl_ReturnDeskModel_117 rfl rfl (sk_31 hS.wI.wI) (sa_31_44 hS.wI.wI) (aw_aload_n (pc' := 122) (dt_X11_text 61 (121, .aload_n 0, 1) rfl) rfl rfl (aw_getI (pc' := 125) (dt_X11_text 62 (122, .getfield 341, 3) rfl) fl_ReturnDeskModel_341 rfl rfl (sk_31 hS.wI.wI) (aw_aload_n (pc' := 126) (dt_X11_text 63 (125, .aload_n 0, 1) rfl) rfl rfl (aw_inV (pc' := 129) (nc1 := 0) (ns1 := 0) (nc := nc) (ns := ns) (ls' := [some (.ref 31)]) (y2 := mX11_today) (As := []) (rest := [.int (zI (sI (sI μ 31 41 0) 66 (zI (sI μ 31 41 0) 31 42).toNatClampNeg x1) 31 42), .ref 67]) (a := 31) (dt_X11_text 64 (126, .invokevirtual 224, 3) rfl) ok_X11_today ln_ReturnDeskModel_224 im_X11_today se_X11_today pr_X11_today (Or.inl ⟨by decide, rfl⟩) rfl (Nat.le_of_ble_eq_true rfl) (Nat.le_of_ble_eq_true rfl) rfl rfl (sk_31 hS.wI.wI) (aw_aload_n (pc' := 1) (dt_X11_today 0 (0, .aload_n 0, 1) rfl) rfl rfl (aw_getI (pc' := 4) (dt_X11_today 1 (1, .getfield 189, 3) rfl) fl_ReturnDeskModel_189 rfl rfl (sk_31 hS.wI.wI) (aw_bipush (pc' := 6) (v := 24) (dt_X11_today 2 (4, .bipush 24, 2) rfl) (by decide) rfl (aw_idiv (pc' := 7) (dt_X11_today 3 (6, .idiv, 1) rfl) (by decide) rfl (aw_iret (dt_X11_today 4 (7, .ireturn, 1) rfl) rfl rfl (aw_stk (st' := [.int ((zI (sI (sI μ 31 41 0) 66 (zI (sI μ 31 41 0) 31 42).toNatClampNeg x1) 31 1) / 24), .int (zI (sI (sI μ 31 41 0) 66 (zI (sI μ 31 41 0) 31 42).toNatClampNeg x1) 31 42), .ref 67]) rfl (aw_iast (pc' := 130) (dt_X11_text 65 (129, .iastore, 1) rfl) rfl (sk_67 hS.wI.wI) (by decide) (vin_eq (sl_67 hS.wI.wI) g23) (aw_aload_n (pc' := 131) (dt_X11_text 66 (130, .aload_n 0, 1) rfl) rfl rfl (aw_getAs (pc' := 134) (dt_X11_text 67 (131, .getfield 120, 3) rfl) fl_ReturnDeskModel_120 rfl rfl (sk_31 hS.wI.wI.wI) (sa_31_45 hS.wI.wI.wI) (aw_aload_n (pc' := 135) (dt_X11_text 68 (134, .aload_n 0, 1) rfl) rfl rfl (aw_getI (pc' := 138) (dt_X11_text 69 (135, .getfield 341, 3) rfl) fl_ReturnDeskModel_341 rfl rfl (sk_31 hS.wI.wI.wI) (aw_iload_n (pc' := 139) (dt_X11_text 70 (138, .iload_n 2, 1) rfl) rfl rfl (aw_iast (pc' := 140) (dt_X11_text 71 (139, .iastore, 1) rfl) rfl (sk_68 hS.wI.wI.wI) (by decide) (vin_eq (sl_68 hS.wI.wI.wI) g24) ?_))))))))))))))))))))))))
            refine aw_mem (fun μ25 eμ26 => ?_)
            have h := h μ25 eμ26
            have hS27 : Stat μ25 := by rw [eμ26]; exact hS.wI.wI.wI.wI
            obtain ⟨g28, h⟩ := h
            refine aw_aload_n (pc' := 141) (dt_X11_text 72 (140, .aload_n 0, 1) rfl) rfl rfl (aw_getAs (pc' := 144) (dt_X11_text 73 (141, .getfield 123, 3) rfl) fl_ReturnDeskModel_123 rfl rfl (sk_31 hS27) (sa_31_46 hS27) (aw_aload_n (pc' := 145) (dt_X11_text 74 (144, .aload_n 0, 1) rfl) rfl rfl (aw_getI (pc' := 148) (dt_X11_text 75 (145, .getfield 341, 3) rfl) fl_ReturnDeskModel_341 rfl rfl (sk_31 hS27) (aw_aload_n (pc' := 149) (dt_X11_text 76 (148, .aload_n 0, 1) rfl) rfl rfl (aw_getI (pc' := 152) (dt_X11_text 77 (149, .getfield 274, 3) rfl) fl_ReturnDeskModel_274 rfl rfl (sk_31 hS27) (aw_iast (pc' := 153) (dt_X11_text 78 (152, .iastore, 1) rfl) rfl (sk_69 hS27) (by decide) (vin_eq (sl_69 hS27) g28) (aw_aload_n (pc' := 154) (dt_X11_text 79 (153, .aload_n 0, 1) rfl) rfl rfl (aw_dup (pc' := 155) (dt_X11_text 80 (154, .dup, 1) rfl) rfl rfl (aw_getI (pc' := 158) (dt_X11_text 81 (155, .getfield 341, 3) rfl) fl_ReturnDeskModel_341 rfl rfl (sk_31 hS27.wI) (aw_iconst (pc' := 159) (v := 1) (dt_X11_text 82 (158, .iconst 1, 1) rfl) (by decide) rfl (aw_iadd (pc' := 160) (dt_X11_text 83 (159, .iadd, 1) rfl) rfl (aw_putI (pc' := 163) (dt_X11_text 84 (160, .putfield 341, 3) rfl) fl_ReturnDeskModel_341 rfl (by decide +kernel) rfl (sk_31 hS27.wI) (aw_aload_n (pc' := 164) (dt_X11_text 85 (163, .aload_n 0, 1) rfl) rfl rfl (aw_getI (pc' := 167) (dt_X11_text 86 (164, .getfield 341, 3) rfl) fl_ReturnDeskModel_341 rfl rfl (sk_31 hS27.wI.wI) (aw_iconst (pc' := 168) (v := 1) (dt_X11_text 87 (167, .iconst 1, 1) rfl) (by decide) rfl (aw_isub (pc' := 169) (dt_X11_text 88 (168, .isub, 1) rfl) rfl (aw_iret (dt_X11_text 89 (169, .ireturn, 1) rfl) rfl rfl ?_)))))))))))))))))
            exact h
          · intro q21
            have h := h.2 q21
            refine aw_bipush (pc' := 101) (v := (-100)) (dt_X11_text 48 (99, .bipush (-100), 2) rfl) (by decide) rfl (aw_aload_n (pc' := 102) (dt_X11_text 49 (101, .aload_n 0, 1) rfl) rfl rfl (aw_getI (pc' := 105) (dt_X11_text 50 (102, .getfield 268, 3) rfl) fl_ReturnDeskModel_268 rfl rfl (sk_31 hS.wI) (aw_isub (pc' := 106) (dt_X11_text 51 (105, .isub, 1) rfl) rfl (aw_iret (dt_X11_text 52 (106, .ireturn, 1) rfl) rfl rfl ?_))))
            exact h
        · intro q20
          have h := h.2 q20
          refine aw_aload_n (pc' := 8) (dt_X11_wrong 3 (7, .aload_n 0, 1) rfl) rfl rfl (aw_aload_n (pc' := 9) (dt_X11_wrong 4 (8, .aload_n 0, 1) rfl) rfl rfl (aw_getI (pc' := 12) (dt_X11_wrong 5 (9, .getfield 249, 3) rfl) fl_ReturnDeskModel_249 rfl rfl (sk_31 hS) (aw_putI (pc' := 15) (dt_X11_wrong 6 (12, .putfield 268, 3) rfl) fl_ReturnDeskModel_268 rfl (by decide +kernel) rfl (sk_31 hS) (aw_ret (dt_X11_wrong 7 (15, .return_, 1) rfl) rfl (aw_stk (st' := []) rfl (aw_aload_n (pc' := 88) (dt_X11_text 42 (87, .aload_n 0, 1) rfl) rfl rfl (aw_iconst (pc' := 89) (v := 0) (dt_X11_text 43 (88, .iconst 0, 1) rfl) (by decide) rfl (aw_putI (pc' := 92) (dt_X11_text 44 (89, .putfield 239, 3) rfl) fl_ReturnDeskModel_239 rfl (by decide +kernel) rfl (sk_31 hS.wI) (aw_aload_n (pc' := 93) (dt_X11_text 45 (92, .aload_n 0, 1) rfl) rfl rfl (aw_getI (pc' := 96) (dt_X11_text 46 (93, .getfield 268, 3) rfl) fl_ReturnDeskModel_268 rfl rfl (sk_31 hS.wI.wI) (aw_if_lt (pc' := 99) (tgt := 107) (dt_X11_text 47 (96, .ifCond .lt 11, 3) rfl) (by decide) rfl ?_ ?_)))))))))))
          · intro q29
            have h := h.1 q29
            obtain ⟨g30, h⟩ := h
            obtain ⟨g31, h⟩ := h
            refine aw_aload_n (pc' := 108) (dt_X11_text 53 (107, .aload_n 0, 1) rfl) rfl rfl (aw_getAs (pc' := 111) (dt_X11_text 54 (108, .getfield 114, 3) rfl) fl_ReturnDeskModel_114 rfl rfl (sk_31 hS.wI.wI) (sa_31_43 hS.wI.wI) (aw_aload_n (pc' := 112) (dt_X11_text 55 (111, .aload_n 0, 1) rfl) rfl rfl (aw_getI (pc' := 115) (dt_X11_text 56 (112, .getfield 341, 3) rfl) fl_ReturnDeskModel_341 rfl rfl (sk_31 hS.wI.wI) (aw_iload_n (pc' := 116) (dt_X11_text 57 (115, .iload_n 1, 1) rfl) rfl rfl (aw_iast (pc' := 117) (dt_X11_text 58 (116, .iastore, 1) rfl) rfl (sk_66 hS.wI.wI) (by decide) (vin_eq (sl_66 hS.wI.wI) g30) (aw_aload_n (pc' := 118) (dt_X11_text 59 (117, .aload_n 0, 1) rfl) rfl rfl (aw_getAs (pc' := 121) (dt_X11_text 60 (118, .getfield 117, 3) rfl) fl_ReturnDeskModel_117 rfl rfl (sk_31 hS.wI.wI.wI) (sa_31_44 hS.wI.wI.wI) (aw_aload_n (pc' := 122) (dt_X11_text 61 (121, .aload_n 0, 1) rfl) rfl rfl (aw_getI (pc' := 125) (dt_X11_text 62 (122, .getfield 341, 3) rfl) fl_ReturnDeskModel_341 rfl rfl (sk_31 hS.wI.wI.wI) (aw_aload_n (pc' := 126) (dt_X11_text 63 (125, .aload_n 0, 1) rfl) rfl rfl (aw_inV (pc' := 129) (nc1 := 0) (ns1 := 0) (nc := nc) (ns := ns) (ls' := [some (.ref 31)]) (y2 := mX11_today) (As := []) (rest := [.int (zI (sI (sI (sI μ 31 54 (zI μ 31 50)) 31 41 0) 66 (zI (sI (sI μ 31 54 (zI μ 31 50)) 31 41 0) 31 42).toNatClampNeg x1) 31 42), .ref 67]) (a := 31) (dt_X11_text 64 (126, .invokevirtual 224, 3) rfl) ok_X11_today ln_ReturnDeskModel_224 im_X11_today se_X11_today pr_X11_today (Or.inl ⟨by decide, rfl⟩) rfl (Nat.le_of_ble_eq_true rfl) (Nat.le_of_ble_eq_true rfl) rfl rfl (sk_31 hS.wI.wI.wI) (aw_aload_n (pc' := 1) (dt_X11_today 0 (0, .aload_n 0, 1) rfl) rfl rfl (aw_getI (pc' := 4) (dt_X11_today 1 (1, .getfield 189, 3) rfl) fl_ReturnDeskModel_189 rfl rfl (sk_31 hS.wI.wI.wI) (aw_bipush (pc' := 6) (v := 24) (dt_X11_today 2 (4, .bipush 24, 2) rfl) (by decide) rfl (aw_idiv (pc' := 7) (dt_X11_today 3 (6, .idiv, 1) rfl) (by decide) rfl (aw_iret (dt_X11_today 4 (7, .ireturn, 1) rfl) rfl rfl (aw_stk (st' := [.int ((zI (sI (sI (sI μ 31 54 (zI μ 31 50)) 31 41 0) 66 (zI (sI (sI μ 31 54 (zI μ 31 50)) 31 41 0) 31 42).toNatClampNeg x1) 31 1) / 24), .int (zI (sI (sI (sI μ 31 54 (zI μ 31 50)) 31 41 0) 66 (zI (sI (sI μ 31 54 (zI μ 31 50)) 31 41 0) 31 42).toNatClampNeg x1) 31 42), .ref 67]) rfl (aw_iast (pc' := 130) (dt_X11_text 65 (129, .iastore, 1) rfl) rfl (sk_67 hS.wI.wI.wI) (by decide) (vin_eq (sl_67 hS.wI.wI.wI) g31) ?_))))))))))))))))))
            refine aw_mem (fun μ32 eμ33 => ?_)
            have h := h μ32 eμ33
            have hS34 : Stat μ32 := by rw [eμ33]; exact hS.wI.wI.wI.wI
            obtain ⟨g35, h⟩ := h
            obtain ⟨g36, h⟩ := h
            refine aw_aload_n (pc' := 131) (dt_X11_text 66 (130, .aload_n 0, 1) rfl) rfl rfl (aw_getAs (pc' := 134) (dt_X11_text 67 (131, .getfield 120, 3) rfl) fl_ReturnDeskModel_120 rfl rfl (sk_31 hS34) (sa_31_45 hS34) (aw_aload_n (pc' := 135) (dt_X11_text 68 (134, .aload_n 0, 1) rfl) rfl rfl (aw_getI (pc' := 138) (dt_X11_text 69 (135, .getfield 341, 3) rfl) fl_ReturnDeskModel_341 rfl rfl (sk_31 hS34) (aw_iload_n (pc' := 139) (dt_X11_text 70 (138, .iload_n 2, 1) rfl) rfl rfl (aw_iast (pc' := 140) (dt_X11_text 71 (139, .iastore, 1) rfl) rfl (sk_68 hS34) (by decide) (vin_eq (sl_68 hS34) g35) (aw_aload_n (pc' := 141) (dt_X11_text 72 (140, .aload_n 0, 1) rfl) rfl rfl (aw_getAs (pc' := 144) (dt_X11_text 73 (141, .getfield 123, 3) rfl) fl_ReturnDeskModel_123 rfl rfl (sk_31 hS34.wI) (sa_31_46 hS34.wI) (aw_aload_n (pc' := 145) (dt_X11_text 74 (144, .aload_n 0, 1) rfl) rfl rfl (aw_getI (pc' := 148) (dt_X11_text 75 (145, .getfield 341, 3) rfl) fl_ReturnDeskModel_341 rfl rfl (sk_31 hS34.wI) (aw_aload_n (pc' := 149) (dt_X11_text 76 (148, .aload_n 0, 1) rfl) rfl rfl (aw_getI (pc' := 152) (dt_X11_text 77 (149, .getfield 274, 3) rfl) fl_ReturnDeskModel_274 rfl rfl (sk_31 hS34.wI) (aw_iast (pc' := 153) (dt_X11_text 78 (152, .iastore, 1) rfl) rfl (sk_69 hS34.wI) (by decide) (vin_eq (sl_69 hS34.wI) g36) (aw_aload_n (pc' := 154) (dt_X11_text 79 (153, .aload_n 0, 1) rfl) rfl rfl (aw_dup (pc' := 155) (dt_X11_text 80 (154, .dup, 1) rfl) rfl rfl (aw_getI (pc' := 158) (dt_X11_text 81 (155, .getfield 341, 3) rfl) fl_ReturnDeskModel_341 rfl rfl (sk_31 hS34.wI.wI) (aw_iconst (pc' := 159) (v := 1) (dt_X11_text 82 (158, .iconst 1, 1) rfl) (by decide) rfl (aw_iadd (pc' := 160) (dt_X11_text 83 (159, .iadd, 1) rfl) rfl (aw_putI (pc' := 163) (dt_X11_text 84 (160, .putfield 341, 3) rfl) fl_ReturnDeskModel_341 rfl (by decide +kernel) rfl (sk_31 hS34.wI.wI) ?_))))))))))))))))))
            refine aw_mem (fun μ37 eμ38 => ?_)
            have h := h μ37 eμ38
            have hS39 : Stat μ37 := by rw [eμ38]; exact hS34.wI.wI.wI
            refine aw_aload_n (pc' := 164) (dt_X11_text 85 (163, .aload_n 0, 1) rfl) rfl rfl (aw_getI (pc' := 167) (dt_X11_text 86 (164, .getfield 341, 3) rfl) fl_ReturnDeskModel_341 rfl rfl (sk_31 hS39) (aw_iconst (pc' := 168) (v := 1) (dt_X11_text 87 (167, .iconst 1, 1) rfl) (by decide) rfl (aw_isub (pc' := 169) (dt_X11_text 88 (168, .isub, 1) rfl) rfl (aw_iret (dt_X11_text 89 (169, .ireturn, 1) rfl) rfl rfl ?_))))
            exact h
          · intro q29
            have h := h.2 q29
            refine aw_bipush (pc' := 101) (v := (-100)) (dt_X11_text 48 (99, .bipush (-100), 2) rfl) (by decide) rfl (aw_aload_n (pc' := 102) (dt_X11_text 49 (101, .aload_n 0, 1) rfl) rfl rfl (aw_getI (pc' := 105) (dt_X11_text 50 (102, .getfield 268, 3) rfl) fl_ReturnDeskModel_268 rfl rfl (sk_31 hS.wI.wI) (aw_isub (pc' := 106) (dt_X11_text 51 (105, .isub, 1) rfl) rfl (aw_iret (dt_X11_text 52 (106, .ireturn, 1) rfl) rfl rfl ?_))))
            exact h
  · intro q1
    have h := h.2 q1
    refine aw_aload_n (pc' := 50) (dt_X11_text 25 (49, .aload_n 0, 1) rfl) rfl rfl (aw_getI (pc' := 53) (dt_X11_text 26 (50, .getfield 252, 3) rfl) fl_ReturnDeskModel_252 rfl rfl (sk_31 hS) (aw_bipush (pc' := 55) (v := 59) (dt_X11_text 27 (53, .bipush 59, 2) rfl) (by decide) rfl (aw_icmp_ne (pc' := 58) (tgt := 69) (dt_X11_text 28 (55, .if_icmp .ne 14, 3) rfl) (by decide) rfl ?_ ?_)))
    · intro q40
      have h := h.1 q40
      refine aw_aload_n (pc' := 70) (dt_X11_text 34 (69, .aload_n 0, 1) rfl) rfl rfl (aw_getI (pc' := 73) (dt_X11_text 35 (70, .getfield 268, 3) rfl) fl_ReturnDeskModel_268 rfl rfl (sk_31 hS) (aw_if_ge (pc' := 76) (tgt := 87) (dt_X11_text 36 (73, .ifCond .ge 14, 3) rfl) (by decide) rfl ?_ ?_))
      · intro q41
        have h := h.1 q41
        refine aw_aload_n (pc' := 88) (dt_X11_text 42 (87, .aload_n 0, 1) rfl) rfl rfl (aw_iconst (pc' := 89) (v := 0) (dt_X11_text 43 (88, .iconst 0, 1) rfl) (by decide) rfl (aw_putI (pc' := 92) (dt_X11_text 44 (89, .putfield 239, 3) rfl) fl_ReturnDeskModel_239 rfl (by decide +kernel) rfl (sk_31 hS) (aw_aload_n (pc' := 93) (dt_X11_text 45 (92, .aload_n 0, 1) rfl) rfl rfl (aw_getI (pc' := 96) (dt_X11_text 46 (93, .getfield 268, 3) rfl) fl_ReturnDeskModel_268 rfl rfl (sk_31 hS.wI) (aw_if_lt (pc' := 99) (tgt := 107) (dt_X11_text 47 (96, .ifCond .lt 11, 3) rfl) (by decide) rfl ?_ ?_)))))
        · intro q42
          have h := h.1 q42
          obtain ⟨g43, h⟩ := h
          obtain ⟨g44, h⟩ := h
          obtain ⟨g45, h⟩ := h
          refine aw_aload_n (pc' := 108) (dt_X11_text 53 (107, .aload_n 0, 1) rfl) rfl rfl (aw_getAs (pc' := 111) (dt_X11_text 54 (108, .getfield 114, 3) rfl) fl_ReturnDeskModel_114 rfl rfl (sk_31 hS.wI) (sa_31_43 hS.wI) (aw_aload_n (pc' := 112) (dt_X11_text 55 (111, .aload_n 0, 1) rfl) rfl rfl (aw_getI (pc' := 115) (dt_X11_text 56 (112, .getfield 341, 3) rfl) fl_ReturnDeskModel_341 rfl rfl (sk_31 hS.wI) (aw_iload_n (pc' := 116) (dt_X11_text 57 (115, .iload_n 1, 1) rfl) rfl rfl (aw_iast (pc' := 117) (dt_X11_text 58 (116, .iastore, 1) rfl) rfl (sk_66 hS.wI) (by decide) (vin_eq (sl_66 hS.wI) g43) (aw_aload_n (pc' := 118) (dt_X11_text 59 (117, .aload_n 0, 1) rfl) rfl rfl (aw_getAs (pc' := 121) (dt_X11_text 60 (118, .getfield 117, 3) rfl) fl_ReturnDeskModel_117 rfl rfl (sk_31 hS.wI.wI) (sa_31_44 hS.wI.wI) (aw_aload_n (pc' := 122) (dt_X11_text 61 (121, .aload_n 0, 1) rfl) rfl rfl (aw_getI (pc' := 125) (dt_X11_text 62 (122, .getfield 341, 3) rfl) fl_ReturnDeskModel_341 rfl rfl (sk_31 hS.wI.wI) (aw_aload_n (pc' := 126) (dt_X11_text 63 (125, .aload_n 0, 1) rfl) rfl rfl (aw_inV (pc' := 129) (nc1 := 0) (ns1 := 0) (nc := nc) (ns := ns) (ls' := [some (.ref 31)]) (y2 := mX11_today) (As := []) (rest := [.int (zI (sI (sI μ 31 41 0) 66 (zI (sI μ 31 41 0) 31 42).toNatClampNeg x1) 31 42), .ref 67]) (a := 31) (dt_X11_text 64 (126, .invokevirtual 224, 3) rfl) ok_X11_today ln_ReturnDeskModel_224 im_X11_today se_X11_today pr_X11_today (Or.inl ⟨by decide, rfl⟩) rfl (Nat.le_of_ble_eq_true rfl) (Nat.le_of_ble_eq_true rfl) rfl rfl (sk_31 hS.wI.wI) (aw_aload_n (pc' := 1) (dt_X11_today 0 (0, .aload_n 0, 1) rfl) rfl rfl (aw_getI (pc' := 4) (dt_X11_today 1 (1, .getfield 189, 3) rfl) fl_ReturnDeskModel_189 rfl rfl (sk_31 hS.wI.wI) (aw_bipush (pc' := 6) (v := 24) (dt_X11_today 2 (4, .bipush 24, 2) rfl) (by decide) rfl (aw_idiv (pc' := 7) (dt_X11_today 3 (6, .idiv, 1) rfl) (by decide) rfl (aw_iret (dt_X11_today 4 (7, .ireturn, 1) rfl) rfl rfl (aw_stk (st' := [.int ((zI (sI (sI μ 31 41 0) 66 (zI (sI μ 31 41 0) 31 42).toNatClampNeg x1) 31 1) / 24), .int (zI (sI (sI μ 31 41 0) 66 (zI (sI μ 31 41 0) 31 42).toNatClampNeg x1) 31 42), .ref 67]) rfl (aw_iast (pc' := 130) (dt_X11_text 65 (129, .iastore, 1) rfl) rfl (sk_67 hS.wI.wI) (by decide) (vin_eq (sl_67 hS.wI.wI) g44) (aw_aload_n (pc' := 131) (dt_X11_text 66 (130, .aload_n 0, 1) rfl) rfl rfl (aw_getAs (pc' := 134) (dt_X11_text 67 (131, .getfield 120, 3) rfl) fl_ReturnDeskModel_120 rfl rfl (sk_31 hS.wI.wI.wI) (sa_31_45 hS.wI.wI.wI) (aw_aload_n (pc' := 135) (dt_X11_text 68 (134, .aload_n 0, 1) rfl) rfl rfl (aw_getI (pc' := 138) (dt_X11_text 69 (135, .getfield 341, 3) rfl) fl_ReturnDeskModel_341 rfl rfl (sk_31 hS.wI.wI.wI) (aw_iload_n (pc' := 139) (dt_X11_text 70 (138, .iload_n 2, 1) rfl) rfl rfl (aw_iast (pc' := 140) (dt_X11_text 71 (139, .iastore, 1) rfl) rfl (sk_68 hS.wI.wI.wI) (by decide) (vin_eq (sl_68 hS.wI.wI.wI) g45) ?_))))))))))))))))))))))))
          refine aw_mem (fun μ46 eμ47 => ?_)
          have h := h μ46 eμ47
          have hS48 : Stat μ46 := by rw [eμ47]; exact hS.wI.wI.wI.wI
          obtain ⟨g49, h⟩ := h
          refine aw_aload_n (pc' := 141) (dt_X11_text 72 (140, .aload_n 0, 1) rfl) rfl rfl (aw_getAs (pc' := 144) (dt_X11_text 73 (141, .getfield 123, 3) rfl) fl_ReturnDeskModel_123 rfl rfl (sk_31 hS48) (sa_31_46 hS48) (aw_aload_n (pc' := 145) (dt_X11_text 74 (144, .aload_n 0, 1) rfl) rfl rfl (aw_getI (pc' := 148) (dt_X11_text 75 (145, .getfield 341, 3) rfl) fl_ReturnDeskModel_341 rfl rfl (sk_31 hS48) (aw_aload_n (pc' := 149) (dt_X11_text 76 (148, .aload_n 0, 1) rfl) rfl rfl (aw_getI (pc' := 152) (dt_X11_text 77 (149, .getfield 274, 3) rfl) fl_ReturnDeskModel_274 rfl rfl (sk_31 hS48) (aw_iast (pc' := 153) (dt_X11_text 78 (152, .iastore, 1) rfl) rfl (sk_69 hS48) (by decide) (vin_eq (sl_69 hS48) g49) (aw_aload_n (pc' := 154) (dt_X11_text 79 (153, .aload_n 0, 1) rfl) rfl rfl (aw_dup (pc' := 155) (dt_X11_text 80 (154, .dup, 1) rfl) rfl rfl (aw_getI (pc' := 158) (dt_X11_text 81 (155, .getfield 341, 3) rfl) fl_ReturnDeskModel_341 rfl rfl (sk_31 hS48.wI) (aw_iconst (pc' := 159) (v := 1) (dt_X11_text 82 (158, .iconst 1, 1) rfl) (by decide) rfl (aw_iadd (pc' := 160) (dt_X11_text 83 (159, .iadd, 1) rfl) rfl (aw_putI (pc' := 163) (dt_X11_text 84 (160, .putfield 341, 3) rfl) fl_ReturnDeskModel_341 rfl (by decide +kernel) rfl (sk_31 hS48.wI) (aw_aload_n (pc' := 164) (dt_X11_text 85 (163, .aload_n 0, 1) rfl) rfl rfl (aw_getI (pc' := 167) (dt_X11_text 86 (164, .getfield 341, 3) rfl) fl_ReturnDeskModel_341 rfl rfl (sk_31 hS48.wI.wI) (aw_iconst (pc' := 168) (v := 1) (dt_X11_text 87 (167, .iconst 1, 1) rfl) (by decide) rfl (aw_isub (pc' := 169) (dt_X11_text 88 (168, .isub, 1) rfl) rfl (aw_iret (dt_X11_text 89 (169, .ireturn, 1) rfl) rfl rfl ?_)))))))))))))))))
          exact h
        · intro q42
          have h := h.2 q42
          refine aw_bipush (pc' := 101) (v := (-100)) (dt_X11_text 48 (99, .bipush (-100), 2) rfl) (by decide) rfl (aw_aload_n (pc' := 102) (dt_X11_text 49 (101, .aload_n 0, 1) rfl) rfl rfl (aw_getI (pc' := 105) (dt_X11_text 50 (102, .getfield 268, 3) rfl) fl_ReturnDeskModel_268 rfl rfl (sk_31 hS.wI) (aw_isub (pc' := 106) (dt_X11_text 51 (105, .isub, 1) rfl) rfl (aw_iret (dt_X11_text 52 (106, .ireturn, 1) rfl) rfl rfl ?_))))
          exact h
      · intro q41
        have h := h.2 q41
        refine aw_aload_n (pc' := 77) (dt_X11_text 37 (76, .aload_n 0, 1) rfl) rfl rfl (aw_getI (pc' := 80) (dt_X11_text 38 (77, .getfield 252, 3) rfl) fl_ReturnDeskModel_252 rfl rfl (sk_31 hS) (aw_if_eq (pc' := 83) (tgt := 87) (dt_X11_text 39 (80, .ifCond .eq 7, 3) rfl) (by decide) rfl ?_ ?_))
        · intro q50
          have h := h.1 q50
          refine aw_aload_n (pc' := 88) (dt_X11_text 42 (87, .aload_n 0, 1) rfl) rfl rfl (aw_iconst (pc' := 89) (v := 0) (dt_X11_text 43 (88, .iconst 0, 1) rfl) (by decide) rfl (aw_putI (pc' := 92) (dt_X11_text 44 (89, .putfield 239, 3) rfl) fl_ReturnDeskModel_239 rfl (by decide +kernel) rfl (sk_31 hS) (aw_aload_n (pc' := 93) (dt_X11_text 45 (92, .aload_n 0, 1) rfl) rfl rfl (aw_getI (pc' := 96) (dt_X11_text 46 (93, .getfield 268, 3) rfl) fl_ReturnDeskModel_268 rfl rfl (sk_31 hS.wI) (aw_if_lt (pc' := 99) (tgt := 107) (dt_X11_text 47 (96, .ifCond .lt 11, 3) rfl) (by decide) rfl ?_ ?_)))))
          · intro q51
            have h := h.1 q51
            obtain ⟨g52, h⟩ := h
            obtain ⟨g53, h⟩ := h
            obtain ⟨g54, h⟩ := h
            refine aw_aload_n (pc' := 108) (dt_X11_text 53 (107, .aload_n 0, 1) rfl) rfl rfl (aw_getAs (pc' := 111) (dt_X11_text 54 (108, .getfield 114, 3) rfl) fl_ReturnDeskModel_114 rfl rfl (sk_31 hS.wI) (sa_31_43 hS.wI) (aw_aload_n (pc' := 112) (dt_X11_text 55 (111, .aload_n 0, 1) rfl) rfl rfl (aw_getI (pc' := 115) (dt_X11_text 56 (112, .getfield 341, 3) rfl) fl_ReturnDeskModel_341 rfl rfl (sk_31 hS.wI) (aw_iload_n (pc' := 116) (dt_X11_text 57 (115, .iload_n 1, 1) rfl) rfl rfl (aw_iast (pc' := 117) (dt_X11_text 58 (116, .iastore, 1) rfl) rfl (sk_66 hS.wI) (by decide) (vin_eq (sl_66 hS.wI) g52) (aw_aload_n (pc' := 118) (dt_X11_text 59 (117, .aload_n 0, 1) rfl) rfl rfl (aw_getAs (pc' := 121) (dt_X11_text 60 (118, .getfield 117, 3) rfl) fl_ReturnDeskModel_117 rfl rfl (sk_31 hS.wI.wI) (sa_31_44 hS.wI.wI) (aw_aload_n (pc' := 122) (dt_X11_text 61 (121, .aload_n 0, 1) rfl) rfl rfl (aw_getI (pc' := 125) (dt_X11_text 62 (122, .getfield 341, 3) rfl) fl_ReturnDeskModel_341 rfl rfl (sk_31 hS.wI.wI) (aw_aload_n (pc' := 126) (dt_X11_text 63 (125, .aload_n 0, 1) rfl) rfl rfl (aw_inV (pc' := 129) (nc1 := 0) (ns1 := 0) (nc := nc) (ns := ns) (ls' := [some (.ref 31)]) (y2 := mX11_today) (As := []) (rest := [.int (zI (sI (sI μ 31 41 0) 66 (zI (sI μ 31 41 0) 31 42).toNatClampNeg x1) 31 42), .ref 67]) (a := 31) (dt_X11_text 64 (126, .invokevirtual 224, 3) rfl) ok_X11_today ln_ReturnDeskModel_224 im_X11_today se_X11_today pr_X11_today (Or.inl ⟨by decide, rfl⟩) rfl (Nat.le_of_ble_eq_true rfl) (Nat.le_of_ble_eq_true rfl) rfl rfl (sk_31 hS.wI.wI) (aw_aload_n (pc' := 1) (dt_X11_today 0 (0, .aload_n 0, 1) rfl) rfl rfl (aw_getI (pc' := 4) (dt_X11_today 1 (1, .getfield 189, 3) rfl) fl_ReturnDeskModel_189 rfl rfl (sk_31 hS.wI.wI) (aw_bipush (pc' := 6) (v := 24) (dt_X11_today 2 (4, .bipush 24, 2) rfl) (by decide) rfl (aw_idiv (pc' := 7) (dt_X11_today 3 (6, .idiv, 1) rfl) (by decide) rfl (aw_iret (dt_X11_today 4 (7, .ireturn, 1) rfl) rfl rfl (aw_stk (st' := [.int ((zI (sI (sI μ 31 41 0) 66 (zI (sI μ 31 41 0) 31 42).toNatClampNeg x1) 31 1) / 24), .int (zI (sI (sI μ 31 41 0) 66 (zI (sI μ 31 41 0) 31 42).toNatClampNeg x1) 31 42), .ref 67]) rfl (aw_iast (pc' := 130) (dt_X11_text 65 (129, .iastore, 1) rfl) rfl (sk_67 hS.wI.wI) (by decide) (vin_eq (sl_67 hS.wI.wI) g53) (aw_aload_n (pc' := 131) (dt_X11_text 66 (130, .aload_n 0, 1) rfl) rfl rfl (aw_getAs (pc' := 134) (dt_X11_text 67 (131, .getfield 120, 3) rfl) fl_ReturnDeskModel_120 rfl rfl (sk_31 hS.wI.wI.wI) (sa_31_45 hS.wI.wI.wI) (aw_aload_n (pc' := 135) (dt_X11_text 68 (134, .aload_n 0, 1) rfl) rfl rfl (aw_getI (pc' := 138) (dt_X11_text 69 (135, .getfield 341, 3) rfl) fl_ReturnDeskModel_341 rfl rfl (sk_31 hS.wI.wI.wI) (aw_iload_n (pc' := 139) (dt_X11_text 70 (138, .iload_n 2, 1) rfl) rfl rfl (aw_iast (pc' := 140) (dt_X11_text 71 (139, .iastore, 1) rfl) rfl (sk_68 hS.wI.wI.wI) (by decide) (vin_eq (sl_68 hS.wI.wI.wI) g54) ?_))))))))))))))))))))))))
            refine aw_mem (fun μ55 eμ56 => ?_)
            have h := h μ55 eμ56
            have hS57 : Stat μ55 := by rw [eμ56]; exact hS.wI.wI.wI.wI
            obtain ⟨g58, h⟩ := h
            refine aw_aload_n (pc' := 141) (dt_X11_text 72 (140, .aload_n 0, 1) rfl) rfl rfl (aw_getAs (pc' := 144) (dt_X11_text 73 (141, .getfield 123, 3) rfl) fl_ReturnDeskModel_123 rfl rfl (sk_31 hS57) (sa_31_46 hS57) (aw_aload_n (pc' := 145) (dt_X11_text 74 (144, .aload_n 0, 1) rfl) rfl rfl (aw_getI (pc' := 148) (dt_X11_text 75 (145, .getfield 341, 3) rfl) fl_ReturnDeskModel_341 rfl rfl (sk_31 hS57) (aw_aload_n (pc' := 149) (dt_X11_text 76 (148, .aload_n 0, 1) rfl) rfl rfl (aw_getI (pc' := 152) (dt_X11_text 77 (149, .getfield 274, 3) rfl) fl_ReturnDeskModel_274 rfl rfl (sk_31 hS57) (aw_iast (pc' := 153) (dt_X11_text 78 (152, .iastore, 1) rfl) rfl (sk_69 hS57) (by decide) (vin_eq (sl_69 hS57) g58) (aw_aload_n (pc' := 154) (dt_X11_text 79 (153, .aload_n 0, 1) rfl) rfl rfl (aw_dup (pc' := 155) (dt_X11_text 80 (154, .dup, 1) rfl) rfl rfl (aw_getI (pc' := 158) (dt_X11_text 81 (155, .getfield 341, 3) rfl) fl_ReturnDeskModel_341 rfl rfl (sk_31 hS57.wI) (aw_iconst (pc' := 159) (v := 1) (dt_X11_text 82 (158, .iconst 1, 1) rfl) (by decide) rfl (aw_iadd (pc' := 160) (dt_X11_text 83 (159, .iadd, 1) rfl) rfl (aw_putI (pc' := 163) (dt_X11_text 84 (160, .putfield 341, 3) rfl) fl_ReturnDeskModel_341 rfl (by decide +kernel) rfl (sk_31 hS57.wI) (aw_aload_n (pc' := 164) (dt_X11_text 85 (163, .aload_n 0, 1) rfl) rfl rfl (aw_getI (pc' := 167) (dt_X11_text 86 (164, .getfield 341, 3) rfl) fl_ReturnDeskModel_341 rfl rfl (sk_31 hS57.wI.wI) (aw_iconst (pc' := 168) (v := 1) (dt_X11_text 87 (167, .iconst 1, 1) rfl) (by decide) rfl (aw_isub (pc' := 169) (dt_X11_text 88 (168, .isub, 1) rfl) rfl (aw_iret (dt_X11_text 89 (169, .ireturn, 1) rfl) rfl rfl ?_)))))))))))))))))
            exact h
          · intro q51
            have h := h.2 q51
            refine aw_bipush (pc' := 101) (v := (-100)) (dt_X11_text 48 (99, .bipush (-100), 2) rfl) (by decide) rfl (aw_aload_n (pc' := 102) (dt_X11_text 49 (101, .aload_n 0, 1) rfl) rfl rfl (aw_getI (pc' := 105) (dt_X11_text 50 (102, .getfield 268, 3) rfl) fl_ReturnDeskModel_268 rfl rfl (sk_31 hS.wI) (aw_isub (pc' := 106) (dt_X11_text 51 (105, .isub, 1) rfl) rfl (aw_iret (dt_X11_text 52 (106, .ireturn, 1) rfl) rfl rfl ?_))))
            exact h
        · intro q50
          have h := h.2 q50
          refine aw_aload_n (pc' := 84) (dt_X11_text 40 (83, .aload_n 0, 1) rfl) rfl rfl (aw_inV (pc' := 87) (nc1 := 0) (ns1 := 0) (nc := nc) (ns := ns) (ls' := [some (.ref 31)]) (y2 := mX11_wrong) (As := []) (rest := []) (a := 31) (dt_X11_text 41 (84, .invokevirtual 280, 3) rfl) ok_X11_wrong ln_ReturnDeskModel_280 im_X11_wrong se_X11_wrong pr_X11_wrong (Or.inl ⟨by decide, rfl⟩) rfl (Nat.le_of_ble_eq_true rfl) (Nat.le_of_ble_eq_true rfl) rfl rfl (sk_31 hS) (aw_aload_n (pc' := 1) (dt_X11_wrong 0 (0, .aload_n 0, 1) rfl) rfl rfl (aw_getI (pc' := 4) (dt_X11_wrong 1 (1, .getfield 268, 3) rfl) fl_ReturnDeskModel_268 rfl rfl (sk_31 hS) (aw_if_ge (pc' := 7) (tgt := 15) (dt_X11_wrong 2 (4, .ifCond .ge 11, 3) rfl) (by decide) rfl ?_ ?_))))
          · intro q59
            have h := h.1 q59
            refine aw_ret (dt_X11_wrong 7 (15, .return_, 1) rfl) rfl (aw_stk (st' := []) rfl (aw_aload_n (pc' := 88) (dt_X11_text 42 (87, .aload_n 0, 1) rfl) rfl rfl (aw_iconst (pc' := 89) (v := 0) (dt_X11_text 43 (88, .iconst 0, 1) rfl) (by decide) rfl (aw_putI (pc' := 92) (dt_X11_text 44 (89, .putfield 239, 3) rfl) fl_ReturnDeskModel_239 rfl (by decide +kernel) rfl (sk_31 hS) (aw_aload_n (pc' := 93) (dt_X11_text 45 (92, .aload_n 0, 1) rfl) rfl rfl (aw_getI (pc' := 96) (dt_X11_text 46 (93, .getfield 268, 3) rfl) fl_ReturnDeskModel_268 rfl rfl (sk_31 hS.wI) (aw_if_lt (pc' := 99) (tgt := 107) (dt_X11_text 47 (96, .ifCond .lt 11, 3) rfl) (by decide) rfl ?_ ?_)))))))
            · intro q60
              have h := h.1 q60
              obtain ⟨g61, h⟩ := h
              obtain ⟨g62, h⟩ := h
              obtain ⟨g63, h⟩ := h
              refine aw_aload_n (pc' := 108) (dt_X11_text 53 (107, .aload_n 0, 1) rfl) rfl rfl (aw_getAs (pc' := 111) (dt_X11_text 54 (108, .getfield 114, 3) rfl) fl_ReturnDeskModel_114 rfl rfl (sk_31 hS.wI) (sa_31_43 hS.wI) (aw_aload_n (pc' := 112) (dt_X11_text 55 (111, .aload_n 0, 1) rfl) rfl rfl (aw_getI (pc' := 115) (dt_X11_text 56 (112, .getfield 341, 3) rfl) fl_ReturnDeskModel_341 rfl rfl (sk_31 hS.wI) (aw_iload_n (pc' := 116) (dt_X11_text 57 (115, .iload_n 1, 1) rfl) rfl rfl (aw_iast (pc' := 117) (dt_X11_text 58 (116, .iastore, 1) rfl) rfl (sk_66 hS.wI) (by decide) (vin_eq (sl_66 hS.wI) g61) (aw_aload_n (pc' := 118) (dt_X11_text 59 (117, .aload_n 0, 1) rfl) rfl rfl (aw_getAs (pc' := 121) (dt_X11_text 60 (118, .getfield 117, 3) rfl) fl_ReturnDeskModel_117 rfl rfl (sk_31 hS.wI.wI) (sa_31_44 hS.wI.wI) (aw_aload_n (pc' := 122) (dt_X11_text 61 (121, .aload_n 0, 1) rfl) rfl rfl (aw_getI (pc' := 125) (dt_X11_text 62 (122, .getfield 341, 3) rfl) fl_ReturnDeskModel_341 rfl rfl (sk_31 hS.wI.wI) (aw_aload_n (pc' := 126) (dt_X11_text 63 (125, .aload_n 0, 1) rfl) rfl rfl (aw_inV (pc' := 129) (nc1 := 0) (ns1 := 0) (nc := nc) (ns := ns) (ls' := [some (.ref 31)]) (y2 := mX11_today) (As := []) (rest := [.int (zI (sI (sI μ 31 41 0) 66 (zI (sI μ 31 41 0) 31 42).toNatClampNeg x1) 31 42), .ref 67]) (a := 31) (dt_X11_text 64 (126, .invokevirtual 224, 3) rfl) ok_X11_today ln_ReturnDeskModel_224 im_X11_today se_X11_today pr_X11_today (Or.inl ⟨by decide, rfl⟩) rfl (Nat.le_of_ble_eq_true rfl) (Nat.le_of_ble_eq_true rfl) rfl rfl (sk_31 hS.wI.wI) (aw_aload_n (pc' := 1) (dt_X11_today 0 (0, .aload_n 0, 1) rfl) rfl rfl (aw_getI (pc' := 4) (dt_X11_today 1 (1, .getfield 189, 3) rfl) fl_ReturnDeskModel_189 rfl rfl (sk_31 hS.wI.wI) (aw_bipush (pc' := 6) (v := 24) (dt_X11_today 2 (4, .bipush 24, 2) rfl) (by decide) rfl (aw_idiv (pc' := 7) (dt_X11_today 3 (6, .idiv, 1) rfl) (by decide) rfl (aw_iret (dt_X11_today 4 (7, .ireturn, 1) rfl) rfl rfl (aw_stk (st' := [.int ((zI (sI (sI μ 31 41 0) 66 (zI (sI μ 31 41 0) 31 42).toNatClampNeg x1) 31 1) / 24), .int (zI (sI (sI μ 31 41 0) 66 (zI (sI μ 31 41 0) 31 42).toNatClampNeg x1) 31 42), .ref 67]) rfl (aw_iast (pc' := 130) (dt_X11_text 65 (129, .iastore, 1) rfl) rfl (sk_67 hS.wI.wI) (by decide) (vin_eq (sl_67 hS.wI.wI) g62) (aw_aload_n (pc' := 131) (dt_X11_text 66 (130, .aload_n 0, 1) rfl) rfl rfl (aw_getAs (pc' := 134) (dt_X11_text 67 (131, .getfield 120, 3) rfl) fl_ReturnDeskModel_120 rfl rfl (sk_31 hS.wI.wI.wI) (sa_31_45 hS.wI.wI.wI) (aw_aload_n (pc' := 135) (dt_X11_text 68 (134, .aload_n 0, 1) rfl) rfl rfl (aw_getI (pc' := 138) (dt_X11_text 69 (135, .getfield 341, 3) rfl) fl_ReturnDeskModel_341 rfl rfl (sk_31 hS.wI.wI.wI) (aw_iload_n (pc' := 139) (dt_X11_text 70 (138, .iload_n 2, 1) rfl) rfl rfl (aw_iast (pc' := 140) (dt_X11_text 71 (139, .iastore, 1) rfl) rfl (sk_68 hS.wI.wI.wI) (by decide) (vin_eq (sl_68 hS.wI.wI.wI) g63) ?_))))))))))))))))))))))))
              refine aw_mem (fun μ64 eμ65 => ?_)
              have h := h μ64 eμ65
              have hS66 : Stat μ64 := by rw [eμ65]; exact hS.wI.wI.wI.wI
              obtain ⟨g67, h⟩ := h
              refine aw_aload_n (pc' := 141) (dt_X11_text 72 (140, .aload_n 0, 1) rfl) rfl rfl (aw_getAs (pc' := 144) (dt_X11_text 73 (141, .getfield 123, 3) rfl) fl_ReturnDeskModel_123 rfl rfl (sk_31 hS66) (sa_31_46 hS66) (aw_aload_n (pc' := 145) (dt_X11_text 74 (144, .aload_n 0, 1) rfl) rfl rfl (aw_getI (pc' := 148) (dt_X11_text 75 (145, .getfield 341, 3) rfl) fl_ReturnDeskModel_341 rfl rfl (sk_31 hS66) (aw_aload_n (pc' := 149) (dt_X11_text 76 (148, .aload_n 0, 1) rfl) rfl rfl (aw_getI (pc' := 152) (dt_X11_text 77 (149, .getfield 274, 3) rfl) fl_ReturnDeskModel_274 rfl rfl (sk_31 hS66) (aw_iast (pc' := 153) (dt_X11_text 78 (152, .iastore, 1) rfl) rfl (sk_69 hS66) (by decide) (vin_eq (sl_69 hS66) g67) (aw_aload_n (pc' := 154) (dt_X11_text 79 (153, .aload_n 0, 1) rfl) rfl rfl (aw_dup (pc' := 155) (dt_X11_text 80 (154, .dup, 1) rfl) rfl rfl (aw_getI (pc' := 158) (dt_X11_text 81 (155, .getfield 341, 3) rfl) fl_ReturnDeskModel_341 rfl rfl (sk_31 hS66.wI) (aw_iconst (pc' := 159) (v := 1) (dt_X11_text 82 (158, .iconst 1, 1) rfl) (by decide) rfl (aw_iadd (pc' := 160) (dt_X11_text 83 (159, .iadd, 1) rfl) rfl (aw_putI (pc' := 163) (dt_X11_text 84 (160, .putfield 341, 3) rfl) fl_ReturnDeskModel_341 rfl (by decide +kernel) rfl (sk_31 hS66.wI) (aw_aload_n (pc' := 164) (dt_X11_text 85 (163, .aload_n 0, 1) rfl) rfl rfl (aw_getI (pc' := 167) (dt_X11_text 86 (164, .getfield 341, 3) rfl) fl_ReturnDeskModel_341 rfl rfl (sk_31 hS66.wI.wI) (aw_iconst (pc' := 168) (v := 1) (dt_X11_text 87 (167, .iconst 1, 1) rfl) (by decide) rfl (aw_isub (pc' := 169) (dt_X11_text 88 (168, .isub, 1) rfl) rfl (aw_iret (dt_X11_text 89 (169, .ireturn, 1) rfl) rfl rfl ?_)))))))))))))))))
              exact h
            · intro q60
              have h := h.2 q60
              refine aw_bipush (pc' := 101) (v := (-100)) (dt_X11_text 48 (99, .bipush (-100), 2) rfl) (by decide) rfl (aw_aload_n (pc' := 102) (dt_X11_text 49 (101, .aload_n 0, 1) rfl) rfl rfl (aw_getI (pc' := 105) (dt_X11_text 50 (102, .getfield 268, 3) rfl) fl_ReturnDeskModel_268 rfl rfl (sk_31 hS.wI) (aw_isub (pc' := 106) (dt_X11_text 51 (105, .isub, 1) rfl) rfl (aw_iret (dt_X11_text 52 (106, .ireturn, 1) rfl) rfl rfl ?_))))
              exact h
          · intro q59
            have h := h.2 q59
            refine aw_aload_n (pc' := 8) (dt_X11_wrong 3 (7, .aload_n 0, 1) rfl) rfl rfl (aw_aload_n (pc' := 9) (dt_X11_wrong 4 (8, .aload_n 0, 1) rfl) rfl rfl (aw_getI (pc' := 12) (dt_X11_wrong 5 (9, .getfield 249, 3) rfl) fl_ReturnDeskModel_249 rfl rfl (sk_31 hS) (aw_putI (pc' := 15) (dt_X11_wrong 6 (12, .putfield 268, 3) rfl) fl_ReturnDeskModel_268 rfl (by decide +kernel) rfl (sk_31 hS) (aw_ret (dt_X11_wrong 7 (15, .return_, 1) rfl) rfl (aw_stk (st' := []) rfl (aw_aload_n (pc' := 88) (dt_X11_text 42 (87, .aload_n 0, 1) rfl) rfl rfl (aw_iconst (pc' := 89) (v := 0) (dt_X11_text 43 (88, .iconst 0, 1) rfl) (by decide) rfl (aw_putI (pc' := 92) (dt_X11_text 44 (89, .putfield 239, 3) rfl) fl_ReturnDeskModel_239 rfl (by decide +kernel) rfl (sk_31 hS.wI) (aw_aload_n (pc' := 93) (dt_X11_text 45 (92, .aload_n 0, 1) rfl) rfl rfl (aw_getI (pc' := 96) (dt_X11_text 46 (93, .getfield 268, 3) rfl) fl_ReturnDeskModel_268 rfl rfl (sk_31 hS.wI.wI) (aw_if_lt (pc' := 99) (tgt := 107) (dt_X11_text 47 (96, .ifCond .lt 11, 3) rfl) (by decide) rfl ?_ ?_)))))))))))
            · intro q68
              have h := h.1 q68
              obtain ⟨g69, h⟩ := h
              obtain ⟨g70, h⟩ := h
              refine aw_aload_n (pc' := 108) (dt_X11_text 53 (107, .aload_n 0, 1) rfl) rfl rfl (aw_getAs (pc' := 111) (dt_X11_text 54 (108, .getfield 114, 3) rfl) fl_ReturnDeskModel_114 rfl rfl (sk_31 hS.wI.wI) (sa_31_43 hS.wI.wI) (aw_aload_n (pc' := 112) (dt_X11_text 55 (111, .aload_n 0, 1) rfl) rfl rfl (aw_getI (pc' := 115) (dt_X11_text 56 (112, .getfield 341, 3) rfl) fl_ReturnDeskModel_341 rfl rfl (sk_31 hS.wI.wI) (aw_iload_n (pc' := 116) (dt_X11_text 57 (115, .iload_n 1, 1) rfl) rfl rfl (aw_iast (pc' := 117) (dt_X11_text 58 (116, .iastore, 1) rfl) rfl (sk_66 hS.wI.wI) (by decide) (vin_eq (sl_66 hS.wI.wI) g69) (aw_aload_n (pc' := 118) (dt_X11_text 59 (117, .aload_n 0, 1) rfl) rfl rfl (aw_getAs (pc' := 121) (dt_X11_text 60 (118, .getfield 117, 3) rfl) fl_ReturnDeskModel_117 rfl rfl (sk_31 hS.wI.wI.wI) (sa_31_44 hS.wI.wI.wI) (aw_aload_n (pc' := 122) (dt_X11_text 61 (121, .aload_n 0, 1) rfl) rfl rfl (aw_getI (pc' := 125) (dt_X11_text 62 (122, .getfield 341, 3) rfl) fl_ReturnDeskModel_341 rfl rfl (sk_31 hS.wI.wI.wI) (aw_aload_n (pc' := 126) (dt_X11_text 63 (125, .aload_n 0, 1) rfl) rfl rfl (aw_inV (pc' := 129) (nc1 := 0) (ns1 := 0) (nc := nc) (ns := ns) (ls' := [some (.ref 31)]) (y2 := mX11_today) (As := []) (rest := [.int (zI (sI (sI (sI μ 31 54 (zI μ 31 50)) 31 41 0) 66 (zI (sI (sI μ 31 54 (zI μ 31 50)) 31 41 0) 31 42).toNatClampNeg x1) 31 42), .ref 67]) (a := 31) (dt_X11_text 64 (126, .invokevirtual 224, 3) rfl) ok_X11_today ln_ReturnDeskModel_224 im_X11_today se_X11_today pr_X11_today (Or.inl ⟨by decide, rfl⟩) rfl (Nat.le_of_ble_eq_true rfl) (Nat.le_of_ble_eq_true rfl) rfl rfl (sk_31 hS.wI.wI.wI) (aw_aload_n (pc' := 1) (dt_X11_today 0 (0, .aload_n 0, 1) rfl) rfl rfl (aw_getI (pc' := 4) (dt_X11_today 1 (1, .getfield 189, 3) rfl) fl_ReturnDeskModel_189 rfl rfl (sk_31 hS.wI.wI.wI) (aw_bipush (pc' := 6) (v := 24) (dt_X11_today 2 (4, .bipush 24, 2) rfl) (by decide) rfl (aw_idiv (pc' := 7) (dt_X11_today 3 (6, .idiv, 1) rfl) (by decide) rfl (aw_iret (dt_X11_today 4 (7, .ireturn, 1) rfl) rfl rfl (aw_stk (st' := [.int ((zI (sI (sI (sI μ 31 54 (zI μ 31 50)) 31 41 0) 66 (zI (sI (sI μ 31 54 (zI μ 31 50)) 31 41 0) 31 42).toNatClampNeg x1) 31 1) / 24), .int (zI (sI (sI (sI μ 31 54 (zI μ 31 50)) 31 41 0) 66 (zI (sI (sI μ 31 54 (zI μ 31 50)) 31 41 0) 31 42).toNatClampNeg x1) 31 42), .ref 67]) rfl (aw_iast (pc' := 130) (dt_X11_text 65 (129, .iastore, 1) rfl) rfl (sk_67 hS.wI.wI.wI) (by decide) (vin_eq (sl_67 hS.wI.wI.wI) g70) ?_))))))))))))))))))
              refine aw_mem (fun μ71 eμ72 => ?_)
              have h := h μ71 eμ72
              have hS73 : Stat μ71 := by rw [eμ72]; exact hS.wI.wI.wI.wI
              obtain ⟨g74, h⟩ := h
              obtain ⟨g75, h⟩ := h
              refine aw_aload_n (pc' := 131) (dt_X11_text 66 (130, .aload_n 0, 1) rfl) rfl rfl (aw_getAs (pc' := 134) (dt_X11_text 67 (131, .getfield 120, 3) rfl) fl_ReturnDeskModel_120 rfl rfl (sk_31 hS73) (sa_31_45 hS73) (aw_aload_n (pc' := 135) (dt_X11_text 68 (134, .aload_n 0, 1) rfl) rfl rfl (aw_getI (pc' := 138) (dt_X11_text 69 (135, .getfield 341, 3) rfl) fl_ReturnDeskModel_341 rfl rfl (sk_31 hS73) (aw_iload_n (pc' := 139) (dt_X11_text 70 (138, .iload_n 2, 1) rfl) rfl rfl (aw_iast (pc' := 140) (dt_X11_text 71 (139, .iastore, 1) rfl) rfl (sk_68 hS73) (by decide) (vin_eq (sl_68 hS73) g74) (aw_aload_n (pc' := 141) (dt_X11_text 72 (140, .aload_n 0, 1) rfl) rfl rfl (aw_getAs (pc' := 144) (dt_X11_text 73 (141, .getfield 123, 3) rfl) fl_ReturnDeskModel_123 rfl rfl (sk_31 hS73.wI) (sa_31_46 hS73.wI) (aw_aload_n (pc' := 145) (dt_X11_text 74 (144, .aload_n 0, 1) rfl) rfl rfl (aw_getI (pc' := 148) (dt_X11_text 75 (145, .getfield 341, 3) rfl) fl_ReturnDeskModel_341 rfl rfl (sk_31 hS73.wI) (aw_aload_n (pc' := 149) (dt_X11_text 76 (148, .aload_n 0, 1) rfl) rfl rfl (aw_getI (pc' := 152) (dt_X11_text 77 (149, .getfield 274, 3) rfl) fl_ReturnDeskModel_274 rfl rfl (sk_31 hS73.wI) (aw_iast (pc' := 153) (dt_X11_text 78 (152, .iastore, 1) rfl) rfl (sk_69 hS73.wI) (by decide) (vin_eq (sl_69 hS73.wI) g75) (aw_aload_n (pc' := 154) (dt_X11_text 79 (153, .aload_n 0, 1) rfl) rfl rfl (aw_dup (pc' := 155) (dt_X11_text 80 (154, .dup, 1) rfl) rfl rfl (aw_getI (pc' := 158) (dt_X11_text 81 (155, .getfield 341, 3) rfl) fl_ReturnDeskModel_341 rfl rfl (sk_31 hS73.wI.wI) (aw_iconst (pc' := 159) (v := 1) (dt_X11_text 82 (158, .iconst 1, 1) rfl) (by decide) rfl (aw_iadd (pc' := 160) (dt_X11_text 83 (159, .iadd, 1) rfl) rfl (aw_putI (pc' := 163) (dt_X11_text 84 (160, .putfield 341, 3) rfl) fl_ReturnDeskModel_341 rfl (by decide +kernel) rfl (sk_31 hS73.wI.wI) ?_))))))))))))))))))
              refine aw_mem (fun μ76 eμ77 => ?_)
              have h := h μ76 eμ77
              have hS78 : Stat μ76 := by rw [eμ77]; exact hS73.wI.wI.wI
              refine aw_aload_n (pc' := 164) (dt_X11_text 85 (163, .aload_n 0, 1) rfl) rfl rfl (aw_getI (pc' := 167) (dt_X11_text 86 (164, .getfield 341, 3) rfl) fl_ReturnDeskModel_341 rfl rfl (sk_31 hS78) (aw_iconst (pc' := 168) (v := 1) (dt_X11_text 87 (167, .iconst 1, 1) rfl) (by decide) rfl (aw_isub (pc' := 169) (dt_X11_text 88 (168, .isub, 1) rfl) rfl (aw_iret (dt_X11_text 89 (169, .ireturn, 1) rfl) rfl rfl ?_))))
              exact h
            · intro q68
              have h := h.2 q68
              refine aw_bipush (pc' := 101) (v := (-100)) (dt_X11_text 48 (99, .bipush (-100), 2) rfl) (by decide) rfl (aw_aload_n (pc' := 102) (dt_X11_text 49 (101, .aload_n 0, 1) rfl) rfl rfl (aw_getI (pc' := 105) (dt_X11_text 50 (102, .getfield 268, 3) rfl) fl_ReturnDeskModel_268 rfl rfl (sk_31 hS.wI.wI) (aw_isub (pc' := 106) (dt_X11_text 51 (105, .isub, 1) rfl) rfl (aw_iret (dt_X11_text 52 (106, .ireturn, 1) rfl) rfl rfl ?_))))
              exact h
    · intro q40
      have h := h.2 q40
      refine aw_aload_n (pc' := 59) (dt_X11_text 29 (58, .aload_n 0, 1) rfl) rfl rfl (aw_callV0 (pc' := 62) (nc := nc) (ns := ns) (y2 := mX11_next) (As := []) (rest := []) (a := 31) (dt_X11_text 30 (59, .invokevirtual 294, 3) rfl) ok_X11_next ln_ReturnDeskModel_294 im_X11_next se_X11_next pr_X11_next (Or.inl ⟨by decide, rfl⟩) rfl (Nat.le_of_ble_eq_true rfl) (Nat.le_of_ble_eq_true rfl) rfl (sk_31 hS) h ?_)
      rintro v μ79 ⟨rfl, hS80, h⟩
      refine aw_stk (st' := []) rfl ?_
      refine aw_aload_n (pc' := 63) (dt_X11_text 31 (62, .aload_n 0, 1) rfl) rfl rfl (aw_callV0 (pc' := 66) (nc := nc) (ns := ns) (y2 := mX11_rule) (As := []) (rest := []) (a := 31) (dt_X11_text 32 (63, .invokevirtual 347, 3) rfl) ok_X11_rule ln_ReturnDeskModel_347 im_X11_rule se_X11_rule pr_X11_rule (Or.inl ⟨by decide, rfl⟩) rfl (Nat.le_of_ble_eq_true rfl) (Nat.le_of_ble_eq_true rfl) rfl (sk_31 hS80) h ?_)
      rintro v μ81 ⟨rfl, hS82, h⟩
      refine aw_stk (st' := []) rfl ?_
      refine aw_goto (tgt := 42) (dt_X11_text 33 (66, .goto (-24), 3) rfl) (by decide) ?_
      exact h

theorem t_X11_forceOn {E : ZE} {l : Launch} {d nc ns : Nat} {x1 : Int32} {x2 : Int32} {x3 : Int32} {μ : ZM} {K : Option Value → ZM → Prop} (hS : Stat μ) (h :
  AW E l (d + 1) nc ns mX11_forceOn 8 [some (.ref 31), some (.int x1), some (.int x2), some (.int x3), some (.int ((zI μ 31 42) - 1))] [] μ K) : AW E l (d + 1) nc ns mX11_forceOn 0 [some (.ref 31), some (.int x1), some (.int x2), some (.int x3), none] [] μ K := by
  refine aw_aload_n (pc' := 1) (dt_X11_forceOn 0 (0, .aload_n 0, 1) rfl) rfl rfl (aw_getI (pc' := 4) (dt_X11_forceOn 1 (1, .getfield 341, 3) rfl) fl_ReturnDeskModel_341 rfl rfl (sk_31 hS) (aw_iconst (pc' := 5) (v := 1) (dt_X11_forceOn 2 (4, .iconst 1, 1) rfl) (by decide) rfl (aw_isub (pc' := 6) (dt_X11_forceOn 3 (5, .isub, 1) rfl) rfl (aw_istore (pc' := 8) (ls' := [some (.ref 31), some (.int x1), some (.int x2), some (.int x3), some (.int ((zI μ 31 42) - 1))]) (dt_X11_forceOn 4 (6, .istore 4, 2) rfl) (by decide) rfl rfl ?_))))
  exact h

theorem t_X11_forceOn_8 {E : ZE} {l : Launch} {d nc ns : Nat} {x1 : Int32} {x2 : Int32} {x3 : Int32} {x4 : Int32} {μ : ZM} {K : Option Value → ZM → Prop} (hS : Stat μ) (h :
  (x4 < 0 →
    K (some (.int (-2))) μ) ∧
  (¬ x4 < 0 →
    (vp_in x4 20) ∧
    (¬ (zI μ 66 x4.toNatClampNeg) = x1 →
      AW E l (d + 1) nc ns mX11_forceOn 8 [some (.ref 31), some (.int x1), some (.int x2), some (.int x3), some (.int (x4 + (-1)))] [] μ K) ∧
    ((zI μ 66 x4.toNatClampNeg) = x1 →
      (vp_in x4 20) ∧
      (x3 < (zI μ 67 x4.toNatClampNeg) →
        AW E l (d + 1) nc ns mX11_forceOn 8 [some (.ref 31), some (.int x1), some (.int x2), some (.int x3), some (.int (x4 + (-1)))] [] μ K) ∧
      (¬ x3 < (zI μ 67 x4.toNatClampNeg) →
        (vp_in x4 20) ∧
        (vp_in x2 300) ∧
        (((zI μ 55 x2.toNatClampNeg) / 24) < (zI μ 68 x4.toNatClampNeg) →
          AW E l (d + 1) nc ns mX11_forceOn 8 [some (.ref 31), some (.int x1), some (.int x2), some (.int x3), some (.int (x4 + (-1)))] [] μ K) ∧
        (¬ ((zI μ 55 x2.toNatClampNeg) / 24) < (zI μ 68 x4.toNatClampNeg) →
          K (some (.int x4)) μ))))) : AW E l (d + 1) nc ns mX11_forceOn 8 [some (.ref 31), some (.int x1), some (.int x2), some (.int x3), some (.int x4)] [] μ K := by
  refine aw_iload (pc' := 10) (dt_X11_forceOn 5 (8, .iload 4, 2) rfl) rfl rfl (aw_if_lt (pc' := 13) (tgt := 59) (dt_X11_forceOn 6 (10, .ifCond .lt 49, 3) rfl) (by decide) rfl ?_ ?_)
  · intro q1
    have h := h.1 q1
    refine aw_bipush (pc' := 61) (v := (-2)) (dt_X11_forceOn 31 (59, .bipush (-2), 2) rfl) (by decide) rfl (aw_iret (dt_X11_forceOn 32 (61, .ireturn, 1) rfl) rfl rfl ?_)
    exact h
  · intro q1
    have h := h.2 q1
    obtain ⟨g2, h⟩ := h
    refine aw_aload_n (pc' := 14) (dt_X11_forceOn 7 (13, .aload_n 0, 1) rfl) rfl rfl (aw_getAs (pc' := 17) (dt_X11_forceOn 8 (14, .getfield 114, 3) rfl) fl_ReturnDeskModel_114 rfl rfl (sk_31 hS) (sa_31_43 hS) (aw_iload (pc' := 19) (dt_X11_forceOn 9 (17, .iload 4, 2) rfl) rfl rfl (aw_iald (pc' := 20) (dt_X11_forceOn 10 (19, .iaload, 1) rfl) rfl (sk_66 hS) (vin_eq (sl_66 hS) g2) (aw_iload_n (pc' := 21) (dt_X11_forceOn 11 (20, .iload_n 1, 1) rfl) rfl rfl (aw_icmp_ne (pc' := 24) (tgt := 53) (dt_X11_forceOn 12 (21, .if_icmp .ne 32, 3) rfl) (by decide) rfl ?_ ?_)))))
    · intro q3
      have h := h.1 q3
      refine aw_iinc (pc' := 56) (v := (-1)) (ls' := [some (.ref 31), some (.int x1), some (.int x2), some (.int x3), some (.int (x4 + (-1)))]) (dt_X11_forceOn 29 (53, .iinc 4 (-1), 3) rfl) rfl (by decide) (by decide) rfl rfl (aw_goto (tgt := 8) (dt_X11_forceOn 30 (56, .goto (-48), 3) rfl) (by decide) ?_)
      exact h
    · intro q3
      have h := h.2 q3
      obtain ⟨g4, h⟩ := h
      refine aw_aload_n (pc' := 25) (dt_X11_forceOn 13 (24, .aload_n 0, 1) rfl) rfl rfl (aw_getAs (pc' := 28) (dt_X11_forceOn 14 (25, .getfield 117, 3) rfl) fl_ReturnDeskModel_117 rfl rfl (sk_31 hS) (sa_31_44 hS) (aw_iload (pc' := 30) (dt_X11_forceOn 15 (28, .iload 4, 2) rfl) rfl rfl (aw_iald (pc' := 31) (dt_X11_forceOn 16 (30, .iaload, 1) rfl) rfl (sk_67 hS) (vin_eq (sl_67 hS) g4) (aw_iload_n (pc' := 32) (dt_X11_forceOn 17 (31, .iload_n 3, 1) rfl) rfl rfl (aw_icmp_gt (pc' := 35) (tgt := 53) (dt_X11_forceOn 18 (32, .if_icmp .gt 21, 3) rfl) (by decide) rfl ?_ ?_)))))
      · intro q5
        have h := h.1 q5
        refine aw_iinc (pc' := 56) (v := (-1)) (ls' := [some (.ref 31), some (.int x1), some (.int x2), some (.int x3), some (.int (x4 + (-1)))]) (dt_X11_forceOn 29 (53, .iinc 4 (-1), 3) rfl) rfl (by decide) (by decide) rfl rfl (aw_goto (tgt := 8) (dt_X11_forceOn 30 (56, .goto (-48), 3) rfl) (by decide) ?_)
        exact h
      · intro q5
        have h := h.2 q5
        obtain ⟨g6, h⟩ := h
        obtain ⟨g7, h⟩ := h
        refine aw_aload_n (pc' := 36) (dt_X11_forceOn 19 (35, .aload_n 0, 1) rfl) rfl rfl (aw_getAs (pc' := 39) (dt_X11_forceOn 20 (36, .getfield 120, 3) rfl) fl_ReturnDeskModel_120 rfl rfl (sk_31 hS) (sa_31_45 hS) (aw_iload (pc' := 41) (dt_X11_forceOn 21 (39, .iload 4, 2) rfl) rfl rfl (aw_iald (pc' := 42) (dt_X11_forceOn 22 (41, .iaload, 1) rfl) rfl (sk_68 hS) (vin_eq (sl_68 hS) g6) (aw_aload_n (pc' := 43) (dt_X11_forceOn 23 (42, .aload_n 0, 1) rfl) rfl rfl (aw_iload_n (pc' := 44) (dt_X11_forceOn 24 (43, .iload_n 2, 1) rfl) rfl rfl (aw_inV (pc' := 47) (nc1 := 0) (ns1 := 0) (nc := nc) (ns := ns) (ls' := [some (.ref 31), some (.int x2)]) (y2 := mX11_dayOf) (As := [.int x2]) (rest := [.int (zI μ 68 x4.toNatClampNeg)]) (a := 31) (dt_X11_forceOn 25 (44, .invokevirtual 350, 3) rfl) ok_X11_dayOf ln_ReturnDeskModel_350 im_X11_dayOf se_X11_dayOf pr_X11_dayOf (Or.inl ⟨by decide, rfl⟩) rfl (Nat.le_of_ble_eq_true rfl) (Nat.le_of_ble_eq_true rfl) rfl rfl (sk_31 hS) (aw_aload_n (pc' := 1) (dt_X11_dayOf 0 (0, .aload_n 0, 1) rfl) rfl rfl (aw_getAs (pc' := 4) (dt_X11_dayOf 1 (1, .getfield 80, 3) rfl) fl_ReturnDeskModel_80 rfl rfl (sk_31 hS) (sa_31_30 hS) (aw_iload_n (pc' := 5) (dt_X11_dayOf 2 (4, .iload_n 1, 1) rfl) rfl rfl (aw_iald (pc' := 6) (dt_X11_dayOf 3 (5, .iaload, 1) rfl) rfl (sk_55 hS) (vin_eq (sl_55 hS) g7) (aw_bipush (pc' := 8) (v := 24) (dt_X11_dayOf 4 (6, .bipush 24, 2) rfl) (by decide) rfl (aw_idiv (pc' := 9) (dt_X11_dayOf 5 (8, .idiv, 1) rfl) (by decide) rfl (aw_iret (dt_X11_dayOf 6 (9, .ireturn, 1) rfl) rfl rfl (aw_stk (st' := [.int ((zI μ 55 x2.toNatClampNeg) / 24), .int (zI μ 68 x4.toNatClampNeg)]) rfl (aw_icmp_gt (pc' := 50) (tgt := 53) (dt_X11_forceOn 26 (47, .if_icmp .gt 6, 3) rfl) (by decide) rfl ?_ ?_)))))))))))))))
        · intro q8
          have h := h.1 q8
          refine aw_iinc (pc' := 56) (v := (-1)) (ls' := [some (.ref 31), some (.int x1), some (.int x2), some (.int x3), some (.int (x4 + (-1)))]) (dt_X11_forceOn 29 (53, .iinc 4 (-1), 3) rfl) rfl (by decide) (by decide) rfl rfl (aw_goto (tgt := 8) (dt_X11_forceOn 30 (56, .goto (-48), 3) rfl) (by decide) ?_)
          exact h
        · intro q8
          have h := h.2 q8
          refine aw_iload (pc' := 52) (dt_X11_forceOn 27 (50, .iload 4, 2) rfl) rfl rfl (aw_iret (dt_X11_forceOn 28 (52, .ireturn, 1) rfl) rfl rfl ?_)
          exact h

theorem t_X11_inForce {E : ZE} {l : Launch} {d nc ns : Nat} {x1 : Int32} {x2 : Int32} {x3 : Int32} {μ : ZM} {K : Option Value → ZM → Prop} (hS : Stat μ) (h :
  (x1 < 0 →
    K (some (.int (-1))) μ) ∧
  (¬ x1 < 0 →
    (1 < x1 →
      K (some (.int (-1))) μ) ∧
    (¬ 1 < x1 →
      (x2 < 0 →
        K (some (.int (-1))) μ) ∧
      (¬ x2 < 0 →
        (((zI μ 31 22) - 1) < x2 →
          K (some (.int (-1))) μ) ∧
        (¬ ((zI μ 31 22) - 1) < x2 →
          (x3 < 0 →
            K (some (.int (-1))) μ) ∧
          (¬ x3 < 0 →
            (2999 < x3 →
              K (some (.int (-1))) μ) ∧
            (¬ 2999 < x3 →
              AW E l (d + 1) 0 0 mX11_forceOn 0 (zargs 5 [.ref 31, .int x1, .int x2, .int x3]) [] μ (fun v μ7 => ∃ r9 : Int32, v = some (.int r9) ∧ Stat μ7 ∧ 
                K (some (.int r9)) μ7)))))))) : AW E l (d + 2) nc ns mX11_inForce 0 [some (.ref 31), some (.int x1), some (.int x2), some (.int x3)] [] μ K := by
  refine aw_iload_n (pc' := 1) (dt_X11_inForce 0 (0, .iload_n 1, 1) rfl) rfl rfl (aw_iconst (pc' := 2) (v := 0) (dt_X11_inForce 1 (1, .iconst 0, 1) rfl) (by decide) rfl (aw_iconst (pc' := 3) (v := 1) (dt_X11_inForce 2 (2, .iconst 1, 1) rfl) (by decide) rfl (aw_inS (pc' := 6) (nc1 := 0) (ns1 := 0) (nc := nc) (ns := ns) (ls' := [some (.int x1), some (.int 0), some (.int 1)]) (y2 := mX11_in) (As := [.int x1, .int 0, .int 1]) (rest := []) (dt_X11_inForce 3 (3, .invokestatic 185, 3) rfl) ok_X11_in ln_ReturnDeskModel_185 sm_X11_in pr_X11_in rfl (Nat.le_of_ble_eq_true rfl) (Nat.le_of_ble_eq_true rfl) rfl rfl (aw_iload_n (pc' := 1) (dt_X11_in 0 (0, .iload_n 0, 1) rfl) rfl rfl (aw_iload_n (pc' := 2) (dt_X11_in 1 (1, .iload_n 1, 1) rfl) rfl rfl (aw_icmp_lt (pc' := 5) (tgt := 14) (dt_X11_in 2 (2, .if_icmp .lt 12, 3) rfl) (by decide) rfl ?_ ?_))))))
  · intro q1
    have h := h.1 q1
    refine aw_iconst (pc' := 15) (v := 0) (dt_X11_in 8 (14, .iconst 0, 1) rfl) (by decide) rfl (aw_iret (dt_X11_in 9 (15, .ireturn, 1) rfl) rfl rfl (aw_stk (st' := [.int 0]) rfl (aw_if_eq_T (pc' := 9) (tgt := 34) (dt_X11_inForce 4 (6, .ifCond .eq 28, 3) rfl) (by decide) rfl (by decide) (aw_iconst (pc' := 35) (v := (-1)) (dt_X11_inForce 18 (34, .iconst (-1), 1) rfl) (by decide) rfl (aw_iret (dt_X11_inForce 19 (35, .ireturn, 1) rfl) rfl rfl ?_)))))
    exact h
  · intro q1
    have h := h.2 q1
    refine aw_iload_n (pc' := 6) (dt_X11_in 3 (5, .iload_n 0, 1) rfl) rfl rfl (aw_iload_n (pc' := 7) (dt_X11_in 4 (6, .iload_n 2, 1) rfl) rfl rfl (aw_icmp_gt (pc' := 10) (tgt := 14) (dt_X11_in 5 (7, .if_icmp .gt 7, 3) rfl) (by decide) rfl ?_ ?_))
    · intro q2
      have h := h.1 q2
      refine aw_iconst (pc' := 15) (v := 0) (dt_X11_in 8 (14, .iconst 0, 1) rfl) (by decide) rfl (aw_iret (dt_X11_in 9 (15, .ireturn, 1) rfl) rfl rfl (aw_stk (st' := [.int 0]) rfl (aw_if_eq_T (pc' := 9) (tgt := 34) (dt_X11_inForce 4 (6, .ifCond .eq 28, 3) rfl) (by decide) rfl (by decide) (aw_iconst (pc' := 35) (v := (-1)) (dt_X11_inForce 18 (34, .iconst (-1), 1) rfl) (by decide) rfl (aw_iret (dt_X11_inForce 19 (35, .ireturn, 1) rfl) rfl rfl ?_)))))
      exact h
    · intro q2
      have h := h.2 q2
      refine aw_iconst (pc' := 11) (v := 1) (dt_X11_in 6 (10, .iconst 1, 1) rfl) (by decide) rfl (aw_goto (tgt := 15) (dt_X11_in 7 (11, .goto 4, 3) rfl) (by decide) (aw_iret (dt_X11_in 9 (15, .ireturn, 1) rfl) rfl rfl (aw_stk (st' := [.int 1]) rfl (aw_if_eq_F (pc' := 9) (tgt := 34) (dt_X11_inForce 4 (6, .ifCond .eq 28, 3) rfl) (by decide) rfl (by decide) (aw_aload_n (pc' := 10) (dt_X11_inForce 5 (9, .aload_n 0, 1) rfl) rfl rfl (aw_iload_n (pc' := 11) (dt_X11_inForce 6 (10, .iload_n 2, 1) rfl) rfl rfl (aw_inV (pc' := 14) (nc1 := 0) (ns1 := 0) (nc := nc) (ns := ns) (ls' := [some (.ref 31), some (.int x2)]) (y2 := mX11_isSale) (As := [.int x2]) (rest := []) (a := 31) (dt_X11_inForce 7 (11, .invokevirtual 228, 3) rfl) ok_X11_isSale ln_ReturnDeskModel_228 im_X11_isSale se_X11_isSale pr_X11_isSale (Or.inl ⟨by decide, rfl⟩) rfl (Nat.le_of_ble_eq_true rfl) (Nat.le_of_ble_eq_true rfl) rfl rfl (sk_31 hS) (aw_iload_n (pc' := 1) (dt_X11_isSale 0 (0, .iload_n 1, 1) rfl) rfl rfl (aw_iconst (pc' := 2) (v := 0) (dt_X11_isSale 1 (1, .iconst 0, 1) rfl) (by decide) rfl (aw_aload_n (pc' := 3) (dt_X11_isSale 2 (2, .aload_n 0, 1) rfl) rfl rfl (aw_getI (pc' := 6) (dt_X11_isSale 3 (3, .getfield 215, 3) rfl) fl_ReturnDeskModel_215 rfl rfl (sk_31 hS) (aw_iconst (pc' := 7) (v := 1) (dt_X11_isSale 4 (6, .iconst 1, 1) rfl) (by decide) rfl (aw_isub (pc' := 8) (dt_X11_isSale 5 (7, .isub, 1) rfl) rfl (aw_inS (pc' := 11) (nc1 := 0) (ns1 := 0) (nc := 0) (ns := 0) (ls' := [some (.int x2), some (.int 0), some (.int ((zI μ 31 22) - 1))]) (y2 := mX11_in) (As := [.int x2, .int 0, .int ((zI μ 31 22) - 1)]) (rest := []) (dt_X11_isSale 6 (8, .invokestatic 185, 3) rfl) ok_X11_in ln_ReturnDeskModel_185 sm_X11_in pr_X11_in rfl (Nat.le_of_ble_eq_true rfl) (Nat.le_of_ble_eq_true rfl) rfl rfl (aw_iload_n (pc' := 1) (dt_X11_in 0 (0, .iload_n 0, 1) rfl) rfl rfl (aw_iload_n (pc' := 2) (dt_X11_in 1 (1, .iload_n 1, 1) rfl) rfl rfl (aw_icmp_lt (pc' := 5) (tgt := 14) (dt_X11_in 2 (2, .if_icmp .lt 12, 3) rfl) (by decide) rfl ?_ ?_)))))))))))))))))
      · intro q3
        have h := h.1 q3
        refine aw_iconst (pc' := 15) (v := 0) (dt_X11_in 8 (14, .iconst 0, 1) rfl) (by decide) rfl (aw_iret (dt_X11_in 9 (15, .ireturn, 1) rfl) rfl rfl (aw_stk (st' := [.int 0]) rfl (aw_iret (dt_X11_isSale 7 (11, .ireturn, 1) rfl) rfl rfl (aw_stk (st' := [.int 0]) rfl (aw_if_eq_T (pc' := 17) (tgt := 34) (dt_X11_inForce 8 (14, .ifCond .eq 20, 3) rfl) (by decide) rfl (by decide) (aw_iconst (pc' := 35) (v := (-1)) (dt_X11_inForce 18 (34, .iconst (-1), 1) rfl) (by decide) rfl (aw_iret (dt_X11_inForce 19 (35, .ireturn, 1) rfl) rfl rfl ?_)))))))
        exact h
      · intro q3
        have h := h.2 q3
        refine aw_iload_n (pc' := 6) (dt_X11_in 3 (5, .iload_n 0, 1) rfl) rfl rfl (aw_iload_n (pc' := 7) (dt_X11_in 4 (6, .iload_n 2, 1) rfl) rfl rfl (aw_icmp_gt (pc' := 10) (tgt := 14) (dt_X11_in 5 (7, .if_icmp .gt 7, 3) rfl) (by decide) rfl ?_ ?_))
        · intro q4
          have h := h.1 q4
          refine aw_iconst (pc' := 15) (v := 0) (dt_X11_in 8 (14, .iconst 0, 1) rfl) (by decide) rfl (aw_iret (dt_X11_in 9 (15, .ireturn, 1) rfl) rfl rfl (aw_stk (st' := [.int 0]) rfl (aw_iret (dt_X11_isSale 7 (11, .ireturn, 1) rfl) rfl rfl (aw_stk (st' := [.int 0]) rfl (aw_if_eq_T (pc' := 17) (tgt := 34) (dt_X11_inForce 8 (14, .ifCond .eq 20, 3) rfl) (by decide) rfl (by decide) (aw_iconst (pc' := 35) (v := (-1)) (dt_X11_inForce 18 (34, .iconst (-1), 1) rfl) (by decide) rfl (aw_iret (dt_X11_inForce 19 (35, .ireturn, 1) rfl) rfl rfl ?_)))))))
          exact h
        · intro q4
          have h := h.2 q4
          refine aw_iconst (pc' := 11) (v := 1) (dt_X11_in 6 (10, .iconst 1, 1) rfl) (by decide) rfl (aw_goto (tgt := 15) (dt_X11_in 7 (11, .goto 4, 3) rfl) (by decide) (aw_iret (dt_X11_in 9 (15, .ireturn, 1) rfl) rfl rfl (aw_stk (st' := [.int 1]) rfl (aw_iret (dt_X11_isSale 7 (11, .ireturn, 1) rfl) rfl rfl (aw_stk (st' := [.int 1]) rfl (aw_if_eq_F (pc' := 17) (tgt := 34) (dt_X11_inForce 8 (14, .ifCond .eq 20, 3) rfl) (by decide) rfl (by decide) (aw_iload_n (pc' := 18) (dt_X11_inForce 9 (17, .iload_n 3, 1) rfl) rfl rfl (aw_inS (pc' := 21) (nc1 := 0) (ns1 := 0) (nc := nc) (ns := ns) (ls' := [some (.int x3)]) (y2 := mX11_isDay) (As := [.int x3]) (rest := []) (dt_X11_inForce 10 (18, .invokestatic 203, 3) rfl) ok_X11_isDay ln_ReturnDeskModel_203 sm_X11_isDay pr_X11_isDay rfl (Nat.le_of_ble_eq_true rfl) (Nat.le_of_ble_eq_true rfl) rfl rfl (aw_iload_n (pc' := 1) (dt_X11_isDay 0 (0, .iload_n 0, 1) rfl) rfl rfl (aw_iconst (pc' := 2) (v := 0) (dt_X11_isDay 1 (1, .iconst 0, 1) rfl) (by decide) rfl (aw_sipush (pc' := 5) (v := 2999) (dt_X11_isDay 2 (2, .sipush 2999, 3) rfl) (by decide) rfl (aw_inS (pc' := 8) (nc1 := 0) (ns1 := 0) (nc := 0) (ns := 0) (ls' := [some (.int x3), some (.int 0), some (.int 2999)]) (y2 := mX11_in) (As := [.int x3, .int 0, .int 2999]) (rest := []) (dt_X11_isDay 3 (5, .invokestatic 185, 3) rfl) ok_X11_in ln_ReturnDeskModel_185 sm_X11_in pr_X11_in rfl (Nat.le_of_ble_eq_true rfl) (Nat.le_of_ble_eq_true rfl) rfl rfl (aw_iload_n (pc' := 1) (dt_X11_in 0 (0, .iload_n 0, 1) rfl) rfl rfl (aw_iload_n (pc' := 2) (dt_X11_in 1 (1, .iload_n 1, 1) rfl) rfl rfl (aw_icmp_lt (pc' := 5) (tgt := 14) (dt_X11_in 2 (2, .if_icmp .lt 12, 3) rfl) (by decide) rfl ?_ ?_)))))))))))))))
          · intro q5
            have h := h.1 q5
            refine aw_iconst (pc' := 15) (v := 0) (dt_X11_in 8 (14, .iconst 0, 1) rfl) (by decide) rfl (aw_iret (dt_X11_in 9 (15, .ireturn, 1) rfl) rfl rfl (aw_stk (st' := [.int 0]) rfl (aw_iret (dt_X11_isDay 4 (8, .ireturn, 1) rfl) rfl rfl (aw_stk (st' := [.int 0]) rfl (aw_if_eq_T (pc' := 24) (tgt := 34) (dt_X11_inForce 11 (21, .ifCond .eq 13, 3) rfl) (by decide) rfl (by decide) (aw_iconst (pc' := 35) (v := (-1)) (dt_X11_inForce 18 (34, .iconst (-1), 1) rfl) (by decide) rfl (aw_iret (dt_X11_inForce 19 (35, .ireturn, 1) rfl) rfl rfl ?_)))))))
            exact h
          · intro q5
            have h := h.2 q5
            refine aw_iload_n (pc' := 6) (dt_X11_in 3 (5, .iload_n 0, 1) rfl) rfl rfl (aw_iload_n (pc' := 7) (dt_X11_in 4 (6, .iload_n 2, 1) rfl) rfl rfl (aw_icmp_gt (pc' := 10) (tgt := 14) (dt_X11_in 5 (7, .if_icmp .gt 7, 3) rfl) (by decide) rfl ?_ ?_))
            · intro q6
              have h := h.1 q6
              refine aw_iconst (pc' := 15) (v := 0) (dt_X11_in 8 (14, .iconst 0, 1) rfl) (by decide) rfl (aw_iret (dt_X11_in 9 (15, .ireturn, 1) rfl) rfl rfl (aw_stk (st' := [.int 0]) rfl (aw_iret (dt_X11_isDay 4 (8, .ireturn, 1) rfl) rfl rfl (aw_stk (st' := [.int 0]) rfl (aw_if_eq_T (pc' := 24) (tgt := 34) (dt_X11_inForce 11 (21, .ifCond .eq 13, 3) rfl) (by decide) rfl (by decide) (aw_iconst (pc' := 35) (v := (-1)) (dt_X11_inForce 18 (34, .iconst (-1), 1) rfl) (by decide) rfl (aw_iret (dt_X11_inForce 19 (35, .ireturn, 1) rfl) rfl rfl ?_)))))))
              exact h
            · intro q6
              have h := h.2 q6
              refine aw_iconst (pc' := 11) (v := 1) (dt_X11_in 6 (10, .iconst 1, 1) rfl) (by decide) rfl (aw_goto (tgt := 15) (dt_X11_in 7 (11, .goto 4, 3) rfl) (by decide) (aw_iret (dt_X11_in 9 (15, .ireturn, 1) rfl) rfl rfl (aw_stk (st' := [.int 1]) rfl (aw_iret (dt_X11_isDay 4 (8, .ireturn, 1) rfl) rfl rfl (aw_stk (st' := [.int 1]) rfl (aw_if_eq_F (pc' := 24) (tgt := 34) (dt_X11_inForce 11 (21, .ifCond .eq 13, 3) rfl) (by decide) rfl (by decide) (aw_aload_n (pc' := 25) (dt_X11_inForce 12 (24, .aload_n 0, 1) rfl) rfl rfl (aw_iload_n (pc' := 26) (dt_X11_inForce 13 (25, .iload_n 1, 1) rfl) rfl rfl (aw_iload_n (pc' := 27) (dt_X11_inForce 14 (26, .iload_n 2, 1) rfl) rfl rfl (aw_iload_n (pc' := 28) (dt_X11_inForce 15 (27, .iload_n 3, 1) rfl) rfl rfl (aw_callV0 (pc' := 31) (nc := nc) (ns := ns) (y2 := mX11_forceOn) (As := [.int x1, .int x2, .int x3]) (rest := []) (a := 31) (dt_X11_inForce 16 (28, .invokevirtual 353, 3) rfl) ok_X11_forceOn ln_ReturnDeskModel_353 im_X11_forceOn se_X11_forceOn pr_X11_forceOn (Or.inl ⟨by decide, rfl⟩) rfl (Nat.le_of_ble_eq_true rfl) (Nat.le_of_ble_eq_true rfl) rfl (sk_31 hS) h ?_)))))))))))
              rintro v μ7 ⟨r9, rfl, hS8, h⟩
              refine aw_stk (st' := [.int r9]) rfl ?_
              refine aw_goto (tgt := 35) (dt_X11_inForce 17 (31, .goto 4, 3) rfl) (by decide) (aw_iret (dt_X11_inForce 19 (35, .ireturn, 1) rfl) rfl rfl ?_)
              exact h

theorem t_X11_both {E : ZE} {l : Launch} {d nc ns : Nat} {x0 : Int32} {x1 : Int32} {x2 : Int32} {μ : ZM} {K : Option Value → ZM → Prop} (hS : Stat μ) (h :
  (x0 = 10 →
    (¬ x1 = 0 →
      K (some (.int 1)) μ) ∧
    (x1 = 0 →
      (x2 = 0 →
        K (some (.int 0)) μ) ∧
      (¬ x2 = 0 →
        K (some (.int 1)) μ))) ∧
  (x0 = 11 →
    (x1 = 0 →
      K (some (.int 0)) μ) ∧
    (¬ x1 = 0 →
      (x2 = 0 →
        K (some (.int 0)) μ) ∧
      (¬ x2 = 0 →
        K (some (.int 1)) μ))) ∧
  (x0 = 12 →
    (¬ x2 = 0 →
      (¬ x2 = (-1) →
        (¬ x2 = 0) ∧
        K (some (.int (x1 / x2))) μ) ∧
      (x2 = (-1) →
        K (some (.int (-x1))) μ)) ∧
    (x2 = 0 →
      K (some (.int 0)) μ)) ∧
  (x0 = 13 →
    (¬ x2 = 0 →
      (¬ x2 = (-1) →
        (¬ x2 = 0) ∧
        K (some (.int (x1 / x2))) μ) ∧
      (x2 = (-1) →
        K (some (.int (-x1))) μ)) ∧
    (x2 = 0 →
      K (some (.int 0)) μ)) ∧
  (x0 = 14 →
    (¬ x2 = 0 →
      (¬ x2 = (-1) →
        (¬ x2 = 0) ∧
        K (some (.int (x1 / x2))) μ) ∧
      (x2 = (-1) →
        K (some (.int (-x1))) μ)) ∧
    (x2 = 0 →
      K (some (.int 0)) μ)) ∧
  (x0 = 15 →
    (¬ x2 = 0 →
      (¬ x2 = (-1) →
        (¬ x2 = 0) ∧
        K (some (.int (x1 / x2))) μ) ∧
      (x2 = (-1) →
        K (some (.int (-x1))) μ)) ∧
    (x2 = 0 →
      K (some (.int 0)) μ)) ∧
  (x0 = 16 →
    (¬ x2 = 0 →
      (¬ x2 = (-1) →
        (¬ x2 = 0) ∧
        K (some (.int (x1 / x2))) μ) ∧
      (x2 = (-1) →
        K (some (.int (-x1))) μ)) ∧
    (x2 = 0 →
      K (some (.int 0)) μ)) ∧
  (x0 = 17 →
    (¬ x2 = 0 →
      (¬ x2 = (-1) →
        (¬ x2 = 0) ∧
        K (some (.int (x1 / x2))) μ) ∧
      (x2 = (-1) →
        K (some (.int (-x1))) μ)) ∧
    (x2 = 0 →
      K (some (.int 0)) μ)) ∧
  (x0 = 18 →
    (¬ x2 = 0 →
      (¬ x2 = (-1) →
        (¬ x2 = 0) ∧
        K (some (.int (x1 / x2))) μ) ∧
      (x2 = (-1) →
        K (some (.int (-x1))) μ)) ∧
    (x2 = 0 →
      K (some (.int 0)) μ)) ∧
  (x0 = 19 →
    (¬ x2 = 0 →
      (¬ x2 = (-1) →
        (¬ x2 = 0) ∧
        K (some (.int (x1 / x2))) μ) ∧
      (x2 = (-1) →
        K (some (.int (-x1))) μ)) ∧
    (x2 = 0 →
      K (some (.int 0)) μ)) ∧
  (x0 = 20 →
    (x2 ≤ x1 →
      K (some (.int 0)) μ) ∧
    (¬ x2 ≤ x1 →
      K (some (.int 1)) μ)) ∧
  (x0 = 21 →
    (¬ x1 = x2 →
      K (some (.int 0)) μ) ∧
    (x1 = x2 →
      K (some (.int 1)) μ)) ∧
  (x0 = 22 →
    (x1 ≤ x2 →
      K (some (.int 0)) μ) ∧
    (¬ x1 ≤ x2 →
      K (some (.int 1)) μ)) ∧
  (x0 = 23 →
    (¬ x2 = 0 →
      (¬ x2 = (-1) →
        (¬ x2 = 0) ∧
        K (some (.int (x1 / x2))) μ) ∧
      (x2 = (-1) →
        K (some (.int (-x1))) μ)) ∧
    (x2 = 0 →
      K (some (.int 0)) μ)) ∧
  (x0 = 24 →
    (¬ x2 = 0 →
      (¬ x2 = (-1) →
        (¬ x2 = 0) ∧
        K (some (.int (x1 / x2))) μ) ∧
      (x2 = (-1) →
        K (some (.int (-x1))) μ)) ∧
    (x2 = 0 →
      K (some (.int 0)) μ)) ∧
  (x0 = 25 →
    (¬ x2 = 0 →
      (¬ x2 = (-1) →
        (¬ x2 = 0) ∧
        K (some (.int (x1 / x2))) μ) ∧
      (x2 = (-1) →
        K (some (.int (-x1))) μ)) ∧
    (x2 = 0 →
      K (some (.int 0)) μ)) ∧
  (x0 = 26 →
    (¬ x2 = 0 →
      (¬ x2 = (-1) →
        (¬ x2 = 0) ∧
        K (some (.int (x1 / x2))) μ) ∧
      (x2 = (-1) →
        K (some (.int (-x1))) μ)) ∧
    (x2 = 0 →
      K (some (.int 0)) μ)) ∧
  (x0 = 27 →
    (¬ x2 = 0 →
      (¬ x2 = (-1) →
        (¬ x2 = 0) ∧
        K (some (.int (x1 / x2))) μ) ∧
      (x2 = (-1) →
        K (some (.int (-x1))) μ)) ∧
    (x2 = 0 →
      K (some (.int 0)) μ)) ∧
  (x0 = 28 →
    (¬ x2 = 0 →
      (¬ x2 = (-1) →
        (¬ x2 = 0) ∧
        K (some (.int (x1 / x2))) μ) ∧
      (x2 = (-1) →
        K (some (.int (-x1))) μ)) ∧
    (x2 = 0 →
      K (some (.int 0)) μ)) ∧
  (x0 = 29 →
    (¬ x2 = 0 →
      (¬ x2 = (-1) →
        (¬ x2 = 0) ∧
        K (some (.int (x1 / x2))) μ) ∧
      (x2 = (-1) →
        K (some (.int (-x1))) μ)) ∧
    (x2 = 0 →
      K (some (.int 0)) μ)) ∧
  (x0 = 30 →
    K (some (.int (x1 + x2))) μ) ∧
  (x0 = 31 →
    K (some (.int (x1 - x2))) μ) ∧
  (x0 = 32 →
    K (some (.int (x1 * x2))) μ) ∧
  ((¬ x0 = 10 ∧ ¬ x0 = 11 ∧ ¬ x0 = 12 ∧ ¬ x0 = 13 ∧ ¬ x0 = 14 ∧ ¬ x0 = 15 ∧ ¬ x0 = 16 ∧ ¬ x0 = 17 ∧ ¬ x0 = 18 ∧ ¬ x0 = 19 ∧ ¬ x0 = 20 ∧ ¬ x0 = 21 ∧ ¬ x0 = 22 ∧ ¬ x0 = 23 ∧ ¬ x0 = 24 ∧ ¬ x0 = 25 ∧ ¬ x0 = 26 ∧ ¬ x0 = 27 ∧ ¬ x0 = 28 ∧ ¬ x0 = 29 ∧ ¬ x0 = 30 ∧ ¬ x0 = 31 ∧ ¬ x0 = 32) →
  (¬ x2 = 0 →
    (¬ x2 = (-1) →
      (¬ x2 = 0) ∧
      K (some (.int (x1 / x2))) μ) ∧
    (x2 = (-1) →
      K (some (.int (-x1))) μ)) ∧
  (x2 = 0 →
    K (some (.int 0)) μ))) : AW E l d nc ns mX11_both 0 [some (.int x0), some (.int x1), some (.int x2)] [] μ K := by
  refine aw_iload_n (pc' := 1) (dt_X11_both 0 (0, .iload_n 0, 1) rfl) rfl rfl ?_
  by_cases q1 : x0 = 10
  · have h := h.1 q1
    refine aw_tableE (tgt := 108) (off := 107) (dt_X11_both 1 (1, .tableswitch 180 10 32 #[107, 121, 180, 180, 180, 180, 180, 180, 180, 180, 135, 146, 157, 180, 180, 180, 180, 180, 180, 180, 168, 172, 176], 107) rfl) q1 (by decide) (by decide) (by decide) (by decide) ?_
    refine aw_iload_n (pc' := 109) (dt_X11_both 2 (108, .iload_n 1, 1) rfl) rfl rfl (aw_if_ne (pc' := 112) (tgt := 116) (dt_X11_both 3 (109, .ifCond .ne 7, 3) rfl) (by decide) rfl ?_ ?_)
    · intro q2
      have h := h.1 q2
      refine aw_iconst (pc' := 117) (v := 1) (dt_X11_both 6 (116, .iconst 1, 1) rfl) (by decide) rfl (aw_goto (tgt := 121) (dt_X11_both 7 (117, .goto 4, 3) rfl) (by decide) (aw_iret (dt_X11_both 9 (121, .ireturn, 1) rfl) rfl rfl ?_))
      exact h
    · intro q2
      have h := h.2 q2
      refine aw_iload_n (pc' := 113) (dt_X11_both 4 (112, .iload_n 2, 1) rfl) rfl rfl (aw_if_eq (pc' := 116) (tgt := 120) (dt_X11_both 5 (113, .ifCond .eq 7, 3) rfl) (by decide) rfl ?_ ?_)
      · intro q3
        have h := h.1 q3
        refine aw_iconst (pc' := 121) (v := 0) (dt_X11_both 8 (120, .iconst 0, 1) rfl) (by decide) rfl (aw_iret (dt_X11_both 9 (121, .ireturn, 1) rfl) rfl rfl ?_)
        exact h
      · intro q3
        have h := h.2 q3
        refine aw_iconst (pc' := 117) (v := 1) (dt_X11_both 6 (116, .iconst 1, 1) rfl) (by decide) rfl (aw_goto (tgt := 121) (dt_X11_both 7 (117, .goto 4, 3) rfl) (by decide) (aw_iret (dt_X11_both 9 (121, .ireturn, 1) rfl) rfl rfl ?_))
        exact h
  by_cases q4 : x0 = 11
  · have h := h.2.1 q4
    refine aw_tableE (tgt := 122) (off := 121) (dt_X11_both 1 (1, .tableswitch 180 10 32 #[107, 121, 180, 180, 180, 180, 180, 180, 180, 180, 135, 146, 157, 180, 180, 180, 180, 180, 180, 180, 168, 172, 176], 107) rfl) q4 (by decide) (by decide) (by decide) (by decide) ?_
    refine aw_iload_n (pc' := 123) (dt_X11_both 10 (122, .iload_n 1, 1) rfl) rfl rfl (aw_if_eq (pc' := 126) (tgt := 134) (dt_X11_both 11 (123, .ifCond .eq 11, 3) rfl) (by decide) rfl ?_ ?_)
    · intro q5
      have h := h.1 q5
      refine aw_iconst (pc' := 135) (v := 0) (dt_X11_both 16 (134, .iconst 0, 1) rfl) (by decide) rfl (aw_iret (dt_X11_both 17 (135, .ireturn, 1) rfl) rfl rfl ?_)
      exact h
    · intro q5
      have h := h.2 q5
      refine aw_iload_n (pc' := 127) (dt_X11_both 12 (126, .iload_n 2, 1) rfl) rfl rfl (aw_if_eq (pc' := 130) (tgt := 134) (dt_X11_both 13 (127, .ifCond .eq 7, 3) rfl) (by decide) rfl ?_ ?_)
      · intro q6
        have h := h.1 q6
        refine aw_iconst (pc' := 135) (v := 0) (dt_X11_both 16 (134, .iconst 0, 1) rfl) (by decide) rfl (aw_iret (dt_X11_both 17 (135, .ireturn, 1) rfl) rfl rfl ?_)
        exact h
      · intro q6
        have h := h.2 q6
        refine aw_iconst (pc' := 131) (v := 1) (dt_X11_both 14 (130, .iconst 1, 1) rfl) (by decide) rfl (aw_goto (tgt := 135) (dt_X11_both 15 (131, .goto 4, 3) rfl) (by decide) (aw_iret (dt_X11_both 17 (135, .ireturn, 1) rfl) rfl rfl ?_))
        exact h
  by_cases q7 : x0 = 12
  · have h := h.2.2.1 q7
    refine aw_tableE (tgt := 181) (off := 180) (dt_X11_both 1 (1, .tableswitch 180 10 32 #[107, 121, 180, 180, 180, 180, 180, 180, 180, 180, 135, 146, 157, 180, 180, 180, 180, 180, 180, 180, 168, 172, 176], 107) rfl) q7 (by decide) (by decide) (by decide) (by decide) ?_
    refine aw_iload_n (pc' := 182) (dt_X11_both 51 (181, .iload_n 2, 1) rfl) rfl rfl (aw_if_ne (pc' := 185) (tgt := 189) (dt_X11_both 52 (182, .ifCond .ne 7, 3) rfl) (by decide) rfl ?_ ?_)
    · intro q8
      have h := h.1 q8
      refine aw_iload_n (pc' := 190) (dt_X11_both 55 (189, .iload_n 2, 1) rfl) rfl rfl (aw_iconst (pc' := 191) (v := (-1)) (dt_X11_both 56 (190, .iconst (-1), 1) rfl) (by decide) rfl (aw_icmp_ne (pc' := 194) (tgt := 199) (dt_X11_both 57 (191, .if_icmp .ne 8, 3) rfl) (by decide) rfl ?_ ?_))
      · intro q9
        have h := h.1 q9
        obtain ⟨g10, h⟩ := h
        refine aw_iload_n (pc' := 200) (dt_X11_both 61 (199, .iload_n 1, 1) rfl) rfl rfl (aw_iload_n (pc' := 201) (dt_X11_both 62 (200, .iload_n 2, 1) rfl) rfl rfl (aw_idiv (pc' := 202) (dt_X11_both 63 (201, .idiv, 1) rfl) g10 rfl (aw_iret (dt_X11_both 64 (202, .ireturn, 1) rfl) rfl rfl ?_)))
        exact h
      · intro q9
        have h := h.2 q9
        refine aw_iload_n (pc' := 195) (dt_X11_both 58 (194, .iload_n 1, 1) rfl) rfl rfl (aw_ineg (pc' := 196) (dt_X11_both 59 (195, .ineg, 1) rfl) rfl (aw_goto (tgt := 202) (dt_X11_both 60 (196, .goto 6, 3) rfl) (by decide) (aw_iret (dt_X11_both 64 (202, .ireturn, 1) rfl) rfl rfl ?_)))
        exact h
    · intro q8
      have h := h.2 q8
      refine aw_iconst (pc' := 186) (v := 0) (dt_X11_both 53 (185, .iconst 0, 1) rfl) (by decide) rfl (aw_goto (tgt := 202) (dt_X11_both 54 (186, .goto 16, 3) rfl) (by decide) (aw_iret (dt_X11_both 64 (202, .ireturn, 1) rfl) rfl rfl ?_))
      exact h
  by_cases q11 : x0 = 13
  · have h := h.2.2.2.1 q11
    refine aw_tableE (tgt := 181) (off := 180) (dt_X11_both 1 (1, .tableswitch 180 10 32 #[107, 121, 180, 180, 180, 180, 180, 180, 180, 180, 135, 146, 157, 180, 180, 180, 180, 180, 180, 180, 168, 172, 176], 107) rfl) q11 (by decide) (by decide) (by decide) (by decide) ?_
    refine aw_iload_n (pc' := 182) (dt_X11_both 51 (181, .iload_n 2, 1) rfl) rfl rfl (aw_if_ne (pc' := 185) (tgt := 189) (dt_X11_both 52 (182, .ifCond .ne 7, 3) rfl) (by decide) rfl ?_ ?_)
    · intro q12
      have h := h.1 q12
      refine aw_iload_n (pc' := 190) (dt_X11_both 55 (189, .iload_n 2, 1) rfl) rfl rfl (aw_iconst (pc' := 191) (v := (-1)) (dt_X11_both 56 (190, .iconst (-1), 1) rfl) (by decide) rfl (aw_icmp_ne (pc' := 194) (tgt := 199) (dt_X11_both 57 (191, .if_icmp .ne 8, 3) rfl) (by decide) rfl ?_ ?_))
      · intro q13
        have h := h.1 q13
        obtain ⟨g14, h⟩ := h
        refine aw_iload_n (pc' := 200) (dt_X11_both 61 (199, .iload_n 1, 1) rfl) rfl rfl (aw_iload_n (pc' := 201) (dt_X11_both 62 (200, .iload_n 2, 1) rfl) rfl rfl (aw_idiv (pc' := 202) (dt_X11_both 63 (201, .idiv, 1) rfl) g14 rfl (aw_iret (dt_X11_both 64 (202, .ireturn, 1) rfl) rfl rfl ?_)))
        exact h
      · intro q13
        have h := h.2 q13
        refine aw_iload_n (pc' := 195) (dt_X11_both 58 (194, .iload_n 1, 1) rfl) rfl rfl (aw_ineg (pc' := 196) (dt_X11_both 59 (195, .ineg, 1) rfl) rfl (aw_goto (tgt := 202) (dt_X11_both 60 (196, .goto 6, 3) rfl) (by decide) (aw_iret (dt_X11_both 64 (202, .ireturn, 1) rfl) rfl rfl ?_)))
        exact h
    · intro q12
      have h := h.2 q12
      refine aw_iconst (pc' := 186) (v := 0) (dt_X11_both 53 (185, .iconst 0, 1) rfl) (by decide) rfl (aw_goto (tgt := 202) (dt_X11_both 54 (186, .goto 16, 3) rfl) (by decide) (aw_iret (dt_X11_both 64 (202, .ireturn, 1) rfl) rfl rfl ?_))
      exact h
  by_cases q15 : x0 = 14
  · have h := h.2.2.2.2.1 q15
    refine aw_tableE (tgt := 181) (off := 180) (dt_X11_both 1 (1, .tableswitch 180 10 32 #[107, 121, 180, 180, 180, 180, 180, 180, 180, 180, 135, 146, 157, 180, 180, 180, 180, 180, 180, 180, 168, 172, 176], 107) rfl) q15 (by decide) (by decide) (by decide) (by decide) ?_
    refine aw_iload_n (pc' := 182) (dt_X11_both 51 (181, .iload_n 2, 1) rfl) rfl rfl (aw_if_ne (pc' := 185) (tgt := 189) (dt_X11_both 52 (182, .ifCond .ne 7, 3) rfl) (by decide) rfl ?_ ?_)
    · intro q16
      have h := h.1 q16
      refine aw_iload_n (pc' := 190) (dt_X11_both 55 (189, .iload_n 2, 1) rfl) rfl rfl (aw_iconst (pc' := 191) (v := (-1)) (dt_X11_both 56 (190, .iconst (-1), 1) rfl) (by decide) rfl (aw_icmp_ne (pc' := 194) (tgt := 199) (dt_X11_both 57 (191, .if_icmp .ne 8, 3) rfl) (by decide) rfl ?_ ?_))
      · intro q17
        have h := h.1 q17
        obtain ⟨g18, h⟩ := h
        refine aw_iload_n (pc' := 200) (dt_X11_both 61 (199, .iload_n 1, 1) rfl) rfl rfl (aw_iload_n (pc' := 201) (dt_X11_both 62 (200, .iload_n 2, 1) rfl) rfl rfl (aw_idiv (pc' := 202) (dt_X11_both 63 (201, .idiv, 1) rfl) g18 rfl (aw_iret (dt_X11_both 64 (202, .ireturn, 1) rfl) rfl rfl ?_)))
        exact h
      · intro q17
        have h := h.2 q17
        refine aw_iload_n (pc' := 195) (dt_X11_both 58 (194, .iload_n 1, 1) rfl) rfl rfl (aw_ineg (pc' := 196) (dt_X11_both 59 (195, .ineg, 1) rfl) rfl (aw_goto (tgt := 202) (dt_X11_both 60 (196, .goto 6, 3) rfl) (by decide) (aw_iret (dt_X11_both 64 (202, .ireturn, 1) rfl) rfl rfl ?_)))
        exact h
    · intro q16
      have h := h.2 q16
      refine aw_iconst (pc' := 186) (v := 0) (dt_X11_both 53 (185, .iconst 0, 1) rfl) (by decide) rfl (aw_goto (tgt := 202) (dt_X11_both 54 (186, .goto 16, 3) rfl) (by decide) (aw_iret (dt_X11_both 64 (202, .ireturn, 1) rfl) rfl rfl ?_))
      exact h
  by_cases q19 : x0 = 15
  · have h := h.2.2.2.2.2.1 q19
    refine aw_tableE (tgt := 181) (off := 180) (dt_X11_both 1 (1, .tableswitch 180 10 32 #[107, 121, 180, 180, 180, 180, 180, 180, 180, 180, 135, 146, 157, 180, 180, 180, 180, 180, 180, 180, 168, 172, 176], 107) rfl) q19 (by decide) (by decide) (by decide) (by decide) ?_
    refine aw_iload_n (pc' := 182) (dt_X11_both 51 (181, .iload_n 2, 1) rfl) rfl rfl (aw_if_ne (pc' := 185) (tgt := 189) (dt_X11_both 52 (182, .ifCond .ne 7, 3) rfl) (by decide) rfl ?_ ?_)
    · intro q20
      have h := h.1 q20
      refine aw_iload_n (pc' := 190) (dt_X11_both 55 (189, .iload_n 2, 1) rfl) rfl rfl (aw_iconst (pc' := 191) (v := (-1)) (dt_X11_both 56 (190, .iconst (-1), 1) rfl) (by decide) rfl (aw_icmp_ne (pc' := 194) (tgt := 199) (dt_X11_both 57 (191, .if_icmp .ne 8, 3) rfl) (by decide) rfl ?_ ?_))
      · intro q21
        have h := h.1 q21
        obtain ⟨g22, h⟩ := h
        refine aw_iload_n (pc' := 200) (dt_X11_both 61 (199, .iload_n 1, 1) rfl) rfl rfl (aw_iload_n (pc' := 201) (dt_X11_both 62 (200, .iload_n 2, 1) rfl) rfl rfl (aw_idiv (pc' := 202) (dt_X11_both 63 (201, .idiv, 1) rfl) g22 rfl (aw_iret (dt_X11_both 64 (202, .ireturn, 1) rfl) rfl rfl ?_)))
        exact h
      · intro q21
        have h := h.2 q21
        refine aw_iload_n (pc' := 195) (dt_X11_both 58 (194, .iload_n 1, 1) rfl) rfl rfl (aw_ineg (pc' := 196) (dt_X11_both 59 (195, .ineg, 1) rfl) rfl (aw_goto (tgt := 202) (dt_X11_both 60 (196, .goto 6, 3) rfl) (by decide) (aw_iret (dt_X11_both 64 (202, .ireturn, 1) rfl) rfl rfl ?_)))
        exact h
    · intro q20
      have h := h.2 q20
      refine aw_iconst (pc' := 186) (v := 0) (dt_X11_both 53 (185, .iconst 0, 1) rfl) (by decide) rfl (aw_goto (tgt := 202) (dt_X11_both 54 (186, .goto 16, 3) rfl) (by decide) (aw_iret (dt_X11_both 64 (202, .ireturn, 1) rfl) rfl rfl ?_))
      exact h
  by_cases q23 : x0 = 16
  · have h := h.2.2.2.2.2.2.1 q23
    refine aw_tableE (tgt := 181) (off := 180) (dt_X11_both 1 (1, .tableswitch 180 10 32 #[107, 121, 180, 180, 180, 180, 180, 180, 180, 180, 135, 146, 157, 180, 180, 180, 180, 180, 180, 180, 168, 172, 176], 107) rfl) q23 (by decide) (by decide) (by decide) (by decide) ?_
    refine aw_iload_n (pc' := 182) (dt_X11_both 51 (181, .iload_n 2, 1) rfl) rfl rfl (aw_if_ne (pc' := 185) (tgt := 189) (dt_X11_both 52 (182, .ifCond .ne 7, 3) rfl) (by decide) rfl ?_ ?_)
    · intro q24
      have h := h.1 q24
      refine aw_iload_n (pc' := 190) (dt_X11_both 55 (189, .iload_n 2, 1) rfl) rfl rfl (aw_iconst (pc' := 191) (v := (-1)) (dt_X11_both 56 (190, .iconst (-1), 1) rfl) (by decide) rfl (aw_icmp_ne (pc' := 194) (tgt := 199) (dt_X11_both 57 (191, .if_icmp .ne 8, 3) rfl) (by decide) rfl ?_ ?_))
      · intro q25
        have h := h.1 q25
        obtain ⟨g26, h⟩ := h
        refine aw_iload_n (pc' := 200) (dt_X11_both 61 (199, .iload_n 1, 1) rfl) rfl rfl (aw_iload_n (pc' := 201) (dt_X11_both 62 (200, .iload_n 2, 1) rfl) rfl rfl (aw_idiv (pc' := 202) (dt_X11_both 63 (201, .idiv, 1) rfl) g26 rfl (aw_iret (dt_X11_both 64 (202, .ireturn, 1) rfl) rfl rfl ?_)))
        exact h
      · intro q25
        have h := h.2 q25
        refine aw_iload_n (pc' := 195) (dt_X11_both 58 (194, .iload_n 1, 1) rfl) rfl rfl (aw_ineg (pc' := 196) (dt_X11_both 59 (195, .ineg, 1) rfl) rfl (aw_goto (tgt := 202) (dt_X11_both 60 (196, .goto 6, 3) rfl) (by decide) (aw_iret (dt_X11_both 64 (202, .ireturn, 1) rfl) rfl rfl ?_)))
        exact h
    · intro q24
      have h := h.2 q24
      refine aw_iconst (pc' := 186) (v := 0) (dt_X11_both 53 (185, .iconst 0, 1) rfl) (by decide) rfl (aw_goto (tgt := 202) (dt_X11_both 54 (186, .goto 16, 3) rfl) (by decide) (aw_iret (dt_X11_both 64 (202, .ireturn, 1) rfl) rfl rfl ?_))
      exact h
  by_cases q27 : x0 = 17
  · have h := h.2.2.2.2.2.2.2.1 q27
    refine aw_tableE (tgt := 181) (off := 180) (dt_X11_both 1 (1, .tableswitch 180 10 32 #[107, 121, 180, 180, 180, 180, 180, 180, 180, 180, 135, 146, 157, 180, 180, 180, 180, 180, 180, 180, 168, 172, 176], 107) rfl) q27 (by decide) (by decide) (by decide) (by decide) ?_
    refine aw_iload_n (pc' := 182) (dt_X11_both 51 (181, .iload_n 2, 1) rfl) rfl rfl (aw_if_ne (pc' := 185) (tgt := 189) (dt_X11_both 52 (182, .ifCond .ne 7, 3) rfl) (by decide) rfl ?_ ?_)
    · intro q28
      have h := h.1 q28
      refine aw_iload_n (pc' := 190) (dt_X11_both 55 (189, .iload_n 2, 1) rfl) rfl rfl (aw_iconst (pc' := 191) (v := (-1)) (dt_X11_both 56 (190, .iconst (-1), 1) rfl) (by decide) rfl (aw_icmp_ne (pc' := 194) (tgt := 199) (dt_X11_both 57 (191, .if_icmp .ne 8, 3) rfl) (by decide) rfl ?_ ?_))
      · intro q29
        have h := h.1 q29
        obtain ⟨g30, h⟩ := h
        refine aw_iload_n (pc' := 200) (dt_X11_both 61 (199, .iload_n 1, 1) rfl) rfl rfl (aw_iload_n (pc' := 201) (dt_X11_both 62 (200, .iload_n 2, 1) rfl) rfl rfl (aw_idiv (pc' := 202) (dt_X11_both 63 (201, .idiv, 1) rfl) g30 rfl (aw_iret (dt_X11_both 64 (202, .ireturn, 1) rfl) rfl rfl ?_)))
        exact h
      · intro q29
        have h := h.2 q29
        refine aw_iload_n (pc' := 195) (dt_X11_both 58 (194, .iload_n 1, 1) rfl) rfl rfl (aw_ineg (pc' := 196) (dt_X11_both 59 (195, .ineg, 1) rfl) rfl (aw_goto (tgt := 202) (dt_X11_both 60 (196, .goto 6, 3) rfl) (by decide) (aw_iret (dt_X11_both 64 (202, .ireturn, 1) rfl) rfl rfl ?_)))
        exact h
    · intro q28
      have h := h.2 q28
      refine aw_iconst (pc' := 186) (v := 0) (dt_X11_both 53 (185, .iconst 0, 1) rfl) (by decide) rfl (aw_goto (tgt := 202) (dt_X11_both 54 (186, .goto 16, 3) rfl) (by decide) (aw_iret (dt_X11_both 64 (202, .ireturn, 1) rfl) rfl rfl ?_))
      exact h
  by_cases q31 : x0 = 18
  · have h := h.2.2.2.2.2.2.2.2.1 q31
    refine aw_tableE (tgt := 181) (off := 180) (dt_X11_both 1 (1, .tableswitch 180 10 32 #[107, 121, 180, 180, 180, 180, 180, 180, 180, 180, 135, 146, 157, 180, 180, 180, 180, 180, 180, 180, 168, 172, 176], 107) rfl) q31 (by decide) (by decide) (by decide) (by decide) ?_
    refine aw_iload_n (pc' := 182) (dt_X11_both 51 (181, .iload_n 2, 1) rfl) rfl rfl (aw_if_ne (pc' := 185) (tgt := 189) (dt_X11_both 52 (182, .ifCond .ne 7, 3) rfl) (by decide) rfl ?_ ?_)
    · intro q32
      have h := h.1 q32
      refine aw_iload_n (pc' := 190) (dt_X11_both 55 (189, .iload_n 2, 1) rfl) rfl rfl (aw_iconst (pc' := 191) (v := (-1)) (dt_X11_both 56 (190, .iconst (-1), 1) rfl) (by decide) rfl (aw_icmp_ne (pc' := 194) (tgt := 199) (dt_X11_both 57 (191, .if_icmp .ne 8, 3) rfl) (by decide) rfl ?_ ?_))
      · intro q33
        have h := h.1 q33
        obtain ⟨g34, h⟩ := h
        refine aw_iload_n (pc' := 200) (dt_X11_both 61 (199, .iload_n 1, 1) rfl) rfl rfl (aw_iload_n (pc' := 201) (dt_X11_both 62 (200, .iload_n 2, 1) rfl) rfl rfl (aw_idiv (pc' := 202) (dt_X11_both 63 (201, .idiv, 1) rfl) g34 rfl (aw_iret (dt_X11_both 64 (202, .ireturn, 1) rfl) rfl rfl ?_)))
        exact h
      · intro q33
        have h := h.2 q33
        refine aw_iload_n (pc' := 195) (dt_X11_both 58 (194, .iload_n 1, 1) rfl) rfl rfl (aw_ineg (pc' := 196) (dt_X11_both 59 (195, .ineg, 1) rfl) rfl (aw_goto (tgt := 202) (dt_X11_both 60 (196, .goto 6, 3) rfl) (by decide) (aw_iret (dt_X11_both 64 (202, .ireturn, 1) rfl) rfl rfl ?_)))
        exact h
    · intro q32
      have h := h.2 q32
      refine aw_iconst (pc' := 186) (v := 0) (dt_X11_both 53 (185, .iconst 0, 1) rfl) (by decide) rfl (aw_goto (tgt := 202) (dt_X11_both 54 (186, .goto 16, 3) rfl) (by decide) (aw_iret (dt_X11_both 64 (202, .ireturn, 1) rfl) rfl rfl ?_))
      exact h
  by_cases q35 : x0 = 19
  · have h := h.2.2.2.2.2.2.2.2.2.1 q35
    refine aw_tableE (tgt := 181) (off := 180) (dt_X11_both 1 (1, .tableswitch 180 10 32 #[107, 121, 180, 180, 180, 180, 180, 180, 180, 180, 135, 146, 157, 180, 180, 180, 180, 180, 180, 180, 168, 172, 176], 107) rfl) q35 (by decide) (by decide) (by decide) (by decide) ?_
    refine aw_iload_n (pc' := 182) (dt_X11_both 51 (181, .iload_n 2, 1) rfl) rfl rfl (aw_if_ne (pc' := 185) (tgt := 189) (dt_X11_both 52 (182, .ifCond .ne 7, 3) rfl) (by decide) rfl ?_ ?_)
    · intro q36
      have h := h.1 q36
      refine aw_iload_n (pc' := 190) (dt_X11_both 55 (189, .iload_n 2, 1) rfl) rfl rfl (aw_iconst (pc' := 191) (v := (-1)) (dt_X11_both 56 (190, .iconst (-1), 1) rfl) (by decide) rfl (aw_icmp_ne (pc' := 194) (tgt := 199) (dt_X11_both 57 (191, .if_icmp .ne 8, 3) rfl) (by decide) rfl ?_ ?_))
      · intro q37
        have h := h.1 q37
        obtain ⟨g38, h⟩ := h
        refine aw_iload_n (pc' := 200) (dt_X11_both 61 (199, .iload_n 1, 1) rfl) rfl rfl (aw_iload_n (pc' := 201) (dt_X11_both 62 (200, .iload_n 2, 1) rfl) rfl rfl (aw_idiv (pc' := 202) (dt_X11_both 63 (201, .idiv, 1) rfl) g38 rfl (aw_iret (dt_X11_both 64 (202, .ireturn, 1) rfl) rfl rfl ?_)))
        exact h
      · intro q37
        have h := h.2 q37
        refine aw_iload_n (pc' := 195) (dt_X11_both 58 (194, .iload_n 1, 1) rfl) rfl rfl (aw_ineg (pc' := 196) (dt_X11_both 59 (195, .ineg, 1) rfl) rfl (aw_goto (tgt := 202) (dt_X11_both 60 (196, .goto 6, 3) rfl) (by decide) (aw_iret (dt_X11_both 64 (202, .ireturn, 1) rfl) rfl rfl ?_)))
        exact h
    · intro q36
      have h := h.2 q36
      refine aw_iconst (pc' := 186) (v := 0) (dt_X11_both 53 (185, .iconst 0, 1) rfl) (by decide) rfl (aw_goto (tgt := 202) (dt_X11_both 54 (186, .goto 16, 3) rfl) (by decide) (aw_iret (dt_X11_both 64 (202, .ireturn, 1) rfl) rfl rfl ?_))
      exact h
  by_cases q39 : x0 = 20
  · have h := h.2.2.2.2.2.2.2.2.2.2.1 q39
    refine aw_tableE (tgt := 136) (off := 135) (dt_X11_both 1 (1, .tableswitch 180 10 32 #[107, 121, 180, 180, 180, 180, 180, 180, 180, 180, 135, 146, 157, 180, 180, 180, 180, 180, 180, 180, 168, 172, 176], 107) rfl) q39 (by decide) (by decide) (by decide) (by decide) ?_
    refine aw_iload_n (pc' := 137) (dt_X11_both 18 (136, .iload_n 1, 1) rfl) rfl rfl (aw_iload_n (pc' := 138) (dt_X11_both 19 (137, .iload_n 2, 1) rfl) rfl rfl (aw_icmp_ge (pc' := 141) (tgt := 145) (dt_X11_both 20 (138, .if_icmp .ge 7, 3) rfl) (by decide) rfl ?_ ?_))
    · intro q40
      have h := h.1 q40
      refine aw_iconst (pc' := 146) (v := 0) (dt_X11_both 23 (145, .iconst 0, 1) rfl) (by decide) rfl (aw_iret (dt_X11_both 24 (146, .ireturn, 1) rfl) rfl rfl ?_)
      exact h
    · intro q40
      have h := h.2 q40
      refine aw_iconst (pc' := 142) (v := 1) (dt_X11_both 21 (141, .iconst 1, 1) rfl) (by decide) rfl (aw_goto (tgt := 146) (dt_X11_both 22 (142, .goto 4, 3) rfl) (by decide) (aw_iret (dt_X11_both 24 (146, .ireturn, 1) rfl) rfl rfl ?_))
      exact h
  by_cases q41 : x0 = 21
  · have h := h.2.2.2.2.2.2.2.2.2.2.2.1 q41
    refine aw_tableE (tgt := 147) (off := 146) (dt_X11_both 1 (1, .tableswitch 180 10 32 #[107, 121, 180, 180, 180, 180, 180, 180, 180, 180, 135, 146, 157, 180, 180, 180, 180, 180, 180, 180, 168, 172, 176], 107) rfl) q41 (by decide) (by decide) (by decide) (by decide) ?_
    refine aw_iload_n (pc' := 148) (dt_X11_both 25 (147, .iload_n 1, 1) rfl) rfl rfl (aw_iload_n (pc' := 149) (dt_X11_both 26 (148, .iload_n 2, 1) rfl) rfl rfl (aw_icmp_ne (pc' := 152) (tgt := 156) (dt_X11_both 27 (149, .if_icmp .ne 7, 3) rfl) (by decide) rfl ?_ ?_))
    · intro q42
      have h := h.1 q42
      refine aw_iconst (pc' := 157) (v := 0) (dt_X11_both 30 (156, .iconst 0, 1) rfl) (by decide) rfl (aw_iret (dt_X11_both 31 (157, .ireturn, 1) rfl) rfl rfl ?_)
      exact h
    · intro q42
      have h := h.2 q42
      refine aw_iconst (pc' := 153) (v := 1) (dt_X11_both 28 (152, .iconst 1, 1) rfl) (by decide) rfl (aw_goto (tgt := 157) (dt_X11_both 29 (153, .goto 4, 3) rfl) (by decide) (aw_iret (dt_X11_both 31 (157, .ireturn, 1) rfl) rfl rfl ?_))
      exact h
  by_cases q43 : x0 = 22
  · have h := h.2.2.2.2.2.2.2.2.2.2.2.2.1 q43
    refine aw_tableE (tgt := 158) (off := 157) (dt_X11_both 1 (1, .tableswitch 180 10 32 #[107, 121, 180, 180, 180, 180, 180, 180, 180, 180, 135, 146, 157, 180, 180, 180, 180, 180, 180, 180, 168, 172, 176], 107) rfl) q43 (by decide) (by decide) (by decide) (by decide) ?_
    refine aw_iload_n (pc' := 159) (dt_X11_both 32 (158, .iload_n 1, 1) rfl) rfl rfl (aw_iload_n (pc' := 160) (dt_X11_both 33 (159, .iload_n 2, 1) rfl) rfl rfl (aw_icmp_le (pc' := 163) (tgt := 167) (dt_X11_both 34 (160, .if_icmp .le 7, 3) rfl) (by decide) rfl ?_ ?_))
    · intro q44
      have h := h.1 q44
      refine aw_iconst (pc' := 168) (v := 0) (dt_X11_both 37 (167, .iconst 0, 1) rfl) (by decide) rfl (aw_iret (dt_X11_both 38 (168, .ireturn, 1) rfl) rfl rfl ?_)
      exact h
    · intro q44
      have h := h.2 q44
      refine aw_iconst (pc' := 164) (v := 1) (dt_X11_both 35 (163, .iconst 1, 1) rfl) (by decide) rfl (aw_goto (tgt := 168) (dt_X11_both 36 (164, .goto 4, 3) rfl) (by decide) (aw_iret (dt_X11_both 38 (168, .ireturn, 1) rfl) rfl rfl ?_))
      exact h
  by_cases q45 : x0 = 23
  · have h := h.2.2.2.2.2.2.2.2.2.2.2.2.2.1 q45
    refine aw_tableE (tgt := 181) (off := 180) (dt_X11_both 1 (1, .tableswitch 180 10 32 #[107, 121, 180, 180, 180, 180, 180, 180, 180, 180, 135, 146, 157, 180, 180, 180, 180, 180, 180, 180, 168, 172, 176], 107) rfl) q45 (by decide) (by decide) (by decide) (by decide) ?_
    refine aw_iload_n (pc' := 182) (dt_X11_both 51 (181, .iload_n 2, 1) rfl) rfl rfl (aw_if_ne (pc' := 185) (tgt := 189) (dt_X11_both 52 (182, .ifCond .ne 7, 3) rfl) (by decide) rfl ?_ ?_)
    · intro q46
      have h := h.1 q46
      refine aw_iload_n (pc' := 190) (dt_X11_both 55 (189, .iload_n 2, 1) rfl) rfl rfl (aw_iconst (pc' := 191) (v := (-1)) (dt_X11_both 56 (190, .iconst (-1), 1) rfl) (by decide) rfl (aw_icmp_ne (pc' := 194) (tgt := 199) (dt_X11_both 57 (191, .if_icmp .ne 8, 3) rfl) (by decide) rfl ?_ ?_))
      · intro q47
        have h := h.1 q47
        obtain ⟨g48, h⟩ := h
        refine aw_iload_n (pc' := 200) (dt_X11_both 61 (199, .iload_n 1, 1) rfl) rfl rfl (aw_iload_n (pc' := 201) (dt_X11_both 62 (200, .iload_n 2, 1) rfl) rfl rfl (aw_idiv (pc' := 202) (dt_X11_both 63 (201, .idiv, 1) rfl) g48 rfl (aw_iret (dt_X11_both 64 (202, .ireturn, 1) rfl) rfl rfl ?_)))
        exact h
      · intro q47
        have h := h.2 q47
        refine aw_iload_n (pc' := 195) (dt_X11_both 58 (194, .iload_n 1, 1) rfl) rfl rfl (aw_ineg (pc' := 196) (dt_X11_both 59 (195, .ineg, 1) rfl) rfl (aw_goto (tgt := 202) (dt_X11_both 60 (196, .goto 6, 3) rfl) (by decide) (aw_iret (dt_X11_both 64 (202, .ireturn, 1) rfl) rfl rfl ?_)))
        exact h
    · intro q46
      have h := h.2 q46
      refine aw_iconst (pc' := 186) (v := 0) (dt_X11_both 53 (185, .iconst 0, 1) rfl) (by decide) rfl (aw_goto (tgt := 202) (dt_X11_both 54 (186, .goto 16, 3) rfl) (by decide) (aw_iret (dt_X11_both 64 (202, .ireturn, 1) rfl) rfl rfl ?_))
      exact h
  by_cases q49 : x0 = 24
  · have h := h.2.2.2.2.2.2.2.2.2.2.2.2.2.2.1 q49
    refine aw_tableE (tgt := 181) (off := 180) (dt_X11_both 1 (1, .tableswitch 180 10 32 #[107, 121, 180, 180, 180, 180, 180, 180, 180, 180, 135, 146, 157, 180, 180, 180, 180, 180, 180, 180, 168, 172, 176], 107) rfl) q49 (by decide) (by decide) (by decide) (by decide) ?_
    refine aw_iload_n (pc' := 182) (dt_X11_both 51 (181, .iload_n 2, 1) rfl) rfl rfl (aw_if_ne (pc' := 185) (tgt := 189) (dt_X11_both 52 (182, .ifCond .ne 7, 3) rfl) (by decide) rfl ?_ ?_)
    · intro q50
      have h := h.1 q50
      refine aw_iload_n (pc' := 190) (dt_X11_both 55 (189, .iload_n 2, 1) rfl) rfl rfl (aw_iconst (pc' := 191) (v := (-1)) (dt_X11_both 56 (190, .iconst (-1), 1) rfl) (by decide) rfl (aw_icmp_ne (pc' := 194) (tgt := 199) (dt_X11_both 57 (191, .if_icmp .ne 8, 3) rfl) (by decide) rfl ?_ ?_))
      · intro q51
        have h := h.1 q51
        obtain ⟨g52, h⟩ := h
        refine aw_iload_n (pc' := 200) (dt_X11_both 61 (199, .iload_n 1, 1) rfl) rfl rfl (aw_iload_n (pc' := 201) (dt_X11_both 62 (200, .iload_n 2, 1) rfl) rfl rfl (aw_idiv (pc' := 202) (dt_X11_both 63 (201, .idiv, 1) rfl) g52 rfl (aw_iret (dt_X11_both 64 (202, .ireturn, 1) rfl) rfl rfl ?_)))
        exact h
      · intro q51
        have h := h.2 q51
        refine aw_iload_n (pc' := 195) (dt_X11_both 58 (194, .iload_n 1, 1) rfl) rfl rfl (aw_ineg (pc' := 196) (dt_X11_both 59 (195, .ineg, 1) rfl) rfl (aw_goto (tgt := 202) (dt_X11_both 60 (196, .goto 6, 3) rfl) (by decide) (aw_iret (dt_X11_both 64 (202, .ireturn, 1) rfl) rfl rfl ?_)))
        exact h
    · intro q50
      have h := h.2 q50
      refine aw_iconst (pc' := 186) (v := 0) (dt_X11_both 53 (185, .iconst 0, 1) rfl) (by decide) rfl (aw_goto (tgt := 202) (dt_X11_both 54 (186, .goto 16, 3) rfl) (by decide) (aw_iret (dt_X11_both 64 (202, .ireturn, 1) rfl) rfl rfl ?_))
      exact h
  by_cases q53 : x0 = 25
  · have h := h.2.2.2.2.2.2.2.2.2.2.2.2.2.2.2.1 q53
    refine aw_tableE (tgt := 181) (off := 180) (dt_X11_both 1 (1, .tableswitch 180 10 32 #[107, 121, 180, 180, 180, 180, 180, 180, 180, 180, 135, 146, 157, 180, 180, 180, 180, 180, 180, 180, 168, 172, 176], 107) rfl) q53 (by decide) (by decide) (by decide) (by decide) ?_
    refine aw_iload_n (pc' := 182) (dt_X11_both 51 (181, .iload_n 2, 1) rfl) rfl rfl (aw_if_ne (pc' := 185) (tgt := 189) (dt_X11_both 52 (182, .ifCond .ne 7, 3) rfl) (by decide) rfl ?_ ?_)
    · intro q54
      have h := h.1 q54
      refine aw_iload_n (pc' := 190) (dt_X11_both 55 (189, .iload_n 2, 1) rfl) rfl rfl (aw_iconst (pc' := 191) (v := (-1)) (dt_X11_both 56 (190, .iconst (-1), 1) rfl) (by decide) rfl (aw_icmp_ne (pc' := 194) (tgt := 199) (dt_X11_both 57 (191, .if_icmp .ne 8, 3) rfl) (by decide) rfl ?_ ?_))
      · intro q55
        have h := h.1 q55
        obtain ⟨g56, h⟩ := h
        refine aw_iload_n (pc' := 200) (dt_X11_both 61 (199, .iload_n 1, 1) rfl) rfl rfl (aw_iload_n (pc' := 201) (dt_X11_both 62 (200, .iload_n 2, 1) rfl) rfl rfl (aw_idiv (pc' := 202) (dt_X11_both 63 (201, .idiv, 1) rfl) g56 rfl (aw_iret (dt_X11_both 64 (202, .ireturn, 1) rfl) rfl rfl ?_)))
        exact h
      · intro q55
        have h := h.2 q55
        refine aw_iload_n (pc' := 195) (dt_X11_both 58 (194, .iload_n 1, 1) rfl) rfl rfl (aw_ineg (pc' := 196) (dt_X11_both 59 (195, .ineg, 1) rfl) rfl (aw_goto (tgt := 202) (dt_X11_both 60 (196, .goto 6, 3) rfl) (by decide) (aw_iret (dt_X11_both 64 (202, .ireturn, 1) rfl) rfl rfl ?_)))
        exact h
    · intro q54
      have h := h.2 q54
      refine aw_iconst (pc' := 186) (v := 0) (dt_X11_both 53 (185, .iconst 0, 1) rfl) (by decide) rfl (aw_goto (tgt := 202) (dt_X11_both 54 (186, .goto 16, 3) rfl) (by decide) (aw_iret (dt_X11_both 64 (202, .ireturn, 1) rfl) rfl rfl ?_))
      exact h
  by_cases q57 : x0 = 26
  · have h := h.2.2.2.2.2.2.2.2.2.2.2.2.2.2.2.2.1 q57
    refine aw_tableE (tgt := 181) (off := 180) (dt_X11_both 1 (1, .tableswitch 180 10 32 #[107, 121, 180, 180, 180, 180, 180, 180, 180, 180, 135, 146, 157, 180, 180, 180, 180, 180, 180, 180, 168, 172, 176], 107) rfl) q57 (by decide) (by decide) (by decide) (by decide) ?_
    refine aw_iload_n (pc' := 182) (dt_X11_both 51 (181, .iload_n 2, 1) rfl) rfl rfl (aw_if_ne (pc' := 185) (tgt := 189) (dt_X11_both 52 (182, .ifCond .ne 7, 3) rfl) (by decide) rfl ?_ ?_)
    · intro q58
      have h := h.1 q58
      refine aw_iload_n (pc' := 190) (dt_X11_both 55 (189, .iload_n 2, 1) rfl) rfl rfl (aw_iconst (pc' := 191) (v := (-1)) (dt_X11_both 56 (190, .iconst (-1), 1) rfl) (by decide) rfl (aw_icmp_ne (pc' := 194) (tgt := 199) (dt_X11_both 57 (191, .if_icmp .ne 8, 3) rfl) (by decide) rfl ?_ ?_))
      · intro q59
        have h := h.1 q59
        obtain ⟨g60, h⟩ := h
        refine aw_iload_n (pc' := 200) (dt_X11_both 61 (199, .iload_n 1, 1) rfl) rfl rfl (aw_iload_n (pc' := 201) (dt_X11_both 62 (200, .iload_n 2, 1) rfl) rfl rfl (aw_idiv (pc' := 202) (dt_X11_both 63 (201, .idiv, 1) rfl) g60 rfl (aw_iret (dt_X11_both 64 (202, .ireturn, 1) rfl) rfl rfl ?_)))
        exact h
      · intro q59
        have h := h.2 q59
        refine aw_iload_n (pc' := 195) (dt_X11_both 58 (194, .iload_n 1, 1) rfl) rfl rfl (aw_ineg (pc' := 196) (dt_X11_both 59 (195, .ineg, 1) rfl) rfl (aw_goto (tgt := 202) (dt_X11_both 60 (196, .goto 6, 3) rfl) (by decide) (aw_iret (dt_X11_both 64 (202, .ireturn, 1) rfl) rfl rfl ?_)))
        exact h
    · intro q58
      have h := h.2 q58
      refine aw_iconst (pc' := 186) (v := 0) (dt_X11_both 53 (185, .iconst 0, 1) rfl) (by decide) rfl (aw_goto (tgt := 202) (dt_X11_both 54 (186, .goto 16, 3) rfl) (by decide) (aw_iret (dt_X11_both 64 (202, .ireturn, 1) rfl) rfl rfl ?_))
      exact h
  by_cases q61 : x0 = 27
  · have h := h.2.2.2.2.2.2.2.2.2.2.2.2.2.2.2.2.2.1 q61
    refine aw_tableE (tgt := 181) (off := 180) (dt_X11_both 1 (1, .tableswitch 180 10 32 #[107, 121, 180, 180, 180, 180, 180, 180, 180, 180, 135, 146, 157, 180, 180, 180, 180, 180, 180, 180, 168, 172, 176], 107) rfl) q61 (by decide) (by decide) (by decide) (by decide) ?_
    refine aw_iload_n (pc' := 182) (dt_X11_both 51 (181, .iload_n 2, 1) rfl) rfl rfl (aw_if_ne (pc' := 185) (tgt := 189) (dt_X11_both 52 (182, .ifCond .ne 7, 3) rfl) (by decide) rfl ?_ ?_)
    · intro q62
      have h := h.1 q62
      refine aw_iload_n (pc' := 190) (dt_X11_both 55 (189, .iload_n 2, 1) rfl) rfl rfl (aw_iconst (pc' := 191) (v := (-1)) (dt_X11_both 56 (190, .iconst (-1), 1) rfl) (by decide) rfl (aw_icmp_ne (pc' := 194) (tgt := 199) (dt_X11_both 57 (191, .if_icmp .ne 8, 3) rfl) (by decide) rfl ?_ ?_))
      · intro q63
        have h := h.1 q63
        obtain ⟨g64, h⟩ := h
        refine aw_iload_n (pc' := 200) (dt_X11_both 61 (199, .iload_n 1, 1) rfl) rfl rfl (aw_iload_n (pc' := 201) (dt_X11_both 62 (200, .iload_n 2, 1) rfl) rfl rfl (aw_idiv (pc' := 202) (dt_X11_both 63 (201, .idiv, 1) rfl) g64 rfl (aw_iret (dt_X11_both 64 (202, .ireturn, 1) rfl) rfl rfl ?_)))
        exact h
      · intro q63
        have h := h.2 q63
        refine aw_iload_n (pc' := 195) (dt_X11_both 58 (194, .iload_n 1, 1) rfl) rfl rfl (aw_ineg (pc' := 196) (dt_X11_both 59 (195, .ineg, 1) rfl) rfl (aw_goto (tgt := 202) (dt_X11_both 60 (196, .goto 6, 3) rfl) (by decide) (aw_iret (dt_X11_both 64 (202, .ireturn, 1) rfl) rfl rfl ?_)))
        exact h
    · intro q62
      have h := h.2 q62
      refine aw_iconst (pc' := 186) (v := 0) (dt_X11_both 53 (185, .iconst 0, 1) rfl) (by decide) rfl (aw_goto (tgt := 202) (dt_X11_both 54 (186, .goto 16, 3) rfl) (by decide) (aw_iret (dt_X11_both 64 (202, .ireturn, 1) rfl) rfl rfl ?_))
      exact h
  by_cases q65 : x0 = 28
  · have h := h.2.2.2.2.2.2.2.2.2.2.2.2.2.2.2.2.2.2.1 q65
    refine aw_tableE (tgt := 181) (off := 180) (dt_X11_both 1 (1, .tableswitch 180 10 32 #[107, 121, 180, 180, 180, 180, 180, 180, 180, 180, 135, 146, 157, 180, 180, 180, 180, 180, 180, 180, 168, 172, 176], 107) rfl) q65 (by decide) (by decide) (by decide) (by decide) ?_
    refine aw_iload_n (pc' := 182) (dt_X11_both 51 (181, .iload_n 2, 1) rfl) rfl rfl (aw_if_ne (pc' := 185) (tgt := 189) (dt_X11_both 52 (182, .ifCond .ne 7, 3) rfl) (by decide) rfl ?_ ?_)
    · intro q66
      have h := h.1 q66
      refine aw_iload_n (pc' := 190) (dt_X11_both 55 (189, .iload_n 2, 1) rfl) rfl rfl (aw_iconst (pc' := 191) (v := (-1)) (dt_X11_both 56 (190, .iconst (-1), 1) rfl) (by decide) rfl (aw_icmp_ne (pc' := 194) (tgt := 199) (dt_X11_both 57 (191, .if_icmp .ne 8, 3) rfl) (by decide) rfl ?_ ?_))
      · intro q67
        have h := h.1 q67
        obtain ⟨g68, h⟩ := h
        refine aw_iload_n (pc' := 200) (dt_X11_both 61 (199, .iload_n 1, 1) rfl) rfl rfl (aw_iload_n (pc' := 201) (dt_X11_both 62 (200, .iload_n 2, 1) rfl) rfl rfl (aw_idiv (pc' := 202) (dt_X11_both 63 (201, .idiv, 1) rfl) g68 rfl (aw_iret (dt_X11_both 64 (202, .ireturn, 1) rfl) rfl rfl ?_)))
        exact h
      · intro q67
        have h := h.2 q67
        refine aw_iload_n (pc' := 195) (dt_X11_both 58 (194, .iload_n 1, 1) rfl) rfl rfl (aw_ineg (pc' := 196) (dt_X11_both 59 (195, .ineg, 1) rfl) rfl (aw_goto (tgt := 202) (dt_X11_both 60 (196, .goto 6, 3) rfl) (by decide) (aw_iret (dt_X11_both 64 (202, .ireturn, 1) rfl) rfl rfl ?_)))
        exact h
    · intro q66
      have h := h.2 q66
      refine aw_iconst (pc' := 186) (v := 0) (dt_X11_both 53 (185, .iconst 0, 1) rfl) (by decide) rfl (aw_goto (tgt := 202) (dt_X11_both 54 (186, .goto 16, 3) rfl) (by decide) (aw_iret (dt_X11_both 64 (202, .ireturn, 1) rfl) rfl rfl ?_))
      exact h
  by_cases q69 : x0 = 29
  · have h := h.2.2.2.2.2.2.2.2.2.2.2.2.2.2.2.2.2.2.2.1 q69
    refine aw_tableE (tgt := 181) (off := 180) (dt_X11_both 1 (1, .tableswitch 180 10 32 #[107, 121, 180, 180, 180, 180, 180, 180, 180, 180, 135, 146, 157, 180, 180, 180, 180, 180, 180, 180, 168, 172, 176], 107) rfl) q69 (by decide) (by decide) (by decide) (by decide) ?_
    refine aw_iload_n (pc' := 182) (dt_X11_both 51 (181, .iload_n 2, 1) rfl) rfl rfl (aw_if_ne (pc' := 185) (tgt := 189) (dt_X11_both 52 (182, .ifCond .ne 7, 3) rfl) (by decide) rfl ?_ ?_)
    · intro q70
      have h := h.1 q70
      refine aw_iload_n (pc' := 190) (dt_X11_both 55 (189, .iload_n 2, 1) rfl) rfl rfl (aw_iconst (pc' := 191) (v := (-1)) (dt_X11_both 56 (190, .iconst (-1), 1) rfl) (by decide) rfl (aw_icmp_ne (pc' := 194) (tgt := 199) (dt_X11_both 57 (191, .if_icmp .ne 8, 3) rfl) (by decide) rfl ?_ ?_))
      · intro q71
        have h := h.1 q71
        obtain ⟨g72, h⟩ := h
        refine aw_iload_n (pc' := 200) (dt_X11_both 61 (199, .iload_n 1, 1) rfl) rfl rfl (aw_iload_n (pc' := 201) (dt_X11_both 62 (200, .iload_n 2, 1) rfl) rfl rfl (aw_idiv (pc' := 202) (dt_X11_both 63 (201, .idiv, 1) rfl) g72 rfl (aw_iret (dt_X11_both 64 (202, .ireturn, 1) rfl) rfl rfl ?_)))
        exact h
      · intro q71
        have h := h.2 q71
        refine aw_iload_n (pc' := 195) (dt_X11_both 58 (194, .iload_n 1, 1) rfl) rfl rfl (aw_ineg (pc' := 196) (dt_X11_both 59 (195, .ineg, 1) rfl) rfl (aw_goto (tgt := 202) (dt_X11_both 60 (196, .goto 6, 3) rfl) (by decide) (aw_iret (dt_X11_both 64 (202, .ireturn, 1) rfl) rfl rfl ?_)))
        exact h
    · intro q70
      have h := h.2 q70
      refine aw_iconst (pc' := 186) (v := 0) (dt_X11_both 53 (185, .iconst 0, 1) rfl) (by decide) rfl (aw_goto (tgt := 202) (dt_X11_both 54 (186, .goto 16, 3) rfl) (by decide) (aw_iret (dt_X11_both 64 (202, .ireturn, 1) rfl) rfl rfl ?_))
      exact h
  by_cases q73 : x0 = 30
  · have h := h.2.2.2.2.2.2.2.2.2.2.2.2.2.2.2.2.2.2.2.2.1 q73
    refine aw_tableE (tgt := 169) (off := 168) (dt_X11_both 1 (1, .tableswitch 180 10 32 #[107, 121, 180, 180, 180, 180, 180, 180, 180, 180, 135, 146, 157, 180, 180, 180, 180, 180, 180, 180, 168, 172, 176], 107) rfl) q73 (by decide) (by decide) (by decide) (by decide) ?_
    refine aw_iload_n (pc' := 170) (dt_X11_both 39 (169, .iload_n 1, 1) rfl) rfl rfl (aw_iload_n (pc' := 171) (dt_X11_both 40 (170, .iload_n 2, 1) rfl) rfl rfl (aw_iadd (pc' := 172) (dt_X11_both 41 (171, .iadd, 1) rfl) rfl (aw_iret (dt_X11_both 42 (172, .ireturn, 1) rfl) rfl rfl ?_)))
    exact h
  by_cases q74 : x0 = 31
  · have h := h.2.2.2.2.2.2.2.2.2.2.2.2.2.2.2.2.2.2.2.2.2.1 q74
    refine aw_tableE (tgt := 173) (off := 172) (dt_X11_both 1 (1, .tableswitch 180 10 32 #[107, 121, 180, 180, 180, 180, 180, 180, 180, 180, 135, 146, 157, 180, 180, 180, 180, 180, 180, 180, 168, 172, 176], 107) rfl) q74 (by decide) (by decide) (by decide) (by decide) ?_
    refine aw_iload_n (pc' := 174) (dt_X11_both 43 (173, .iload_n 1, 1) rfl) rfl rfl (aw_iload_n (pc' := 175) (dt_X11_both 44 (174, .iload_n 2, 1) rfl) rfl rfl (aw_isub (pc' := 176) (dt_X11_both 45 (175, .isub, 1) rfl) rfl (aw_iret (dt_X11_both 46 (176, .ireturn, 1) rfl) rfl rfl ?_)))
    exact h
  by_cases q75 : x0 = 32
  · have h := h.2.2.2.2.2.2.2.2.2.2.2.2.2.2.2.2.2.2.2.2.2.2.1 q75
    refine aw_tableE (tgt := 177) (off := 176) (dt_X11_both 1 (1, .tableswitch 180 10 32 #[107, 121, 180, 180, 180, 180, 180, 180, 180, 180, 135, 146, 157, 180, 180, 180, 180, 180, 180, 180, 168, 172, 176], 107) rfl) q75 (by decide) (by decide) (by decide) (by decide) ?_
    refine aw_iload_n (pc' := 178) (dt_X11_both 47 (177, .iload_n 1, 1) rfl) rfl rfl (aw_iload_n (pc' := 179) (dt_X11_both 48 (178, .iload_n 2, 1) rfl) rfl rfl (aw_imul (pc' := 180) (dt_X11_both 49 (179, .imul, 1) rfl) rfl (aw_iret (dt_X11_both 50 (180, .ireturn, 1) rfl) rfl rfl ?_)))
    exact h
  have h := h.2.2.2.2.2.2.2.2.2.2.2.2.2.2.2.2.2.2.2.2.2.2.2 ⟨q1, q4, q7, q11, q15, q19, q23, q27, q31, q35, q39, q41, q43, q45, q49, q53, q57, q61, q65, q69, q73, q74, q75⟩
  refine aw_tableOut (tgt := 181) (dt_X11_both 1 (1, .tableswitch 180 10 32 #[107, 121, 180, 180, 180, 180, 180, 180, 180, 180, 135, 146, 157, 180, 180, 180, 180, 180, 180, 180, 168, 172, 176], 107) rfl) (tab_out (lo := 10) (n := 23) (by decide) (by decide) (by decide) (by
      intro k hk
      match k, hk with
      | 0, _ => exact q1
      | 1, _ => exact q4
      | 2, _ => exact q7
      | 3, _ => exact q11
      | 4, _ => exact q15
      | 5, _ => exact q19
      | 6, _ => exact q23
      | 7, _ => exact q27
      | 8, _ => exact q31
      | 9, _ => exact q35
      | 10, _ => exact q39
      | 11, _ => exact q41
      | 12, _ => exact q43
      | 13, _ => exact q45
      | 14, _ => exact q49
      | 15, _ => exact q53
      | 16, _ => exact q57
      | 17, _ => exact q61
      | 18, _ => exact q65
      | 19, _ => exact q69
      | 20, _ => exact q73
      | 21, _ => exact q74
      | 22, _ => exact q75
      | k + 23, hk => omega)) (by decide) ?_
  refine aw_iload_n (pc' := 182) (dt_X11_both 51 (181, .iload_n 2, 1) rfl) rfl rfl (aw_if_ne (pc' := 185) (tgt := 189) (dt_X11_both 52 (182, .ifCond .ne 7, 3) rfl) (by decide) rfl ?_ ?_)
  · intro q76
    have h := h.1 q76
    refine aw_iload_n (pc' := 190) (dt_X11_both 55 (189, .iload_n 2, 1) rfl) rfl rfl (aw_iconst (pc' := 191) (v := (-1)) (dt_X11_both 56 (190, .iconst (-1), 1) rfl) (by decide) rfl (aw_icmp_ne (pc' := 194) (tgt := 199) (dt_X11_both 57 (191, .if_icmp .ne 8, 3) rfl) (by decide) rfl ?_ ?_))
    · intro q77
      have h := h.1 q77
      obtain ⟨g78, h⟩ := h
      refine aw_iload_n (pc' := 200) (dt_X11_both 61 (199, .iload_n 1, 1) rfl) rfl rfl (aw_iload_n (pc' := 201) (dt_X11_both 62 (200, .iload_n 2, 1) rfl) rfl rfl (aw_idiv (pc' := 202) (dt_X11_both 63 (201, .idiv, 1) rfl) g78 rfl (aw_iret (dt_X11_both 64 (202, .ireturn, 1) rfl) rfl rfl ?_)))
      exact h
    · intro q77
      have h := h.2 q77
      refine aw_iload_n (pc' := 195) (dt_X11_both 58 (194, .iload_n 1, 1) rfl) rfl rfl (aw_ineg (pc' := 196) (dt_X11_both 59 (195, .ineg, 1) rfl) rfl (aw_goto (tgt := 202) (dt_X11_both 60 (196, .goto 6, 3) rfl) (by decide) (aw_iret (dt_X11_both 64 (202, .ireturn, 1) rfl) rfl rfl ?_)))
      exact h
  · intro q76
    have h := h.2 q76
    refine aw_iconst (pc' := 186) (v := 0) (dt_X11_both 53 (185, .iconst 0, 1) rfl) (by decide) rfl (aw_goto (tgt := 202) (dt_X11_both 54 (186, .goto 16, 3) rfl) (by decide) (aw_iret (dt_X11_both 64 (202, .ireturn, 1) rfl) rfl rfl ?_))
    exact h

theorem t_X11_works {E : ZE} {l : Launch} {d nc ns : Nat} {x1 : Int32} {μ : ZM} {K : Option Value → ZM → Prop} (hS : Stat μ) (h :
  AW E l (d + 1) nc ns mX11_works 11 [some (.ref 31), some (.int x1), some (.int 0), some (.int 0), some (.int (200 * x1)), none, none] [] μ K) : AW E l (d + 1) nc ns mX11_works 0 [some (.ref 31), some (.int x1), none, none, none, none, none] [] μ K := by
  refine aw_iconst (pc' := 1) (v := 0) (dt_X11_works 0 (0, .iconst 0, 1) rfl) (by decide) rfl (aw_istore_n (pc' := 2) (ls' := [some (.ref 31), some (.int x1), some (.int 0), none, none, none, none]) (dt_X11_works 1 (1, .istore_n 2, 1) rfl) (by decide) rfl rfl (aw_iconst (pc' := 3) (v := 0) (dt_X11_works 2 (2, .iconst 0, 1) rfl) (by decide) rfl (aw_istore_n (pc' := 4) (ls' := [some (.ref 31), some (.int x1), some (.int 0), some (.int 0), none, none, none]) (dt_X11_works 3 (3, .istore_n 3, 1) rfl) (by decide) rfl rfl (aw_sipush (pc' := 7) (v := 200) (dt_X11_works 4 (4, .sipush 200, 3) rfl) (by decide) rfl (aw_iload_n (pc' := 8) (dt_X11_works 5 (7, .iload_n 1, 1) rfl) rfl rfl (aw_imul (pc' := 9) (dt_X11_works 6 (8, .imul, 1) rfl) rfl (aw_istore (pc' := 11) (ls' := [some (.ref 31), some (.int x1), some (.int 0), some (.int 0), some (.int (200 * x1)), none, none]) (dt_X11_works 7 (9, .istore 4, 2) rfl) (by decide) rfl rfl ?_)))))))
  exact h

theorem t_X11_works_11 {E : ZE} {l : Launch} {d nc ns : Nat} {x1 : Int32} {x2 : Int32} {x3 : Int32} {x4 : Int32} {μ : ZM} {K : Option Value → ZM → Prop} (hS : Stat μ) (h :
  (vp_in x1 22) ∧
  (((200 * x1) + (zI μ 69 x1.toNatClampNeg)) ≤ x4 →
    (¬ x1 = 20 →
      K (some (.int 0)) μ) ∧
    (x1 = 20 →
      K (some (.int (zI μ 73 0))) μ)) ∧
  (¬ ((200 * x1) + (zI μ 69 x1.toNatClampNeg)) ≤ x4 →
    (vp_in x4 4400) ∧
    ((zI μ 70 x4.toNatClampNeg) = 1 →
      (¬ (zI μ 70 x4.toNatClampNeg) = 1 →
        (vp_in x4 4400) ∧
        (vp_in (zI μ 71 x4.toNatClampNeg) 17) ∧
        (vp_in x2 210) ∧
        AW E l (d + 1) nc ns mX11_works 11 [some (.ref 31), some (.int x1), some (.int (x2 + 1)), some (.int x3), some (.int (x4 + 1)), none, none] [] (sI μ 73 x2.toNatClampNeg (zI μ 72 (zI μ 71 x4.toNatClampNeg).toNatClampNeg)) K) ∧
      ((zI μ 70 x4.toNatClampNeg) = 1 →
        (vp_in x4 4400) ∧
        (vp_in x2 210) ∧
        AW E l (d + 1) nc ns mX11_works 11 [some (.ref 31), some (.int x1), some (.int (x2 + 1)), some (.int x3), some (.int (x4 + 1)), none, none] [] (sI μ 73 x2.toNatClampNeg (zI μ 71 x4.toNatClampNeg)) K)) ∧
    (¬ (zI μ 70 x4.toNatClampNeg) = 1 →
      (¬ (zI μ 70 x4.toNatClampNeg) = 2 →
        (¬ (zI μ 70 x4.toNatClampNeg) = 3 →
          (¬ (zI μ 70 x4.toNatClampNeg) = 4 →
            (¬ (zI μ 70 x4.toNatClampNeg) = 5 →
              (vp_in ((x2 + (-1)) - 1) 210) ∧
              (vp_in (x2 + (-1)) 210) ∧
              AW E l d 0 0 mX11_both 0 (zargs 3 [.int (zI μ 70 x4.toNatClampNeg), .int (zI μ 73 ((x2 + (-1)) - 1).toNatClampNeg), .int (zI μ 73 (x2 + (-1)).toNatClampNeg)]) [] μ (fun v μ18 => ∃ r20 : Int32, v = some (.int r20) ∧ Stat μ18 ∧ 
                (vp_in ((x2 + (-1)) - 1) 210) ∧
                AW E l (d + 1) nc ns mX11_works 11 [some (.ref 31), some (.int x1), some (.int (x2 + (-1))), some (.int x3), some (.int (x4 + 1)), none, none] [] (sI μ18 73 ((x2 + (-1)) - 1).toNatClampNeg r20) K)) ∧
            ((zI μ 70 x4.toNatClampNeg) = 5 →
              (vp_in (x2 - 1) 210) ∧
              (¬ (zI μ 73 (x2 - 1).toNatClampNeg) = 0 →
                (vp_in (x2 - 1) 210) ∧
                AW E l (d + 1) nc ns mX11_works 11 [some (.ref 31), some (.int x1), some (.int x2), some (.int x3), some (.int (x4 + 1)), none, none] [] (sI μ 73 (x2 - 1).toNatClampNeg 0) K) ∧
              ((zI μ 73 (x2 - 1).toNatClampNeg) = 0 →
                (vp_in (x2 - 1) 210) ∧
                AW E l (d + 1) nc ns mX11_works 11 [some (.ref 31), some (.int x1), some (.int x2), some (.int x3), some (.int (x4 + 1)), none, none] [] (sI μ 73 (x2 - 1).toNatClampNeg 1) K))) ∧
          ((zI μ 70 x4.toNatClampNeg) = 4 →
            (0 ≤ (zI μ 73 0) →
              ((zI μ 73 0) ≤ 100 →
                (¬ x3 = 0 →
                  AW E l (d + 1) nc ns mX11_works 11 [some (.ref 31), some (.int x1), some (.int 0), some (.int 0), some (.int (x4 + 1)), none, none] [] μ K) ∧
                (x3 = 0 →
                  (vp_in x4 4400) ∧
                  K (some (.int ((1000 * (zI μ 71 x4.toNatClampNeg)) + (zI μ 73 0)))) μ)) ∧
              (¬ (zI μ 73 0) ≤ 100 →
                (¬ x3 = 0 →
                  AW E l (d + 1) nc ns mX11_works 11 [some (.ref 31), some (.int x1), some (.int 0), some (.int 0), some (.int (x4 + 1)), none, none] [] μ K) ∧
                (x3 = 0 →
                  (vp_in x4 4400) ∧
                  K (some (.int ((1000 * (zI μ 71 x4.toNatClampNeg)) + 100))) μ))) ∧
            (¬ 0 ≤ (zI μ 73 0) →
              (¬ x3 = 0 →
                AW E l (d + 1) nc ns mX11_works 11 [some (.ref 31), some (.int x1), some (.int 0), some (.int 0), some (.int (x4 + 1)), none, none] [] μ K) ∧
              (x3 = 0 →
                (vp_in x4 4400) ∧
                K (some (.int ((1000 * (zI μ 71 x4.toNatClampNeg)) + 0))) μ)))) ∧
        ((zI μ 70 x4.toNatClampNeg) = 3 →
          (¬ (zI μ 73 0) = 0 →
            AW E l (d + 1) nc ns mX11_works 11 [some (.ref 31), some (.int x1), some (.int 0), some (.int 0), some (.int (x4 + 1)), none, none] [] μ K) ∧
          ((zI μ 73 0) = 0 →
            AW E l (d + 1) nc ns mX11_works 11 [some (.ref 31), some (.int x1), some (.int 0), some (.int 1), some (.int (x4 + 1)), none, none] [] μ K))) ∧
      ((zI μ 70 x4.toNatClampNeg) = 2 →
        (¬ (zI μ 70 x4.toNatClampNeg) = 1 →
          (vp_in x4 4400) ∧
          (vp_in (zI μ 71 x4.toNatClampNeg) 17) ∧
          (vp_in x2 210) ∧
          AW E l (d + 1) nc ns mX11_works 11 [some (.ref 31), some (.int x1), some (.int (x2 + 1)), some (.int x3), some (.int (x4 + 1)), none, none] [] (sI μ 73 x2.toNatClampNeg (zI μ 72 (zI μ 71 x4.toNatClampNeg).toNatClampNeg)) K) ∧
        ((zI μ 70 x4.toNatClampNeg) = 1 →
          (vp_in x4 4400) ∧
          (vp_in x2 210) ∧
          AW E l (d + 1) nc ns mX11_works 11 [some (.ref 31), some (.int x1), some (.int (x2 + 1)), some (.int x3), some (.int (x4 + 1)), none, none] [] (sI μ 73 x2.toNatClampNeg (zI μ 71 x4.toNatClampNeg)) K))))) : AW E l (d + 1) nc ns mX11_works 11 [some (.ref 31), some (.int x1), some (.int x2), some (.int x3), some (.int x4), none, none] [] μ K := by
  obtain ⟨g1, h⟩ := h
  refine aw_iload (pc' := 13) (dt_X11_works 8 (11, .iload 4, 2) rfl) rfl rfl (aw_sipush (pc' := 16) (v := 200) (dt_X11_works 9 (13, .sipush 200, 3) rfl) (by decide) rfl (aw_iload_n (pc' := 17) (dt_X11_works 10 (16, .iload_n 1, 1) rfl) rfl rfl (aw_imul (pc' := 18) (dt_X11_works 11 (17, .imul, 1) rfl) rfl (aw_aload_n (pc' := 19) (dt_X11_works 12 (18, .aload_n 0, 1) rfl) rfl rfl (aw_getAs (pc' := 22) (dt_X11_works 13 (19, .getfield 123, 3) rfl) fl_ReturnDeskModel_123 rfl rfl (sk_31 hS) (sa_31_46 hS) (aw_iload_n (pc' := 23) (dt_X11_works 14 (22, .iload_n 1, 1) rfl) rfl rfl (aw_iald (pc' := 24) (dt_X11_works 15 (23, .iaload, 1) rfl) rfl (sk_69 hS) (vin_eq (sl_69 hS) g1) (aw_iadd (pc' := 25) (dt_X11_works 16 (24, .iadd, 1) rfl) rfl (aw_icmp_ge (pc' := 28) (tgt := 253) (dt_X11_works 17 (25, .if_icmp .ge 228, 3) rfl) (by decide) rfl ?_ ?_)))))))))
  · intro q2
    have h := h.1 q2
    refine aw_iload_n (pc' := 254) (dt_X11_works 145 (253, .iload_n 1, 1) rfl) rfl rfl (aw_bipush (pc' := 256) (v := 20) (dt_X11_works 146 (254, .bipush 20, 2) rfl) (by decide) rfl (aw_icmp_ne (pc' := 259) (tgt := 268) (dt_X11_works 147 (256, .if_icmp .ne 12, 3) rfl) (by decide) rfl ?_ ?_))
    · intro q3
      have h := h.1 q3
      refine aw_iconst (pc' := 269) (v := 0) (dt_X11_works 153 (268, .iconst 0, 1) rfl) (by decide) rfl (aw_iret (dt_X11_works 154 (269, .ireturn, 1) rfl) rfl rfl ?_)
      exact h
    · intro q3
      have h := h.2 q3
      refine aw_aload_n (pc' := 260) (dt_X11_works 148 (259, .aload_n 0, 1) rfl) rfl rfl (aw_getAs (pc' := 263) (dt_X11_works 149 (260, .getfield 135, 3) rfl) fl_ReturnDeskModel_135 rfl rfl (sk_31 hS) (sa_31_59 hS) (aw_iconst (pc' := 264) (v := 0) (dt_X11_works 150 (263, .iconst 0, 1) rfl) (by decide) rfl (aw_iald (pc' := 265) (dt_X11_works 151 (264, .iaload, 1) rfl) rfl (sk_73 hS) (vin_eq (sl_73 hS) (vlit (by decide))) (aw_goto (tgt := 269) (dt_X11_works 152 (265, .goto 4, 3) rfl) (by decide) (aw_iret (dt_X11_works 154 (269, .ireturn, 1) rfl) rfl rfl ?_)))))
      exact h
  · intro q2
    have h := h.2 q2
    obtain ⟨g4, h⟩ := h
    refine aw_aload_n (pc' := 29) (dt_X11_works 18 (28, .aload_n 0, 1) rfl) rfl rfl (aw_getAs (pc' := 32) (dt_X11_works 19 (29, .getfield 126, 3) rfl) fl_ReturnDeskModel_126 rfl rfl (sk_31 hS) (sa_31_47 hS) (aw_iload (pc' := 34) (dt_X11_works 20 (32, .iload 4, 2) rfl) rfl rfl (aw_iald (pc' := 35) (dt_X11_works 21 (34, .iaload, 1) rfl) rfl (sk_70 hS) (vin_eq (sl_70 hS) g4) (aw_istore (pc' := 37) (ls' := [some (.ref 31), some (.int x1), some (.int x2), some (.int x3), some (.int x4), some (.int (zI μ 70 x4.toNatClampNeg)), none]) (dt_X11_works 22 (35, .istore 5, 2) rfl) (by decide) rfl rfl (aw_iload (pc' := 39) (dt_X11_works 23 (37, .iload 5, 2) rfl) rfl rfl (aw_iconst (pc' := 40) (v := 1) (dt_X11_works 24 (39, .iconst 1, 1) rfl) (by decide) rfl (aw_icmp_eq (pc' := 43) (tgt := 49) (dt_X11_works 25 (40, .if_icmp .eq 9, 3) rfl) (by decide) rfl ?_ ?_)))))))
    · intro q5
      have h := h.1 q5
      refine aw_aload_n (pc' := 50) (dt_X11_works 29 (49, .aload_n 0, 1) rfl) rfl rfl (aw_getAs (pc' := 53) (dt_X11_works 30 (50, .getfield 135, 3) rfl) fl_ReturnDeskModel_135 rfl rfl (sk_31 hS) (sa_31_59 hS) (aw_iload_n (pc' := 54) (dt_X11_works 31 (53, .iload_n 2, 1) rfl) rfl rfl (aw_iload (pc' := 56) (dt_X11_works 32 (54, .iload 5, 2) rfl) rfl rfl (aw_iconst (pc' := 57) (v := 1) (dt_X11_works 33 (56, .iconst 1, 1) rfl) (by decide) rfl (aw_icmp_ne (pc' := 60) (tgt := 70) (dt_X11_works 34 (57, .if_icmp .ne 13, 3) rfl) (by decide) rfl ?_ ?_)))))
      · intro q6
        have h := h.1 q6
        obtain ⟨g7, h⟩ := h
        obtain ⟨g8, h⟩ := h
        obtain ⟨g9, h⟩ := h
        refine aw_aload_n (pc' := 71) (dt_X11_works 40 (70, .aload_n 0, 1) rfl) rfl rfl (aw_getAs (pc' := 74) (dt_X11_works 41 (71, .getfield 132, 3) rfl) fl_ReturnDeskModel_132 rfl rfl (sk_31 hS) (sa_31_58 hS) (aw_aload_n (pc' := 75) (dt_X11_works 42 (74, .aload_n 0, 1) rfl) rfl rfl (aw_getAs (pc' := 78) (dt_X11_works 43 (75, .getfield 129, 3) rfl) fl_ReturnDeskModel_129 rfl rfl (sk_31 hS) (sa_31_48 hS) (aw_iload (pc' := 80) (dt_X11_works 44 (78, .iload 4, 2) rfl) rfl rfl (aw_iald (pc' := 81) (dt_X11_works 45 (80, .iaload, 1) rfl) rfl (sk_71 hS) (vin_eq (sl_71 hS) g7) (aw_iald (pc' := 82) (dt_X11_works 46 (81, .iaload, 1) rfl) rfl (sk_72 hS) (vin_eq (sl_72 hS) g8) (aw_iast (pc' := 83) (dt_X11_works 47 (82, .iastore, 1) rfl) rfl (sk_73 hS) (by decide) (vin_eq (sl_73 hS) g9) (aw_iinc (pc' := 86) (v := 1) (ls' := [some (.ref 31), some (.int x1), some (.int (x2 + 1)), some (.int x3), some (.int x4), some (.int (zI μ 70 x4.toNatClampNeg)), none]) (dt_X11_works 48 (83, .iinc 2 1, 3) rfl) rfl (by decide) (by decide) rfl rfl (aw_goto (tgt := 247) (dt_X11_works 49 (86, .goto 161, 3) rfl) (by decide) (aw_iinc (pc' := 250) (v := 1) (ls' := [some (.ref 31), some (.int x1), some (.int (x2 + 1)), some (.int x3), some (.int (x4 + 1)), some (.int (zI μ 70 x4.toNatClampNeg)), none]) (dt_X11_works 143 (247, .iinc 4 1, 3) rfl) rfl (by decide) (by decide) rfl rfl (aw_goto (tgt := 11) (dt_X11_works 144 (250, .goto (-239), 3) rfl) (by decide) (aw_drop (ls' := [some (.ref 31), some (.int x1), some (.int (x2 + 1)), some (.int x3), some (.int (x4 + 1)), none, none]) ⟨rfl, rfl, rfl, rfl, rfl, trivial⟩ ?_))))))))))))
        exact h
      · intro q6
        have h := h.2 q6
        obtain ⟨g10, h⟩ := h
        obtain ⟨g11, h⟩ := h
        refine aw_aload_n (pc' := 61) (dt_X11_works 35 (60, .aload_n 0, 1) rfl) rfl rfl (aw_getAs (pc' := 64) (dt_X11_works 36 (61, .getfield 129, 3) rfl) fl_ReturnDeskModel_129 rfl rfl (sk_31 hS) (sa_31_48 hS) (aw_iload (pc' := 66) (dt_X11_works 37 (64, .iload 4, 2) rfl) rfl rfl (aw_iald (pc' := 67) (dt_X11_works 38 (66, .iaload, 1) rfl) rfl (sk_71 hS) (vin_eq (sl_71 hS) g10) (aw_goto (tgt := 82) (dt_X11_works 39 (67, .goto 15, 3) rfl) (by decide) (aw_iast (pc' := 83) (dt_X11_works 47 (82, .iastore, 1) rfl) rfl (sk_73 hS) (by decide) (vin_eq (sl_73 hS) g11) (aw_iinc (pc' := 86) (v := 1) (ls' := [some (.ref 31), some (.int x1), some (.int (x2 + 1)), some (.int x3), some (.int x4), some (.int (zI μ 70 x4.toNatClampNeg)), none]) (dt_X11_works 48 (83, .iinc 2 1, 3) rfl) rfl (by decide) (by decide) rfl rfl (aw_goto (tgt := 247) (dt_X11_works 49 (86, .goto 161, 3) rfl) (by decide) (aw_iinc (pc' := 250) (v := 1) (ls' := [some (.ref 31), some (.int x1), some (.int (x2 + 1)), some (.int x3), some (.int (x4 + 1)), some (.int (zI μ 70 x4.toNatClampNeg)), none]) (dt_X11_works 143 (247, .iinc 4 1, 3) rfl) rfl (by decide) (by decide) rfl rfl (aw_goto (tgt := 11) (dt_X11_works 144 (250, .goto (-239), 3) rfl) (by decide) (aw_drop (ls' := [some (.ref 31), some (.int x1), some (.int (x2 + 1)), some (.int x3), some (.int (x4 + 1)), none, none]) ⟨rfl, rfl, rfl, rfl, rfl, trivial⟩ ?_))))))))))
        exact h
    · intro q5
      have h := h.2 q5
      refine aw_iload (pc' := 45) (dt_X11_works 26 (43, .iload 5, 2) rfl) rfl rfl (aw_iconst (pc' := 46) (v := 2) (dt_X11_works 27 (45, .iconst 2, 1) rfl) (by decide) rfl (aw_icmp_ne (pc' := 49) (tgt := 89) (dt_X11_works 28 (46, .if_icmp .ne 43, 3) rfl) (by decide) rfl ?_ ?_))
      · intro q12
        have h := h.1 q12
        refine aw_iload (pc' := 91) (dt_X11_works 50 (89, .iload 5, 2) rfl) rfl rfl (aw_iconst (pc' := 92) (v := 3) (dt_X11_works 51 (91, .iconst 3, 1) rfl) (by decide) rfl (aw_icmp_ne (pc' := 95) (tgt := 115) (dt_X11_works 52 (92, .if_icmp .ne 23, 3) rfl) (by decide) rfl ?_ ?_))
        · intro q13
          have h := h.1 q13
          refine aw_iload (pc' := 117) (dt_X11_works 65 (115, .iload 5, 2) rfl) rfl rfl (aw_iconst (pc' := 118) (v := 4) (dt_X11_works 66 (117, .iconst 4, 1) rfl) (by decide) rfl (aw_icmp_ne (pc' := 121) (tgt := 184) (dt_X11_works 67 (118, .if_icmp .ne 66, 3) rfl) (by decide) rfl ?_ ?_))
          · intro q14
            have h := h.1 q14
            refine aw_iload (pc' := 186) (dt_X11_works 104 (184, .iload 5, 2) rfl) rfl rfl (aw_iconst (pc' := 187) (v := 5) (dt_X11_works 105 (186, .iconst 5, 1) rfl) (by decide) rfl (aw_icmp_ne (pc' := 190) (tgt := 217) (dt_X11_works 106 (187, .if_icmp .ne 30, 3) rfl) (by decide) rfl ?_ ?_))
            · intro q15
              have h := h.1 q15
              obtain ⟨g16, h⟩ := h
              obtain ⟨g17, h⟩ := h
              refine aw_iinc (pc' := 220) (v := (-1)) (ls' := [some (.ref 31), some (.int x1), some (.int (x2 + (-1))), some (.int x3), some (.int x4), some (.int (zI μ 70 x4.toNatClampNeg)), none]) (dt_X11_works 124 (217, .iinc 2 (-1), 3) rfl) rfl (by decide) (by decide) rfl rfl (aw_aload_n (pc' := 221) (dt_X11_works 125 (220, .aload_n 0, 1) rfl) rfl rfl (aw_getAs (pc' := 224) (dt_X11_works 126 (221, .getfield 135, 3) rfl) fl_ReturnDeskModel_135 rfl rfl (sk_31 hS) (sa_31_59 hS) (aw_iload_n (pc' := 225) (dt_X11_works 127 (224, .iload_n 2, 1) rfl) rfl rfl (aw_iconst (pc' := 226) (v := 1) (dt_X11_works 128 (225, .iconst 1, 1) rfl) (by decide) rfl (aw_isub (pc' := 227) (dt_X11_works 129 (226, .isub, 1) rfl) rfl (aw_iload (pc' := 229) (dt_X11_works 130 (227, .iload 5, 2) rfl) rfl rfl (aw_aload_n (pc' := 230) (dt_X11_works 131 (229, .aload_n 0, 1) rfl) rfl rfl (aw_getAs (pc' := 233) (dt_X11_works 132 (230, .getfield 135, 3) rfl) fl_ReturnDeskModel_135 rfl rfl (sk_31 hS) (sa_31_59 hS) (aw_iload_n (pc' := 234) (dt_X11_works 133 (233, .iload_n 2, 1) rfl) rfl rfl (aw_iconst (pc' := 235) (v := 1) (dt_X11_works 134 (234, .iconst 1, 1) rfl) (by decide) rfl (aw_isub (pc' := 236) (dt_X11_works 135 (235, .isub, 1) rfl) rfl (aw_iald (pc' := 237) (dt_X11_works 136 (236, .iaload, 1) rfl) rfl (sk_73 hS) (vin_eq (sl_73 hS) g16) (aw_aload_n (pc' := 238) (dt_X11_works 137 (237, .aload_n 0, 1) rfl) rfl rfl (aw_getAs (pc' := 241) (dt_X11_works 138 (238, .getfield 135, 3) rfl) fl_ReturnDeskModel_135 rfl rfl (sk_31 hS) (sa_31_59 hS) (aw_iload_n (pc' := 242) (dt_X11_works 139 (241, .iload_n 2, 1) rfl) rfl rfl (aw_iald (pc' := 243) (dt_X11_works 140 (242, .iaload, 1) rfl) rfl (sk_73 hS) (vin_eq (sl_73 hS) g17) (aw_callS0 (pc' := 246) (nc := nc) (ns := ns) (y2 := mX11_both) (As := [.int (zI μ 70 x4.toNatClampNeg), .int (zI μ 73 ((x2 + (-1)) - 1).toNatClampNeg), .int (zI μ 73 (x2 + (-1)).toNatClampNeg)]) (rest := [.int ((x2 + (-1)) - 1), .ref 73]) (dt_X11_works 141 (243, .invokestatic 357, 3) rfl) ok_X11_both ln_ReturnDeskModel_357 sm_X11_both pr_X11_both rfl (Nat.le_of_ble_eq_true rfl) (Nat.le_of_ble_eq_true rfl) rfl  h ?_)))))))))))))))))
              rintro v μ18 ⟨r20, rfl, hS19, h⟩
              refine aw_stk (st' := [.int r20, .int ((x2 + (-1)) - 1), .ref 73]) rfl ?_
              obtain ⟨g21, h⟩ := h
              refine aw_iast (pc' := 247) (dt_X11_works 142 (246, .iastore, 1) rfl) rfl (sk_73 hS19) (by decide) (vin_eq (sl_73 hS19) g21) (aw_iinc (pc' := 250) (v := 1) (ls' := [some (.ref 31), some (.int x1), some (.int (x2 + (-1))), some (.int x3), some (.int (x4 + 1)), some (.int (zI μ 70 x4.toNatClampNeg)), none]) (dt_X11_works 143 (247, .iinc 4 1, 3) rfl) rfl (by decide) (by decide) rfl rfl (aw_goto (tgt := 11) (dt_X11_works 144 (250, .goto (-239), 3) rfl) (by decide) (aw_drop (ls' := [some (.ref 31), some (.int x1), some (.int (x2 + (-1))), some (.int x3), some (.int (x4 + 1)), none, none]) ⟨rfl, rfl, rfl, rfl, rfl, trivial⟩ ?_)))
              exact h
            · intro q15
              have h := h.2 q15
              obtain ⟨g22, h⟩ := h
              refine aw_aload_n (pc' := 191) (dt_X11_works 107 (190, .aload_n 0, 1) rfl) rfl rfl (aw_getAs (pc' := 194) (dt_X11_works 108 (191, .getfield 135, 3) rfl) fl_ReturnDeskModel_135 rfl rfl (sk_31 hS) (sa_31_59 hS) (aw_iload_n (pc' := 195) (dt_X11_works 109 (194, .iload_n 2, 1) rfl) rfl rfl (aw_iconst (pc' := 196) (v := 1) (dt_X11_works 110 (195, .iconst 1, 1) rfl) (by decide) rfl (aw_isub (pc' := 197) (dt_X11_works 111 (196, .isub, 1) rfl) rfl (aw_aload_n (pc' := 198) (dt_X11_works 112 (197, .aload_n 0, 1) rfl) rfl rfl (aw_getAs (pc' := 201) (dt_X11_works 113 (198, .getfield 135, 3) rfl) fl_ReturnDeskModel_135 rfl rfl (sk_31 hS) (sa_31_59 hS) (aw_iload_n (pc' := 202) (dt_X11_works 114 (201, .iload_n 2, 1) rfl) rfl rfl (aw_iconst (pc' := 203) (v := 1) (dt_X11_works 115 (202, .iconst 1, 1) rfl) (by decide) rfl (aw_isub (pc' := 204) (dt_X11_works 116 (203, .isub, 1) rfl) rfl (aw_iald (pc' := 205) (dt_X11_works 117 (204, .iaload, 1) rfl) rfl (sk_73 hS) (vin_eq (sl_73 hS) g22) (aw_if_ne (pc' := 208) (tgt := 212) (dt_X11_works 118 (205, .ifCond .ne 7, 3) rfl) (by decide) rfl ?_ ?_)))))))))))
              · intro q23
                have h := h.1 q23
                obtain ⟨g24, h⟩ := h
                refine aw_iconst (pc' := 213) (v := 0) (dt_X11_works 121 (212, .iconst 0, 1) rfl) (by decide) rfl (aw_iast (pc' := 214) (dt_X11_works 122 (213, .iastore, 1) rfl) rfl (sk_73 hS) (by decide) (vin_eq (sl_73 hS) g24) (aw_goto (tgt := 247) (dt_X11_works 123 (214, .goto 33, 3) rfl) (by decide) (aw_iinc (pc' := 250) (v := 1) (ls' := [some (.ref 31), some (.int x1), some (.int x2), some (.int x3), some (.int (x4 + 1)), some (.int (zI μ 70 x4.toNatClampNeg)), none]) (dt_X11_works 143 (247, .iinc 4 1, 3) rfl) rfl (by decide) (by decide) rfl rfl (aw_goto (tgt := 11) (dt_X11_works 144 (250, .goto (-239), 3) rfl) (by decide) (aw_drop (ls' := [some (.ref 31), some (.int x1), some (.int x2), some (.int x3), some (.int (x4 + 1)), none, none]) ⟨rfl, rfl, rfl, rfl, rfl, trivial⟩ ?_)))))
                exact h
              · intro q23
                have h := h.2 q23
                obtain ⟨g25, h⟩ := h
                refine aw_iconst (pc' := 209) (v := 1) (dt_X11_works 119 (208, .iconst 1, 1) rfl) (by decide) rfl (aw_goto (tgt := 213) (dt_X11_works 120 (209, .goto 4, 3) rfl) (by decide) (aw_iast (pc' := 214) (dt_X11_works 122 (213, .iastore, 1) rfl) rfl (sk_73 hS) (by decide) (vin_eq (sl_73 hS) g25) (aw_goto (tgt := 247) (dt_X11_works 123 (214, .goto 33, 3) rfl) (by decide) (aw_iinc (pc' := 250) (v := 1) (ls' := [some (.ref 31), some (.int x1), some (.int x2), some (.int x3), some (.int (x4 + 1)), some (.int (zI μ 70 x4.toNatClampNeg)), none]) (dt_X11_works 143 (247, .iinc 4 1, 3) rfl) rfl (by decide) (by decide) rfl rfl (aw_goto (tgt := 11) (dt_X11_works 144 (250, .goto (-239), 3) rfl) (by decide) (aw_drop (ls' := [some (.ref 31), some (.int x1), some (.int x2), some (.int x3), some (.int (x4 + 1)), none, none]) ⟨rfl, rfl, rfl, rfl, rfl, trivial⟩ ?_))))))
                exact h
          · intro q14
            have h := h.2 q14
            refine aw_aload_n (pc' := 122) (dt_X11_works 68 (121, .aload_n 0, 1) rfl) rfl rfl (aw_getAs (pc' := 125) (dt_X11_works 69 (122, .getfield 135, 3) rfl) fl_ReturnDeskModel_135 rfl rfl (sk_31 hS) (sa_31_59 hS) (aw_iconst (pc' := 126) (v := 0) (dt_X11_works 70 (125, .iconst 0, 1) rfl) (by decide) rfl (aw_iald (pc' := 127) (dt_X11_works 71 (126, .iaload, 1) rfl) rfl (sk_73 hS) (vin_eq (sl_73 hS) (vlit (by decide))) (aw_if_ge (pc' := 130) (tgt := 134) (dt_X11_works 72 (127, .ifCond .ge 7, 3) rfl) (by decide) rfl ?_ ?_))))
            · intro q26
              have h := h.1 q26
              refine aw_aload_n (pc' := 135) (dt_X11_works 75 (134, .aload_n 0, 1) rfl) rfl rfl (aw_getAs (pc' := 138) (dt_X11_works 76 (135, .getfield 135, 3) rfl) fl_ReturnDeskModel_135 rfl rfl (sk_31 hS) (sa_31_59 hS) (aw_iconst (pc' := 139) (v := 0) (dt_X11_works 77 (138, .iconst 0, 1) rfl) (by decide) rfl (aw_iald (pc' := 140) (dt_X11_works 78 (139, .iaload, 1) rfl) rfl (sk_73 hS) (vin_eq (sl_73 hS) (vlit (by decide))) (aw_bipush (pc' := 142) (v := 100) (dt_X11_works 79 (140, .bipush 100, 2) rfl) (by decide) rfl (aw_icmp_le (pc' := 145) (tgt := 150) (dt_X11_works 80 (142, .if_icmp .le 8, 3) rfl) (by decide) rfl ?_ ?_)))))
              · intro q27
                have h := h.1 q27
                refine aw_aload_n (pc' := 151) (dt_X11_works 83 (150, .aload_n 0, 1) rfl) rfl rfl (aw_getAs (pc' := 154) (dt_X11_works 84 (151, .getfield 135, 3) rfl) fl_ReturnDeskModel_135 rfl rfl (sk_31 hS) (sa_31_59 hS) (aw_iconst (pc' := 155) (v := 0) (dt_X11_works 85 (154, .iconst 0, 1) rfl) (by decide) rfl (aw_iald (pc' := 156) (dt_X11_works 86 (155, .iaload, 1) rfl) rfl (sk_73 hS) (vin_eq (sl_73 hS) (vlit (by decide))) (aw_istore (pc' := 158) (ls' := [some (.ref 31), some (.int x1), some (.int x2), some (.int x3), some (.int x4), some (.int (zI μ 70 x4.toNatClampNeg)), some (.int (zI μ 73 0))]) (dt_X11_works 87 (156, .istore 6, 2) rfl) (by decide) rfl rfl (aw_iload_n (pc' := 159) (dt_X11_works 88 (158, .iload_n 3, 1) rfl) rfl rfl (aw_if_ne (pc' := 162) (tgt := 177) (dt_X11_works 89 (159, .ifCond .ne 18, 3) rfl) (by decide) rfl ?_ ?_))))))
                · intro q28
                  have h := h.1 q28
                  refine aw_iconst (pc' := 178) (v := 0) (dt_X11_works 99 (177, .iconst 0, 1) rfl) (by decide) rfl (aw_istore_n (pc' := 179) (ls' := [some (.ref 31), some (.int x1), some (.int x2), some (.int 0), some (.int x4), some (.int (zI μ 70 x4.toNatClampNeg)), some (.int (zI μ 73 0))]) (dt_X11_works 100 (178, .istore_n 3, 1) rfl) (by decide) rfl rfl (aw_iconst (pc' := 180) (v := 0) (dt_X11_works 101 (179, .iconst 0, 1) rfl) (by decide) rfl (aw_istore_n (pc' := 181) (ls' := [some (.ref 31), some (.int x1), some (.int 0), some (.int 0), some (.int x4), some (.int (zI μ 70 x4.toNatClampNeg)), some (.int (zI μ 73 0))]) (dt_X11_works 102 (180, .istore_n 2, 1) rfl) (by decide) rfl rfl (aw_goto (tgt := 247) (dt_X11_works 103 (181, .goto 66, 3) rfl) (by decide) (aw_iinc (pc' := 250) (v := 1) (ls' := [some (.ref 31), some (.int x1), some (.int 0), some (.int 0), some (.int (x4 + 1)), some (.int (zI μ 70 x4.toNatClampNeg)), some (.int (zI μ 73 0))]) (dt_X11_works 143 (247, .iinc 4 1, 3) rfl) rfl (by decide) (by decide) rfl rfl (aw_goto (tgt := 11) (dt_X11_works 144 (250, .goto (-239), 3) rfl) (by decide) (aw_drop (ls' := [some (.ref 31), some (.int x1), some (.int 0), some (.int 0), some (.int (x4 + 1)), none, none]) ⟨rfl, rfl, rfl, rfl, rfl, trivial⟩ ?_)))))))
                  exact h
                · intro q28
                  have h := h.2 q28
                  obtain ⟨g29, h⟩ := h
                  refine aw_sipush (pc' := 165) (v := 1000) (dt_X11_works 90 (162, .sipush 1000, 3) rfl) (by decide) rfl (aw_aload_n (pc' := 166) (dt_X11_works 91 (165, .aload_n 0, 1) rfl) rfl rfl (aw_getAs (pc' := 169) (dt_X11_works 92 (166, .getfield 129, 3) rfl) fl_ReturnDeskModel_129 rfl rfl (sk_31 hS) (sa_31_48 hS) (aw_iload (pc' := 171) (dt_X11_works 93 (169, .iload 4, 2) rfl) rfl rfl (aw_iald (pc' := 172) (dt_X11_works 94 (171, .iaload, 1) rfl) rfl (sk_71 hS) (vin_eq (sl_71 hS) g29) (aw_imul (pc' := 173) (dt_X11_works 95 (172, .imul, 1) rfl) rfl (aw_iload (pc' := 175) (dt_X11_works 96 (173, .iload 6, 2) rfl) rfl rfl (aw_iadd (pc' := 176) (dt_X11_works 97 (175, .iadd, 1) rfl) rfl (aw_iret (dt_X11_works 98 (176, .ireturn, 1) rfl) rfl rfl ?_))))))))
                  exact h
              · intro q27
                have h := h.2 q27
                refine aw_bipush (pc' := 147) (v := 100) (dt_X11_works 81 (145, .bipush 100, 2) rfl) (by decide) rfl (aw_goto (tgt := 156) (dt_X11_works 82 (147, .goto 9, 3) rfl) (by decide) (aw_istore (pc' := 158) (ls' := [some (.ref 31), some (.int x1), some (.int x2), some (.int x3), some (.int x4), some (.int (zI μ 70 x4.toNatClampNeg)), some (.int 100)]) (dt_X11_works 87 (156, .istore 6, 2) rfl) (by decide) rfl rfl (aw_iload_n (pc' := 159) (dt_X11_works 88 (158, .iload_n 3, 1) rfl) rfl rfl (aw_if_ne (pc' := 162) (tgt := 177) (dt_X11_works 89 (159, .ifCond .ne 18, 3) rfl) (by decide) rfl ?_ ?_))))
                · intro q30
                  have h := h.1 q30
                  refine aw_iconst (pc' := 178) (v := 0) (dt_X11_works 99 (177, .iconst 0, 1) rfl) (by decide) rfl (aw_istore_n (pc' := 179) (ls' := [some (.ref 31), some (.int x1), some (.int x2), some (.int 0), some (.int x4), some (.int (zI μ 70 x4.toNatClampNeg)), some (.int 100)]) (dt_X11_works 100 (178, .istore_n 3, 1) rfl) (by decide) rfl rfl (aw_iconst (pc' := 180) (v := 0) (dt_X11_works 101 (179, .iconst 0, 1) rfl) (by decide) rfl (aw_istore_n (pc' := 181) (ls' := [some (.ref 31), some (.int x1), some (.int 0), some (.int 0), some (.int x4), some (.int (zI μ 70 x4.toNatClampNeg)), some (.int 100)]) (dt_X11_works 102 (180, .istore_n 2, 1) rfl) (by decide) rfl rfl (aw_goto (tgt := 247) (dt_X11_works 103 (181, .goto 66, 3) rfl) (by decide) (aw_iinc (pc' := 250) (v := 1) (ls' := [some (.ref 31), some (.int x1), some (.int 0), some (.int 0), some (.int (x4 + 1)), some (.int (zI μ 70 x4.toNatClampNeg)), some (.int 100)]) (dt_X11_works 143 (247, .iinc 4 1, 3) rfl) rfl (by decide) (by decide) rfl rfl (aw_goto (tgt := 11) (dt_X11_works 144 (250, .goto (-239), 3) rfl) (by decide) (aw_drop (ls' := [some (.ref 31), some (.int x1), some (.int 0), some (.int 0), some (.int (x4 + 1)), none, none]) ⟨rfl, rfl, rfl, rfl, rfl, trivial⟩ ?_)))))))
                  exact h
                · intro q30
                  have h := h.2 q30
                  obtain ⟨g31, h⟩ := h
                  refine aw_sipush (pc' := 165) (v := 1000) (dt_X11_works 90 (162, .sipush 1000, 3) rfl) (by decide) rfl (aw_aload_n (pc' := 166) (dt_X11_works 91 (165, .aload_n 0, 1) rfl) rfl rfl (aw_getAs (pc' := 169) (dt_X11_works 92 (166, .getfield 129, 3) rfl) fl_ReturnDeskModel_129 rfl rfl (sk_31 hS) (sa_31_48 hS) (aw_iload (pc' := 171) (dt_X11_works 93 (169, .iload 4, 2) rfl) rfl rfl (aw_iald (pc' := 172) (dt_X11_works 94 (171, .iaload, 1) rfl) rfl (sk_71 hS) (vin_eq (sl_71 hS) g31) (aw_imul (pc' := 173) (dt_X11_works 95 (172, .imul, 1) rfl) rfl (aw_iload (pc' := 175) (dt_X11_works 96 (173, .iload 6, 2) rfl) rfl rfl (aw_iadd (pc' := 176) (dt_X11_works 97 (175, .iadd, 1) rfl) rfl (aw_iret (dt_X11_works 98 (176, .ireturn, 1) rfl) rfl rfl ?_))))))))
                  exact h
            · intro q26
              have h := h.2 q26
              refine aw_iconst (pc' := 131) (v := 0) (dt_X11_works 73 (130, .iconst 0, 1) rfl) (by decide) rfl (aw_goto (tgt := 156) (dt_X11_works 74 (131, .goto 25, 3) rfl) (by decide) (aw_istore (pc' := 158) (ls' := [some (.ref 31), some (.int x1), some (.int x2), some (.int x3), some (.int x4), some (.int (zI μ 70 x4.toNatClampNeg)), some (.int 0)]) (dt_X11_works 87 (156, .istore 6, 2) rfl) (by decide) rfl rfl (aw_iload_n (pc' := 159) (dt_X11_works 88 (158, .iload_n 3, 1) rfl) rfl rfl (aw_if_ne (pc' := 162) (tgt := 177) (dt_X11_works 89 (159, .ifCond .ne 18, 3) rfl) (by decide) rfl ?_ ?_))))
              · intro q32
                have h := h.1 q32
                refine aw_iconst (pc' := 178) (v := 0) (dt_X11_works 99 (177, .iconst 0, 1) rfl) (by decide) rfl (aw_istore_n (pc' := 179) (ls' := [some (.ref 31), some (.int x1), some (.int x2), some (.int 0), some (.int x4), some (.int (zI μ 70 x4.toNatClampNeg)), some (.int 0)]) (dt_X11_works 100 (178, .istore_n 3, 1) rfl) (by decide) rfl rfl (aw_iconst (pc' := 180) (v := 0) (dt_X11_works 101 (179, .iconst 0, 1) rfl) (by decide) rfl (aw_istore_n (pc' := 181) (ls' := [some (.ref 31), some (.int x1), some (.int 0), some (.int 0), some (.int x4), some (.int (zI μ 70 x4.toNatClampNeg)), some (.int 0)]) (dt_X11_works 102 (180, .istore_n 2, 1) rfl) (by decide) rfl rfl (aw_goto (tgt := 247) (dt_X11_works 103 (181, .goto 66, 3) rfl) (by decide) (aw_iinc (pc' := 250) (v := 1) (ls' := [some (.ref 31), some (.int x1), some (.int 0), some (.int 0), some (.int (x4 + 1)), some (.int (zI μ 70 x4.toNatClampNeg)), some (.int 0)]) (dt_X11_works 143 (247, .iinc 4 1, 3) rfl) rfl (by decide) (by decide) rfl rfl (aw_goto (tgt := 11) (dt_X11_works 144 (250, .goto (-239), 3) rfl) (by decide) (aw_drop (ls' := [some (.ref 31), some (.int x1), some (.int 0), some (.int 0), some (.int (x4 + 1)), none, none]) ⟨rfl, rfl, rfl, rfl, rfl, trivial⟩ ?_)))))))
                exact h
              · intro q32
                have h := h.2 q32
                obtain ⟨g33, h⟩ := h
                refine aw_sipush (pc' := 165) (v := 1000) (dt_X11_works 90 (162, .sipush 1000, 3) rfl) (by decide) rfl (aw_aload_n (pc' := 166) (dt_X11_works 91 (165, .aload_n 0, 1) rfl) rfl rfl (aw_getAs (pc' := 169) (dt_X11_works 92 (166, .getfield 129, 3) rfl) fl_ReturnDeskModel_129 rfl rfl (sk_31 hS) (sa_31_48 hS) (aw_iload (pc' := 171) (dt_X11_works 93 (169, .iload 4, 2) rfl) rfl rfl (aw_iald (pc' := 172) (dt_X11_works 94 (171, .iaload, 1) rfl) rfl (sk_71 hS) (vin_eq (sl_71 hS) g33) (aw_imul (pc' := 173) (dt_X11_works 95 (172, .imul, 1) rfl) rfl (aw_iload (pc' := 175) (dt_X11_works 96 (173, .iload 6, 2) rfl) rfl rfl (aw_iadd (pc' := 176) (dt_X11_works 97 (175, .iadd, 1) rfl) rfl (aw_iret (dt_X11_works 98 (176, .ireturn, 1) rfl) rfl rfl ?_))))))))
                exact h
        · intro q13
          have h := h.2 q13
          refine aw_aload_n (pc' := 96) (dt_X11_works 53 (95, .aload_n 0, 1) rfl) rfl rfl (aw_getAs (pc' := 99) (dt_X11_works 54 (96, .getfield 135, 3) rfl) fl_ReturnDeskModel_135 rfl rfl (sk_31 hS) (sa_31_59 hS) (aw_iconst (pc' := 100) (v := 0) (dt_X11_works 55 (99, .iconst 0, 1) rfl) (by decide) rfl (aw_iald (pc' := 101) (dt_X11_works 56 (100, .iaload, 1) rfl) rfl (sk_73 hS) (vin_eq (sl_73 hS) (vlit (by decide))) (aw_if_ne (pc' := 104) (tgt := 108) (dt_X11_works 57 (101, .ifCond .ne 7, 3) rfl) (by decide) rfl ?_ ?_))))
          · intro q34
            have h := h.1 q34
            refine aw_iconst (pc' := 109) (v := 0) (dt_X11_works 60 (108, .iconst 0, 1) rfl) (by decide) rfl (aw_istore_n (pc' := 110) (ls' := [some (.ref 31), some (.int x1), some (.int x2), some (.int 0), some (.int x4), some (.int (zI μ 70 x4.toNatClampNeg)), none]) (dt_X11_works 61 (109, .istore_n 3, 1) rfl) (by decide) rfl rfl (aw_iconst (pc' := 111) (v := 0) (dt_X11_works 62 (110, .iconst 0, 1) rfl) (by decide) rfl (aw_istore_n (pc' := 112) (ls' := [some (.ref 31), some (.int x1), some (.int 0), some (.int 0), some (.int x4), some (.int (zI μ 70 x4.toNatClampNeg)), none]) (dt_X11_works 63 (111, .istore_n 2, 1) rfl) (by decide) rfl rfl (aw_goto (tgt := 247) (dt_X11_works 64 (112, .goto 135, 3) rfl) (by decide) (aw_iinc (pc' := 250) (v := 1) (ls' := [some (.ref 31), some (.int x1), some (.int 0), some (.int 0), some (.int (x4 + 1)), some (.int (zI μ 70 x4.toNatClampNeg)), none]) (dt_X11_works 143 (247, .iinc 4 1, 3) rfl) rfl (by decide) (by decide) rfl rfl (aw_goto (tgt := 11) (dt_X11_works 144 (250, .goto (-239), 3) rfl) (by decide) (aw_drop (ls' := [some (.ref 31), some (.int x1), some (.int 0), some (.int 0), some (.int (x4 + 1)), none, none]) ⟨rfl, rfl, rfl, rfl, rfl, trivial⟩ ?_)))))))
            exact h
          · intro q34
            have h := h.2 q34
            refine aw_iconst (pc' := 105) (v := 1) (dt_X11_works 58 (104, .iconst 1, 1) rfl) (by decide) rfl (aw_goto (tgt := 109) (dt_X11_works 59 (105, .goto 4, 3) rfl) (by decide) (aw_istore_n (pc' := 110) (ls' := [some (.ref 31), some (.int x1), some (.int x2), some (.int 1), some (.int x4), some (.int (zI μ 70 x4.toNatClampNeg)), none]) (dt_X11_works 61 (109, .istore_n 3, 1) rfl) (by decide) rfl rfl (aw_iconst (pc' := 111) (v := 0) (dt_X11_works 62 (110, .iconst 0, 1) rfl) (by decide) rfl (aw_istore_n (pc' := 112) (ls' := [some (.ref 31), some (.int x1), some (.int 0), some (.int 1), some (.int x4), some (.int (zI μ 70 x4.toNatClampNeg)), none]) (dt_X11_works 63 (111, .istore_n 2, 1) rfl) (by decide) rfl rfl (aw_goto (tgt := 247) (dt_X11_works 64 (112, .goto 135, 3) rfl) (by decide) (aw_iinc (pc' := 250) (v := 1) (ls' := [some (.ref 31), some (.int x1), some (.int 0), some (.int 1), some (.int (x4 + 1)), some (.int (zI μ 70 x4.toNatClampNeg)), none]) (dt_X11_works 143 (247, .iinc 4 1, 3) rfl) rfl (by decide) (by decide) rfl rfl (aw_goto (tgt := 11) (dt_X11_works 144 (250, .goto (-239), 3) rfl) (by decide) (aw_drop (ls' := [some (.ref 31), some (.int x1), some (.int 0), some (.int 1), some (.int (x4 + 1)), none, none]) ⟨rfl, rfl, rfl, rfl, rfl, trivial⟩ ?_))))))))
            exact h
      · intro q12
        have h := h.2 q12
        refine aw_aload_n (pc' := 50) (dt_X11_works 29 (49, .aload_n 0, 1) rfl) rfl rfl (aw_getAs (pc' := 53) (dt_X11_works 30 (50, .getfield 135, 3) rfl) fl_ReturnDeskModel_135 rfl rfl (sk_31 hS) (sa_31_59 hS) (aw_iload_n (pc' := 54) (dt_X11_works 31 (53, .iload_n 2, 1) rfl) rfl rfl (aw_iload (pc' := 56) (dt_X11_works 32 (54, .iload 5, 2) rfl) rfl rfl (aw_iconst (pc' := 57) (v := 1) (dt_X11_works 33 (56, .iconst 1, 1) rfl) (by decide) rfl (aw_icmp_ne (pc' := 60) (tgt := 70) (dt_X11_works 34 (57, .if_icmp .ne 13, 3) rfl) (by decide) rfl ?_ ?_)))))
        · intro q35
          have h := h.1 q35
          obtain ⟨g36, h⟩ := h
          obtain ⟨g37, h⟩ := h
          obtain ⟨g38, h⟩ := h
          refine aw_aload_n (pc' := 71) (dt_X11_works 40 (70, .aload_n 0, 1) rfl) rfl rfl (aw_getAs (pc' := 74) (dt_X11_works 41 (71, .getfield 132, 3) rfl) fl_ReturnDeskModel_132 rfl rfl (sk_31 hS) (sa_31_58 hS) (aw_aload_n (pc' := 75) (dt_X11_works 42 (74, .aload_n 0, 1) rfl) rfl rfl (aw_getAs (pc' := 78) (dt_X11_works 43 (75, .getfield 129, 3) rfl) fl_ReturnDeskModel_129 rfl rfl (sk_31 hS) (sa_31_48 hS) (aw_iload (pc' := 80) (dt_X11_works 44 (78, .iload 4, 2) rfl) rfl rfl (aw_iald (pc' := 81) (dt_X11_works 45 (80, .iaload, 1) rfl) rfl (sk_71 hS) (vin_eq (sl_71 hS) g36) (aw_iald (pc' := 82) (dt_X11_works 46 (81, .iaload, 1) rfl) rfl (sk_72 hS) (vin_eq (sl_72 hS) g37) (aw_iast (pc' := 83) (dt_X11_works 47 (82, .iastore, 1) rfl) rfl (sk_73 hS) (by decide) (vin_eq (sl_73 hS) g38) (aw_iinc (pc' := 86) (v := 1) (ls' := [some (.ref 31), some (.int x1), some (.int (x2 + 1)), some (.int x3), some (.int x4), some (.int (zI μ 70 x4.toNatClampNeg)), none]) (dt_X11_works 48 (83, .iinc 2 1, 3) rfl) rfl (by decide) (by decide) rfl rfl (aw_goto (tgt := 247) (dt_X11_works 49 (86, .goto 161, 3) rfl) (by decide) (aw_iinc (pc' := 250) (v := 1) (ls' := [some (.ref 31), some (.int x1), some (.int (x2 + 1)), some (.int x3), some (.int (x4 + 1)), some (.int (zI μ 70 x4.toNatClampNeg)), none]) (dt_X11_works 143 (247, .iinc 4 1, 3) rfl) rfl (by decide) (by decide) rfl rfl (aw_goto (tgt := 11) (dt_X11_works 144 (250, .goto (-239), 3) rfl) (by decide) (aw_drop (ls' := [some (.ref 31), some (.int x1), some (.int (x2 + 1)), some (.int x3), some (.int (x4 + 1)), none, none]) ⟨rfl, rfl, rfl, rfl, rfl, trivial⟩ ?_))))))))))))
          exact h
        · intro q35
          have h := h.2 q35
          obtain ⟨g39, h⟩ := h
          obtain ⟨g40, h⟩ := h
          refine aw_aload_n (pc' := 61) (dt_X11_works 35 (60, .aload_n 0, 1) rfl) rfl rfl (aw_getAs (pc' := 64) (dt_X11_works 36 (61, .getfield 129, 3) rfl) fl_ReturnDeskModel_129 rfl rfl (sk_31 hS) (sa_31_48 hS) (aw_iload (pc' := 66) (dt_X11_works 37 (64, .iload 4, 2) rfl) rfl rfl (aw_iald (pc' := 67) (dt_X11_works 38 (66, .iaload, 1) rfl) rfl (sk_71 hS) (vin_eq (sl_71 hS) g39) (aw_goto (tgt := 82) (dt_X11_works 39 (67, .goto 15, 3) rfl) (by decide) (aw_iast (pc' := 83) (dt_X11_works 47 (82, .iastore, 1) rfl) rfl (sk_73 hS) (by decide) (vin_eq (sl_73 hS) g40) (aw_iinc (pc' := 86) (v := 1) (ls' := [some (.ref 31), some (.int x1), some (.int (x2 + 1)), some (.int x3), some (.int x4), some (.int (zI μ 70 x4.toNatClampNeg)), none]) (dt_X11_works 48 (83, .iinc 2 1, 3) rfl) rfl (by decide) (by decide) rfl rfl (aw_goto (tgt := 247) (dt_X11_works 49 (86, .goto 161, 3) rfl) (by decide) (aw_iinc (pc' := 250) (v := 1) (ls' := [some (.ref 31), some (.int x1), some (.int (x2 + 1)), some (.int x3), some (.int (x4 + 1)), some (.int (zI μ 70 x4.toNatClampNeg)), none]) (dt_X11_works 143 (247, .iinc 4 1, 3) rfl) rfl (by decide) (by decide) rfl rfl (aw_goto (tgt := 11) (dt_X11_works 144 (250, .goto (-239), 3) rfl) (by decide) (aw_drop (ls' := [some (.ref 31), some (.int x1), some (.int (x2 + 1)), some (.int x3), some (.int (x4 + 1)), none, none]) ⟨rfl, rfl, rfl, rfl, rfl, trivial⟩ ?_))))))))))
          exact h

theorem t_X11_times {E : ZE} {l : Launch} {d nc ns : Nat} {x1 : Int32} {x2 : Int32} {μ : ZM} {K : Option Value → ZM → Prop} (hS : Stat μ) (h :
  (vp_in x1 300) ∧
  (¬ (zI μ 53 x1.toNatClampNeg) = 60 →
    AW E l (d + 1) nc ns mX11_times 18 [some (.ref 31), some (.int x1), some (.int x2), some (.int 0), some (.int 0)] [] μ K) ∧
  ((zI μ 53 x1.toNatClampNeg) = 60 →
    K (some (.int 0)) μ)) : AW E l (d + 1) nc ns mX11_times 0 [some (.ref 31), some (.int x1), some (.int x2), none, none] [] μ K := by
  obtain ⟨g1, h⟩ := h
  refine aw_aload_n (pc' := 1) (dt_X11_times 0 (0, .aload_n 0, 1) rfl) rfl rfl (aw_getAs (pc' := 4) (dt_X11_times 1 (1, .getfield 74, 3) rfl) fl_ReturnDeskModel_74 rfl rfl (sk_31 hS) (sa_31_28 hS) (aw_iload_n (pc' := 5) (dt_X11_times 2 (4, .iload_n 1, 1) rfl) rfl rfl (aw_iald (pc' := 6) (dt_X11_times 3 (5, .iaload, 1) rfl) rfl (sk_53 hS) (vin_eq (sl_53 hS) g1) (aw_bipush (pc' := 8) (v := 60) (dt_X11_times 4 (6, .bipush 60, 2) rfl) (by decide) rfl (aw_icmp_ne (pc' := 11) (tgt := 13) (dt_X11_times 5 (8, .if_icmp .ne 5, 3) rfl) (by decide) rfl ?_ ?_)))))
  · intro q2
    have h := h.1 q2
    refine aw_iconst (pc' := 14) (v := 0) (dt_X11_times 8 (13, .iconst 0, 1) rfl) (by decide) rfl (aw_istore_n (pc' := 15) (ls' := [some (.ref 31), some (.int x1), some (.int x2), some (.int 0), none]) (dt_X11_times 9 (14, .istore_n 3, 1) rfl) (by decide) rfl rfl (aw_iconst (pc' := 16) (v := 0) (dt_X11_times 10 (15, .iconst 0, 1) rfl) (by decide) rfl (aw_istore (pc' := 18) (ls' := [some (.ref 31), some (.int x1), some (.int x2), some (.int 0), some (.int 0)]) (dt_X11_times 11 (16, .istore 4, 2) rfl) (by decide) rfl rfl ?_)))
    exact h
  · intro q2
    have h := h.2 q2
    refine aw_iconst (pc' := 12) (v := 0) (dt_X11_times 6 (11, .iconst 0, 1) rfl) (by decide) rfl (aw_iret (dt_X11_times 7 (12, .ireturn, 1) rfl) rfl rfl ?_)
    exact h

theorem t_X11_times_18 {E : ZE} {l : Launch} {d nc ns : Nat} {x1 : Int32} {x2 : Int32} {x3 : Int32} {x4 : Int32} {μ : ZM} {K : Option Value → ZM → Prop} (hS : Stat μ) (h :
  ((zI μ 31 22) ≤ x4 →
    K (some (.int x3)) μ) ∧
  (¬ (zI μ 31 22) ≤ x4 →
    (vp_in x4 300) ∧
    (vp_in x1 300) ∧
    (¬ (zI μ 53 x4.toNatClampNeg) = (zI μ 53 x1.toNatClampNeg) →
      AW E l (d + 1) nc ns mX11_times 18 [some (.ref 31), some (.int x1), some (.int x2), some (.int (x3 + 0)), some (.int (x4 + 1))] [] μ K) ∧
    ((zI μ 53 x4.toNatClampNeg) = (zI μ 53 x1.toNatClampNeg) →
      (vp_in x4 300) ∧
      ((zI μ 58 x4.toNatClampNeg) < 0 →
        AW E l (d + 1) nc ns mX11_times 18 [some (.ref 31), some (.int x1), some (.int x2), some (.int (x3 + 0)), some (.int (x4 + 1))] [] μ K) ∧
      (¬ (zI μ 58 x4.toNatClampNeg) < 0 →
        (vp_in x4 300) ∧
        ((x2 - (zI μ 58 x4.toNatClampNeg)) < 0 →
          AW E l (d + 1) nc ns mX11_times 18 [some (.ref 31), some (.int x1), some (.int x2), some (.int (x3 + 0)), some (.int (x4 + 1))] [] μ K) ∧
        (¬ (x2 - (zI μ 58 x4.toNatClampNeg)) < 0 →
          (359 < (x2 - (zI μ 58 x4.toNatClampNeg)) →
            AW E l (d + 1) nc ns mX11_times 18 [some (.ref 31), some (.int x1), some (.int x2), some (.int (x3 + 0)), some (.int (x4 + 1))] [] μ K) ∧
          (¬ 359 < (x2 - (zI μ 58 x4.toNatClampNeg)) →
            AW E l (d + 1) nc ns mX11_times 18 [some (.ref 31), some (.int x1), some (.int x2), some (.int (x3 + 1)), some (.int (x4 + 1))] [] μ K)))))) : AW E l (d + 1) nc ns mX11_times 18 [some (.ref 31), some (.int x1), some (.int x2), some (.int x3), some (.int x4)] [] μ K := by
  refine aw_iload (pc' := 20) (dt_X11_times 12 (18, .iload 4, 2) rfl) rfl rfl (aw_aload_n (pc' := 21) (dt_X11_times 13 (20, .aload_n 0, 1) rfl) rfl rfl (aw_getI (pc' := 24) (dt_X11_times 14 (21, .getfield 215, 3) rfl) fl_ReturnDeskModel_215 rfl rfl (sk_31 hS) (aw_icmp_ge (pc' := 27) (tgt := 86) (dt_X11_times 15 (24, .if_icmp .ge 62, 3) rfl) (by decide) rfl ?_ ?_)))
  · intro q1
    have h := h.1 q1
    refine aw_iload_n (pc' := 87) (dt_X11_times 48 (86, .iload_n 3, 1) rfl) rfl rfl (aw_iret (dt_X11_times 49 (87, .ireturn, 1) rfl) rfl rfl ?_)
    exact h
  · intro q1
    have h := h.2 q1
    obtain ⟨g2, h⟩ := h
    obtain ⟨g3, h⟩ := h
    refine aw_iload_n (pc' := 28) (dt_X11_times 16 (27, .iload_n 3, 1) rfl) rfl rfl (aw_aload_n (pc' := 29) (dt_X11_times 17 (28, .aload_n 0, 1) rfl) rfl rfl (aw_getAs (pc' := 32) (dt_X11_times 18 (29, .getfield 74, 3) rfl) fl_ReturnDeskModel_74 rfl rfl (sk_31 hS) (sa_31_28 hS) (aw_iload (pc' := 34) (dt_X11_times 19 (32, .iload 4, 2) rfl) rfl rfl (aw_iald (pc' := 35) (dt_X11_times 20 (34, .iaload, 1) rfl) rfl (sk_53 hS) (vin_eq (sl_53 hS) g2) (aw_aload_n (pc' := 36) (dt_X11_times 21 (35, .aload_n 0, 1) rfl) rfl rfl (aw_getAs (pc' := 39) (dt_X11_times 22 (36, .getfield 74, 3) rfl) fl_ReturnDeskModel_74 rfl rfl (sk_31 hS) (sa_31_28 hS) (aw_iload_n (pc' := 40) (dt_X11_times 23 (39, .iload_n 1, 1) rfl) rfl rfl (aw_iald (pc' := 41) (dt_X11_times 24 (40, .iaload, 1) rfl) rfl (sk_53 hS) (vin_eq (sl_53 hS) g3) (aw_icmp_ne (pc' := 44) (tgt := 77) (dt_X11_times 25 (41, .if_icmp .ne 36, 3) rfl) (by decide) rfl ?_ ?_)))))))))
    · intro q4
      have h := h.1 q4
      refine aw_iconst (pc' := 78) (v := 0) (dt_X11_times 43 (77, .iconst 0, 1) rfl) (by decide) rfl (aw_iadd (pc' := 79) (dt_X11_times 44 (78, .iadd, 1) rfl) rfl (aw_istore_n (pc' := 80) (ls' := [some (.ref 31), some (.int x1), some (.int x2), some (.int (x3 + 0)), some (.int x4)]) (dt_X11_times 45 (79, .istore_n 3, 1) rfl) (by decide) rfl rfl (aw_iinc (pc' := 83) (v := 1) (ls' := [some (.ref 31), some (.int x1), some (.int x2), some (.int (x3 + 0)), some (.int (x4 + 1))]) (dt_X11_times 46 (80, .iinc 4 1, 3) rfl) rfl (by decide) (by decide) rfl rfl (aw_goto (tgt := 18) (dt_X11_times 47 (83, .goto (-65), 3) rfl) (by decide) ?_))))
      exact h
    · intro q4
      have h := h.2 q4
      obtain ⟨g5, h⟩ := h
      refine aw_aload_n (pc' := 45) (dt_X11_times 26 (44, .aload_n 0, 1) rfl) rfl rfl (aw_getAs (pc' := 48) (dt_X11_times 27 (45, .getfield 89, 3) rfl) fl_ReturnDeskModel_89 rfl rfl (sk_31 hS) (sa_31_33 hS) (aw_iload (pc' := 50) (dt_X11_times 28 (48, .iload 4, 2) rfl) rfl rfl (aw_iald (pc' := 51) (dt_X11_times 29 (50, .iaload, 1) rfl) rfl (sk_58 hS) (vin_eq (sl_58 hS) g5) (aw_if_lt (pc' := 54) (tgt := 77) (dt_X11_times 30 (51, .ifCond .lt 26, 3) rfl) (by decide) rfl ?_ ?_))))
      · intro q6
        have h := h.1 q6
        refine aw_iconst (pc' := 78) (v := 0) (dt_X11_times 43 (77, .iconst 0, 1) rfl) (by decide) rfl (aw_iadd (pc' := 79) (dt_X11_times 44 (78, .iadd, 1) rfl) rfl (aw_istore_n (pc' := 80) (ls' := [some (.ref 31), some (.int x1), some (.int x2), some (.int (x3 + 0)), some (.int x4)]) (dt_X11_times 45 (79, .istore_n 3, 1) rfl) (by decide) rfl rfl (aw_iinc (pc' := 83) (v := 1) (ls' := [some (.ref 31), some (.int x1), some (.int x2), some (.int (x3 + 0)), some (.int (x4 + 1))]) (dt_X11_times 46 (80, .iinc 4 1, 3) rfl) rfl (by decide) (by decide) rfl rfl (aw_goto (tgt := 18) (dt_X11_times 47 (83, .goto (-65), 3) rfl) (by decide) ?_))))
        exact h
      · intro q6
        have h := h.2 q6
        obtain ⟨g7, h⟩ := h
        refine aw_iload_n (pc' := 55) (dt_X11_times 31 (54, .iload_n 2, 1) rfl) rfl rfl (aw_aload_n (pc' := 56) (dt_X11_times 32 (55, .aload_n 0, 1) rfl) rfl rfl (aw_getAs (pc' := 59) (dt_X11_times 33 (56, .getfield 89, 3) rfl) fl_ReturnDeskModel_89 rfl rfl (sk_31 hS) (sa_31_33 hS) (aw_iload (pc' := 61) (dt_X11_times 34 (59, .iload 4, 2) rfl) rfl rfl (aw_iald (pc' := 62) (dt_X11_times 35 (61, .iaload, 1) rfl) rfl (sk_58 hS) (vin_eq (sl_58 hS) g7) (aw_isub (pc' := 63) (dt_X11_times 36 (62, .isub, 1) rfl) rfl (aw_iconst (pc' := 64) (v := 0) (dt_X11_times 37 (63, .iconst 0, 1) rfl) (by decide) rfl (aw_sipush (pc' := 67) (v := 359) (dt_X11_times 38 (64, .sipush 359, 3) rfl) (by decide) rfl (aw_inS (pc' := 70) (nc1 := 0) (ns1 := 0) (nc := nc) (ns := ns) (ls' := [some (.int (x2 - (zI μ 58 x4.toNatClampNeg))), some (.int 0), some (.int 359)]) (y2 := mX11_in) (As := [.int (x2 - (zI μ 58 x4.toNatClampNeg)), .int 0, .int 359]) (rest := [.int x3]) (dt_X11_times 39 (67, .invokestatic 185, 3) rfl) ok_X11_in ln_ReturnDeskModel_185 sm_X11_in pr_X11_in rfl (Nat.le_of_ble_eq_true rfl) (Nat.le_of_ble_eq_true rfl) rfl rfl (aw_iload_n (pc' := 1) (dt_X11_in 0 (0, .iload_n 0, 1) rfl) rfl rfl (aw_iload_n (pc' := 2) (dt_X11_in 1 (1, .iload_n 1, 1) rfl) rfl rfl (aw_icmp_lt (pc' := 5) (tgt := 14) (dt_X11_in 2 (2, .if_icmp .lt 12, 3) rfl) (by decide) rfl ?_ ?_)))))))))))
        · intro q8
          have h := h.1 q8
          refine aw_iconst (pc' := 15) (v := 0) (dt_X11_in 8 (14, .iconst 0, 1) rfl) (by decide) rfl (aw_iret (dt_X11_in 9 (15, .ireturn, 1) rfl) rfl rfl (aw_stk (st' := [.int 0, .int x3]) rfl (aw_if_eq_T (pc' := 73) (tgt := 77) (dt_X11_times 40 (70, .ifCond .eq 7, 3) rfl) (by decide) rfl (by decide) (aw_iconst (pc' := 78) (v := 0) (dt_X11_times 43 (77, .iconst 0, 1) rfl) (by decide) rfl (aw_iadd (pc' := 79) (dt_X11_times 44 (78, .iadd, 1) rfl) rfl (aw_istore_n (pc' := 80) (ls' := [some (.ref 31), some (.int x1), some (.int x2), some (.int (x3 + 0)), some (.int x4)]) (dt_X11_times 45 (79, .istore_n 3, 1) rfl) (by decide) rfl rfl (aw_iinc (pc' := 83) (v := 1) (ls' := [some (.ref 31), some (.int x1), some (.int x2), some (.int (x3 + 0)), some (.int (x4 + 1))]) (dt_X11_times 46 (80, .iinc 4 1, 3) rfl) rfl (by decide) (by decide) rfl rfl (aw_goto (tgt := 18) (dt_X11_times 47 (83, .goto (-65), 3) rfl) (by decide) ?_))))))))
          exact h
        · intro q8
          have h := h.2 q8
          refine aw_iload_n (pc' := 6) (dt_X11_in 3 (5, .iload_n 0, 1) rfl) rfl rfl (aw_iload_n (pc' := 7) (dt_X11_in 4 (6, .iload_n 2, 1) rfl) rfl rfl (aw_icmp_gt (pc' := 10) (tgt := 14) (dt_X11_in 5 (7, .if_icmp .gt 7, 3) rfl) (by decide) rfl ?_ ?_))
          · intro q9
            have h := h.1 q9
            refine aw_iconst (pc' := 15) (v := 0) (dt_X11_in 8 (14, .iconst 0, 1) rfl) (by decide) rfl (aw_iret (dt_X11_in 9 (15, .ireturn, 1) rfl) rfl rfl (aw_stk (st' := [.int 0, .int x3]) rfl (aw_if_eq_T (pc' := 73) (tgt := 77) (dt_X11_times 40 (70, .ifCond .eq 7, 3) rfl) (by decide) rfl (by decide) (aw_iconst (pc' := 78) (v := 0) (dt_X11_times 43 (77, .iconst 0, 1) rfl) (by decide) rfl (aw_iadd (pc' := 79) (dt_X11_times 44 (78, .iadd, 1) rfl) rfl (aw_istore_n (pc' := 80) (ls' := [some (.ref 31), some (.int x1), some (.int x2), some (.int (x3 + 0)), some (.int x4)]) (dt_X11_times 45 (79, .istore_n 3, 1) rfl) (by decide) rfl rfl (aw_iinc (pc' := 83) (v := 1) (ls' := [some (.ref 31), some (.int x1), some (.int x2), some (.int (x3 + 0)), some (.int (x4 + 1))]) (dt_X11_times 46 (80, .iinc 4 1, 3) rfl) rfl (by decide) (by decide) rfl rfl (aw_goto (tgt := 18) (dt_X11_times 47 (83, .goto (-65), 3) rfl) (by decide) ?_))))))))
            exact h
          · intro q9
            have h := h.2 q9
            refine aw_iconst (pc' := 11) (v := 1) (dt_X11_in 6 (10, .iconst 1, 1) rfl) (by decide) rfl (aw_goto (tgt := 15) (dt_X11_in 7 (11, .goto 4, 3) rfl) (by decide) (aw_iret (dt_X11_in 9 (15, .ireturn, 1) rfl) rfl rfl (aw_stk (st' := [.int 1, .int x3]) rfl (aw_if_eq_F (pc' := 73) (tgt := 77) (dt_X11_times 40 (70, .ifCond .eq 7, 3) rfl) (by decide) rfl (by decide) (aw_iconst (pc' := 74) (v := 1) (dt_X11_times 41 (73, .iconst 1, 1) rfl) (by decide) rfl (aw_goto (tgt := 78) (dt_X11_times 42 (74, .goto 4, 3) rfl) (by decide) (aw_iadd (pc' := 79) (dt_X11_times 44 (78, .iadd, 1) rfl) rfl (aw_istore_n (pc' := 80) (ls' := [some (.ref 31), some (.int x1), some (.int x2), some (.int (x3 + 1)), some (.int x4)]) (dt_X11_times 45 (79, .istore_n 3, 1) rfl) (by decide) rfl rfl (aw_iinc (pc' := 83) (v := 1) (ls' := [some (.ref 31), some (.int x1), some (.int x2), some (.int (x3 + 1)), some (.int (x4 + 1))]) (dt_X11_times 46 (80, .iinc 4 1, 3) rfl) rfl (by decide) (by decide) rfl rfl (aw_goto (tgt := 18) (dt_X11_times 47 (83, .goto (-65), 3) rfl) (by decide) ?_))))))))))
            exact h

theorem t_X11_factsOf {E : ZE} {l : Launch} {d nc ns : Nat} {x1 : Int32} {x2 : Int32} {x3 : Int32} {μ : ZM} {K : Option Value → ZM → Prop} (hS : Stat μ) (h :
  (vp_in x1 300) ∧
  ((zI (sI μ 72 4 x2) 57 x1.toNatClampNeg) = 0 →
    (vp_in x1 300) ∧
    (vp_in (zI (sI (sI μ 72 4 x2) 72 5 0) 49 x1.toNatClampNeg) 60) ∧
    (vp_in (zI (sI (sI μ 72 4 x2) 72 5 0) 45 (zI (sI (sI μ 72 4 x2) 72 5 0) 49 x1.toNatClampNeg).toNatClampNeg) 20) ∧
    (vp_in x1 300) ∧
    ∀ μ7, μ7 = (sI (sI (sI (sI μ 72 4 x2) 72 5 0) 72 6 (zI (sI (sI μ 72 4 x2) 72 5 0) 32 (zI (sI (sI μ 72 4 x2) 72 5 0) 45 (zI (sI (sI μ 72 4 x2) 72 5 0) 49 x1.toNatClampNeg).toNatClampNeg).toNatClampNeg)) 72 7 (zI (sI (sI (sI μ 72 4 x2) 72 5 0) 72 6 (zI (sI (sI μ 72 4 x2) 72 5 0) 32 (zI (sI (sI μ 72 4 x2) 72 5 0) 45 (zI (sI (sI μ 72 4 x2) 72 5 0) 49 x1.toNatClampNeg).toNatClampNeg).toNatClampNeg)) 56 x1.toNatClampNeg)) →
    (vp_in x1 300) ∧
    (vp_in x1 300) ∧
    AW E l (d + 1) 0 0 mX11_threes 0 (zargs 4 [.ref 31, .int x1]) [] (sI (sI μ7 72 8 (zI μ7 50 x1.toNatClampNeg)) 72 9 ((((zI (sI μ7 72 8 (zI μ7 50 x1.toNatClampNeg)) 55 x1.toNatClampNeg) / 24) / 30) - (((zI (sI μ7 72 8 (zI μ7 50 x1.toNatClampNeg)) 55 x1.toNatClampNeg) / 24) / 30) / 12 * 12)) (fun v μ12 => ∃ r14 : Int32, v = some (.int r14) ∧ Stat μ12 ∧ 
      AW E l (d + 1) 0 0 mX11_times 0 (zargs 5 [.ref 31, .int x1, .int x3]) [] (sI μ12 72 10 r14) (fun v μ15 => ∃ r17 : Int32, v = some (.int r17) ∧ Stat μ15 ∧ 
        K none (sI μ15 72 11 r17)))) ∧
  (¬ (zI (sI μ 72 4 x2) 57 x1.toNatClampNeg) = 0 →
    (vp_in x1 300) ∧
    (vp_in (zI (sI (sI μ 72 4 x2) 72 5 1) 49 x1.toNatClampNeg) 60) ∧
    (vp_in (zI (sI (sI μ 72 4 x2) 72 5 1) 45 (zI (sI (sI μ 72 4 x2) 72 5 1) 49 x1.toNatClampNeg).toNatClampNeg) 20) ∧
    (vp_in x1 300) ∧
    ∀ μ22, μ22 = (sI (sI (sI (sI μ 72 4 x2) 72 5 1) 72 6 (zI (sI (sI μ 72 4 x2) 72 5 1) 32 (zI (sI (sI μ 72 4 x2) 72 5 1) 45 (zI (sI (sI μ 72 4 x2) 72 5 1) 49 x1.toNatClampNeg).toNatClampNeg).toNatClampNeg)) 72 7 (zI (sI (sI (sI μ 72 4 x2) 72 5 1) 72 6 (zI (sI (sI μ 72 4 x2) 72 5 1) 32 (zI (sI (sI μ 72 4 x2) 72 5 1) 45 (zI (sI (sI μ 72 4 x2) 72 5 1) 49 x1.toNatClampNeg).toNatClampNeg).toNatClampNeg)) 56 x1.toNatClampNeg)) →
    (vp_in x1 300) ∧
    (vp_in x1 300) ∧
    AW E l (d + 1) 0 0 mX11_threes 0 (zargs 4 [.ref 31, .int x1]) [] (sI (sI μ22 72 8 (zI μ22 50 x1.toNatClampNeg)) 72 9 ((((zI (sI μ22 72 8 (zI μ22 50 x1.toNatClampNeg)) 55 x1.toNatClampNeg) / 24) / 30) - (((zI (sI μ22 72 8 (zI μ22 50 x1.toNatClampNeg)) 55 x1.toNatClampNeg) / 24) / 30) / 12 * 12)) (fun v μ27 => ∃ r29 : Int32, v = some (.int r29) ∧ Stat μ27 ∧ 
      AW E l (d + 1) 0 0 mX11_times 0 (zargs 5 [.ref 31, .int x1, .int x3]) [] (sI μ27 72 10 r29) (fun v μ30 => ∃ r32 : Int32, v = some (.int r32) ∧ Stat μ30 ∧ 
        K none (sI μ30 72 11 r32))))) : AW E l (d + 2) nc ns mX11_factsOf 0 [some (.ref 31), some (.int x1), some (.int x2), some (.int x3)] [] μ K := by
  obtain ⟨g1, h⟩ := h
  refine aw_aload_n (pc' := 1) (dt_X11_factsOf 0 (0, .aload_n 0, 1) rfl) rfl rfl (aw_getAs (pc' := 4) (dt_X11_factsOf 1 (1, .getfield 132, 3) rfl) fl_ReturnDeskModel_132 rfl rfl (sk_31 hS) (sa_31_58 hS) (aw_iconst (pc' := 5) (v := 4) (dt_X11_factsOf 2 (4, .iconst 4, 1) rfl) (by decide) rfl (aw_iload_n (pc' := 6) (dt_X11_factsOf 3 (5, .iload_n 2, 1) rfl) rfl rfl (aw_iast (pc' := 7) (dt_X11_factsOf 4 (6, .iastore, 1) rfl) rfl (sk_72 hS) (by decide) (vin_eq (sl_72 hS) (vlit (by decide))) (aw_aload_n (pc' := 8) (dt_X11_factsOf 5 (7, .aload_n 0, 1) rfl) rfl rfl (aw_getAs (pc' := 11) (dt_X11_factsOf 6 (8, .getfield 132, 3) rfl) fl_ReturnDeskModel_132 rfl rfl (sk_31 hS.wI) (sa_31_58 hS.wI) (aw_iconst (pc' := 12) (v := 5) (dt_X11_factsOf 7 (11, .iconst 5, 1) rfl) (by decide) rfl (aw_aload_n (pc' := 13) (dt_X11_factsOf 8 (12, .aload_n 0, 1) rfl) rfl rfl (aw_getAs (pc' := 16) (dt_X11_factsOf 9 (13, .getfield 86, 3) rfl) fl_ReturnDeskModel_86 rfl rfl (sk_31 hS.wI) (sa_31_32 hS.wI) (aw_iload_n (pc' := 17) (dt_X11_factsOf 10 (16, .iload_n 1, 1) rfl) rfl rfl (aw_zald (pc' := 18) (dt_X11_factsOf 11 (17, .baload, 1) rfl) rfl (sk_57 hS.wI) (vin_eq (sl_57 hS.wI) g1) (aw_if_eq (pc' := 21) (tgt := 25) (dt_X11_factsOf 12 (18, .ifCond .eq 7, 3) rfl) (by decide) rfl ?_ ?_))))))))))))
  · intro q2
    have h := h.1 q2
    obtain ⟨g3, h⟩ := h
    obtain ⟨g4, h⟩ := h
    obtain ⟨g5, h⟩ := h
    obtain ⟨g6, h⟩ := h
    refine aw_iconst (pc' := 26) (v := 0) (dt_X11_factsOf 15 (25, .iconst 0, 1) rfl) (by decide) rfl (aw_iast (pc' := 27) (dt_X11_factsOf 16 (26, .iastore, 1) rfl) rfl (sk_72 hS.wI) (by decide) (vin_eq (sl_72 hS.wI) (vlit (by decide))) (aw_aload_n (pc' := 28) (dt_X11_factsOf 17 (27, .aload_n 0, 1) rfl) rfl rfl (aw_getAs (pc' := 31) (dt_X11_factsOf 18 (28, .getfield 132, 3) rfl) fl_ReturnDeskModel_132 rfl rfl (sk_31 hS.wI.wI) (sa_31_58 hS.wI.wI) (aw_bipush (pc' := 33) (v := 6) (dt_X11_factsOf 19 (31, .bipush 6, 2) rfl) (by decide) rfl (aw_aload_n (pc' := 34) (dt_X11_factsOf 20 (33, .aload_n 0, 1) rfl) rfl rfl (aw_getAs (pc' := 37) (dt_X11_factsOf 21 (34, .getfield 7, 3) rfl) fl_ReturnDeskModel_7 rfl rfl (sk_31 hS.wI.wI) (sa_31_4 hS.wI.wI) (aw_aload_n (pc' := 38) (dt_X11_factsOf 22 (37, .aload_n 0, 1) rfl) rfl rfl (aw_iload_n (pc' := 39) (dt_X11_factsOf 23 (38, .iload_n 1, 1) rfl) rfl rfl (aw_inV (pc' := 42) (nc1 := 0) (ns1 := 0) (nc := nc) (ns := ns) (ls' := [some (.ref 31), some (.int x1)]) (y2 := mX11_modelOf) (As := [.int x1]) (rest := [.ref 32, .int 6, .ref 72]) (a := 31) (dt_X11_factsOf 24 (39, .invokevirtual 231, 3) rfl) ok_X11_modelOf ln_ReturnDeskModel_231 im_X11_modelOf se_X11_modelOf pr_X11_modelOf (Or.inl ⟨by decide, rfl⟩) rfl (Nat.le_of_ble_eq_true rfl) (Nat.le_of_ble_eq_true rfl) rfl rfl (sk_31 hS.wI.wI) (aw_aload_n (pc' := 1) (dt_X11_modelOf 0 (0, .aload_n 0, 1) rfl) rfl rfl (aw_getAs (pc' := 4) (dt_X11_modelOf 1 (1, .getfield 50, 3) rfl) fl_ReturnDeskModel_50 rfl rfl (sk_31 hS.wI.wI) (sa_31_19 hS.wI.wI) (aw_aload_n (pc' := 5) (dt_X11_modelOf 2 (4, .aload_n 0, 1) rfl) rfl rfl (aw_getAs (pc' := 8) (dt_X11_modelOf 3 (5, .getfield 62, 3) rfl) fl_ReturnDeskModel_62 rfl rfl (sk_31 hS.wI.wI) (sa_31_24 hS.wI.wI) (aw_iload_n (pc' := 9) (dt_X11_modelOf 4 (8, .iload_n 1, 1) rfl) rfl rfl (aw_iald (pc' := 10) (dt_X11_modelOf 5 (9, .iaload, 1) rfl) rfl (sk_49 hS.wI.wI) (vin_eq (sl_49 hS.wI.wI) g3) (aw_iald (pc' := 11) (dt_X11_modelOf 6 (10, .iaload, 1) rfl) rfl (sk_45 hS.wI.wI) (vin_eq (sl_45 hS.wI.wI) g4) (aw_iret (dt_X11_modelOf 7 (11, .ireturn, 1) rfl) rfl rfl (aw_stk (st' := [.int (zI (sI (sI μ 72 4 x2) 72 5 0) 45 (zI (sI (sI μ 72 4 x2) 72 5 0) 49 x1.toNatClampNeg).toNatClampNeg), .ref 32, .int 6, .ref 72]) rfl (aw_iald (pc' := 43) (dt_X11_factsOf 25 (42, .iaload, 1) rfl) rfl (sk_32 hS.wI.wI) (vin_eq (sl_32 hS.wI.wI) g5) (aw_iast (pc' := 44) (dt_X11_factsOf 26 (43, .iastore, 1) rfl) rfl (sk_72 hS.wI.wI) (by decide) (vin_eq (sl_72 hS.wI.wI) (vlit (by decide))) (aw_aload_n (pc' := 45) (dt_X11_factsOf 27 (44, .aload_n 0, 1) rfl) rfl rfl (aw_getAs (pc' := 48) (dt_X11_factsOf 28 (45, .getfield 132, 3) rfl) fl_ReturnDeskModel_132 rfl rfl (sk_31 hS.wI.wI.wI) (sa_31_58 hS.wI.wI.wI) (aw_bipush (pc' := 50) (v := 7) (dt_X11_factsOf 29 (48, .bipush 7, 2) rfl) (by decide) rfl (aw_aload_n (pc' := 51) (dt_X11_factsOf 30 (50, .aload_n 0, 1) rfl) rfl rfl (aw_getAs (pc' := 54) (dt_X11_factsOf 31 (51, .getfield 83, 3) rfl) fl_ReturnDeskModel_83 rfl rfl (sk_31 hS.wI.wI.wI) (sa_31_31 hS.wI.wI.wI) (aw_iload_n (pc' := 55) (dt_X11_factsOf 32 (54, .iload_n 1, 1) rfl) rfl rfl (aw_iald (pc' := 56) (dt_X11_factsOf 33 (55, .iaload, 1) rfl) rfl (sk_56 hS.wI.wI.wI) (vin_eq (sl_56 hS.wI.wI.wI) g6) (aw_iast (pc' := 57) (dt_X11_factsOf 34 (56, .iastore, 1) rfl) rfl (sk_72 hS.wI.wI.wI) (by decide) (vin_eq (sl_72 hS.wI.wI.wI) (vlit (by decide))) ?_))))))))))))))))))))))))))))
    refine aw_mem (fun μ7 eμ8 => ?_)
    have h := h μ7 eμ8
    have hS9 : Stat μ7 := by rw [eμ8]; exact hS.wI.wI.wI.wI
    obtain ⟨g10, h⟩ := h
    obtain ⟨g11, h⟩ := h
    refine aw_aload_n (pc' := 58) (dt_X11_factsOf 35 (57, .aload_n 0, 1) rfl) rfl rfl (aw_getAs (pc' := 61) (dt_X11_factsOf 36 (58, .getfield 132, 3) rfl) fl_ReturnDeskModel_132 rfl rfl (sk_31 hS9) (sa_31_58 hS9) (aw_bipush (pc' := 63) (v := 8) (dt_X11_factsOf 37 (61, .bipush 8, 2) rfl) (by decide) rfl (aw_aload_n (pc' := 64) (dt_X11_factsOf 38 (63, .aload_n 0, 1) rfl) rfl rfl (aw_getAs (pc' := 67) (dt_X11_factsOf 39 (64, .getfield 65, 3) rfl) fl_ReturnDeskModel_65 rfl rfl (sk_31 hS9) (sa_31_25 hS9) (aw_iload_n (pc' := 68) (dt_X11_factsOf 40 (67, .iload_n 1, 1) rfl) rfl rfl (aw_iald (pc' := 69) (dt_X11_factsOf 41 (68, .iaload, 1) rfl) rfl (sk_50 hS9) (vin_eq (sl_50 hS9) g10) (aw_iast (pc' := 70) (dt_X11_factsOf 42 (69, .iastore, 1) rfl) rfl (sk_72 hS9) (by decide) (vin_eq (sl_72 hS9) (vlit (by decide))) (aw_aload_n (pc' := 71) (dt_X11_factsOf 43 (70, .aload_n 0, 1) rfl) rfl rfl (aw_getAs (pc' := 74) (dt_X11_factsOf 44 (71, .getfield 132, 3) rfl) fl_ReturnDeskModel_132 rfl rfl (sk_31 hS9.wI) (sa_31_58 hS9.wI) (aw_bipush (pc' := 76) (v := 9) (dt_X11_factsOf 45 (74, .bipush 9, 2) rfl) (by decide) rfl (aw_aload_n (pc' := 77) (dt_X11_factsOf 46 (76, .aload_n 0, 1) rfl) rfl rfl (aw_iload_n (pc' := 78) (dt_X11_factsOf 47 (77, .iload_n 1, 1) rfl) rfl rfl (aw_inV (pc' := 81) (nc1 := 0) (ns1 := 0) (nc := nc) (ns := ns) (ls' := [some (.ref 31), some (.int x1)]) (y2 := mX11_dayOf) (As := [.int x1]) (rest := [.int 9, .ref 72]) (a := 31) (dt_X11_factsOf 48 (78, .invokevirtual 350, 3) rfl) ok_X11_dayOf ln_ReturnDeskModel_350 im_X11_dayOf se_X11_dayOf pr_X11_dayOf (Or.inl ⟨by decide, rfl⟩) rfl (Nat.le_of_ble_eq_true rfl) (Nat.le_of_ble_eq_true rfl) rfl rfl (sk_31 hS9.wI) (aw_aload_n (pc' := 1) (dt_X11_dayOf 0 (0, .aload_n 0, 1) rfl) rfl rfl (aw_getAs (pc' := 4) (dt_X11_dayOf 1 (1, .getfield 80, 3) rfl) fl_ReturnDeskModel_80 rfl rfl (sk_31 hS9.wI) (sa_31_30 hS9.wI) (aw_iload_n (pc' := 5) (dt_X11_dayOf 2 (4, .iload_n 1, 1) rfl) rfl rfl (aw_iald (pc' := 6) (dt_X11_dayOf 3 (5, .iaload, 1) rfl) rfl (sk_55 hS9.wI) (vin_eq (sl_55 hS9.wI) g11) (aw_bipush (pc' := 8) (v := 24) (dt_X11_dayOf 4 (6, .bipush 24, 2) rfl) (by decide) rfl (aw_idiv (pc' := 9) (dt_X11_dayOf 5 (8, .idiv, 1) rfl) (by decide) rfl (aw_iret (dt_X11_dayOf 6 (9, .ireturn, 1) rfl) rfl rfl (aw_stk (st' := [.int ((zI (sI μ7 72 8 (zI μ7 50 x1.toNatClampNeg)) 55 x1.toNatClampNeg) / 24), .int 9, .ref 72]) rfl (aw_bipush (pc' := 83) (v := 30) (dt_X11_factsOf 49 (81, .bipush 30, 2) rfl) (by decide) rfl (aw_idiv (pc' := 84) (dt_X11_factsOf 50 (83, .idiv, 1) rfl) (by decide) rfl (aw_bipush (pc' := 86) (v := 12) (dt_X11_factsOf 51 (84, .bipush 12, 2) rfl) (by decide) rfl (aw_irem (pc' := 87) (dt_X11_factsOf 52 (86, .irem, 1) rfl) (by decide) rfl (aw_iast (pc' := 88) (dt_X11_factsOf 53 (87, .iastore, 1) rfl) rfl (sk_72 hS9.wI) (by decide) (vin_eq (sl_72 hS9.wI) (vlit (by decide))) (aw_aload_n (pc' := 89) (dt_X11_factsOf 54 (88, .aload_n 0, 1) rfl) rfl rfl (aw_getAs (pc' := 92) (dt_X11_factsOf 55 (89, .getfield 132, 3) rfl) fl_ReturnDeskModel_132 rfl rfl (sk_31 hS9.wI.wI) (sa_31_58 hS9.wI.wI) (aw_bipush (pc' := 94) (v := 10) (dt_X11_factsOf 56 (92, .bipush 10, 2) rfl) (by decide) rfl (aw_aload_n (pc' := 95) (dt_X11_factsOf 57 (94, .aload_n 0, 1) rfl) rfl rfl (aw_iload_n (pc' := 96) (dt_X11_factsOf 58 (95, .iload_n 1, 1) rfl) rfl rfl (aw_callV0 (pc' := 99) (nc := nc) (ns := ns) (y2 := mX11_threes) (As := [.int x1]) (rest := [.int 10, .ref 72]) (a := 31) (dt_X11_factsOf 59 (96, .invokevirtual 236, 3) rfl) ok_X11_threes ln_ReturnDeskModel_236 im_X11_threes se_X11_threes pr_X11_threes (Or.inl ⟨by decide, rfl⟩) rfl (Nat.le_of_ble_eq_true rfl) (Nat.le_of_ble_eq_true rfl) rfl (sk_31 hS9.wI.wI) h ?_))))))))))))))))))))))))))))))))
    rintro v μ12 ⟨r14, rfl, hS13, h⟩
    refine aw_stk (st' := [.int r14, .int 10, .ref 72]) rfl ?_
    refine aw_iast (pc' := 100) (dt_X11_factsOf 60 (99, .iastore, 1) rfl) rfl (sk_72 hS13) (by decide) (vin_eq (sl_72 hS13) (vlit (by decide))) (aw_aload_n (pc' := 101) (dt_X11_factsOf 61 (100, .aload_n 0, 1) rfl) rfl rfl (aw_getAs (pc' := 104) (dt_X11_factsOf 62 (101, .getfield 132, 3) rfl) fl_ReturnDeskModel_132 rfl rfl (sk_31 hS13.wI) (sa_31_58 hS13.wI) (aw_bipush (pc' := 106) (v := 11) (dt_X11_factsOf 63 (104, .bipush 11, 2) rfl) (by decide) rfl (aw_aload_n (pc' := 107) (dt_X11_factsOf 64 (106, .aload_n 0, 1) rfl) rfl rfl (aw_iload_n (pc' := 108) (dt_X11_factsOf 65 (107, .iload_n 1, 1) rfl) rfl rfl (aw_iload_n (pc' := 109) (dt_X11_factsOf 66 (108, .iload_n 3, 1) rfl) rfl rfl (aw_callV0 (pc' := 112) (nc := nc) (ns := ns) (y2 := mX11_times) (As := [.int x1, .int x3]) (rest := [.int 11, .ref 72]) (a := 31) (dt_X11_factsOf 67 (109, .invokevirtual 360, 3) rfl) ok_X11_times ln_ReturnDeskModel_360 im_X11_times se_X11_times pr_X11_times (Or.inl ⟨by decide, rfl⟩) rfl (Nat.le_of_ble_eq_true rfl) (Nat.le_of_ble_eq_true rfl) rfl (sk_31 hS13.wI) h ?_)))))))
    rintro v μ15 ⟨r17, rfl, hS16, h⟩
    refine aw_stk (st' := [.int r17, .int 11, .ref 72]) rfl ?_
    refine aw_iast (pc' := 113) (dt_X11_factsOf 68 (112, .iastore, 1) rfl) rfl (sk_72 hS16) (by decide) (vin_eq (sl_72 hS16) (vlit (by decide))) (aw_ret (dt_X11_factsOf 69 (113, .return_, 1) rfl) rfl ?_)
    exact h
  · intro q2
    have h := h.2 q2
    obtain ⟨g18, h⟩ := h
    obtain ⟨g19, h⟩ := h
    obtain ⟨g20, h⟩ := h
    obtain ⟨g21, h⟩ := h
    refine aw_iconst (pc' := 22) (v := 1) (dt_X11_factsOf 13 (21, .iconst 1, 1) rfl) (by decide) rfl (aw_goto (tgt := 26) (dt_X11_factsOf 14 (22, .goto 4, 3) rfl) (by decide) (aw_iast (pc' := 27) (dt_X11_factsOf 16 (26, .iastore, 1) rfl) rfl (sk_72 hS.wI) (by decide) (vin_eq (sl_72 hS.wI) (vlit (by decide))) (aw_aload_n (pc' := 28) (dt_X11_factsOf 17 (27, .aload_n 0, 1) rfl) rfl rfl (aw_getAs (pc' := 31) (dt_X11_factsOf 18 (28, .getfield 132, 3) rfl) fl_ReturnDeskModel_132 rfl rfl (sk_31 hS.wI.wI) (sa_31_58 hS.wI.wI) (aw_bipush (pc' := 33) (v := 6) (dt_X11_factsOf 19 (31, .bipush 6, 2) rfl) (by decide) rfl (aw_aload_n (pc' := 34) (dt_X11_factsOf 20 (33, .aload_n 0, 1) rfl) rfl rfl (aw_getAs (pc' := 37) (dt_X11_factsOf 21 (34, .getfield 7, 3) rfl) fl_ReturnDeskModel_7 rfl rfl (sk_31 hS.wI.wI) (sa_31_4 hS.wI.wI) (aw_aload_n (pc' := 38) (dt_X11_factsOf 22 (37, .aload_n 0, 1) rfl) rfl rfl (aw_iload_n (pc' := 39) (dt_X11_factsOf 23 (38, .iload_n 1, 1) rfl) rfl rfl (aw_inV (pc' := 42) (nc1 := 0) (ns1 := 0) (nc := nc) (ns := ns) (ls' := [some (.ref 31), some (.int x1)]) (y2 := mX11_modelOf) (As := [.int x1]) (rest := [.ref 32, .int 6, .ref 72]) (a := 31) (dt_X11_factsOf 24 (39, .invokevirtual 231, 3) rfl) ok_X11_modelOf ln_ReturnDeskModel_231 im_X11_modelOf se_X11_modelOf pr_X11_modelOf (Or.inl ⟨by decide, rfl⟩) rfl (Nat.le_of_ble_eq_true rfl) (Nat.le_of_ble_eq_true rfl) rfl rfl (sk_31 hS.wI.wI) (aw_aload_n (pc' := 1) (dt_X11_modelOf 0 (0, .aload_n 0, 1) rfl) rfl rfl (aw_getAs (pc' := 4) (dt_X11_modelOf 1 (1, .getfield 50, 3) rfl) fl_ReturnDeskModel_50 rfl rfl (sk_31 hS.wI.wI) (sa_31_19 hS.wI.wI) (aw_aload_n (pc' := 5) (dt_X11_modelOf 2 (4, .aload_n 0, 1) rfl) rfl rfl (aw_getAs (pc' := 8) (dt_X11_modelOf 3 (5, .getfield 62, 3) rfl) fl_ReturnDeskModel_62 rfl rfl (sk_31 hS.wI.wI) (sa_31_24 hS.wI.wI) (aw_iload_n (pc' := 9) (dt_X11_modelOf 4 (8, .iload_n 1, 1) rfl) rfl rfl (aw_iald (pc' := 10) (dt_X11_modelOf 5 (9, .iaload, 1) rfl) rfl (sk_49 hS.wI.wI) (vin_eq (sl_49 hS.wI.wI) g18) (aw_iald (pc' := 11) (dt_X11_modelOf 6 (10, .iaload, 1) rfl) rfl (sk_45 hS.wI.wI) (vin_eq (sl_45 hS.wI.wI) g19) (aw_iret (dt_X11_modelOf 7 (11, .ireturn, 1) rfl) rfl rfl (aw_stk (st' := [.int (zI (sI (sI μ 72 4 x2) 72 5 1) 45 (zI (sI (sI μ 72 4 x2) 72 5 1) 49 x1.toNatClampNeg).toNatClampNeg), .ref 32, .int 6, .ref 72]) rfl (aw_iald (pc' := 43) (dt_X11_factsOf 25 (42, .iaload, 1) rfl) rfl (sk_32 hS.wI.wI) (vin_eq (sl_32 hS.wI.wI) g20) (aw_iast (pc' := 44) (dt_X11_factsOf 26 (43, .iastore, 1) rfl) rfl (sk_72 hS.wI.wI) (by decide) (vin_eq (sl_72 hS.wI.wI) (vlit (by decide))) (aw_aload_n (pc' := 45) (dt_X11_factsOf 27 (44, .aload_n 0, 1) rfl) rfl rfl (aw_getAs (pc' := 48) (dt_X11_factsOf 28 (45, .getfield 132, 3) rfl) fl_ReturnDeskModel_132 rfl rfl (sk_31 hS.wI.wI.wI) (sa_31_58 hS.wI.wI.wI) (aw_bipush (pc' := 50) (v := 7) (dt_X11_factsOf 29 (48, .bipush 7, 2) rfl) (by decide) rfl (aw_aload_n (pc' := 51) (dt_X11_factsOf 30 (50, .aload_n 0, 1) rfl) rfl rfl (aw_getAs (pc' := 54) (dt_X11_factsOf 31 (51, .getfield 83, 3) rfl) fl_ReturnDeskModel_83 rfl rfl (sk_31 hS.wI.wI.wI) (sa_31_31 hS.wI.wI.wI) (aw_iload_n (pc' := 55) (dt_X11_factsOf 32 (54, .iload_n 1, 1) rfl) rfl rfl (aw_iald (pc' := 56) (dt_X11_factsOf 33 (55, .iaload, 1) rfl) rfl (sk_56 hS.wI.wI.wI) (vin_eq (sl_56 hS.wI.wI.wI) g21) (aw_iast (pc' := 57) (dt_X11_factsOf 34 (56, .iastore, 1) rfl) rfl (sk_72 hS.wI.wI.wI) (by decide) (vin_eq (sl_72 hS.wI.wI.wI) (vlit (by decide))) ?_)))))))))))))))))))))))))))))
    refine aw_mem (fun μ22 eμ23 => ?_)
    have h := h μ22 eμ23
    have hS24 : Stat μ22 := by rw [eμ23]; exact hS.wI.wI.wI.wI
    obtain ⟨g25, h⟩ := h
    obtain ⟨g26, h⟩ := h
    refine aw_aload_n (pc' := 58) (dt_X11_factsOf 35 (57, .aload_n 0, 1) rfl) rfl rfl (aw_getAs (pc' := 61) (dt_X11_factsOf 36 (58, .getfield 132, 3) rfl) fl_ReturnDeskModel_132 rfl rfl (sk_31 hS24) (sa_31_58 hS24) (aw_bipush (pc' := 63) (v := 8) (dt_X11_factsOf 37 (61, .bipush 8, 2) rfl) (by decide) rfl (aw_aload_n (pc' := 64) (dt_X11_factsOf 38 (63, .aload_n 0, 1) rfl) rfl rfl (aw_getAs (pc' := 67) (dt_X11_factsOf 39 (64, .getfield 65, 3) rfl) fl_ReturnDeskModel_65 rfl rfl (sk_31 hS24) (sa_31_25 hS24) (aw_iload_n (pc' := 68) (dt_X11_factsOf 40 (67, .iload_n 1, 1) rfl) rfl rfl (aw_iald (pc' := 69) (dt_X11_factsOf 41 (68, .iaload, 1) rfl) rfl (sk_50 hS24) (vin_eq (sl_50 hS24) g25) (aw_iast (pc' := 70) (dt_X11_factsOf 42 (69, .iastore, 1) rfl) rfl (sk_72 hS24) (by decide) (vin_eq (sl_72 hS24) (vlit (by decide))) (aw_aload_n (pc' := 71) (dt_X11_factsOf 43 (70, .aload_n 0, 1) rfl) rfl rfl (aw_getAs (pc' := 74) (dt_X11_factsOf 44 (71, .getfield 132, 3) rfl) fl_ReturnDeskModel_132 rfl rfl (sk_31 hS24.wI) (sa_31_58 hS24.wI) (aw_bipush (pc' := 76) (v := 9) (dt_X11_factsOf 45 (74, .bipush 9, 2) rfl) (by decide) rfl (aw_aload_n (pc' := 77) (dt_X11_factsOf 46 (76, .aload_n 0, 1) rfl) rfl rfl (aw_iload_n (pc' := 78) (dt_X11_factsOf 47 (77, .iload_n 1, 1) rfl) rfl rfl (aw_inV (pc' := 81) (nc1 := 0) (ns1 := 0) (nc := nc) (ns := ns) (ls' := [some (.ref 31), some (.int x1)]) (y2 := mX11_dayOf) (As := [.int x1]) (rest := [.int 9, .ref 72]) (a := 31) (dt_X11_factsOf 48 (78, .invokevirtual 350, 3) rfl) ok_X11_dayOf ln_ReturnDeskModel_350 im_X11_dayOf se_X11_dayOf pr_X11_dayOf (Or.inl ⟨by decide, rfl⟩) rfl (Nat.le_of_ble_eq_true rfl) (Nat.le_of_ble_eq_true rfl) rfl rfl (sk_31 hS24.wI) (aw_aload_n (pc' := 1) (dt_X11_dayOf 0 (0, .aload_n 0, 1) rfl) rfl rfl (aw_getAs (pc' := 4) (dt_X11_dayOf 1 (1, .getfield 80, 3) rfl) fl_ReturnDeskModel_80 rfl rfl (sk_31 hS24.wI) (sa_31_30 hS24.wI) (aw_iload_n (pc' := 5) (dt_X11_dayOf 2 (4, .iload_n 1, 1) rfl) rfl rfl (aw_iald (pc' := 6) (dt_X11_dayOf 3 (5, .iaload, 1) rfl) rfl (sk_55 hS24.wI) (vin_eq (sl_55 hS24.wI) g26) (aw_bipush (pc' := 8) (v := 24) (dt_X11_dayOf 4 (6, .bipush 24, 2) rfl) (by decide) rfl (aw_idiv (pc' := 9) (dt_X11_dayOf 5 (8, .idiv, 1) rfl) (by decide) rfl (aw_iret (dt_X11_dayOf 6 (9, .ireturn, 1) rfl) rfl rfl (aw_stk (st' := [.int ((zI (sI μ22 72 8 (zI μ22 50 x1.toNatClampNeg)) 55 x1.toNatClampNeg) / 24), .int 9, .ref 72]) rfl (aw_bipush (pc' := 83) (v := 30) (dt_X11_factsOf 49 (81, .bipush 30, 2) rfl) (by decide) rfl (aw_idiv (pc' := 84) (dt_X11_factsOf 50 (83, .idiv, 1) rfl) (by decide) rfl (aw_bipush (pc' := 86) (v := 12) (dt_X11_factsOf 51 (84, .bipush 12, 2) rfl) (by decide) rfl (aw_irem (pc' := 87) (dt_X11_factsOf 52 (86, .irem, 1) rfl) (by decide) rfl (aw_iast (pc' := 88) (dt_X11_factsOf 53 (87, .iastore, 1) rfl) rfl (sk_72 hS24.wI) (by decide) (vin_eq (sl_72 hS24.wI) (vlit (by decide))) (aw_aload_n (pc' := 89) (dt_X11_factsOf 54 (88, .aload_n 0, 1) rfl) rfl rfl (aw_getAs (pc' := 92) (dt_X11_factsOf 55 (89, .getfield 132, 3) rfl) fl_ReturnDeskModel_132 rfl rfl (sk_31 hS24.wI.wI) (sa_31_58 hS24.wI.wI) (aw_bipush (pc' := 94) (v := 10) (dt_X11_factsOf 56 (92, .bipush 10, 2) rfl) (by decide) rfl (aw_aload_n (pc' := 95) (dt_X11_factsOf 57 (94, .aload_n 0, 1) rfl) rfl rfl (aw_iload_n (pc' := 96) (dt_X11_factsOf 58 (95, .iload_n 1, 1) rfl) rfl rfl (aw_callV0 (pc' := 99) (nc := nc) (ns := ns) (y2 := mX11_threes) (As := [.int x1]) (rest := [.int 10, .ref 72]) (a := 31) (dt_X11_factsOf 59 (96, .invokevirtual 236, 3) rfl) ok_X11_threes ln_ReturnDeskModel_236 im_X11_threes se_X11_threes pr_X11_threes (Or.inl ⟨by decide, rfl⟩) rfl (Nat.le_of_ble_eq_true rfl) (Nat.le_of_ble_eq_true rfl) rfl (sk_31 hS24.wI.wI) h ?_))))))))))))))))))))))))))))))))
    rintro v μ27 ⟨r29, rfl, hS28, h⟩
    refine aw_stk (st' := [.int r29, .int 10, .ref 72]) rfl ?_
    refine aw_iast (pc' := 100) (dt_X11_factsOf 60 (99, .iastore, 1) rfl) rfl (sk_72 hS28) (by decide) (vin_eq (sl_72 hS28) (vlit (by decide))) (aw_aload_n (pc' := 101) (dt_X11_factsOf 61 (100, .aload_n 0, 1) rfl) rfl rfl (aw_getAs (pc' := 104) (dt_X11_factsOf 62 (101, .getfield 132, 3) rfl) fl_ReturnDeskModel_132 rfl rfl (sk_31 hS28.wI) (sa_31_58 hS28.wI) (aw_bipush (pc' := 106) (v := 11) (dt_X11_factsOf 63 (104, .bipush 11, 2) rfl) (by decide) rfl (aw_aload_n (pc' := 107) (dt_X11_factsOf 64 (106, .aload_n 0, 1) rfl) rfl rfl (aw_iload_n (pc' := 108) (dt_X11_factsOf 65 (107, .iload_n 1, 1) rfl) rfl rfl (aw_iload_n (pc' := 109) (dt_X11_factsOf 66 (108, .iload_n 3, 1) rfl) rfl rfl (aw_callV0 (pc' := 112) (nc := nc) (ns := ns) (y2 := mX11_times) (As := [.int x1, .int x3]) (rest := [.int 11, .ref 72]) (a := 31) (dt_X11_factsOf 67 (109, .invokevirtual 360, 3) rfl) ok_X11_times ln_ReturnDeskModel_360 im_X11_times se_X11_times pr_X11_times (Or.inl ⟨by decide, rfl⟩) rfl (Nat.le_of_ble_eq_true rfl) (Nat.le_of_ble_eq_true rfl) rfl (sk_31 hS28.wI) h ?_)))))))
    rintro v μ30 ⟨r32, rfl, hS31, h⟩
    refine aw_stk (st' := [.int r32, .int 11, .ref 72]) rfl ?_
    refine aw_iast (pc' := 113) (dt_X11_factsOf 68 (112, .iastore, 1) rfl) rfl (sk_72 hS31) (by decide) (vin_eq (sl_72 hS31) (vlit (by decide))) (aw_ret (dt_X11_factsOf 69 (113, .return_, 1) rfl) rfl ?_)
    exact h

theorem t_X11_sideSays {E : ZE} {l : Launch} {d nc ns : Nat} {x1 : Int32} {x2 : Int32} {x3 : Int32} {μ : ZM} {K : Option Value → ZM → Prop} (hS : Stat μ) (h :
  AW E l (d + 1) 0 0 mX11_forceOn 0 (zargs 5 [.ref 31, .int x1, .int x2, .int x3]) [] μ (fun v μ1 => ∃ r3 : Int32, v = some (.int r3) ∧ Stat μ1 ∧ 
    (0 ≤ r3 →
      AW E l (d + 1) 0 0 mX11_works 0 (zargs 7 [.ref 31, .int r3]) [] μ1 (fun v μ5 => ∃ r7 : Int32, v = some (.int r7) ∧ Stat μ5 ∧ 
        K (some (.int r7)) μ5)) ∧
    (¬ 0 ≤ r3 →
      K (some (.int 0)) μ1))) : AW E l (d + 2) nc ns mX11_sideSays 0 [some (.ref 31), some (.int x1), some (.int x2), some (.int x3), none] [] μ K := by
  refine aw_aload_n (pc' := 1) (dt_X11_sideSays 0 (0, .aload_n 0, 1) rfl) rfl rfl (aw_iload_n (pc' := 2) (dt_X11_sideSays 1 (1, .iload_n 1, 1) rfl) rfl rfl (aw_iload_n (pc' := 3) (dt_X11_sideSays 2 (2, .iload_n 2, 1) rfl) rfl rfl (aw_iload_n (pc' := 4) (dt_X11_sideSays 3 (3, .iload_n 3, 1) rfl) rfl rfl (aw_callV0 (pc' := 7) (nc := nc) (ns := ns) (y2 := mX11_forceOn) (As := [.int x1, .int x2, .int x3]) (rest := []) (a := 31) (dt_X11_sideSays 4 (4, .invokevirtual 353, 3) rfl) ok_X11_forceOn ln_ReturnDeskModel_353 im_X11_forceOn se_X11_forceOn pr_X11_forceOn (Or.inl ⟨by decide, rfl⟩) rfl (Nat.le_of_ble_eq_true rfl) (Nat.le_of_ble_eq_true rfl) rfl (sk_31 hS) h ?_))))
  rintro v μ1 ⟨r3, rfl, hS2, h⟩
  refine aw_stk (st' := [.int r3]) rfl ?_
  refine aw_istore (pc' := 9) (ls' := [some (.ref 31), some (.int x1), some (.int x2), some (.int x3), some (.int r3)]) (dt_X11_sideSays 5 (7, .istore 4, 2) rfl) (by decide) rfl rfl (aw_iload (pc' := 11) (dt_X11_sideSays 6 (9, .iload 4, 2) rfl) rfl rfl (aw_if_ge (pc' := 14) (tgt := 18) (dt_X11_sideSays 7 (11, .ifCond .ge 7, 3) rfl) (by decide) rfl ?_ ?_))
  · intro q4
    have h := h.1 q4
    refine aw_aload_n (pc' := 19) (dt_X11_sideSays 10 (18, .aload_n 0, 1) rfl) rfl rfl (aw_iload (pc' := 21) (dt_X11_sideSays 11 (19, .iload 4, 2) rfl) rfl rfl (aw_callV0 (pc' := 24) (nc := nc) (ns := ns) (y2 := mX11_works) (As := [.int r3]) (rest := []) (a := 31) (dt_X11_sideSays 12 (21, .invokevirtual 363, 3) rfl) ok_X11_works ln_ReturnDeskModel_363 im_X11_works se_X11_works pr_X11_works (Or.inl ⟨by decide, rfl⟩) rfl (Nat.le_of_ble_eq_true rfl) (Nat.le_of_ble_eq_true rfl) rfl (sk_31 hS2) h ?_))
    rintro v μ5 ⟨r7, rfl, hS6, h⟩
    refine aw_stk (st' := [.int r7]) rfl ?_
    refine aw_iret (dt_X11_sideSays 13 (24, .ireturn, 1) rfl) rfl rfl ?_
    exact h
  · intro q4
    have h := h.2 q4
    refine aw_iconst (pc' := 15) (v := 0) (dt_X11_sideSays 8 (14, .iconst 0, 1) rfl) (by decide) rfl (aw_goto (tgt := 24) (dt_X11_sideSays 9 (15, .goto 9, 3) rfl) (by decide) (aw_iret (dt_X11_sideSays 13 (24, .ireturn, 1) rfl) rfl rfl ?_))
    exact h

theorem t_X11_says {E : ZE} {l : Launch} {d nc ns : Nat} {x1 : Int32} {x2 : Int32} {x3 : Int32} {x4 : Int32} {μ : ZM} {K : Option Value → ZM → Prop} (hS : Stat μ) (h :
  (x1 < 0 →
    K (some (.int (-1))) μ) ∧
  (¬ x1 < 0 →
    (1 < x1 →
      K (some (.int (-1))) μ) ∧
    (¬ 1 < x1 →
      (x2 < 0 →
        K (some (.int (-1))) μ) ∧
      (¬ x2 < 0 →
        (((zI μ 31 22) - 1) < x2 →
          K (some (.int (-1))) μ) ∧
        (¬ ((zI μ 31 22) - 1) < x2 →
          (x3 < 0 →
            K (some (.int (-1))) μ) ∧
          (¬ x3 < 0 →
            (999191 < x3 →
              K (some (.int (-1))) μ) ∧
            (¬ 999191 < x3 →
              (1 < ((x3 / 100) - (x3 / 100) / 10 * 10) →
                K (some (.int (-1))) μ) ∧
              (¬ 1 < ((x3 / 100) - (x3 / 100) / 10 * 10) →
                (1 < (x3 - x3 / 10 * 10) →
                  K (some (.int (-1))) μ) ∧
                (¬ 1 < (x3 - x3 / 10 * 10) →
                  (x4 < 0 →
                    K (some (.int (-1))) μ) ∧
                  (¬ x4 < 0 →
                    (2 < x4 →
                      K (some (.int (-1))) μ) ∧
                    (¬ 2 < x4 →
                      AW E l (d + 2) 0 0 mX11_factsOf 0 (zargs 4 [.ref 31, .int x2, .int x4, .int ((zI μ 31 1) / 24)]) [] μ (fun v μ11 => v = none ∧ Stat μ11 ∧ 
                        AW E l (d + 2) 0 0 mX11_sideSays 0 (zargs 5 [.ref 31, .int x1, .int x2, .int ((zI (sI (sI (sI (sI μ11 72 0 (x3 / 1000)) 72 1 ((x3 / 100) - (x3 / 100) / 10 * 10)) 72 2 ((x3 / 10) - (x3 / 10) / 10 * 10)) 72 3 (x3 - x3 / 10 * 10)) 31 1) / 24)]) [] (sI (sI (sI (sI μ11 72 0 (x3 / 1000)) 72 1 ((x3 / 100) - (x3 / 100) / 10 * 10)) 72 2 ((x3 / 10) - (x3 / 10) / 10 * 10)) 72 3 (x3 - x3 / 10 * 10)) (fun v μ13 => ∃ r15 : Int32, v = some (.int r15) ∧ Stat μ13 ∧ 
                          K (some (.int r15)) μ13))))))))))))) : AW E l (d + 3) nc ns mX11_says 0 [some (.ref 31), some (.int x1), some (.int x2), some (.int x3), some (.int x4)] [] μ K := by
  refine aw_iload_n (pc' := 1) (dt_X11_says 0 (0, .iload_n 1, 1) rfl) rfl rfl (aw_iconst (pc' := 2) (v := 0) (dt_X11_says 1 (1, .iconst 0, 1) rfl) (by decide) rfl (aw_iconst (pc' := 3) (v := 1) (dt_X11_says 2 (2, .iconst 1, 1) rfl) (by decide) rfl (aw_inS (pc' := 6) (nc1 := 0) (ns1 := 0) (nc := nc) (ns := ns) (ls' := [some (.int x1), some (.int 0), some (.int 1)]) (y2 := mX11_in) (As := [.int x1, .int 0, .int 1]) (rest := []) (dt_X11_says 3 (3, .invokestatic 185, 3) rfl) ok_X11_in ln_ReturnDeskModel_185 sm_X11_in pr_X11_in rfl (Nat.le_of_ble_eq_true rfl) (Nat.le_of_ble_eq_true rfl) rfl rfl (aw_iload_n (pc' := 1) (dt_X11_in 0 (0, .iload_n 0, 1) rfl) rfl rfl (aw_iload_n (pc' := 2) (dt_X11_in 1 (1, .iload_n 1, 1) rfl) rfl rfl (aw_icmp_lt (pc' := 5) (tgt := 14) (dt_X11_in 2 (2, .if_icmp .lt 12, 3) rfl) (by decide) rfl ?_ ?_))))))
  · intro q1
    have h := h.1 q1
    refine aw_iconst (pc' := 15) (v := 0) (dt_X11_in 8 (14, .iconst 0, 1) rfl) (by decide) rfl (aw_iret (dt_X11_in 9 (15, .ireturn, 1) rfl) rfl rfl (aw_stk (st' := [.int 0]) rfl (aw_if_eq_T (pc' := 9) (tgt := 57) (dt_X11_says 4 (6, .ifCond .eq 51, 3) rfl) (by decide) rfl (by decide) (aw_iconst (pc' := 58) (v := (-1)) (dt_X11_says 31 (57, .iconst (-1), 1) rfl) (by decide) rfl (aw_iret (dt_X11_says 32 (58, .ireturn, 1) rfl) rfl rfl ?_)))))
    exact h
  · intro q1
    have h := h.2 q1
    refine aw_iload_n (pc' := 6) (dt_X11_in 3 (5, .iload_n 0, 1) rfl) rfl rfl (aw_iload_n (pc' := 7) (dt_X11_in 4 (6, .iload_n 2, 1) rfl) rfl rfl (aw_icmp_gt (pc' := 10) (tgt := 14) (dt_X11_in 5 (7, .if_icmp .gt 7, 3) rfl) (by decide) rfl ?_ ?_))
    · intro q2
      have h := h.1 q2
      refine aw_iconst (pc' := 15) (v := 0) (dt_X11_in 8 (14, .iconst 0, 1) rfl) (by decide) rfl (aw_iret (dt_X11_in 9 (15, .ireturn, 1) rfl) rfl rfl (aw_stk (st' := [.int 0]) rfl (aw_if_eq_T (pc' := 9) (tgt := 57) (dt_X11_says 4 (6, .ifCond .eq 51, 3) rfl) (by decide) rfl (by decide) (aw_iconst (pc' := 58) (v := (-1)) (dt_X11_says 31 (57, .iconst (-1), 1) rfl) (by decide) rfl (aw_iret (dt_X11_says 32 (58, .ireturn, 1) rfl) rfl rfl ?_)))))
      exact h
    · intro q2
      have h := h.2 q2
      refine aw_iconst (pc' := 11) (v := 1) (dt_X11_in 6 (10, .iconst 1, 1) rfl) (by decide) rfl (aw_goto (tgt := 15) (dt_X11_in 7 (11, .goto 4, 3) rfl) (by decide) (aw_iret (dt_X11_in 9 (15, .ireturn, 1) rfl) rfl rfl (aw_stk (st' := [.int 1]) rfl (aw_if_eq_F (pc' := 9) (tgt := 57) (dt_X11_says 4 (6, .ifCond .eq 51, 3) rfl) (by decide) rfl (by decide) (aw_aload_n (pc' := 10) (dt_X11_says 5 (9, .aload_n 0, 1) rfl) rfl rfl (aw_iload_n (pc' := 11) (dt_X11_says 6 (10, .iload_n 2, 1) rfl) rfl rfl (aw_inV (pc' := 14) (nc1 := 0) (ns1 := 0) (nc := nc) (ns := ns) (ls' := [some (.ref 31), some (.int x2)]) (y2 := mX11_isSale) (As := [.int x2]) (rest := []) (a := 31) (dt_X11_says 7 (11, .invokevirtual 228, 3) rfl) ok_X11_isSale ln_ReturnDeskModel_228 im_X11_isSale se_X11_isSale pr_X11_isSale (Or.inl ⟨by decide, rfl⟩) rfl (Nat.le_of_ble_eq_true rfl) (Nat.le_of_ble_eq_true rfl) rfl rfl (sk_31 hS) (aw_iload_n (pc' := 1) (dt_X11_isSale 0 (0, .iload_n 1, 1) rfl) rfl rfl (aw_iconst (pc' := 2) (v := 0) (dt_X11_isSale 1 (1, .iconst 0, 1) rfl) (by decide) rfl (aw_aload_n (pc' := 3) (dt_X11_isSale 2 (2, .aload_n 0, 1) rfl) rfl rfl (aw_getI (pc' := 6) (dt_X11_isSale 3 (3, .getfield 215, 3) rfl) fl_ReturnDeskModel_215 rfl rfl (sk_31 hS) (aw_iconst (pc' := 7) (v := 1) (dt_X11_isSale 4 (6, .iconst 1, 1) rfl) (by decide) rfl (aw_isub (pc' := 8) (dt_X11_isSale 5 (7, .isub, 1) rfl) rfl (aw_inS (pc' := 11) (nc1 := 0) (ns1 := 0) (nc := 0) (ns := 0) (ls' := [some (.int x2), some (.int 0), some (.int ((zI μ 31 22) - 1))]) (y2 := mX11_in) (As := [.int x2, .int 0, .int ((zI μ 31 22) - 1)]) (rest := []) (dt_X11_isSale 6 (8, .invokestatic 185, 3) rfl) ok_X11_in ln_ReturnDeskModel_185 sm_X11_in pr_X11_in rfl (Nat.le_of_ble_eq_true rfl) (Nat.le_of_ble_eq_true rfl) rfl rfl (aw_iload_n (pc' := 1) (dt_X11_in 0 (0, .iload_n 0, 1) rfl) rfl rfl (aw_iload_n (pc' := 2) (dt_X11_in 1 (1, .iload_n 1, 1) rfl) rfl rfl (aw_icmp_lt (pc' := 5) (tgt := 14) (dt_X11_in 2 (2, .if_icmp .lt 12, 3) rfl) (by decide) rfl ?_ ?_)))))))))))))))))
      · intro q3
        have h := h.1 q3
        refine aw_iconst (pc' := 15) (v := 0) (dt_X11_in 8 (14, .iconst 0, 1) rfl) (by decide) rfl (aw_iret (dt_X11_in 9 (15, .ireturn, 1) rfl) rfl rfl (aw_stk (st' := [.int 0]) rfl (aw_iret (dt_X11_isSale 7 (11, .ireturn, 1) rfl) rfl rfl (aw_stk (st' := [.int 0]) rfl (aw_if_eq_T (pc' := 17) (tgt := 57) (dt_X11_says 8 (14, .ifCond .eq 43, 3) rfl) (by decide) rfl (by decide) (aw_iconst (pc' := 58) (v := (-1)) (dt_X11_says 31 (57, .iconst (-1), 1) rfl) (by decide) rfl (aw_iret (dt_X11_says 32 (58, .ireturn, 1) rfl) rfl rfl ?_)))))))
        exact h
      · intro q3
        have h := h.2 q3
        refine aw_iload_n (pc' := 6) (dt_X11_in 3 (5, .iload_n 0, 1) rfl) rfl rfl (aw_iload_n (pc' := 7) (dt_X11_in 4 (6, .iload_n 2, 1) rfl) rfl rfl (aw_icmp_gt (pc' := 10) (tgt := 14) (dt_X11_in 5 (7, .if_icmp .gt 7, 3) rfl) (by decide) rfl ?_ ?_))
        · intro q4
          have h := h.1 q4
          refine aw_iconst (pc' := 15) (v := 0) (dt_X11_in 8 (14, .iconst 0, 1) rfl) (by decide) rfl (aw_iret (dt_X11_in 9 (15, .ireturn, 1) rfl) rfl rfl (aw_stk (st' := [.int 0]) rfl (aw_iret (dt_X11_isSale 7 (11, .ireturn, 1) rfl) rfl rfl (aw_stk (st' := [.int 0]) rfl (aw_if_eq_T (pc' := 17) (tgt := 57) (dt_X11_says 8 (14, .ifCond .eq 43, 3) rfl) (by decide) rfl (by decide) (aw_iconst (pc' := 58) (v := (-1)) (dt_X11_says 31 (57, .iconst (-1), 1) rfl) (by decide) rfl (aw_iret (dt_X11_says 32 (58, .ireturn, 1) rfl) rfl rfl ?_)))))))
          exact h
        · intro q4
          have h := h.2 q4
          refine aw_iconst (pc' := 11) (v := 1) (dt_X11_in 6 (10, .iconst 1, 1) rfl) (by decide) rfl (aw_goto (tgt := 15) (dt_X11_in 7 (11, .goto 4, 3) rfl) (by decide) (aw_iret (dt_X11_in 9 (15, .ireturn, 1) rfl) rfl rfl (aw_stk (st' := [.int 1]) rfl (aw_iret (dt_X11_isSale 7 (11, .ireturn, 1) rfl) rfl rfl (aw_stk (st' := [.int 1]) rfl (aw_if_eq_F (pc' := 17) (tgt := 57) (dt_X11_says 8 (14, .ifCond .eq 43, 3) rfl) (by decide) rfl (by decide) (aw_iload_n (pc' := 18) (dt_X11_says 9 (17, .iload_n 3, 1) rfl) rfl rfl (aw_iconst (pc' := 19) (v := 0) (dt_X11_says 10 (18, .iconst 0, 1) rfl) (by decide) rfl (aw_ldcw (pc' := 22) (dt_X11_says 11 (19, .ldc_w 366, 3) rfl) ct_ReturnDeskModel_366 rfl (aw_inS (pc' := 25) (nc1 := 0) (ns1 := 0) (nc := nc) (ns := ns) (ls' := [some (.int x3), some (.int 0), some (.int 999191)]) (y2 := mX11_in) (As := [.int x3, .int 0, .int 999191]) (rest := []) (dt_X11_says 12 (22, .invokestatic 185, 3) rfl) ok_X11_in ln_ReturnDeskModel_185 sm_X11_in pr_X11_in rfl (Nat.le_of_ble_eq_true rfl) (Nat.le_of_ble_eq_true rfl) rfl rfl (aw_iload_n (pc' := 1) (dt_X11_in 0 (0, .iload_n 0, 1) rfl) rfl rfl (aw_iload_n (pc' := 2) (dt_X11_in 1 (1, .iload_n 1, 1) rfl) rfl rfl (aw_icmp_lt (pc' := 5) (tgt := 14) (dt_X11_in 2 (2, .if_icmp .lt 12, 3) rfl) (by decide) rfl ?_ ?_)))))))))))))
          · intro q5
            have h := h.1 q5
            refine aw_iconst (pc' := 15) (v := 0) (dt_X11_in 8 (14, .iconst 0, 1) rfl) (by decide) rfl (aw_iret (dt_X11_in 9 (15, .ireturn, 1) rfl) rfl rfl (aw_stk (st' := [.int 0]) rfl (aw_if_eq_T (pc' := 28) (tgt := 57) (dt_X11_says 13 (25, .ifCond .eq 32, 3) rfl) (by decide) rfl (by decide) (aw_iconst (pc' := 58) (v := (-1)) (dt_X11_says 31 (57, .iconst (-1), 1) rfl) (by decide) rfl (aw_iret (dt_X11_says 32 (58, .ireturn, 1) rfl) rfl rfl ?_)))))
            exact h
          · intro q5
            have h := h.2 q5
            refine aw_iload_n (pc' := 6) (dt_X11_in 3 (5, .iload_n 0, 1) rfl) rfl rfl (aw_iload_n (pc' := 7) (dt_X11_in 4 (6, .iload_n 2, 1) rfl) rfl rfl (aw_icmp_gt (pc' := 10) (tgt := 14) (dt_X11_in 5 (7, .if_icmp .gt 7, 3) rfl) (by decide) rfl ?_ ?_))
            · intro q6
              have h := h.1 q6
              refine aw_iconst (pc' := 15) (v := 0) (dt_X11_in 8 (14, .iconst 0, 1) rfl) (by decide) rfl (aw_iret (dt_X11_in 9 (15, .ireturn, 1) rfl) rfl rfl (aw_stk (st' := [.int 0]) rfl (aw_if_eq_T (pc' := 28) (tgt := 57) (dt_X11_says 13 (25, .ifCond .eq 32, 3) rfl) (by decide) rfl (by decide) (aw_iconst (pc' := 58) (v := (-1)) (dt_X11_says 31 (57, .iconst (-1), 1) rfl) (by decide) rfl (aw_iret (dt_X11_says 32 (58, .ireturn, 1) rfl) rfl rfl ?_)))))
              exact h
            · intro q6
              have h := h.2 q6
              refine aw_iconst (pc' := 11) (v := 1) (dt_X11_in 6 (10, .iconst 1, 1) rfl) (by decide) rfl (aw_goto (tgt := 15) (dt_X11_in 7 (11, .goto 4, 3) rfl) (by decide) (aw_iret (dt_X11_in 9 (15, .ireturn, 1) rfl) rfl rfl (aw_stk (st' := [.int 1]) rfl (aw_if_eq_F (pc' := 28) (tgt := 57) (dt_X11_says 13 (25, .ifCond .eq 32, 3) rfl) (by decide) rfl (by decide) (aw_iload_n (pc' := 29) (dt_X11_says 14 (28, .iload_n 3, 1) rfl) rfl rfl (aw_bipush (pc' := 31) (v := 100) (dt_X11_says 15 (29, .bipush 100, 2) rfl) (by decide) rfl (aw_idiv (pc' := 32) (dt_X11_says 16 (31, .idiv, 1) rfl) (by decide) rfl (aw_bipush (pc' := 34) (v := 10) (dt_X11_says 17 (32, .bipush 10, 2) rfl) (by decide) rfl (aw_irem (pc' := 35) (dt_X11_says 18 (34, .irem, 1) rfl) (by decide) rfl (aw_iconst (pc' := 36) (v := 1) (dt_X11_says 19 (35, .iconst 1, 1) rfl) (by decide) rfl (aw_icmp_gt (pc' := 39) (tgt := 57) (dt_X11_says 20 (36, .if_icmp .gt 21, 3) rfl) (by decide) rfl ?_ ?_)))))))))))
              · intro q7
                have h := h.1 q7
                refine aw_iconst (pc' := 58) (v := (-1)) (dt_X11_says 31 (57, .iconst (-1), 1) rfl) (by decide) rfl (aw_iret (dt_X11_says 32 (58, .ireturn, 1) rfl) rfl rfl ?_)
                exact h
              · intro q7
                have h := h.2 q7
                refine aw_iload_n (pc' := 40) (dt_X11_says 21 (39, .iload_n 3, 1) rfl) rfl rfl (aw_bipush (pc' := 42) (v := 10) (dt_X11_says 22 (40, .bipush 10, 2) rfl) (by decide) rfl (aw_irem (pc' := 43) (dt_X11_says 23 (42, .irem, 1) rfl) (by decide) rfl (aw_iconst (pc' := 44) (v := 1) (dt_X11_says 24 (43, .iconst 1, 1) rfl) (by decide) rfl (aw_icmp_gt (pc' := 47) (tgt := 57) (dt_X11_says 25 (44, .if_icmp .gt 13, 3) rfl) (by decide) rfl ?_ ?_))))
                · intro q8
                  have h := h.1 q8
                  refine aw_iconst (pc' := 58) (v := (-1)) (dt_X11_says 31 (57, .iconst (-1), 1) rfl) (by decide) rfl (aw_iret (dt_X11_says 32 (58, .ireturn, 1) rfl) rfl rfl ?_)
                  exact h
                · intro q8
                  have h := h.2 q8
                  refine aw_iload (pc' := 49) (dt_X11_says 26 (47, .iload 4, 2) rfl) rfl rfl (aw_iconst (pc' := 50) (v := 0) (dt_X11_says 27 (49, .iconst 0, 1) rfl) (by decide) rfl (aw_iconst (pc' := 51) (v := 2) (dt_X11_says 28 (50, .iconst 2, 1) rfl) (by decide) rfl (aw_inS (pc' := 54) (nc1 := 0) (ns1 := 0) (nc := nc) (ns := ns) (ls' := [some (.int x4), some (.int 0), some (.int 2)]) (y2 := mX11_in) (As := [.int x4, .int 0, .int 2]) (rest := []) (dt_X11_says 29 (51, .invokestatic 185, 3) rfl) ok_X11_in ln_ReturnDeskModel_185 sm_X11_in pr_X11_in rfl (Nat.le_of_ble_eq_true rfl) (Nat.le_of_ble_eq_true rfl) rfl rfl (aw_iload_n (pc' := 1) (dt_X11_in 0 (0, .iload_n 0, 1) rfl) rfl rfl (aw_iload_n (pc' := 2) (dt_X11_in 1 (1, .iload_n 1, 1) rfl) rfl rfl (aw_icmp_lt (pc' := 5) (tgt := 14) (dt_X11_in 2 (2, .if_icmp .lt 12, 3) rfl) (by decide) rfl ?_ ?_))))))
                  · intro q9
                    have h := h.1 q9
                    refine aw_iconst (pc' := 15) (v := 0) (dt_X11_in 8 (14, .iconst 0, 1) rfl) (by decide) rfl (aw_iret (dt_X11_in 9 (15, .ireturn, 1) rfl) rfl rfl (aw_stk (st' := [.int 0]) rfl (aw_if_ne_F (pc' := 57) (tgt := 59) (dt_X11_says 30 (54, .ifCond .ne 5, 3) rfl) (by decide) rfl (by decide) (aw_iconst (pc' := 58) (v := (-1)) (dt_X11_says 31 (57, .iconst (-1), 1) rfl) (by decide) rfl (aw_iret (dt_X11_says 32 (58, .ireturn, 1) rfl) rfl rfl ?_)))))
                    exact h
                  · intro q9
                    have h := h.2 q9
                    refine aw_iload_n (pc' := 6) (dt_X11_in 3 (5, .iload_n 0, 1) rfl) rfl rfl (aw_iload_n (pc' := 7) (dt_X11_in 4 (6, .iload_n 2, 1) rfl) rfl rfl (aw_icmp_gt (pc' := 10) (tgt := 14) (dt_X11_in 5 (7, .if_icmp .gt 7, 3) rfl) (by decide) rfl ?_ ?_))
                    · intro q10
                      have h := h.1 q10
                      refine aw_iconst (pc' := 15) (v := 0) (dt_X11_in 8 (14, .iconst 0, 1) rfl) (by decide) rfl (aw_iret (dt_X11_in 9 (15, .ireturn, 1) rfl) rfl rfl (aw_stk (st' := [.int 0]) rfl (aw_if_ne_F (pc' := 57) (tgt := 59) (dt_X11_says 30 (54, .ifCond .ne 5, 3) rfl) (by decide) rfl (by decide) (aw_iconst (pc' := 58) (v := (-1)) (dt_X11_says 31 (57, .iconst (-1), 1) rfl) (by decide) rfl (aw_iret (dt_X11_says 32 (58, .ireturn, 1) rfl) rfl rfl ?_)))))
                      exact h
                    · intro q10
                      have h := h.2 q10
                      refine aw_iconst (pc' := 11) (v := 1) (dt_X11_in 6 (10, .iconst 1, 1) rfl) (by decide) rfl (aw_goto (tgt := 15) (dt_X11_in 7 (11, .goto 4, 3) rfl) (by decide) (aw_iret (dt_X11_in 9 (15, .ireturn, 1) rfl) rfl rfl (aw_stk (st' := [.int 1]) rfl (aw_if_ne_T (pc' := 57) (tgt := 59) (dt_X11_says 30 (54, .ifCond .ne 5, 3) rfl) (by decide) rfl (by decide) (aw_aload_n (pc' := 60) (dt_X11_says 33 (59, .aload_n 0, 1) rfl) rfl rfl (aw_iload_n (pc' := 61) (dt_X11_says 34 (60, .iload_n 2, 1) rfl) rfl rfl (aw_iload (pc' := 63) (dt_X11_says 35 (61, .iload 4, 2) rfl) rfl rfl (aw_aload_n (pc' := 64) (dt_X11_says 36 (63, .aload_n 0, 1) rfl) rfl rfl (aw_inV (pc' := 67) (nc1 := 0) (ns1 := 0) (nc := nc) (ns := ns) (ls' := [some (.ref 31)]) (y2 := mX11_today) (As := []) (rest := [.int x4, .int x2, .ref 31]) (a := 31) (dt_X11_says 37 (64, .invokevirtual 224, 3) rfl) ok_X11_today ln_ReturnDeskModel_224 im_X11_today se_X11_today pr_X11_today (Or.inl ⟨by decide, rfl⟩) rfl (Nat.le_of_ble_eq_true rfl) (Nat.le_of_ble_eq_true rfl) rfl rfl (sk_31 hS) (aw_aload_n (pc' := 1) (dt_X11_today 0 (0, .aload_n 0, 1) rfl) rfl rfl (aw_getI (pc' := 4) (dt_X11_today 1 (1, .getfield 189, 3) rfl) fl_ReturnDeskModel_189 rfl rfl (sk_31 hS) (aw_bipush (pc' := 6) (v := 24) (dt_X11_today 2 (4, .bipush 24, 2) rfl) (by decide) rfl (aw_idiv (pc' := 7) (dt_X11_today 3 (6, .idiv, 1) rfl) (by decide) rfl (aw_iret (dt_X11_today 4 (7, .ireturn, 1) rfl) rfl rfl (aw_stk (st' := [.int ((zI μ 31 1) / 24), .int x4, .int x2, .ref 31]) rfl (aw_callV0 (pc' := 70) (nc := nc) (ns := ns) (y2 := mX11_factsOf) (As := [.int x2, .int x4, .int ((zI μ 31 1) / 24)]) (rest := []) (a := 31) (dt_X11_says 38 (67, .invokevirtual 367, 3) rfl) ok_X11_factsOf ln_ReturnDeskModel_367 im_X11_factsOf se_X11_factsOf pr_X11_factsOf (Or.inl ⟨by decide, rfl⟩) rfl (Nat.le_of_ble_eq_true rfl) (Nat.le_of_ble_eq_true rfl) rfl (sk_31 hS) h ?_))))))))))))))))
                      rintro v μ11 ⟨rfl, hS12, h⟩
                      refine aw_stk (st' := []) rfl ?_
                      refine aw_aload_n (pc' := 71) (dt_X11_says 39 (70, .aload_n 0, 1) rfl) rfl rfl (aw_getAs (pc' := 74) (dt_X11_says 40 (71, .getfield 132, 3) rfl) fl_ReturnDeskModel_132 rfl rfl (sk_31 hS12) (sa_31_58 hS12) (aw_iconst (pc' := 75) (v := 0) (dt_X11_says 41 (74, .iconst 0, 1) rfl) (by decide) rfl (aw_iload_n (pc' := 76) (dt_X11_says 42 (75, .iload_n 3, 1) rfl) rfl rfl (aw_sipush (pc' := 79) (v := 1000) (dt_X11_says 43 (76, .sipush 1000, 3) rfl) (by decide) rfl (aw_idiv (pc' := 80) (dt_X11_says 44 (79, .idiv, 1) rfl) (by decide) rfl (aw_iast (pc' := 81) (dt_X11_says 45 (80, .iastore, 1) rfl) rfl (sk_72 hS12) (by decide) (vin_eq (sl_72 hS12) (vlit (by decide))) (aw_aload_n (pc' := 82) (dt_X11_says 46 (81, .aload_n 0, 1) rfl) rfl rfl (aw_getAs (pc' := 85) (dt_X11_says 47 (82, .getfield 132, 3) rfl) fl_ReturnDeskModel_132 rfl rfl (sk_31 hS12.wI) (sa_31_58 hS12.wI) (aw_iconst (pc' := 86) (v := 1) (dt_X11_says 48 (85, .iconst 1, 1) rfl) (by decide) rfl (aw_iload_n (pc' := 87) (dt_X11_says 49 (86, .iload_n 3, 1) rfl) rfl rfl (aw_bipush (pc' := 89) (v := 100) (dt_X11_says 50 (87, .bipush 100, 2) rfl) (by decide) rfl (aw_idiv (pc' := 90) (dt_X11_says 51 (89, .idiv, 1) rfl) (by decide) rfl (aw_bipush (pc' := 92) (v := 10) (dt_X11_says 52 (90, .bipush 10, 2) rfl) (by decide) rfl (aw_irem (pc' := 93) (dt_X11_says 53 (92, .irem, 1) rfl) (by decide) rfl (aw_iast (pc' := 94) (dt_X11_says 54 (93, .iastore, 1) rfl) rfl (sk_72 hS12.wI) (by decide) (vin_eq (sl_72 hS12.wI) (vlit (by decide))) (aw_aload_n (pc' := 95) (dt_X11_says 55 (94, .aload_n 0, 1) rfl) rfl rfl (aw_getAs (pc' := 98) (dt_X11_says 56 (95, .getfield 132, 3) rfl) fl_ReturnDeskModel_132 rfl rfl (sk_31 hS12.wI.wI) (sa_31_58 hS12.wI.wI) (aw_iconst (pc' := 99) (v := 2) (dt_X11_says 57 (98, .iconst 2, 1) rfl) (by decide) rfl (aw_iload_n (pc' := 100) (dt_X11_says 58 (99, .iload_n 3, 1) rfl) rfl rfl (aw_bipush (pc' := 102) (v := 10) (dt_X11_says 59 (100, .bipush 10, 2) rfl) (by decide) rfl (aw_idiv (pc' := 103) (dt_X11_says 60 (102, .idiv, 1) rfl) (by decide) rfl (aw_bipush (pc' := 105) (v := 10) (dt_X11_says 61 (103, .bipush 10, 2) rfl) (by decide) rfl (aw_irem (pc' := 106) (dt_X11_says 62 (105, .irem, 1) rfl) (by decide) rfl (aw_iast (pc' := 107) (dt_X11_says 63 (106, .iastore, 1) rfl) rfl (sk_72 hS12.wI.wI) (by decide) (vin_eq (sl_72 hS12.wI.wI) (vlit (by decide))) (aw_aload_n (pc' := 108) (dt_X11_says 64 (107, .aload_n 0, 1) rfl) rfl rfl (aw_getAs (pc' := 111) (dt_X11_says 65 (108, .getfield 132, 3) rfl) fl_ReturnDeskModel_132 rfl rfl (sk_31 hS12.wI.wI.wI) (sa_31_58 hS12.wI.wI.wI) (aw_iconst (pc' := 112) (v := 3) (dt_X11_says 66 (111, .iconst 3, 1) rfl) (by decide) rfl (aw_iload_n (pc' := 113) (dt_X11_says 67 (112, .iload_n 3, 1) rfl) rfl rfl (aw_bipush (pc' := 115) (v := 10) (dt_X11_says 68 (113, .bipush 10, 2) rfl) (by decide) rfl (aw_irem (pc' := 116) (dt_X11_says 69 (115, .irem, 1) rfl) (by decide) rfl (aw_iast (pc' := 117) (dt_X11_says 70 (116, .iastore, 1) rfl) rfl (sk_72 hS12.wI.wI.wI) (by decide) (vin_eq (sl_72 hS12.wI.wI.wI) (vlit (by decide))) (aw_aload_n (pc' := 118) (dt_X11_says 71 (117, .aload_n 0, 1) rfl) rfl rfl (aw_iload_n (pc' := 119) (dt_X11_says 72 (118, .iload_n 1, 1) rfl) rfl rfl (aw_iload_n (pc' := 120) (dt_X11_says 73 (119, .iload_n 2, 1) rfl) rfl rfl (aw_aload_n (pc' := 121) (dt_X11_says 74 (120, .aload_n 0, 1) rfl) rfl rfl (aw_inV (pc' := 124) (nc1 := 0) (ns1 := 0) (nc := nc) (ns := ns) (ls' := [some (.ref 31)]) (y2 := mX11_today) (As := []) (rest := [.int x2, .int x1, .ref 31]) (a := 31) (dt_X11_says 75 (121, .invokevirtual 224, 3) rfl) ok_X11_today ln_ReturnDeskModel_224 im_X11_today se_X11_today pr_X11_today (Or.inl ⟨by decide, rfl⟩) rfl (Nat.le_of_ble_eq_true rfl) (Nat.le_of_ble_eq_true rfl) rfl rfl (sk_31 hS12.wI.wI.wI.wI) (aw_aload_n (pc' := 1) (dt_X11_today 0 (0, .aload_n 0, 1) rfl) rfl rfl (aw_getI (pc' := 4) (dt_X11_today 1 (1, .getfield 189, 3) rfl) fl_ReturnDeskModel_189 rfl rfl (sk_31 hS12.wI.wI.wI.wI) (aw_bipush (pc' := 6) (v := 24) (dt_X11_today 2 (4, .bipush 24, 2) rfl) (by decide) rfl (aw_idiv (pc' := 7) (dt_X11_today 3 (6, .idiv, 1) rfl) (by decide) rfl (aw_iret (dt_X11_today 4 (7, .ireturn, 1) rfl) rfl rfl (aw_stk (st' := [.int ((zI (sI (sI (sI (sI μ11 72 0 (x3 / 1000)) 72 1 ((x3 / 100) - (x3 / 100) / 10 * 10)) 72 2 ((x3 / 10) - (x3 / 10) / 10 * 10)) 72 3 (x3 - x3 / 10 * 10)) 31 1) / 24), .int x2, .int x1, .ref 31]) rfl (aw_callV0 (pc' := 127) (nc := nc) (ns := ns) (y2 := mX11_sideSays) (As := [.int x1, .int x2, .int ((zI (sI (sI (sI (sI μ11 72 0 (x3 / 1000)) 72 1 ((x3 / 100) - (x3 / 100) / 10 * 10)) 72 2 ((x3 / 10) - (x3 / 10) / 10 * 10)) 72 3 (x3 - x3 / 10 * 10)) 31 1) / 24)]) (rest := []) (a := 31) (dt_X11_says 76 (124, .invokevirtual 371, 3) rfl) ok_X11_sideSays ln_ReturnDeskModel_371 im_X11_sideSays se_X11_sideSays pr_X11_sideSays (Or.inl ⟨by decide, rfl⟩) rfl (Nat.le_of_ble_eq_true rfl) (Nat.le_of_ble_eq_true rfl) rfl (sk_31 hS12.wI.wI.wI.wI) h ?_)))))))))))))))))))))))))))))))))))))))))))
                      rintro v μ13 ⟨r15, rfl, hS14, h⟩
                      refine aw_stk (st' := [.int r15]) rfl ?_
                      refine aw_iret (dt_X11_says 77 (127, .ireturn, 1) rfl) rfl rfl ?_
                      exact h

theorem t_X11_worthOf {E : ZE} {l : Launch} {d nc ns : Nat} {x0 : Int32} {x1 : Int32} {μ : ZM} {K : Option Value → ZM → Prop} (hS : Stat μ) (h :
  (¬ (x0 / 1000) = 4 →
    (¬ (x0 / 1000) = 3 →
      (¬ (x0 / 1000) = 2 →
        (¬ (x0 / 1000) = 1 →
          K (some (.int (((((x1).toInt64 * ((x0 - x0 / 1000 * 1000)).toInt64) * ((0 : Int32)).toInt64) / 1000)).toInt32)) μ) ∧
        ((x0 / 1000) = 1 →
          K (some (.int (((((x1).toInt64 * ((x0 - x0 / 1000 * 1000)).toInt64) * ((6 : Int32)).toInt64) / 1000)).toInt32)) μ)) ∧
      ((x0 / 1000) = 2 →
        K (some (.int (((((x1).toInt64 * ((x0 - x0 / 1000 * 1000)).toInt64) * ((8 : Int32)).toInt64) / 1000)).toInt32)) μ)) ∧
    ((x0 / 1000) = 3 →
      K (some (.int (((((x1).toInt64 * ((x0 - x0 / 1000 * 1000)).toInt64) * ((9 : Int32)).toInt64) / 1000)).toInt32)) μ)) ∧
  ((x0 / 1000) = 4 →
    K (some (.int (((((x1).toInt64 * ((x0 - x0 / 1000 * 1000)).toInt64) * ((10 : Int32)).toInt64) / 1000)).toInt32)) μ)) : AW E l d nc ns mX11_worthOf 0 [some (.int x0), some (.int x1), none, none] [] μ K := by
  refine aw_iload_n (pc' := 1) (dt_X11_worthOf 0 (0, .iload_n 0, 1) rfl) rfl rfl (aw_sipush (pc' := 4) (v := 1000) (dt_X11_worthOf 1 (1, .sipush 1000, 3) rfl) (by decide) rfl (aw_idiv (pc' := 5) (dt_X11_worthOf 2 (4, .idiv, 1) rfl) (by decide) rfl (aw_istore_n (pc' := 6) (ls' := [some (.int x0), some (.int x1), some (.int (x0 / 1000)), none]) (dt_X11_worthOf 3 (5, .istore_n 2, 1) rfl) (by decide) rfl rfl (aw_iload_n (pc' := 7) (dt_X11_worthOf 4 (6, .iload_n 2, 1) rfl) rfl rfl (aw_iconst (pc' := 8) (v := 4) (dt_X11_worthOf 5 (7, .iconst 4, 1) rfl) (by decide) rfl (aw_icmp_ne (pc' := 11) (tgt := 16) (dt_X11_worthOf 6 (8, .if_icmp .ne 8, 3) rfl) (by decide) rfl ?_ ?_))))))
  · intro q1
    have h := h.1 q1
    refine aw_iload_n (pc' := 17) (dt_X11_worthOf 9 (16, .iload_n 2, 1) rfl) rfl rfl (aw_iconst (pc' := 18) (v := 3) (dt_X11_worthOf 10 (17, .iconst 3, 1) rfl) (by decide) rfl (aw_icmp_ne (pc' := 21) (tgt := 26) (dt_X11_worthOf 11 (18, .if_icmp .ne 8, 3) rfl) (by decide) rfl ?_ ?_))
    · intro q2
      have h := h.1 q2
      refine aw_iload_n (pc' := 27) (dt_X11_worthOf 14 (26, .iload_n 2, 1) rfl) rfl rfl (aw_iconst (pc' := 28) (v := 2) (dt_X11_worthOf 15 (27, .iconst 2, 1) rfl) (by decide) rfl (aw_icmp_ne (pc' := 31) (tgt := 36) (dt_X11_worthOf 16 (28, .if_icmp .ne 8, 3) rfl) (by decide) rfl ?_ ?_))
      · intro q3
        have h := h.1 q3
        refine aw_iload_n (pc' := 37) (dt_X11_worthOf 19 (36, .iload_n 2, 1) rfl) rfl rfl (aw_iconst (pc' := 38) (v := 1) (dt_X11_worthOf 20 (37, .iconst 1, 1) rfl) (by decide) rfl (aw_icmp_ne (pc' := 41) (tgt := 46) (dt_X11_worthOf 21 (38, .if_icmp .ne 8, 3) rfl) (by decide) rfl ?_ ?_))
        · intro q4
          have h := h.1 q4
          refine aw_iconst (pc' := 47) (v := 0) (dt_X11_worthOf 24 (46, .iconst 0, 1) rfl) (by decide) rfl (aw_istore_n (pc' := 48) (ls' := [some (.int x0), some (.int x1), some (.int (x0 / 1000)), some (.int 0)]) (dt_X11_worthOf 25 (47, .istore_n 3, 1) rfl) (by decide) rfl rfl (aw_iload_n (pc' := 49) (dt_X11_worthOf 26 (48, .iload_n 1, 1) rfl) rfl rfl (aw_i2l (pc' := 50) (dt_X11_worthOf 27 (49, .i2l, 1) rfl) rfl (aw_iload_n (pc' := 51) (dt_X11_worthOf 28 (50, .iload_n 0, 1) rfl) rfl rfl (aw_sipush (pc' := 54) (v := 1000) (dt_X11_worthOf 29 (51, .sipush 1000, 3) rfl) (by decide) rfl (aw_irem (pc' := 55) (dt_X11_worthOf 30 (54, .irem, 1) rfl) (by decide) rfl (aw_i2l (pc' := 56) (dt_X11_worthOf 31 (55, .i2l, 1) rfl) rfl (aw_lmul (pc' := 57) (dt_X11_worthOf 32 (56, .lmul, 1) rfl) rfl (aw_iload_n (pc' := 58) (dt_X11_worthOf 33 (57, .iload_n 3, 1) rfl) rfl rfl (aw_i2l (pc' := 59) (dt_X11_worthOf 34 (58, .i2l, 1) rfl) rfl (aw_lmul (pc' := 60) (dt_X11_worthOf 35 (59, .lmul, 1) rfl) rfl (aw_ldc2 (pc' := 63) (dt_X11_worthOf 36 (60, .ldc2_w 374, 3) rfl) ct_ReturnDeskModel_374 rfl (aw_ldiv (pc' := 64) (dt_X11_worthOf 37 (63, .ldiv, 1) rfl) (by decide) rfl (aw_l2i (pc' := 65) (dt_X11_worthOf 38 (64, .l2i, 1) rfl) rfl (aw_iret (dt_X11_worthOf 39 (65, .ireturn, 1) rfl) rfl rfl ?_)))))))))))))))
          exact h
        · intro q4
          have h := h.2 q4
          refine aw_bipush (pc' := 43) (v := 6) (dt_X11_worthOf 22 (41, .bipush 6, 2) rfl) (by decide) rfl (aw_goto (tgt := 47) (dt_X11_worthOf 23 (43, .goto 4, 3) rfl) (by decide) (aw_istore_n (pc' := 48) (ls' := [some (.int x0), some (.int x1), some (.int (x0 / 1000)), some (.int 6)]) (dt_X11_worthOf 25 (47, .istore_n 3, 1) rfl) (by decide) rfl rfl (aw_iload_n (pc' := 49) (dt_X11_worthOf 26 (48, .iload_n 1, 1) rfl) rfl rfl (aw_i2l (pc' := 50) (dt_X11_worthOf 27 (49, .i2l, 1) rfl) rfl (aw_iload_n (pc' := 51) (dt_X11_worthOf 28 (50, .iload_n 0, 1) rfl) rfl rfl (aw_sipush (pc' := 54) (v := 1000) (dt_X11_worthOf 29 (51, .sipush 1000, 3) rfl) (by decide) rfl (aw_irem (pc' := 55) (dt_X11_worthOf 30 (54, .irem, 1) rfl) (by decide) rfl (aw_i2l (pc' := 56) (dt_X11_worthOf 31 (55, .i2l, 1) rfl) rfl (aw_lmul (pc' := 57) (dt_X11_worthOf 32 (56, .lmul, 1) rfl) rfl (aw_iload_n (pc' := 58) (dt_X11_worthOf 33 (57, .iload_n 3, 1) rfl) rfl rfl (aw_i2l (pc' := 59) (dt_X11_worthOf 34 (58, .i2l, 1) rfl) rfl (aw_lmul (pc' := 60) (dt_X11_worthOf 35 (59, .lmul, 1) rfl) rfl (aw_ldc2 (pc' := 63) (dt_X11_worthOf 36 (60, .ldc2_w 374, 3) rfl) ct_ReturnDeskModel_374 rfl (aw_ldiv (pc' := 64) (dt_X11_worthOf 37 (63, .ldiv, 1) rfl) (by decide) rfl (aw_l2i (pc' := 65) (dt_X11_worthOf 38 (64, .l2i, 1) rfl) rfl (aw_iret (dt_X11_worthOf 39 (65, .ireturn, 1) rfl) rfl rfl ?_))))))))))))))))
          exact h
      · intro q3
        have h := h.2 q3
        refine aw_bipush (pc' := 33) (v := 8) (dt_X11_worthOf 17 (31, .bipush 8, 2) rfl) (by decide) rfl (aw_goto (tgt := 47) (dt_X11_worthOf 18 (33, .goto 14, 3) rfl) (by decide) (aw_istore_n (pc' := 48) (ls' := [some (.int x0), some (.int x1), some (.int (x0 / 1000)), some (.int 8)]) (dt_X11_worthOf 25 (47, .istore_n 3, 1) rfl) (by decide) rfl rfl (aw_iload_n (pc' := 49) (dt_X11_worthOf 26 (48, .iload_n 1, 1) rfl) rfl rfl (aw_i2l (pc' := 50) (dt_X11_worthOf 27 (49, .i2l, 1) rfl) rfl (aw_iload_n (pc' := 51) (dt_X11_worthOf 28 (50, .iload_n 0, 1) rfl) rfl rfl (aw_sipush (pc' := 54) (v := 1000) (dt_X11_worthOf 29 (51, .sipush 1000, 3) rfl) (by decide) rfl (aw_irem (pc' := 55) (dt_X11_worthOf 30 (54, .irem, 1) rfl) (by decide) rfl (aw_i2l (pc' := 56) (dt_X11_worthOf 31 (55, .i2l, 1) rfl) rfl (aw_lmul (pc' := 57) (dt_X11_worthOf 32 (56, .lmul, 1) rfl) rfl (aw_iload_n (pc' := 58) (dt_X11_worthOf 33 (57, .iload_n 3, 1) rfl) rfl rfl (aw_i2l (pc' := 59) (dt_X11_worthOf 34 (58, .i2l, 1) rfl) rfl (aw_lmul (pc' := 60) (dt_X11_worthOf 35 (59, .lmul, 1) rfl) rfl (aw_ldc2 (pc' := 63) (dt_X11_worthOf 36 (60, .ldc2_w 374, 3) rfl) ct_ReturnDeskModel_374 rfl (aw_ldiv (pc' := 64) (dt_X11_worthOf 37 (63, .ldiv, 1) rfl) (by decide) rfl (aw_l2i (pc' := 65) (dt_X11_worthOf 38 (64, .l2i, 1) rfl) rfl (aw_iret (dt_X11_worthOf 39 (65, .ireturn, 1) rfl) rfl rfl ?_))))))))))))))))
        exact h
    · intro q2
      have h := h.2 q2
      refine aw_bipush (pc' := 23) (v := 9) (dt_X11_worthOf 12 (21, .bipush 9, 2) rfl) (by decide) rfl (aw_goto (tgt := 47) (dt_X11_worthOf 13 (23, .goto 24, 3) rfl) (by decide) (aw_istore_n (pc' := 48) (ls' := [some (.int x0), some (.int x1), some (.int (x0 / 1000)), some (.int 9)]) (dt_X11_worthOf 25 (47, .istore_n 3, 1) rfl) (by decide) rfl rfl (aw_iload_n (pc' := 49) (dt_X11_worthOf 26 (48, .iload_n 1, 1) rfl) rfl rfl (aw_i2l (pc' := 50) (dt_X11_worthOf 27 (49, .i2l, 1) rfl) rfl (aw_iload_n (pc' := 51) (dt_X11_worthOf 28 (50, .iload_n 0, 1) rfl) rfl rfl (aw_sipush (pc' := 54) (v := 1000) (dt_X11_worthOf 29 (51, .sipush 1000, 3) rfl) (by decide) rfl (aw_irem (pc' := 55) (dt_X11_worthOf 30 (54, .irem, 1) rfl) (by decide) rfl (aw_i2l (pc' := 56) (dt_X11_worthOf 31 (55, .i2l, 1) rfl) rfl (aw_lmul (pc' := 57) (dt_X11_worthOf 32 (56, .lmul, 1) rfl) rfl (aw_iload_n (pc' := 58) (dt_X11_worthOf 33 (57, .iload_n 3, 1) rfl) rfl rfl (aw_i2l (pc' := 59) (dt_X11_worthOf 34 (58, .i2l, 1) rfl) rfl (aw_lmul (pc' := 60) (dt_X11_worthOf 35 (59, .lmul, 1) rfl) rfl (aw_ldc2 (pc' := 63) (dt_X11_worthOf 36 (60, .ldc2_w 374, 3) rfl) ct_ReturnDeskModel_374 rfl (aw_ldiv (pc' := 64) (dt_X11_worthOf 37 (63, .ldiv, 1) rfl) (by decide) rfl (aw_l2i (pc' := 65) (dt_X11_worthOf 38 (64, .l2i, 1) rfl) rfl (aw_iret (dt_X11_worthOf 39 (65, .ireturn, 1) rfl) rfl rfl ?_))))))))))))))))
      exact h
  · intro q1
    have h := h.2 q1
    refine aw_bipush (pc' := 13) (v := 10) (dt_X11_worthOf 7 (11, .bipush 10, 2) rfl) (by decide) rfl (aw_goto (tgt := 47) (dt_X11_worthOf 8 (13, .goto 34, 3) rfl) (by decide) (aw_istore_n (pc' := 48) (ls' := [some (.int x0), some (.int x1), some (.int (x0 / 1000)), some (.int 10)]) (dt_X11_worthOf 25 (47, .istore_n 3, 1) rfl) (by decide) rfl rfl (aw_iload_n (pc' := 49) (dt_X11_worthOf 26 (48, .iload_n 1, 1) rfl) rfl rfl (aw_i2l (pc' := 50) (dt_X11_worthOf 27 (49, .i2l, 1) rfl) rfl (aw_iload_n (pc' := 51) (dt_X11_worthOf 28 (50, .iload_n 0, 1) rfl) rfl rfl (aw_sipush (pc' := 54) (v := 1000) (dt_X11_worthOf 29 (51, .sipush 1000, 3) rfl) (by decide) rfl (aw_irem (pc' := 55) (dt_X11_worthOf 30 (54, .irem, 1) rfl) (by decide) rfl (aw_i2l (pc' := 56) (dt_X11_worthOf 31 (55, .i2l, 1) rfl) rfl (aw_lmul (pc' := 57) (dt_X11_worthOf 32 (56, .lmul, 1) rfl) rfl (aw_iload_n (pc' := 58) (dt_X11_worthOf 33 (57, .iload_n 3, 1) rfl) rfl rfl (aw_i2l (pc' := 59) (dt_X11_worthOf 34 (58, .i2l, 1) rfl) rfl (aw_lmul (pc' := 60) (dt_X11_worthOf 35 (59, .lmul, 1) rfl) rfl (aw_ldc2 (pc' := 63) (dt_X11_worthOf 36 (60, .ldc2_w 374, 3) rfl) ct_ReturnDeskModel_374 rfl (aw_ldiv (pc' := 64) (dt_X11_worthOf 37 (63, .ldiv, 1) rfl) (by decide) rfl (aw_l2i (pc' := 65) (dt_X11_worthOf 38 (64, .l2i, 1) rfl) rfl (aw_iret (dt_X11_worthOf 39 (65, .ireturn, 1) rfl) rfl rfl ?_))))))))))))))))
    exact h

theorem t_X11_digit {E : ZE} {l : Launch} {d nc ns : Nat} {x0 : Int32} {x1 : Int32} {μ : ZM} {K : Option Value → ZM → Prop} (hS : Stat μ) (h :
  AW E l d nc ns mX11_digit 4 [none, some (.int x1), some (.int x0), some (.int 5)] [] μ K) : AW E l d nc ns mX11_digit 0 [some (.int x0), some (.int x1), none, none] [] μ K := by
  refine aw_iload_n (pc' := 1) (dt_X11_digit 0 (0, .iload_n 0, 1) rfl) rfl rfl (aw_istore_n (pc' := 2) (ls' := [some (.int x0), some (.int x1), some (.int x0), none]) (dt_X11_digit 1 (1, .istore_n 2, 1) rfl) (by decide) rfl rfl (aw_iconst (pc' := 3) (v := 5) (dt_X11_digit 2 (2, .iconst 5, 1) rfl) (by decide) rfl (aw_istore_n (pc' := 4) (ls' := [some (.int x0), some (.int x1), some (.int x0), some (.int 5)]) (dt_X11_digit 3 (3, .istore_n 3, 1) rfl) (by decide) rfl rfl (aw_drop (ls' := [none, some (.int x1), some (.int x0), some (.int 5)]) ⟨rfl, rfl, rfl, trivial⟩ ?_))))
  exact h

theorem t_X11_digit_4 {E : ZE} {l : Launch} {d nc ns : Nat} {x1 : Int32} {x2 : Int32} {x3 : Int32} {μ : ZM} {K : Option Value → ZM → Prop} (hS : Stat μ) (h :
  (x3 ≤ x1 →
    K (some (.int (x2 - x2 / 10 * 10))) μ) ∧
  (¬ x3 ≤ x1 →
    AW E l d nc ns mX11_digit 4 [none, some (.int x1), some (.int (x2 / 10)), some (.int (x3 + (-1)))] [] μ K)) : AW E l d nc ns mX11_digit 4 [none, some (.int x1), some (.int x2), some (.int x3)] [] μ K := by
  refine aw_iload_n (pc' := 5) (dt_X11_digit 4 (4, .iload_n 3, 1) rfl) rfl rfl (aw_iload_n (pc' := 6) (dt_X11_digit 5 (5, .iload_n 1, 1) rfl) rfl rfl (aw_icmp_le (pc' := 9) (tgt := 20) (dt_X11_digit 6 (6, .if_icmp .le 14, 3) rfl) (by decide) rfl ?_ ?_))
  · intro q1
    have h := h.1 q1
    refine aw_iload_n (pc' := 21) (dt_X11_digit 13 (20, .iload_n 2, 1) rfl) rfl rfl (aw_bipush (pc' := 23) (v := 10) (dt_X11_digit 14 (21, .bipush 10, 2) rfl) (by decide) rfl (aw_irem (pc' := 24) (dt_X11_digit 15 (23, .irem, 1) rfl) (by decide) rfl (aw_iret (dt_X11_digit 16 (24, .ireturn, 1) rfl) rfl rfl ?_)))
    exact h
  · intro q1
    have h := h.2 q1
    refine aw_iload_n (pc' := 10) (dt_X11_digit 7 (9, .iload_n 2, 1) rfl) rfl rfl (aw_bipush (pc' := 12) (v := 10) (dt_X11_digit 8 (10, .bipush 10, 2) rfl) (by decide) rfl (aw_idiv (pc' := 13) (dt_X11_digit 9 (12, .idiv, 1) rfl) (by decide) rfl (aw_istore_n (pc' := 14) (ls' := [none, some (.int x1), some (.int (x2 / 10)), some (.int x3)]) (dt_X11_digit 10 (13, .istore_n 2, 1) rfl) (by decide) rfl rfl (aw_iinc (pc' := 17) (v := (-1)) (ls' := [none, some (.int x1), some (.int (x2 / 10)), some (.int (x3 + (-1)))]) (dt_X11_digit 11 (14, .iinc 3 (-1), 3) rfl) rfl (by decide) (by decide) rfl rfl (aw_goto (tgt := 4) (dt_X11_digit 12 (17, .goto (-13), 3) rfl) (by decide) ?_)))))
    exact h

theorem t_X11_areFacts {E : ZE} {l : Launch} {d nc ns : Nat} {x0 : Int32} {μ : ZM} {K : Option Value → ZM → Prop} (hS : Stat μ) (h :
  (x0 < 0 →
    K (some (.int 0)) μ) ∧
  (¬ x0 < 0 →
    (119911 < x0 →
      K (some (.int 0)) μ) ∧
    (¬ 119911 < x0 →
      AW E l d 0 0 mX11_digit 0 (zargs 4 [.int x0, .int 0]) [] μ (fun v μ3 => ∃ r5 : Int32, v = some (.int r5) ∧ Stat μ3 ∧ 
        AW E l d 0 0 mX11_digit 0 (zargs 4 [.int x0, .int 1]) [] μ3 (fun v μ6 => ∃ r8 : Int32, v = some (.int r8) ∧ Stat μ6 ∧ 
          (r8 < r5 →
            K (some (.int 0)) μ6) ∧
          (¬ r8 < r5 →
            AW E l d 0 0 mX11_digit 0 (zargs 4 [.int x0, .int 1]) [] μ6 (fun v μ10 => ∃ r12 : Int32, v = some (.int r12) ∧ Stat μ10 ∧ 
              (1 < r12 →
                K (some (.int 0)) μ10) ∧
              (¬ 1 < r12 →
                AW E l d 0 0 mX11_digit 0 (zargs 4 [.int x0, .int 2]) [] μ10 (fun v μ14 => ∃ r16 : Int32, v = some (.int r16) ∧ Stat μ14 ∧ 
                  AW E l d 0 0 mX11_digit 0 (zargs 4 [.int x0, .int 3]) [] μ14 (fun v μ17 => ∃ r19 : Int32, v = some (.int r19) ∧ Stat μ17 ∧ 
                    (r16 ≤ r19 →
                      AW E l d 0 0 mX11_digit 0 (zargs 4 [.int x0, .int 4]) [] μ17 (fun v μ21 => ∃ r23 : Int32, v = some (.int r23) ∧ Stat μ21 ∧ 
                        AW E l d 0 0 mX11_digit 0 (zargs 4 [.int x0, .int 5]) [] μ21 (fun v μ24 => ∃ r26 : Int32, v = some (.int r26) ∧ Stat μ24 ∧ 
                          (r26 < r23 →
                            K (some (.int 0)) μ24) ∧
                          (¬ r26 < r23 →
                            AW E l d 0 0 mX11_digit 0 (zargs 4 [.int x0, .int 5]) [] μ24 (fun v μ28 => ∃ r30 : Int32, v = some (.int r30) ∧ Stat μ28 ∧ 
                              (1 < r30 →
                                K (some (.int 0)) μ28) ∧
                              (¬ 1 < r30 →
                                K (some (.int 1)) μ28)))))) ∧
                    (¬ r16 ≤ r19 →
                      K (some (.int 0)) μ17))))))))))) : AW E l (d + 1) nc ns mX11_areFacts 0 [some (.int x0)] [] μ K := by
  refine aw_iload_n (pc' := 1) (dt_X11_areFacts 0 (0, .iload_n 0, 1) rfl) rfl rfl (aw_iconst (pc' := 2) (v := 0) (dt_X11_areFacts 1 (1, .iconst 0, 1) rfl) (by decide) rfl (aw_ldcw (pc' := 5) (dt_X11_areFacts 2 (2, .ldc_w 376, 3) rfl) ct_ReturnDeskModel_376 rfl (aw_inS (pc' := 8) (nc1 := 0) (ns1 := 0) (nc := nc) (ns := ns) (ls' := [some (.int x0), some (.int 0), some (.int 119911)]) (y2 := mX11_in) (As := [.int x0, .int 0, .int 119911]) (rest := []) (dt_X11_areFacts 3 (5, .invokestatic 185, 3) rfl) ok_X11_in ln_ReturnDeskModel_185 sm_X11_in pr_X11_in rfl (Nat.le_of_ble_eq_true rfl) (Nat.le_of_ble_eq_true rfl) rfl rfl (aw_iload_n (pc' := 1) (dt_X11_in 0 (0, .iload_n 0, 1) rfl) rfl rfl (aw_iload_n (pc' := 2) (dt_X11_in 1 (1, .iload_n 1, 1) rfl) rfl rfl (aw_icmp_lt (pc' := 5) (tgt := 14) (dt_X11_in 2 (2, .if_icmp .lt 12, 3) rfl) (by decide) rfl ?_ ?_))))))
  · intro q1
    have h := h.1 q1
    refine aw_iconst (pc' := 15) (v := 0) (dt_X11_in 8 (14, .iconst 0, 1) rfl) (by decide) rfl (aw_iret (dt_X11_in 9 (15, .ireturn, 1) rfl) rfl rfl (aw_stk (st' := [.int 0]) rfl (aw_if_ne_F (pc' := 11) (tgt := 13) (dt_X11_areFacts 4 (8, .ifCond .ne 5, 3) rfl) (by decide) rfl (by decide) (aw_iconst (pc' := 12) (v := 0) (dt_X11_areFacts 5 (11, .iconst 0, 1) rfl) (by decide) rfl (aw_iret (dt_X11_areFacts 6 (12, .ireturn, 1) rfl) rfl rfl ?_)))))
    exact h
  · intro q1
    have h := h.2 q1
    refine aw_iload_n (pc' := 6) (dt_X11_in 3 (5, .iload_n 0, 1) rfl) rfl rfl (aw_iload_n (pc' := 7) (dt_X11_in 4 (6, .iload_n 2, 1) rfl) rfl rfl (aw_icmp_gt (pc' := 10) (tgt := 14) (dt_X11_in 5 (7, .if_icmp .gt 7, 3) rfl) (by decide) rfl ?_ ?_))
    · intro q2
      have h := h.1 q2
      refine aw_iconst (pc' := 15) (v := 0) (dt_X11_in 8 (14, .iconst 0, 1) rfl) (by decide) rfl (aw_iret (dt_X11_in 9 (15, .ireturn, 1) rfl) rfl rfl (aw_stk (st' := [.int 0]) rfl (aw_if_ne_F (pc' := 11) (tgt := 13) (dt_X11_areFacts 4 (8, .ifCond .ne 5, 3) rfl) (by decide) rfl (by decide) (aw_iconst (pc' := 12) (v := 0) (dt_X11_areFacts 5 (11, .iconst 0, 1) rfl) (by decide) rfl (aw_iret (dt_X11_areFacts 6 (12, .ireturn, 1) rfl) rfl rfl ?_)))))
      exact h
    · intro q2
      have h := h.2 q2
      refine aw_iconst (pc' := 11) (v := 1) (dt_X11_in 6 (10, .iconst 1, 1) rfl) (by decide) rfl (aw_goto (tgt := 15) (dt_X11_in 7 (11, .goto 4, 3) rfl) (by decide) (aw_iret (dt_X11_in 9 (15, .ireturn, 1) rfl) rfl rfl (aw_stk (st' := [.int 1]) rfl (aw_if_ne_T (pc' := 11) (tgt := 13) (dt_X11_areFacts 4 (8, .ifCond .ne 5, 3) rfl) (by decide) rfl (by decide) (aw_iload_n (pc' := 14) (dt_X11_areFacts 7 (13, .iload_n 0, 1) rfl) rfl rfl (aw_iconst (pc' := 15) (v := 0) (dt_X11_areFacts 8 (14, .iconst 0, 1) rfl) (by decide) rfl (aw_callS0 (pc' := 18) (nc := nc) (ns := ns) (y2 := mX11_digit) (As := [.int x0, .int 0]) (rest := []) (dt_X11_areFacts 9 (15, .invokestatic 377, 3) rfl) ok_X11_digit ln_ReturnDeskModel_377 sm_X11_digit pr_X11_digit rfl (Nat.le_of_ble_eq_true rfl) (Nat.le_of_ble_eq_true rfl) rfl  h ?_)))))))
      rintro v μ3 ⟨r5, rfl, hS4, h⟩
      refine aw_stk (st' := [.int r5]) rfl ?_
      refine aw_iload_n (pc' := 19) (dt_X11_areFacts 10 (18, .iload_n 0, 1) rfl) rfl rfl (aw_iconst (pc' := 20) (v := 1) (dt_X11_areFacts 11 (19, .iconst 1, 1) rfl) (by decide) rfl (aw_callS0 (pc' := 23) (nc := nc) (ns := ns) (y2 := mX11_digit) (As := [.int x0, .int 1]) (rest := [.int r5]) (dt_X11_areFacts 12 (20, .invokestatic 377, 3) rfl) ok_X11_digit ln_ReturnDeskModel_377 sm_X11_digit pr_X11_digit rfl (Nat.le_of_ble_eq_true rfl) (Nat.le_of_ble_eq_true rfl) rfl  h ?_))
      rintro v μ6 ⟨r8, rfl, hS7, h⟩
      refine aw_stk (st' := [.int r8, .int r5]) rfl ?_
      refine aw_icmp_gt (pc' := 26) (tgt := 48) (dt_X11_areFacts 13 (23, .if_icmp .gt 25, 3) rfl) (by decide) rfl ?_ ?_
      · intro q9
        have h := h.1 q9
        refine aw_iconst (pc' := 49) (v := 0) (dt_X11_areFacts 26 (48, .iconst 0, 1) rfl) (by decide) rfl (aw_iret (dt_X11_areFacts 27 (49, .ireturn, 1) rfl) rfl rfl ?_)
        exact h
      · intro q9
        have h := h.2 q9
        refine aw_iload_n (pc' := 27) (dt_X11_areFacts 14 (26, .iload_n 0, 1) rfl) rfl rfl (aw_iconst (pc' := 28) (v := 1) (dt_X11_areFacts 15 (27, .iconst 1, 1) rfl) (by decide) rfl (aw_callS0 (pc' := 31) (nc := nc) (ns := ns) (y2 := mX11_digit) (As := [.int x0, .int 1]) (rest := []) (dt_X11_areFacts 16 (28, .invokestatic 377, 3) rfl) ok_X11_digit ln_ReturnDeskModel_377 sm_X11_digit pr_X11_digit rfl (Nat.le_of_ble_eq_true rfl) (Nat.le_of_ble_eq_true rfl) rfl  h ?_))
        rintro v μ10 ⟨r12, rfl, hS11, h⟩
        refine aw_stk (st' := [.int r12]) rfl ?_
        refine aw_iconst (pc' := 32) (v := 1) (dt_X11_areFacts 17 (31, .iconst 1, 1) rfl) (by decide) rfl (aw_icmp_gt (pc' := 35) (tgt := 48) (dt_X11_areFacts 18 (32, .if_icmp .gt 16, 3) rfl) (by decide) rfl ?_ ?_)
        · intro q13
          have h := h.1 q13
          refine aw_iconst (pc' := 49) (v := 0) (dt_X11_areFacts 26 (48, .iconst 0, 1) rfl) (by decide) rfl (aw_iret (dt_X11_areFacts 27 (49, .ireturn, 1) rfl) rfl rfl ?_)
          exact h
        · intro q13
          have h := h.2 q13
          refine aw_iload_n (pc' := 36) (dt_X11_areFacts 19 (35, .iload_n 0, 1) rfl) rfl rfl (aw_iconst (pc' := 37) (v := 2) (dt_X11_areFacts 20 (36, .iconst 2, 1) rfl) (by decide) rfl (aw_callS0 (pc' := 40) (nc := nc) (ns := ns) (y2 := mX11_digit) (As := [.int x0, .int 2]) (rest := []) (dt_X11_areFacts 21 (37, .invokestatic 377, 3) rfl) ok_X11_digit ln_ReturnDeskModel_377 sm_X11_digit pr_X11_digit rfl (Nat.le_of_ble_eq_true rfl) (Nat.le_of_ble_eq_true rfl) rfl  h ?_))
          rintro v μ14 ⟨r16, rfl, hS15, h⟩
          refine aw_stk (st' := [.int r16]) rfl ?_
          refine aw_iload_n (pc' := 41) (dt_X11_areFacts 22 (40, .iload_n 0, 1) rfl) rfl rfl (aw_iconst (pc' := 42) (v := 3) (dt_X11_areFacts 23 (41, .iconst 3, 1) rfl) (by decide) rfl (aw_callS0 (pc' := 45) (nc := nc) (ns := ns) (y2 := mX11_digit) (As := [.int x0, .int 3]) (rest := [.int r16]) (dt_X11_areFacts 24 (42, .invokestatic 377, 3) rfl) ok_X11_digit ln_ReturnDeskModel_377 sm_X11_digit pr_X11_digit rfl (Nat.le_of_ble_eq_true rfl) (Nat.le_of_ble_eq_true rfl) rfl  h ?_))
          rintro v μ17 ⟨r19, rfl, hS18, h⟩
          refine aw_stk (st' := [.int r19, .int r16]) rfl ?_
          refine aw_icmp_le (pc' := 48) (tgt := 50) (dt_X11_areFacts 25 (45, .if_icmp .le 5, 3) rfl) (by decide) rfl ?_ ?_
          · intro q20
            have h := h.1 q20
            refine aw_iload_n (pc' := 51) (dt_X11_areFacts 28 (50, .iload_n 0, 1) rfl) rfl rfl (aw_iconst (pc' := 52) (v := 4) (dt_X11_areFacts 29 (51, .iconst 4, 1) rfl) (by decide) rfl (aw_callS0 (pc' := 55) (nc := nc) (ns := ns) (y2 := mX11_digit) (As := [.int x0, .int 4]) (rest := []) (dt_X11_areFacts 30 (52, .invokestatic 377, 3) rfl) ok_X11_digit ln_ReturnDeskModel_377 sm_X11_digit pr_X11_digit rfl (Nat.le_of_ble_eq_true rfl) (Nat.le_of_ble_eq_true rfl) rfl  h ?_))
            rintro v μ21 ⟨r23, rfl, hS22, h⟩
            refine aw_stk (st' := [.int r23]) rfl ?_
            refine aw_iload_n (pc' := 56) (dt_X11_areFacts 31 (55, .iload_n 0, 1) rfl) rfl rfl (aw_iconst (pc' := 57) (v := 5) (dt_X11_areFacts 32 (56, .iconst 5, 1) rfl) (by decide) rfl (aw_callS0 (pc' := 60) (nc := nc) (ns := ns) (y2 := mX11_digit) (As := [.int x0, .int 5]) (rest := [.int r23]) (dt_X11_areFacts 33 (57, .invokestatic 377, 3) rfl) ok_X11_digit ln_ReturnDeskModel_377 sm_X11_digit pr_X11_digit rfl (Nat.le_of_ble_eq_true rfl) (Nat.le_of_ble_eq_true rfl) rfl  h ?_))
            rintro v μ24 ⟨r26, rfl, hS25, h⟩
            refine aw_stk (st' := [.int r26, .int r23]) rfl ?_
            refine aw_icmp_gt (pc' := 63) (tgt := 76) (dt_X11_areFacts 34 (60, .if_icmp .gt 16, 3) rfl) (by decide) rfl ?_ ?_
            · intro q27
              have h := h.1 q27
              refine aw_iconst (pc' := 77) (v := 0) (dt_X11_areFacts 42 (76, .iconst 0, 1) rfl) (by decide) rfl (aw_iret (dt_X11_areFacts 43 (77, .ireturn, 1) rfl) rfl rfl ?_)
              exact h
            · intro q27
              have h := h.2 q27
              refine aw_iload_n (pc' := 64) (dt_X11_areFacts 35 (63, .iload_n 0, 1) rfl) rfl rfl (aw_iconst (pc' := 65) (v := 5) (dt_X11_areFacts 36 (64, .iconst 5, 1) rfl) (by decide) rfl (aw_callS0 (pc' := 68) (nc := nc) (ns := ns) (y2 := mX11_digit) (As := [.int x0, .int 5]) (rest := []) (dt_X11_areFacts 37 (65, .invokestatic 377, 3) rfl) ok_X11_digit ln_ReturnDeskModel_377 sm_X11_digit pr_X11_digit rfl (Nat.le_of_ble_eq_true rfl) (Nat.le_of_ble_eq_true rfl) rfl  h ?_))
              rintro v μ28 ⟨r30, rfl, hS29, h⟩
              refine aw_stk (st' := [.int r30]) rfl ?_
              refine aw_iconst (pc' := 69) (v := 1) (dt_X11_areFacts 38 (68, .iconst 1, 1) rfl) (by decide) rfl (aw_icmp_gt (pc' := 72) (tgt := 76) (dt_X11_areFacts 39 (69, .if_icmp .gt 7, 3) rfl) (by decide) rfl ?_ ?_)
              · intro q31
                have h := h.1 q31
                refine aw_iconst (pc' := 77) (v := 0) (dt_X11_areFacts 42 (76, .iconst 0, 1) rfl) (by decide) rfl (aw_iret (dt_X11_areFacts 43 (77, .ireturn, 1) rfl) rfl rfl ?_)
                exact h
              · intro q31
                have h := h.2 q31
                refine aw_iconst (pc' := 73) (v := 1) (dt_X11_areFacts 40 (72, .iconst 1, 1) rfl) (by decide) rfl (aw_goto (tgt := 77) (dt_X11_areFacts 41 (73, .goto 4, 3) rfl) (by decide) (aw_iret (dt_X11_areFacts 43 (77, .ireturn, 1) rfl) rfl rfl ?_))
                exact h
          · intro q20
            have h := h.2 q20
            refine aw_iconst (pc' := 49) (v := 0) (dt_X11_areFacts 26 (48, .iconst 0, 1) rfl) (by decide) rfl (aw_iret (dt_X11_areFacts 27 (49, .ireturn, 1) rfl) rfl rfl ?_)
            exact h

theorem t_X11_ask {E : ZE} {l : Launch} {d nc ns : Nat} {x1 : Int32} {x2 : Int32} {x3 : Int32} {x4 : Int32} {x5 : Int32} {x6 : Int32} {μ : ZM} {K : Option Value → ZM → Prop} (hS : Stat μ) (h :
  (x1 < 0 →
    K (some (.int (-1))) μ) ∧
  (¬ x1 < 0 →
    (((zI μ 31 22) - 1) < x1 →
      K (some (.int (-1))) μ) ∧
    (¬ ((zI μ 31 22) - 1) < x1 →
      (x2 < 0 →
        K (some (.int (-1))) μ) ∧
      (¬ x2 < 0 →
        (2 < x2 →
          K (some (.int (-1))) μ) ∧
        (¬ 2 < x2 →
          (x3 < 0 →
            K (some (.int (-1))) μ) ∧
          (¬ x3 < 0 →
            (999999 < x3 →
              K (some (.int (-1))) μ) ∧
            (¬ 999999 < x3 →
              ((x3 - x3 / 1000 * 1000) < (x3 / 1000) →
                K (some (.int (-1))) μ) ∧
              (¬ (x3 - x3 / 1000 * 1000) < (x3 / 1000) →
                (60 < ((x3 - x3 / 1000 * 1000) - (x3 / 1000)) →
                  K (some (.int (-1))) μ) ∧
                (¬ 60 < ((x3 - x3 / 1000 * 1000) - (x3 / 1000)) →
                  AW E l (d + 1) 0 0 mX11_areFacts 0 (zargs 1 [.int x4]) [] μ (fun v μ9 => ∃ r11 : Int32, v = some (.int r11) ∧ Stat μ9 ∧ 
                    (r11 = 0 →
                      K (some (.int (-1))) μ9) ∧
                    (¬ r11 = 0 →
                      (x5 < 1 →
                        K (some (.int (-1))) μ9) ∧
                      (¬ x5 < 1 →
                        (999999 < x5 →
                          K (some (.int (-1))) μ9) ∧
                        (¬ 999999 < x5 →
                          (x6 < 0 →
                            K (some (.int (-1))) μ9) ∧
                          (¬ x6 < 0 →
                            (199999 < x6 →
                              K (some (.int (-1))) μ9) ∧
                            (¬ 199999 < x6 →
                              (vp_in x1 300) ∧
                              ((zI μ9 48 x1.toNatClampNeg) = 0 →
                                (¬ (zI μ9 31 60) = 200 →
                                  (vp_in (zI μ9 31 60) 200) ∧
                                  (vp_in (zI μ9 31 60) 200) ∧
                                  (vp_in (zI μ9 31 60) 200) ∧
                                  (vp_in x1 300) ∧
                                  (x2 ≤ 0 →
                                    AW E l (d + 2) nc ns mX11_ask 179 [some (.ref 31), some (.int x1), some (.int x2), some (.int x3), some (.int x4), some (.int x5), some (.int x6), some (.int (zI μ9 31 60)), some (.int (((zI (sI (sI (sI μ9 74 (zI μ9 31 60).toNatClampNeg x1) 75 (zI μ9 31 60).toNatClampNeg x2) 76 (zI μ9 31 60).toNatClampNeg ((zI (sI (sI μ9 74 (zI μ9 31 60).toNatClampNeg x1) 75 (zI μ9 31 60).toNatClampNeg x2) 31 1) / 24)) 31 1) / 24) - ((zI (sI (sI (sI μ9 74 (zI μ9 31 60).toNatClampNeg x1) 75 (zI μ9 31 60).toNatClampNeg x2) 76 (zI μ9 31 60).toNatClampNeg ((zI (sI (sI μ9 74 (zI μ9 31 60).toNatClampNeg x1) 75 (zI μ9 31 60).toNatClampNeg x2) 31 1) / 24)) 55 x1.toNatClampNeg) / 24))), none] [.int (x3 / 1000), .int (zI μ9 31 60), .ref 77] (sI (sI (sI μ9 74 (zI μ9 31 60).toNatClampNeg x1) 75 (zI μ9 31 60).toNatClampNeg x2) 76 (zI μ9 31 60).toNatClampNeg ((zI (sI (sI μ9 74 (zI μ9 31 60).toNatClampNeg x1) 75 (zI μ9 31 60).toNatClampNeg x2) 31 1) / 24)) K) ∧
                                  (¬ x2 ≤ 0 →
                                    AW E l (d + 2) nc ns mX11_ask 179 [some (.ref 31), some (.int x1), some (.int x2), some (.int x3), some (.int x4), some (.int x5), some (.int x6), some (.int (zI μ9 31 60)), some (.int (((zI (sI (sI (sI μ9 74 (zI μ9 31 60).toNatClampNeg x1) 75 (zI μ9 31 60).toNatClampNeg x2) 76 (zI μ9 31 60).toNatClampNeg ((zI (sI (sI μ9 74 (zI μ9 31 60).toNatClampNeg x1) 75 (zI μ9 31 60).toNatClampNeg x2) 31 1) / 24)) 31 1) / 24) - ((zI (sI (sI (sI μ9 74 (zI μ9 31 60).toNatClampNeg x1) 75 (zI μ9 31 60).toNatClampNeg x2) 76 (zI μ9 31 60).toNatClampNeg ((zI (sI (sI μ9 74 (zI μ9 31 60).toNatClampNeg x1) 75 (zI μ9 31 60).toNatClampNeg x2) 31 1) / 24)) 55 x1.toNatClampNeg) / 24))), none] [.int (((zI (sI (sI (sI μ9 74 (zI μ9 31 60).toNatClampNeg x1) 75 (zI μ9 31 60).toNatClampNeg x2) 76 (zI μ9 31 60).toNatClampNeg ((zI (sI (sI μ9 74 (zI μ9 31 60).toNatClampNeg x1) 75 (zI μ9 31 60).toNatClampNeg x2) 31 1) / 24)) 31 1) / 24) - ((zI (sI (sI (sI μ9 74 (zI μ9 31 60).toNatClampNeg x1) 75 (zI μ9 31 60).toNatClampNeg x2) 76 (zI μ9 31 60).toNatClampNeg ((zI (sI (sI μ9 74 (zI μ9 31 60).toNatClampNeg x1) 75 (zI μ9 31 60).toNatClampNeg x2) 31 1) / 24)) 55 x1.toNatClampNeg) / 24)), .int (zI μ9 31 60), .ref 77] (sI (sI (sI μ9 74 (zI μ9 31 60).toNatClampNeg x1) 75 (zI μ9 31 60).toNatClampNeg x2) 76 (zI μ9 31 60).toNatClampNeg ((zI (sI (sI μ9 74 (zI μ9 31 60).toNatClampNeg x1) 75 (zI μ9 31 60).toNatClampNeg x2) 31 1) / 24)) K)) ∧
                                ((zI μ9 31 60) = 200 →
                                  K (some (.int (-3))) μ9)) ∧
                              (¬ (zI μ9 48 x1.toNatClampNeg) = 0 →
                                K (some (.int (-2))) μ9)))))))))))))))) : AW E l (d + 2) nc ns mX11_ask 0 [some (.ref 31), some (.int x1), some (.int x2), some (.int x3), some (.int x4), some (.int x5), some (.int x6), none, none, none] [] μ K := by
  refine aw_aload_n (pc' := 1) (dt_X11_ask 0 (0, .aload_n 0, 1) rfl) rfl rfl (aw_iload_n (pc' := 2) (dt_X11_ask 1 (1, .iload_n 1, 1) rfl) rfl rfl (aw_inV (pc' := 5) (nc1 := 0) (ns1 := 0) (nc := nc) (ns := ns) (ls' := [some (.ref 31), some (.int x1)]) (y2 := mX11_isSale) (As := [.int x1]) (rest := []) (a := 31) (dt_X11_ask 2 (2, .invokevirtual 228, 3) rfl) ok_X11_isSale ln_ReturnDeskModel_228 im_X11_isSale se_X11_isSale pr_X11_isSale (Or.inl ⟨by decide, rfl⟩) rfl (Nat.le_of_ble_eq_true rfl) (Nat.le_of_ble_eq_true rfl) rfl rfl (sk_31 hS) (aw_iload_n (pc' := 1) (dt_X11_isSale 0 (0, .iload_n 1, 1) rfl) rfl rfl (aw_iconst (pc' := 2) (v := 0) (dt_X11_isSale 1 (1, .iconst 0, 1) rfl) (by decide) rfl (aw_aload_n (pc' := 3) (dt_X11_isSale 2 (2, .aload_n 0, 1) rfl) rfl rfl (aw_getI (pc' := 6) (dt_X11_isSale 3 (3, .getfield 215, 3) rfl) fl_ReturnDeskModel_215 rfl rfl (sk_31 hS) (aw_iconst (pc' := 7) (v := 1) (dt_X11_isSale 4 (6, .iconst 1, 1) rfl) (by decide) rfl (aw_isub (pc' := 8) (dt_X11_isSale 5 (7, .isub, 1) rfl) rfl (aw_inS (pc' := 11) (nc1 := 0) (ns1 := 0) (nc := 0) (ns := 0) (ls' := [some (.int x1), some (.int 0), some (.int ((zI μ 31 22) - 1))]) (y2 := mX11_in) (As := [.int x1, .int 0, .int ((zI μ 31 22) - 1)]) (rest := []) (dt_X11_isSale 6 (8, .invokestatic 185, 3) rfl) ok_X11_in ln_ReturnDeskModel_185 sm_X11_in pr_X11_in rfl (Nat.le_of_ble_eq_true rfl) (Nat.le_of_ble_eq_true rfl) rfl rfl (aw_iload_n (pc' := 1) (dt_X11_in 0 (0, .iload_n 0, 1) rfl) rfl rfl (aw_iload_n (pc' := 2) (dt_X11_in 1 (1, .iload_n 1, 1) rfl) rfl rfl (aw_icmp_lt (pc' := 5) (tgt := 14) (dt_X11_in 2 (2, .if_icmp .lt 12, 3) rfl) (by decide) rfl ?_ ?_))))))))))))
  · intro q1
    have h := h.1 q1
    refine aw_iconst (pc' := 15) (v := 0) (dt_X11_in 8 (14, .iconst 0, 1) rfl) (by decide) rfl (aw_iret (dt_X11_in 9 (15, .ireturn, 1) rfl) rfl rfl (aw_stk (st' := [.int 0]) rfl (aw_iret (dt_X11_isSale 7 (11, .ireturn, 1) rfl) rfl rfl (aw_stk (st' := [.int 0]) rfl (aw_if_eq_T (pc' := 8) (tgt := 87) (dt_X11_ask 3 (5, .ifCond .eq 82, 3) rfl) (by decide) rfl (by decide) (aw_iconst (pc' := 88) (v := (-1)) (dt_X11_ask 43 (87, .iconst (-1), 1) rfl) (by decide) rfl (aw_iret (dt_X11_ask 44 (88, .ireturn, 1) rfl) rfl rfl ?_)))))))
    exact h
  · intro q1
    have h := h.2 q1
    refine aw_iload_n (pc' := 6) (dt_X11_in 3 (5, .iload_n 0, 1) rfl) rfl rfl (aw_iload_n (pc' := 7) (dt_X11_in 4 (6, .iload_n 2, 1) rfl) rfl rfl (aw_icmp_gt (pc' := 10) (tgt := 14) (dt_X11_in 5 (7, .if_icmp .gt 7, 3) rfl) (by decide) rfl ?_ ?_))
    · intro q2
      have h := h.1 q2
      refine aw_iconst (pc' := 15) (v := 0) (dt_X11_in 8 (14, .iconst 0, 1) rfl) (by decide) rfl (aw_iret (dt_X11_in 9 (15, .ireturn, 1) rfl) rfl rfl (aw_stk (st' := [.int 0]) rfl (aw_iret (dt_X11_isSale 7 (11, .ireturn, 1) rfl) rfl rfl (aw_stk (st' := [.int 0]) rfl (aw_if_eq_T (pc' := 8) (tgt := 87) (dt_X11_ask 3 (5, .ifCond .eq 82, 3) rfl) (by decide) rfl (by decide) (aw_iconst (pc' := 88) (v := (-1)) (dt_X11_ask 43 (87, .iconst (-1), 1) rfl) (by decide) rfl (aw_iret (dt_X11_ask 44 (88, .ireturn, 1) rfl) rfl rfl ?_)))))))
      exact h
    · intro q2
      have h := h.2 q2
      refine aw_iconst (pc' := 11) (v := 1) (dt_X11_in 6 (10, .iconst 1, 1) rfl) (by decide) rfl (aw_goto (tgt := 15) (dt_X11_in 7 (11, .goto 4, 3) rfl) (by decide) (aw_iret (dt_X11_in 9 (15, .ireturn, 1) rfl) rfl rfl (aw_stk (st' := [.int 1]) rfl (aw_iret (dt_X11_isSale 7 (11, .ireturn, 1) rfl) rfl rfl (aw_stk (st' := [.int 1]) rfl (aw_if_eq_F (pc' := 8) (tgt := 87) (dt_X11_ask 3 (5, .ifCond .eq 82, 3) rfl) (by decide) rfl (by decide) (aw_iload_n (pc' := 9) (dt_X11_ask 4 (8, .iload_n 2, 1) rfl) rfl rfl (aw_iconst (pc' := 10) (v := 0) (dt_X11_ask 5 (9, .iconst 0, 1) rfl) (by decide) rfl (aw_iconst (pc' := 11) (v := 2) (dt_X11_ask 6 (10, .iconst 2, 1) rfl) (by decide) rfl (aw_inS (pc' := 14) (nc1 := 0) (ns1 := 0) (nc := nc) (ns := ns) (ls' := [some (.int x2), some (.int 0), some (.int 2)]) (y2 := mX11_in) (As := [.int x2, .int 0, .int 2]) (rest := []) (dt_X11_ask 7 (11, .invokestatic 185, 3) rfl) ok_X11_in ln_ReturnDeskModel_185 sm_X11_in pr_X11_in rfl (Nat.le_of_ble_eq_true rfl) (Nat.le_of_ble_eq_true rfl) rfl rfl (aw_iload_n (pc' := 1) (dt_X11_in 0 (0, .iload_n 0, 1) rfl) rfl rfl (aw_iload_n (pc' := 2) (dt_X11_in 1 (1, .iload_n 1, 1) rfl) rfl rfl (aw_icmp_lt (pc' := 5) (tgt := 14) (dt_X11_in 2 (2, .if_icmp .lt 12, 3) rfl) (by decide) rfl ?_ ?_)))))))))))))
      · intro q3
        have h := h.1 q3
        refine aw_iconst (pc' := 15) (v := 0) (dt_X11_in 8 (14, .iconst 0, 1) rfl) (by decide) rfl (aw_iret (dt_X11_in 9 (15, .ireturn, 1) rfl) rfl rfl (aw_stk (st' := [.int 0]) rfl (aw_if_eq_T (pc' := 17) (tgt := 87) (dt_X11_ask 8 (14, .ifCond .eq 73, 3) rfl) (by decide) rfl (by decide) (aw_iconst (pc' := 88) (v := (-1)) (dt_X11_ask 43 (87, .iconst (-1), 1) rfl) (by decide) rfl (aw_iret (dt_X11_ask 44 (88, .ireturn, 1) rfl) rfl rfl ?_)))))
        exact h
      · intro q3
        have h := h.2 q3
        refine aw_iload_n (pc' := 6) (dt_X11_in 3 (5, .iload_n 0, 1) rfl) rfl rfl (aw_iload_n (pc' := 7) (dt_X11_in 4 (6, .iload_n 2, 1) rfl) rfl rfl (aw_icmp_gt (pc' := 10) (tgt := 14) (dt_X11_in 5 (7, .if_icmp .gt 7, 3) rfl) (by decide) rfl ?_ ?_))
        · intro q4
          have h := h.1 q4
          refine aw_iconst (pc' := 15) (v := 0) (dt_X11_in 8 (14, .iconst 0, 1) rfl) (by decide) rfl (aw_iret (dt_X11_in 9 (15, .ireturn, 1) rfl) rfl rfl (aw_stk (st' := [.int 0]) rfl (aw_if_eq_T (pc' := 17) (tgt := 87) (dt_X11_ask 8 (14, .ifCond .eq 73, 3) rfl) (by decide) rfl (by decide) (aw_iconst (pc' := 88) (v := (-1)) (dt_X11_ask 43 (87, .iconst (-1), 1) rfl) (by decide) rfl (aw_iret (dt_X11_ask 44 (88, .ireturn, 1) rfl) rfl rfl ?_)))))
          exact h
        · intro q4
          have h := h.2 q4
          refine aw_iconst (pc' := 11) (v := 1) (dt_X11_in 6 (10, .iconst 1, 1) rfl) (by decide) rfl (aw_goto (tgt := 15) (dt_X11_in 7 (11, .goto 4, 3) rfl) (by decide) (aw_iret (dt_X11_in 9 (15, .ireturn, 1) rfl) rfl rfl (aw_stk (st' := [.int 1]) rfl (aw_if_eq_F (pc' := 17) (tgt := 87) (dt_X11_ask 8 (14, .ifCond .eq 73, 3) rfl) (by decide) rfl (by decide) (aw_iload_n (pc' := 18) (dt_X11_ask 9 (17, .iload_n 3, 1) rfl) rfl rfl (aw_iconst (pc' := 19) (v := 0) (dt_X11_ask 10 (18, .iconst 0, 1) rfl) (by decide) rfl (aw_ldc (pc' := 21) (dt_X11_ask 11 (19, .ldc 211, 2) rfl) ct_ReturnDeskModel_211 rfl (aw_inS (pc' := 24) (nc1 := 0) (ns1 := 0) (nc := nc) (ns := ns) (ls' := [some (.int x3), some (.int 0), some (.int 999999)]) (y2 := mX11_in) (As := [.int x3, .int 0, .int 999999]) (rest := []) (dt_X11_ask 12 (21, .invokestatic 185, 3) rfl) ok_X11_in ln_ReturnDeskModel_185 sm_X11_in pr_X11_in rfl (Nat.le_of_ble_eq_true rfl) (Nat.le_of_ble_eq_true rfl) rfl rfl (aw_iload_n (pc' := 1) (dt_X11_in 0 (0, .iload_n 0, 1) rfl) rfl rfl (aw_iload_n (pc' := 2) (dt_X11_in 1 (1, .iload_n 1, 1) rfl) rfl rfl (aw_icmp_lt (pc' := 5) (tgt := 14) (dt_X11_in 2 (2, .if_icmp .lt 12, 3) rfl) (by decide) rfl ?_ ?_)))))))))))
          · intro q5
            have h := h.1 q5
            refine aw_iconst (pc' := 15) (v := 0) (dt_X11_in 8 (14, .iconst 0, 1) rfl) (by decide) rfl (aw_iret (dt_X11_in 9 (15, .ireturn, 1) rfl) rfl rfl (aw_stk (st' := [.int 0]) rfl (aw_if_eq_T (pc' := 27) (tgt := 87) (dt_X11_ask 13 (24, .ifCond .eq 63, 3) rfl) (by decide) rfl (by decide) (aw_iconst (pc' := 88) (v := (-1)) (dt_X11_ask 43 (87, .iconst (-1), 1) rfl) (by decide) rfl (aw_iret (dt_X11_ask 44 (88, .ireturn, 1) rfl) rfl rfl ?_)))))
            exact h
          · intro q5
            have h := h.2 q5
            refine aw_iload_n (pc' := 6) (dt_X11_in 3 (5, .iload_n 0, 1) rfl) rfl rfl (aw_iload_n (pc' := 7) (dt_X11_in 4 (6, .iload_n 2, 1) rfl) rfl rfl (aw_icmp_gt (pc' := 10) (tgt := 14) (dt_X11_in 5 (7, .if_icmp .gt 7, 3) rfl) (by decide) rfl ?_ ?_))
            · intro q6
              have h := h.1 q6
              refine aw_iconst (pc' := 15) (v := 0) (dt_X11_in 8 (14, .iconst 0, 1) rfl) (by decide) rfl (aw_iret (dt_X11_in 9 (15, .ireturn, 1) rfl) rfl rfl (aw_stk (st' := [.int 0]) rfl (aw_if_eq_T (pc' := 27) (tgt := 87) (dt_X11_ask 13 (24, .ifCond .eq 63, 3) rfl) (by decide) rfl (by decide) (aw_iconst (pc' := 88) (v := (-1)) (dt_X11_ask 43 (87, .iconst (-1), 1) rfl) (by decide) rfl (aw_iret (dt_X11_ask 44 (88, .ireturn, 1) rfl) rfl rfl ?_)))))
              exact h
            · intro q6
              have h := h.2 q6
              refine aw_iconst (pc' := 11) (v := 1) (dt_X11_in 6 (10, .iconst 1, 1) rfl) (by decide) rfl (aw_goto (tgt := 15) (dt_X11_in 7 (11, .goto 4, 3) rfl) (by decide) (aw_iret (dt_X11_in 9 (15, .ireturn, 1) rfl) rfl rfl (aw_stk (st' := [.int 1]) rfl (aw_if_eq_F (pc' := 27) (tgt := 87) (dt_X11_ask 13 (24, .ifCond .eq 63, 3) rfl) (by decide) rfl (by decide) (aw_iload_n (pc' := 28) (dt_X11_ask 14 (27, .iload_n 3, 1) rfl) rfl rfl (aw_sipush (pc' := 31) (v := 1000) (dt_X11_ask 15 (28, .sipush 1000, 3) rfl) (by decide) rfl (aw_idiv (pc' := 32) (dt_X11_ask 16 (31, .idiv, 1) rfl) (by decide) rfl (aw_iload_n (pc' := 33) (dt_X11_ask 17 (32, .iload_n 3, 1) rfl) rfl rfl (aw_sipush (pc' := 36) (v := 1000) (dt_X11_ask 18 (33, .sipush 1000, 3) rfl) (by decide) rfl (aw_irem (pc' := 37) (dt_X11_ask 19 (36, .irem, 1) rfl) (by decide) rfl (aw_icmp_gt (pc' := 40) (tgt := 87) (dt_X11_ask 20 (37, .if_icmp .gt 50, 3) rfl) (by decide) rfl ?_ ?_)))))))))))
              · intro q7
                have h := h.1 q7
                refine aw_iconst (pc' := 88) (v := (-1)) (dt_X11_ask 43 (87, .iconst (-1), 1) rfl) (by decide) rfl (aw_iret (dt_X11_ask 44 (88, .ireturn, 1) rfl) rfl rfl ?_)
                exact h
              · intro q7
                have h := h.2 q7
                refine aw_iload_n (pc' := 41) (dt_X11_ask 21 (40, .iload_n 3, 1) rfl) rfl rfl (aw_sipush (pc' := 44) (v := 1000) (dt_X11_ask 22 (41, .sipush 1000, 3) rfl) (by decide) rfl (aw_irem (pc' := 45) (dt_X11_ask 23 (44, .irem, 1) rfl) (by decide) rfl (aw_iload_n (pc' := 46) (dt_X11_ask 24 (45, .iload_n 3, 1) rfl) rfl rfl (aw_sipush (pc' := 49) (v := 1000) (dt_X11_ask 25 (46, .sipush 1000, 3) rfl) (by decide) rfl (aw_idiv (pc' := 50) (dt_X11_ask 26 (49, .idiv, 1) rfl) (by decide) rfl (aw_isub (pc' := 51) (dt_X11_ask 27 (50, .isub, 1) rfl) rfl (aw_bipush (pc' := 53) (v := 60) (dt_X11_ask 28 (51, .bipush 60, 2) rfl) (by decide) rfl (aw_icmp_gt (pc' := 56) (tgt := 87) (dt_X11_ask 29 (53, .if_icmp .gt 34, 3) rfl) (by decide) rfl ?_ ?_))))))))
                · intro q8
                  have h := h.1 q8
                  refine aw_iconst (pc' := 88) (v := (-1)) (dt_X11_ask 43 (87, .iconst (-1), 1) rfl) (by decide) rfl (aw_iret (dt_X11_ask 44 (88, .ireturn, 1) rfl) rfl rfl ?_)
                  exact h
                · intro q8
                  have h := h.2 q8
                  refine aw_iload (pc' := 58) (dt_X11_ask 30 (56, .iload 4, 2) rfl) rfl rfl (aw_callS0 (pc' := 61) (nc := nc) (ns := ns) (y2 := mX11_areFacts) (As := [.int x4]) (rest := []) (dt_X11_ask 31 (58, .invokestatic 380, 3) rfl) ok_X11_areFacts ln_ReturnDeskModel_380 sm_X11_areFacts pr_X11_areFacts rfl (Nat.le_of_ble_eq_true rfl) (Nat.le_of_ble_eq_true rfl) rfl  h ?_)
                  rintro v μ9 ⟨r11, rfl, hS10, h⟩
                  refine aw_stk (st' := [.int r11]) rfl ?_
                  refine aw_if_eq (pc' := 64) (tgt := 87) (dt_X11_ask 32 (61, .ifCond .eq 26, 3) rfl) (by decide) rfl ?_ ?_
                  · intro q12
                    have h := h.1 q12
                    refine aw_iconst (pc' := 88) (v := (-1)) (dt_X11_ask 43 (87, .iconst (-1), 1) rfl) (by decide) rfl (aw_iret (dt_X11_ask 44 (88, .ireturn, 1) rfl) rfl rfl ?_)
                    exact h
                  · intro q12
                    have h := h.2 q12
                    refine aw_iload (pc' := 66) (dt_X11_ask 33 (64, .iload 5, 2) rfl) rfl rfl (aw_iconst (pc' := 67) (v := 1) (dt_X11_ask 34 (66, .iconst 1, 1) rfl) (by decide) rfl (aw_ldc (pc' := 69) (dt_X11_ask 35 (67, .ldc 211, 2) rfl) ct_ReturnDeskModel_211 rfl (aw_inS (pc' := 72) (nc1 := 0) (ns1 := 0) (nc := nc) (ns := ns) (ls' := [some (.int x5), some (.int 1), some (.int 999999)]) (y2 := mX11_in) (As := [.int x5, .int 1, .int 999999]) (rest := []) (dt_X11_ask 36 (69, .invokestatic 185, 3) rfl) ok_X11_in ln_ReturnDeskModel_185 sm_X11_in pr_X11_in rfl (Nat.le_of_ble_eq_true rfl) (Nat.le_of_ble_eq_true rfl) rfl rfl (aw_iload_n (pc' := 1) (dt_X11_in 0 (0, .iload_n 0, 1) rfl) rfl rfl (aw_iload_n (pc' := 2) (dt_X11_in 1 (1, .iload_n 1, 1) rfl) rfl rfl (aw_icmp_lt (pc' := 5) (tgt := 14) (dt_X11_in 2 (2, .if_icmp .lt 12, 3) rfl) (by decide) rfl ?_ ?_))))))
                    · intro q13
                      have h := h.1 q13
                      refine aw_iconst (pc' := 15) (v := 0) (dt_X11_in 8 (14, .iconst 0, 1) rfl) (by decide) rfl (aw_iret (dt_X11_in 9 (15, .ireturn, 1) rfl) rfl rfl (aw_stk (st' := [.int 0]) rfl (aw_if_eq_T (pc' := 75) (tgt := 87) (dt_X11_ask 37 (72, .ifCond .eq 15, 3) rfl) (by decide) rfl (by decide) (aw_iconst (pc' := 88) (v := (-1)) (dt_X11_ask 43 (87, .iconst (-1), 1) rfl) (by decide) rfl (aw_iret (dt_X11_ask 44 (88, .ireturn, 1) rfl) rfl rfl ?_)))))
                      exact h
                    · intro q13
                      have h := h.2 q13
                      refine aw_iload_n (pc' := 6) (dt_X11_in 3 (5, .iload_n 0, 1) rfl) rfl rfl (aw_iload_n (pc' := 7) (dt_X11_in 4 (6, .iload_n 2, 1) rfl) rfl rfl (aw_icmp_gt (pc' := 10) (tgt := 14) (dt_X11_in 5 (7, .if_icmp .gt 7, 3) rfl) (by decide) rfl ?_ ?_))
                      · intro q14
                        have h := h.1 q14
                        refine aw_iconst (pc' := 15) (v := 0) (dt_X11_in 8 (14, .iconst 0, 1) rfl) (by decide) rfl (aw_iret (dt_X11_in 9 (15, .ireturn, 1) rfl) rfl rfl (aw_stk (st' := [.int 0]) rfl (aw_if_eq_T (pc' := 75) (tgt := 87) (dt_X11_ask 37 (72, .ifCond .eq 15, 3) rfl) (by decide) rfl (by decide) (aw_iconst (pc' := 88) (v := (-1)) (dt_X11_ask 43 (87, .iconst (-1), 1) rfl) (by decide) rfl (aw_iret (dt_X11_ask 44 (88, .ireturn, 1) rfl) rfl rfl ?_)))))
                        exact h
                      · intro q14
                        have h := h.2 q14
                        refine aw_iconst (pc' := 11) (v := 1) (dt_X11_in 6 (10, .iconst 1, 1) rfl) (by decide) rfl (aw_goto (tgt := 15) (dt_X11_in 7 (11, .goto 4, 3) rfl) (by decide) (aw_iret (dt_X11_in 9 (15, .ireturn, 1) rfl) rfl rfl (aw_stk (st' := [.int 1]) rfl (aw_if_eq_F (pc' := 75) (tgt := 87) (dt_X11_ask 37 (72, .ifCond .eq 15, 3) rfl) (by decide) rfl (by decide) (aw_iload (pc' := 77) (dt_X11_ask 38 (75, .iload 6, 2) rfl) rfl rfl (aw_iconst (pc' := 78) (v := 0) (dt_X11_ask 39 (77, .iconst 0, 1) rfl) (by decide) rfl (aw_ldcw (pc' := 81) (dt_X11_ask 40 (78, .ldc_w 383, 3) rfl) ct_ReturnDeskModel_383 rfl (aw_inS (pc' := 84) (nc1 := 0) (ns1 := 0) (nc := nc) (ns := ns) (ls' := [some (.int x6), some (.int 0), some (.int 199999)]) (y2 := mX11_in) (As := [.int x6, .int 0, .int 199999]) (rest := []) (dt_X11_ask 41 (81, .invokestatic 185, 3) rfl) ok_X11_in ln_ReturnDeskModel_185 sm_X11_in pr_X11_in rfl (Nat.le_of_ble_eq_true rfl) (Nat.le_of_ble_eq_true rfl) rfl rfl (aw_iload_n (pc' := 1) (dt_X11_in 0 (0, .iload_n 0, 1) rfl) rfl rfl (aw_iload_n (pc' := 2) (dt_X11_in 1 (1, .iload_n 1, 1) rfl) rfl rfl (aw_icmp_lt (pc' := 5) (tgt := 14) (dt_X11_in 2 (2, .if_icmp .lt 12, 3) rfl) (by decide) rfl ?_ ?_)))))))))))
                        · intro q15
                          have h := h.1 q15
                          refine aw_iconst (pc' := 15) (v := 0) (dt_X11_in 8 (14, .iconst 0, 1) rfl) (by decide) rfl (aw_iret (dt_X11_in 9 (15, .ireturn, 1) rfl) rfl rfl (aw_stk (st' := [.int 0]) rfl (aw_if_ne_F (pc' := 87) (tgt := 89) (dt_X11_ask 42 (84, .ifCond .ne 5, 3) rfl) (by decide) rfl (by decide) (aw_iconst (pc' := 88) (v := (-1)) (dt_X11_ask 43 (87, .iconst (-1), 1) rfl) (by decide) rfl (aw_iret (dt_X11_ask 44 (88, .ireturn, 1) rfl) rfl rfl ?_)))))
                          exact h
                        · intro q15
                          have h := h.2 q15
                          refine aw_iload_n (pc' := 6) (dt_X11_in 3 (5, .iload_n 0, 1) rfl) rfl rfl (aw_iload_n (pc' := 7) (dt_X11_in 4 (6, .iload_n 2, 1) rfl) rfl rfl (aw_icmp_gt (pc' := 10) (tgt := 14) (dt_X11_in 5 (7, .if_icmp .gt 7, 3) rfl) (by decide) rfl ?_ ?_))
                          · intro q16
                            have h := h.1 q16
                            refine aw_iconst (pc' := 15) (v := 0) (dt_X11_in 8 (14, .iconst 0, 1) rfl) (by decide) rfl (aw_iret (dt_X11_in 9 (15, .ireturn, 1) rfl) rfl rfl (aw_stk (st' := [.int 0]) rfl (aw_if_ne_F (pc' := 87) (tgt := 89) (dt_X11_ask 42 (84, .ifCond .ne 5, 3) rfl) (by decide) rfl (by decide) (aw_iconst (pc' := 88) (v := (-1)) (dt_X11_ask 43 (87, .iconst (-1), 1) rfl) (by decide) rfl (aw_iret (dt_X11_ask 44 (88, .ireturn, 1) rfl) rfl rfl ?_)))))
                            exact h
                          · intro q16
                            have h := h.2 q16
                            obtain ⟨g17, h⟩ := h
                            refine aw_iconst (pc' := 11) (v := 1) (dt_X11_in 6 (10, .iconst 1, 1) rfl) (by decide) rfl (aw_goto (tgt := 15) (dt_X11_in 7 (11, .goto 4, 3) rfl) (by decide) (aw_iret (dt_X11_in 9 (15, .ireturn, 1) rfl) rfl rfl (aw_stk (st' := [.int 1]) rfl (aw_if_ne_T (pc' := 87) (tgt := 89) (dt_X11_ask 42 (84, .ifCond .ne 5, 3) rfl) (by decide) rfl (by decide) (aw_aload_n (pc' := 90) (dt_X11_ask 45 (89, .aload_n 0, 1) rfl) rfl rfl (aw_getAs (pc' := 93) (dt_X11_ask 46 (90, .getfield 59, 3) rfl) fl_ReturnDeskModel_59 rfl rfl (sk_31 hS10) (sa_31_23 hS10) (aw_iload_n (pc' := 94) (dt_X11_ask 47 (93, .iload_n 1, 1) rfl) rfl rfl (aw_iald (pc' := 95) (dt_X11_ask 48 (94, .iaload, 1) rfl) rfl (sk_48 hS10) (vin_eq (sl_48 hS10) g17) (aw_if_eq (pc' := 98) (tgt := 101) (dt_X11_ask 49 (95, .ifCond .eq 6, 3) rfl) (by decide) rfl ?_ ?_)))))))))
                            · intro q18
                              have h := h.1 q18
                              refine aw_aload_n (pc' := 102) (dt_X11_ask 52 (101, .aload_n 0, 1) rfl) rfl rfl (aw_getI (pc' := 105) (dt_X11_ask 53 (102, .getfield 384, 3) rfl) fl_ReturnDeskModel_384 rfl rfl (sk_31 hS10) (aw_sipush (pc' := 108) (v := 200) (dt_X11_ask 54 (105, .sipush 200, 3) rfl) (by decide) rfl (aw_icmp_ne (pc' := 111) (tgt := 114) (dt_X11_ask 55 (108, .if_icmp .ne 6, 3) rfl) (by decide) rfl ?_ ?_)))
                              · intro q19
                                have h := h.1 q19
                                obtain ⟨g20, h⟩ := h
                                obtain ⟨g21, h⟩ := h
                                obtain ⟨g22, h⟩ := h
                                obtain ⟨g23, h⟩ := h
                                refine aw_aload_n (pc' := 115) (dt_X11_ask 58 (114, .aload_n 0, 1) rfl) rfl rfl (aw_getI (pc' := 118) (dt_X11_ask 59 (115, .getfield 384, 3) rfl) fl_ReturnDeskModel_384 rfl rfl (sk_31 hS10) (aw_istore (pc' := 120) (ls' := [some (.ref 31), some (.int x1), some (.int x2), some (.int x3), some (.int x4), some (.int x5), some (.int x6), some (.int (zI μ9 31 60)), none, none]) (dt_X11_ask 60 (118, .istore 7, 2) rfl) (by decide) rfl rfl (aw_aload_n (pc' := 121) (dt_X11_ask 61 (120, .aload_n 0, 1) rfl) rfl rfl (aw_getAs (pc' := 124) (dt_X11_ask 62 (121, .getfield 138, 3) rfl) fl_ReturnDeskModel_138 rfl rfl (sk_31 hS10) (sa_31_61 hS10) (aw_iload (pc' := 126) (dt_X11_ask 63 (124, .iload 7, 2) rfl) rfl rfl (aw_iload_n (pc' := 127) (dt_X11_ask 64 (126, .iload_n 1, 1) rfl) rfl rfl (aw_iast (pc' := 128) (dt_X11_ask 65 (127, .iastore, 1) rfl) rfl (sk_74 hS10) (by decide) (vin_eq (sl_74 hS10) g20) (aw_aload_n (pc' := 129) (dt_X11_ask 66 (128, .aload_n 0, 1) rfl) rfl rfl (aw_getAs (pc' := 132) (dt_X11_ask 67 (129, .getfield 141, 3) rfl) fl_ReturnDeskModel_141 rfl rfl (sk_31 hS10.wI) (sa_31_62 hS10.wI) (aw_iload (pc' := 134) (dt_X11_ask 68 (132, .iload 7, 2) rfl) rfl rfl (aw_iload_n (pc' := 135) (dt_X11_ask 69 (134, .iload_n 2, 1) rfl) rfl rfl (aw_iast (pc' := 136) (dt_X11_ask 70 (135, .iastore, 1) rfl) rfl (sk_75 hS10.wI) (by decide) (vin_eq (sl_75 hS10.wI) g21) (aw_aload_n (pc' := 137) (dt_X11_ask 71 (136, .aload_n 0, 1) rfl) rfl rfl (aw_getAs (pc' := 140) (dt_X11_ask 72 (137, .getfield 144, 3) rfl) fl_ReturnDeskModel_144 rfl rfl (sk_31 hS10.wI.wI) (sa_31_63 hS10.wI.wI) (aw_iload (pc' := 142) (dt_X11_ask 73 (140, .iload 7, 2) rfl) rfl rfl (aw_aload_n (pc' := 143) (dt_X11_ask 74 (142, .aload_n 0, 1) rfl) rfl rfl (aw_inV (pc' := 146) (nc1 := 0) (ns1 := 0) (nc := nc) (ns := ns) (ls' := [some (.ref 31)]) (y2 := mX11_today) (As := []) (rest := [.int (zI μ9 31 60), .ref 76]) (a := 31) (dt_X11_ask 75 (143, .invokevirtual 224, 3) rfl) ok_X11_today ln_ReturnDeskModel_224 im_X11_today se_X11_today pr_X11_today (Or.inl ⟨by decide, rfl⟩) rfl (Nat.le_of_ble_eq_true rfl) (Nat.le_of_ble_eq_true rfl) rfl rfl (sk_31 hS10.wI.wI) (aw_aload_n (pc' := 1) (dt_X11_today 0 (0, .aload_n 0, 1) rfl) rfl rfl (aw_getI (pc' := 4) (dt_X11_today 1 (1, .getfield 189, 3) rfl) fl_ReturnDeskModel_189 rfl rfl (sk_31 hS10.wI.wI) (aw_bipush (pc' := 6) (v := 24) (dt_X11_today 2 (4, .bipush 24, 2) rfl) (by decide) rfl (aw_idiv (pc' := 7) (dt_X11_today 3 (6, .idiv, 1) rfl) (by decide) rfl (aw_iret (dt_X11_today 4 (7, .ireturn, 1) rfl) rfl rfl (aw_stk (st' := [.int ((zI (sI (sI μ9 74 (zI μ9 31 60).toNatClampNeg x1) 75 (zI μ9 31 60).toNatClampNeg x2) 31 1) / 24), .int (zI μ9 31 60), .ref 76]) rfl (aw_iast (pc' := 147) (dt_X11_ask 76 (146, .iastore, 1) rfl) rfl (sk_76 hS10.wI.wI) (by decide) (vin_eq (sl_76 hS10.wI.wI) g22) (aw_aload_n (pc' := 148) (dt_X11_ask 77 (147, .aload_n 0, 1) rfl) rfl rfl (aw_inV (pc' := 151) (nc1 := 0) (ns1 := 0) (nc := nc) (ns := ns) (ls' := [some (.ref 31)]) (y2 := mX11_today) (As := []) (rest := []) (a := 31) (dt_X11_ask 78 (148, .invokevirtual 224, 3) rfl) ok_X11_today ln_ReturnDeskModel_224 im_X11_today se_X11_today pr_X11_today (Or.inl ⟨by decide, rfl⟩) rfl (Nat.le_of_ble_eq_true rfl) (Nat.le_of_ble_eq_true rfl) rfl rfl (sk_31 hS10.wI.wI.wI) (aw_aload_n (pc' := 1) (dt_X11_today 0 (0, .aload_n 0, 1) rfl) rfl rfl (aw_getI (pc' := 4) (dt_X11_today 1 (1, .getfield 189, 3) rfl) fl_ReturnDeskModel_189 rfl rfl (sk_31 hS10.wI.wI.wI) (aw_bipush (pc' := 6) (v := 24) (dt_X11_today 2 (4, .bipush 24, 2) rfl) (by decide) rfl (aw_idiv (pc' := 7) (dt_X11_today 3 (6, .idiv, 1) rfl) (by decide) rfl (aw_iret (dt_X11_today 4 (7, .ireturn, 1) rfl) rfl rfl (aw_stk (st' := [.int ((zI (sI (sI (sI μ9 74 (zI μ9 31 60).toNatClampNeg x1) 75 (zI μ9 31 60).toNatClampNeg x2) 76 (zI μ9 31 60).toNatClampNeg ((zI (sI (sI μ9 74 (zI μ9 31 60).toNatClampNeg x1) 75 (zI μ9 31 60).toNatClampNeg x2) 31 1) / 24)) 31 1) / 24)]) rfl (aw_aload_n (pc' := 152) (dt_X11_ask 79 (151, .aload_n 0, 1) rfl) rfl rfl (aw_iload_n (pc' := 153) (dt_X11_ask 80 (152, .iload_n 1, 1) rfl) rfl rfl (aw_inV (pc' := 156) (nc1 := 0) (ns1 := 0) (nc := nc) (ns := ns) (ls' := [some (.ref 31), some (.int x1)]) (y2 := mX11_dayOf) (As := [.int x1]) (rest := [.int ((zI (sI (sI (sI μ9 74 (zI μ9 31 60).toNatClampNeg x1) 75 (zI μ9 31 60).toNatClampNeg x2) 76 (zI μ9 31 60).toNatClampNeg ((zI (sI (sI μ9 74 (zI μ9 31 60).toNatClampNeg x1) 75 (zI μ9 31 60).toNatClampNeg x2) 31 1) / 24)) 31 1) / 24)]) (a := 31) (dt_X11_ask 81 (153, .invokevirtual 350, 3) rfl) ok_X11_dayOf ln_ReturnDeskModel_350 im_X11_dayOf se_X11_dayOf pr_X11_dayOf (Or.inl ⟨by decide, rfl⟩) rfl (Nat.le_of_ble_eq_true rfl) (Nat.le_of_ble_eq_true rfl) rfl rfl (sk_31 hS10.wI.wI.wI) (aw_aload_n (pc' := 1) (dt_X11_dayOf 0 (0, .aload_n 0, 1) rfl) rfl rfl (aw_getAs (pc' := 4) (dt_X11_dayOf 1 (1, .getfield 80, 3) rfl) fl_ReturnDeskModel_80 rfl rfl (sk_31 hS10.wI.wI.wI) (sa_31_30 hS10.wI.wI.wI) (aw_iload_n (pc' := 5) (dt_X11_dayOf 2 (4, .iload_n 1, 1) rfl) rfl rfl (aw_iald (pc' := 6) (dt_X11_dayOf 3 (5, .iaload, 1) rfl) rfl (sk_55 hS10.wI.wI.wI) (vin_eq (sl_55 hS10.wI.wI.wI) g23) (aw_bipush (pc' := 8) (v := 24) (dt_X11_dayOf 4 (6, .bipush 24, 2) rfl) (by decide) rfl (aw_idiv (pc' := 9) (dt_X11_dayOf 5 (8, .idiv, 1) rfl) (by decide) rfl (aw_iret (dt_X11_dayOf 6 (9, .ireturn, 1) rfl) rfl rfl (aw_stk (st' := [.int ((zI (sI (sI (sI μ9 74 (zI μ9 31 60).toNatClampNeg x1) 75 (zI μ9 31 60).toNatClampNeg x2) 76 (zI μ9 31 60).toNatClampNeg ((zI (sI (sI μ9 74 (zI μ9 31 60).toNatClampNeg x1) 75 (zI μ9 31 60).toNatClampNeg x2) 31 1) / 24)) 55 x1.toNatClampNeg) / 24), .int ((zI (sI (sI (sI μ9 74 (zI μ9 31 60).toNatClampNeg x1) 75 (zI μ9 31 60).toNatClampNeg x2) 76 (zI μ9 31 60).toNatClampNeg ((zI (sI (sI μ9 74 (zI μ9 31 60).toNatClampNeg x1) 75 (zI μ9 31 60).toNatClampNeg x2) 31 1) / 24)) 31 1) / 24)]) rfl (aw_isub (pc' := 157) (dt_X11_ask 82 (156, .isub, 1) rfl) rfl (aw_istore (pc' := 159) (ls' := [some (.ref 31), some (.int x1), some (.int x2), some (.int x3), some (.int x4), some (.int x5), some (.int x6), some (.int (zI μ9 31 60)), some (.int (((zI (sI (sI (sI μ9 74 (zI μ9 31 60).toNatClampNeg x1) 75 (zI μ9 31 60).toNatClampNeg x2) 76 (zI μ9 31 60).toNatClampNeg ((zI (sI (sI μ9 74 (zI μ9 31 60).toNatClampNeg x1) 75 (zI μ9 31 60).toNatClampNeg x2) 31 1) / 24)) 31 1) / 24) - ((zI (sI (sI (sI μ9 74 (zI μ9 31 60).toNatClampNeg x1) 75 (zI μ9 31 60).toNatClampNeg x2) 76 (zI μ9 31 60).toNatClampNeg ((zI (sI (sI μ9 74 (zI μ9 31 60).toNatClampNeg x1) 75 (zI μ9 31 60).toNatClampNeg x2) 31 1) / 24)) 55 x1.toNatClampNeg) / 24))), none]) (dt_X11_ask 83 (157, .istore 8, 2) rfl) (by decide) rfl rfl (aw_aload_n (pc' := 160) (dt_X11_ask 84 (159, .aload_n 0, 1) rfl) rfl rfl (aw_getAs (pc' := 163) (dt_X11_ask 85 (160, .getfield 147, 3) rfl) fl_ReturnDeskModel_147 rfl rfl (sk_31 hS10.wI.wI.wI) (sa_31_64 hS10.wI.wI.wI) (aw_iload (pc' := 165) (dt_X11_ask 86 (163, .iload 7, 2) rfl) rfl rfl (aw_iload_n (pc' := 166) (dt_X11_ask 87 (165, .iload_n 2, 1) rfl) rfl rfl (aw_if_le (pc' := 169) (tgt := 174) (dt_X11_ask 88 (166, .ifCond .le 8, 3) rfl) (by decide) rfl ?_ ?_))))))))))))))))))))))))))))))))))))))))))))))))))
                                · intro q24
                                  have h := h.1 q24
                                  refine aw_iload_n (pc' := 175) (dt_X11_ask 91 (174, .iload_n 3, 1) rfl) rfl rfl (aw_sipush (pc' := 178) (v := 1000) (dt_X11_ask 92 (175, .sipush 1000, 3) rfl) (by decide) rfl (aw_idiv (pc' := 179) (dt_X11_ask 93 (178, .idiv, 1) rfl) (by decide) rfl ?_))
                                  exact h
                                · intro q24
                                  have h := h.2 q24
                                  refine aw_iload (pc' := 171) (dt_X11_ask 89 (169, .iload 8, 2) rfl) rfl rfl (aw_goto (tgt := 179) (dt_X11_ask 90 (171, .goto 8, 3) rfl) (by decide) ?_)
                                  exact h
                              · intro q19
                                have h := h.2 q19
                                refine aw_bipush (pc' := 113) (v := (-3)) (dt_X11_ask 56 (111, .bipush (-3), 2) rfl) (by decide) rfl (aw_iret (dt_X11_ask 57 (113, .ireturn, 1) rfl) rfl rfl ?_)
                                exact h
                            · intro q18
                              have h := h.2 q18
                              refine aw_bipush (pc' := 100) (v := (-2)) (dt_X11_ask 50 (98, .bipush (-2), 2) rfl) (by decide) rfl (aw_iret (dt_X11_ask 51 (100, .ireturn, 1) rfl) rfl rfl ?_)
                              exact h

theorem t_X11_ask_179 {E : ZE} {l : Launch} {d nc ns : Nat} {x1 : Int32} {x2 : Int32} {x3 : Int32} {x4 : Int32} {x5 : Int32} {x6 : Int32} {x7 : Int32} {x8 : Int32} {y0 : Int32} {y1 : Int32} {μ : ZM} {K : Option Value → ZM → Prop} (hS : Stat μ) (h :
  (vp_in y1 200) ∧
  (x2 ≤ 0 →
    AW E l (d + 2) nc ns mX11_ask 200 [some (.ref 31), some (.int x1), none, none, some (.int x4), some (.int x5), some (.int x6), some (.int x7), none, none] [.int (x3 - x3 / 1000 * 1000), .int x7, .ref 78] (sI μ 77 y1.toNatClampNeg y0) K) ∧
  (¬ x2 ≤ 0 →
    AW E l (d + 2) nc ns mX11_ask 200 [some (.ref 31), some (.int x1), none, none, some (.int x4), some (.int x5), some (.int x6), some (.int x7), none, none] [.int x8, .int x7, .ref 78] (sI μ 77 y1.toNatClampNeg y0) K)) : AW E l (d + 2) nc ns mX11_ask 179 [some (.ref 31), some (.int x1), some (.int x2), some (.int x3), some (.int x4), some (.int x5), some (.int x6), some (.int x7), some (.int x8), none] [.int y0, .int y1, .ref 77] μ K := by
  obtain ⟨g1, h⟩ := h
  refine aw_iast (pc' := 180) (dt_X11_ask 94 (179, .iastore, 1) rfl) rfl (sk_77 hS) (by decide) (vin_eq (sl_77 hS) g1) (aw_aload_n (pc' := 181) (dt_X11_ask 95 (180, .aload_n 0, 1) rfl) rfl rfl (aw_getAs (pc' := 184) (dt_X11_ask 96 (181, .getfield 150, 3) rfl) fl_ReturnDeskModel_150 rfl rfl (sk_31 hS.wI) (sa_31_65 hS.wI) (aw_iload (pc' := 186) (dt_X11_ask 97 (184, .iload 7, 2) rfl) rfl rfl (aw_iload_n (pc' := 187) (dt_X11_ask 98 (186, .iload_n 2, 1) rfl) rfl rfl (aw_if_le (pc' := 190) (tgt := 195) (dt_X11_ask 99 (187, .ifCond .le 8, 3) rfl) (by decide) rfl ?_ ?_)))))
  · intro q2
    have h := h.1 q2
    refine aw_iload_n (pc' := 196) (dt_X11_ask 102 (195, .iload_n 3, 1) rfl) rfl rfl (aw_sipush (pc' := 199) (v := 1000) (dt_X11_ask 103 (196, .sipush 1000, 3) rfl) (by decide) rfl (aw_irem (pc' := 200) (dt_X11_ask 104 (199, .irem, 1) rfl) (by decide) rfl (aw_drop (ls' := [some (.ref 31), some (.int x1), none, none, some (.int x4), some (.int x5), some (.int x6), some (.int x7), none, none]) ⟨rfl, rfl, rfl, rfl, rfl, rfl, trivial⟩ ?_)))
    exact h
  · intro q2
    have h := h.2 q2
    refine aw_iload (pc' := 192) (dt_X11_ask 100 (190, .iload 8, 2) rfl) rfl rfl (aw_goto (tgt := 200) (dt_X11_ask 101 (192, .goto 8, 3) rfl) (by decide) (aw_drop (ls' := [some (.ref 31), some (.int x1), none, none, some (.int x4), some (.int x5), some (.int x6), some (.int x7), none, none]) ⟨rfl, rfl, rfl, rfl, rfl, rfl, trivial⟩ ?_))
    exact h

theorem t_X11_ask_200 {E : ZE} {l : Launch} {d nc ns : Nat} {x1 : Int32} {x4 : Int32} {x5 : Int32} {x6 : Int32} {x7 : Int32} {y0 : Int32} {y1 : Int32} {μ : ZM} {K : Option Value → ZM → Prop} (hS : Stat μ) (h :
  (vp_in y1 200) ∧
  (vp_in x7 200) ∧
  (vp_in x1 300) ∧
  (x5 = (zI (sI (sI μ 78 y1.toNatClampNeg y0) 79 x7.toNatClampNeg x4) 51 x1.toNatClampNeg) →
    AW E l (d + 2) nc ns mX11_ask 232 [some (.ref 31), some (.int x1), none, none, none, none, some (.int x6), some (.int x7), none, none] [.int 0, .int x7, .ref 80] (sI (sI μ 78 y1.toNatClampNeg y0) 79 x7.toNatClampNeg x4) K) ∧
  (¬ x5 = (zI (sI (sI μ 78 y1.toNatClampNeg y0) 79 x7.toNatClampNeg x4) 51 x1.toNatClampNeg) →
    AW E l (d + 2) nc ns mX11_ask 232 [some (.ref 31), some (.int x1), none, none, none, none, some (.int x6), some (.int x7), none, none] [.int 1, .int x7, .ref 80] (sI (sI μ 78 y1.toNatClampNeg y0) 79 x7.toNatClampNeg x4) K)) : AW E l (d + 2) nc ns mX11_ask 200 [some (.ref 31), some (.int x1), none, none, some (.int x4), some (.int x5), some (.int x6), some (.int x7), none, none] [.int y0, .int y1, .ref 78] μ K := by
  obtain ⟨g1, h⟩ := h
  obtain ⟨g2, h⟩ := h
  obtain ⟨g3, h⟩ := h
  refine aw_iast (pc' := 201) (dt_X11_ask 105 (200, .iastore, 1) rfl) rfl (sk_78 hS) (by decide) (vin_eq (sl_78 hS) g1) (aw_aload_n (pc' := 202) (dt_X11_ask 106 (201, .aload_n 0, 1) rfl) rfl rfl (aw_getAs (pc' := 205) (dt_X11_ask 107 (202, .getfield 153, 3) rfl) fl_ReturnDeskModel_153 rfl rfl (sk_31 hS.wI) (sa_31_66 hS.wI) (aw_iload (pc' := 207) (dt_X11_ask 108 (205, .iload 7, 2) rfl) rfl rfl (aw_iload (pc' := 209) (dt_X11_ask 109 (207, .iload 4, 2) rfl) rfl rfl (aw_iast (pc' := 210) (dt_X11_ask 110 (209, .iastore, 1) rfl) rfl (sk_79 hS.wI) (by decide) (vin_eq (sl_79 hS.wI) g2) (aw_aload_n (pc' := 211) (dt_X11_ask 111 (210, .aload_n 0, 1) rfl) rfl rfl (aw_getAs (pc' := 214) (dt_X11_ask 112 (211, .getfield 156, 3) rfl) fl_ReturnDeskModel_156 rfl rfl (sk_31 hS.wI.wI) (sa_31_67 hS.wI.wI) (aw_iload (pc' := 216) (dt_X11_ask 113 (214, .iload 7, 2) rfl) rfl rfl (aw_iload (pc' := 218) (dt_X11_ask 114 (216, .iload 5, 2) rfl) rfl rfl (aw_aload_n (pc' := 219) (dt_X11_ask 115 (218, .aload_n 0, 1) rfl) rfl rfl (aw_getAs (pc' := 222) (dt_X11_ask 116 (219, .getfield 68, 3) rfl) fl_ReturnDeskModel_68 rfl rfl (sk_31 hS.wI.wI) (sa_31_26 hS.wI.wI) (aw_iload_n (pc' := 223) (dt_X11_ask 117 (222, .iload_n 1, 1) rfl) rfl rfl (aw_iald (pc' := 224) (dt_X11_ask 118 (223, .iaload, 1) rfl) rfl (sk_51 hS.wI.wI) (vin_eq (sl_51 hS.wI.wI) g3) (aw_icmp_eq (pc' := 227) (tgt := 231) (dt_X11_ask 119 (224, .if_icmp .eq 7, 3) rfl) (by decide) rfl ?_ ?_))))))))))))))
  · intro q4
    have h := h.1 q4
    refine aw_iconst (pc' := 232) (v := 0) (dt_X11_ask 122 (231, .iconst 0, 1) rfl) (by decide) rfl (aw_drop (ls' := [some (.ref 31), some (.int x1), none, none, none, none, some (.int x6), some (.int x7), none, none]) ⟨rfl, rfl, rfl, rfl, trivial⟩ ?_)
    exact h
  · intro q4
    have h := h.2 q4
    refine aw_iconst (pc' := 228) (v := 1) (dt_X11_ask 120 (227, .iconst 1, 1) rfl) (by decide) rfl (aw_goto (tgt := 232) (dt_X11_ask 121 (228, .goto 4, 3) rfl) (by decide) (aw_drop (ls' := [some (.ref 31), some (.int x1), none, none, none, none, some (.int x6), some (.int x7), none, none]) ⟨rfl, rfl, rfl, rfl, trivial⟩ ?_))
    exact h

theorem t_X11_ask_232 {E : ZE} {l : Launch} {d nc ns : Nat} {x1 : Int32} {x6 : Int32} {x7 : Int32} {y0 : Int32} {y1 : Int32} {μ : ZM} {K : Option Value → ZM → Prop} (hS : Stat μ) (h :
  (vp_in y1 200) ∧
  (y0 = 0 ∨ y0 = 1) ∧
  (vp_in x1 300) ∧
  (vp_in (zI (sI μ 80 y1.toNatClampNeg y0) 49 x1.toNatClampNeg) 60) ∧
  (vp_in (zI (sI μ 80 y1.toNatClampNeg y0) 45 (zI (sI μ 80 y1.toNatClampNeg y0) 49 x1.toNatClampNeg).toNatClampNeg) 20) ∧
  (0 ≤ (x6 - (zI (sI μ 80 y1.toNatClampNeg y0) 33 (zI (sI μ 80 y1.toNatClampNeg y0) 45 (zI (sI μ 80 y1.toNatClampNeg y0) 49 x1.toNatClampNeg).toNatClampNeg).toNatClampNeg)) →
    AW E l (d + 2) nc ns mX11_ask 267 [some (.ref 31), some (.int x1), none, none, none, none, none, some (.int x7), none, none] [.int (x6 - (zI (sI μ 80 y1.toNatClampNeg y0) 33 (zI (sI μ 80 y1.toNatClampNeg y0) 45 (zI (sI μ 80 y1.toNatClampNeg y0) 49 x1.toNatClampNeg).toNatClampNeg).toNatClampNeg)), .int x7, .ref 81] (sI μ 80 y1.toNatClampNeg y0) K) ∧
  (¬ 0 ≤ (x6 - (zI (sI μ 80 y1.toNatClampNeg y0) 33 (zI (sI μ 80 y1.toNatClampNeg y0) 45 (zI (sI μ 80 y1.toNatClampNeg y0) 49 x1.toNatClampNeg).toNatClampNeg).toNatClampNeg)) →
    AW E l (d + 2) nc ns mX11_ask 267 [some (.ref 31), some (.int x1), none, none, none, none, none, some (.int x7), none, none] [.int (-(x6 - (zI (sI μ 80 y1.toNatClampNeg y0) 33 (zI (sI μ 80 y1.toNatClampNeg y0) 45 (zI (sI μ 80 y1.toNatClampNeg y0) 49 x1.toNatClampNeg).toNatClampNeg).toNatClampNeg))), .int x7, .ref 81] (sI μ 80 y1.toNatClampNeg y0) K)) : AW E l (d + 2) nc ns mX11_ask 232 [some (.ref 31), some (.int x1), none, none, none, none, some (.int x6), some (.int x7), none, none] [.int y0, .int y1, .ref 80] μ K := by
  obtain ⟨g1, h⟩ := h
  obtain ⟨g2, h⟩ := h
  obtain ⟨g3, h⟩ := h
  obtain ⟨g4, h⟩ := h
  obtain ⟨g5, h⟩ := h
  refine aw_zast (pc' := 233) (dt_X11_ask 123 (232, .bastore, 1) rfl) rfl (sk_80 hS) (by decide) (vin_eq (sl_80 hS) g1) g2 (aw_iload (pc' := 235) (dt_X11_ask 124 (233, .iload 6, 2) rfl) rfl rfl (aw_aload_n (pc' := 236) (dt_X11_ask 125 (235, .aload_n 0, 1) rfl) rfl rfl (aw_getAs (pc' := 239) (dt_X11_ask 126 (236, .getfield 13, 3) rfl) fl_ReturnDeskModel_13 rfl rfl (sk_31 hS.wI) (sa_31_5 hS.wI) (aw_aload_n (pc' := 240) (dt_X11_ask 127 (239, .aload_n 0, 1) rfl) rfl rfl (aw_iload_n (pc' := 241) (dt_X11_ask 128 (240, .iload_n 1, 1) rfl) rfl rfl (aw_inV (pc' := 244) (nc1 := 0) (ns1 := 0) (nc := nc) (ns := ns) (ls' := [some (.ref 31), some (.int x1)]) (y2 := mX11_modelOf) (As := [.int x1]) (rest := [.ref 33, .int x6]) (a := 31) (dt_X11_ask 129 (241, .invokevirtual 231, 3) rfl) ok_X11_modelOf ln_ReturnDeskModel_231 im_X11_modelOf se_X11_modelOf pr_X11_modelOf (Or.inl ⟨by decide, rfl⟩) rfl (Nat.le_of_ble_eq_true rfl) (Nat.le_of_ble_eq_true rfl) rfl rfl (sk_31 hS.wI) (aw_aload_n (pc' := 1) (dt_X11_modelOf 0 (0, .aload_n 0, 1) rfl) rfl rfl (aw_getAs (pc' := 4) (dt_X11_modelOf 1 (1, .getfield 50, 3) rfl) fl_ReturnDeskModel_50 rfl rfl (sk_31 hS.wI) (sa_31_19 hS.wI) (aw_aload_n (pc' := 5) (dt_X11_modelOf 2 (4, .aload_n 0, 1) rfl) rfl rfl (aw_getAs (pc' := 8) (dt_X11_modelOf 3 (5, .getfield 62, 3) rfl) fl_ReturnDeskModel_62 rfl rfl (sk_31 hS.wI) (sa_31_24 hS.wI) (aw_iload_n (pc' := 9) (dt_X11_modelOf 4 (8, .iload_n 1, 1) rfl) rfl rfl (aw_iald (pc' := 10) (dt_X11_modelOf 5 (9, .iaload, 1) rfl) rfl (sk_49 hS.wI) (vin_eq (sl_49 hS.wI) g3) (aw_iald (pc' := 11) (dt_X11_modelOf 6 (10, .iaload, 1) rfl) rfl (sk_45 hS.wI) (vin_eq (sl_45 hS.wI) g4) (aw_iret (dt_X11_modelOf 7 (11, .ireturn, 1) rfl) rfl rfl (aw_stk (st' := [.int (zI (sI μ 80 y1.toNatClampNeg y0) 45 (zI (sI μ 80 y1.toNatClampNeg y0) 49 x1.toNatClampNeg).toNatClampNeg), .ref 33, .int x6]) rfl (aw_iald (pc' := 245) (dt_X11_ask 130 (244, .iaload, 1) rfl) rfl (sk_33 hS.wI) (vin_eq (sl_33 hS.wI) g5) (aw_isub (pc' := 246) (dt_X11_ask 131 (245, .isub, 1) rfl) rfl (aw_istore (pc' := 248) (ls' := [some (.ref 31), some (.int x1), none, none, none, none, some (.int x6), some (.int x7), none, some (.int (x6 - (zI (sI μ 80 y1.toNatClampNeg y0) 33 (zI (sI μ 80 y1.toNatClampNeg y0) 45 (zI (sI μ 80 y1.toNatClampNeg y0) 49 x1.toNatClampNeg).toNatClampNeg).toNatClampNeg)))]) (dt_X11_ask 132 (246, .istore 9, 2) rfl) (by decide) rfl rfl (aw_aload_n (pc' := 249) (dt_X11_ask 133 (248, .aload_n 0, 1) rfl) rfl rfl (aw_getAs (pc' := 252) (dt_X11_ask 134 (249, .getfield 159, 3) rfl) fl_ReturnDeskModel_159 rfl rfl (sk_31 hS.wI) (sa_31_68 hS.wI) (aw_iload (pc' := 254) (dt_X11_ask 135 (252, .iload 7, 2) rfl) rfl rfl (aw_iload (pc' := 256) (dt_X11_ask 136 (254, .iload 9, 2) rfl) rfl rfl (aw_if_ge (pc' := 259) (tgt := 265) (dt_X11_ask 137 (256, .ifCond .ge 9, 3) rfl) (by decide) rfl ?_ ?_)))))))))))))))))))))))
  · intro q6
    have h := h.1 q6
    refine aw_iload (pc' := 267) (dt_X11_ask 141 (265, .iload 9, 2) rfl) rfl rfl (aw_drop (ls' := [some (.ref 31), some (.int x1), none, none, none, none, none, some (.int x7), none, none]) ⟨rfl, rfl, rfl, trivial⟩ ?_)
    exact h
  · intro q6
    have h := h.2 q6
    refine aw_iload (pc' := 261) (dt_X11_ask 138 (259, .iload 9, 2) rfl) rfl rfl (aw_ineg (pc' := 262) (dt_X11_ask 139 (261, .ineg, 1) rfl) rfl (aw_goto (tgt := 267) (dt_X11_ask 140 (262, .goto 5, 3) rfl) (by decide) (aw_drop (ls' := [some (.ref 31), some (.int x1), none, none, none, none, none, some (.int x7), none, none]) ⟨rfl, rfl, rfl, trivial⟩ ?_)))
    exact h

theorem t_X11_ask_267 {E : ZE} {l : Launch} {d nc ns : Nat} {x1 : Int32} {x7 : Int32} {y0 : Int32} {y1 : Int32} {μ : ZM} {K : Option Value → ZM → Prop} (hS : Stat μ) (h :
  (vp_in x1 300) ∧
  (vp_in (zI μ 49 x1.toNatClampNeg) 60) ∧
  (vp_in (zI μ 45 (zI μ 49 x1.toNatClampNeg).toNatClampNeg) 20) ∧
  (y0 ≤ ((zI μ 33 (zI μ 45 (zI μ 49 x1.toNatClampNeg).toNatClampNeg).toNatClampNeg) / 50) →
    AW E l (d + 2) nc ns mX11_ask 288 [some (.ref 31), some (.int x1), none, none, none, none, none, some (.int x7), none, none] [.int 0, .int y1, .ref 81] μ K) ∧
  (¬ y0 ≤ ((zI μ 33 (zI μ 45 (zI μ 49 x1.toNatClampNeg).toNatClampNeg).toNatClampNeg) / 50) →
    AW E l (d + 2) nc ns mX11_ask 288 [some (.ref 31), some (.int x1), none, none, none, none, none, some (.int x7), none, none] [.int 1, .int y1, .ref 81] μ K)) : AW E l (d + 2) nc ns mX11_ask 267 [some (.ref 31), some (.int x1), none, none, none, none, none, some (.int x7), none, none] [.int y0, .int y1, .ref 81] μ K := by
  obtain ⟨g1, h⟩ := h
  obtain ⟨g2, h⟩ := h
  obtain ⟨g3, h⟩ := h
  refine aw_aload_n (pc' := 268) (dt_X11_ask 142 (267, .aload_n 0, 1) rfl) rfl rfl (aw_getAs (pc' := 271) (dt_X11_ask 143 (268, .getfield 13, 3) rfl) fl_ReturnDeskModel_13 rfl rfl (sk_31 hS) (sa_31_5 hS) (aw_aload_n (pc' := 272) (dt_X11_ask 144 (271, .aload_n 0, 1) rfl) rfl rfl (aw_iload_n (pc' := 273) (dt_X11_ask 145 (272, .iload_n 1, 1) rfl) rfl rfl (aw_inV (pc' := 276) (nc1 := 0) (ns1 := 0) (nc := nc) (ns := ns) (ls' := [some (.ref 31), some (.int x1)]) (y2 := mX11_modelOf) (As := [.int x1]) (rest := [.ref 33, .int y0, .int y1, .ref 81]) (a := 31) (dt_X11_ask 146 (273, .invokevirtual 231, 3) rfl) ok_X11_modelOf ln_ReturnDeskModel_231 im_X11_modelOf se_X11_modelOf pr_X11_modelOf (Or.inl ⟨by decide, rfl⟩) rfl (Nat.le_of_ble_eq_true rfl) (Nat.le_of_ble_eq_true rfl) rfl rfl (sk_31 hS) (aw_aload_n (pc' := 1) (dt_X11_modelOf 0 (0, .aload_n 0, 1) rfl) rfl rfl (aw_getAs (pc' := 4) (dt_X11_modelOf 1 (1, .getfield 50, 3) rfl) fl_ReturnDeskModel_50 rfl rfl (sk_31 hS) (sa_31_19 hS) (aw_aload_n (pc' := 5) (dt_X11_modelOf 2 (4, .aload_n 0, 1) rfl) rfl rfl (aw_getAs (pc' := 8) (dt_X11_modelOf 3 (5, .getfield 62, 3) rfl) fl_ReturnDeskModel_62 rfl rfl (sk_31 hS) (sa_31_24 hS) (aw_iload_n (pc' := 9) (dt_X11_modelOf 4 (8, .iload_n 1, 1) rfl) rfl rfl (aw_iald (pc' := 10) (dt_X11_modelOf 5 (9, .iaload, 1) rfl) rfl (sk_49 hS) (vin_eq (sl_49 hS) g1) (aw_iald (pc' := 11) (dt_X11_modelOf 6 (10, .iaload, 1) rfl) rfl (sk_45 hS) (vin_eq (sl_45 hS) g2) (aw_iret (dt_X11_modelOf 7 (11, .ireturn, 1) rfl) rfl rfl (aw_stk (st' := [.int (zI μ 45 (zI μ 49 x1.toNatClampNeg).toNatClampNeg), .ref 33, .int y0, .int y1, .ref 81]) rfl (aw_iald (pc' := 277) (dt_X11_ask 147 (276, .iaload, 1) rfl) rfl (sk_33 hS) (vin_eq (sl_33 hS) g3) (aw_bipush (pc' := 279) (v := 50) (dt_X11_ask 148 (277, .bipush 50, 2) rfl) (by decide) rfl (aw_idiv (pc' := 280) (dt_X11_ask 149 (279, .idiv, 1) rfl) (by decide) rfl (aw_icmp_le (pc' := 283) (tgt := 287) (dt_X11_ask 150 (280, .if_icmp .le 7, 3) rfl) (by decide) rfl ?_ ?_)))))))))))))))))
  · intro q4
    have h := h.1 q4
    refine aw_iconst (pc' := 288) (v := 0) (dt_X11_ask 153 (287, .iconst 0, 1) rfl) (by decide) rfl ?_
    exact h
  · intro q4
    have h := h.2 q4
    refine aw_iconst (pc' := 284) (v := 1) (dt_X11_ask 151 (283, .iconst 1, 1) rfl) (by decide) rfl (aw_goto (tgt := 288) (dt_X11_ask 152 (284, .goto 4, 3) rfl) (by decide) ?_)
    exact h

theorem t_X11_ask_288 {E : ZE} {l : Launch} {d nc ns : Nat} {x1 : Int32} {x7 : Int32} {y0 : Int32} {y1 : Int32} {μ : ZM} {K : Option Value → ZM → Prop} (hS : Stat μ) (h :
  (vp_in y1 200) ∧
  (y0 = 0 ∨ y0 = 1) ∧
  (vp_in x7 200) ∧
  (vp_in x1 300) ∧
  K (some (.int x7)) (sI (sI (sI (sI μ 81 y1.toNatClampNeg y0) 84 x7.toNatClampNeg (-1)) 48 x1.toNatClampNeg 1) 31 60 ((zI (sI (sI (sI μ 81 y1.toNatClampNeg y0) 84 x7.toNatClampNeg (-1)) 48 x1.toNatClampNeg 1) 31 60) + 1))) : AW E l (d + 2) nc ns mX11_ask 288 [some (.ref 31), some (.int x1), none, none, none, none, none, some (.int x7), none, none] [.int y0, .int y1, .ref 81] μ K := by
  obtain ⟨g1, h⟩ := h
  obtain ⟨g2, h⟩ := h
  obtain ⟨g3, h⟩ := h
  obtain ⟨g4, h⟩ := h
  refine aw_zast (pc' := 289) (dt_X11_ask 154 (288, .bastore, 1) rfl) rfl (sk_81 hS) (by decide) (vin_eq (sl_81 hS) g1) g2 (aw_aload_n (pc' := 290) (dt_X11_ask 155 (289, .aload_n 0, 1) rfl) rfl rfl (aw_getAs (pc' := 293) (dt_X11_ask 156 (290, .getfield 168, 3) rfl) fl_ReturnDeskModel_168 rfl rfl (sk_31 hS.wI) (sa_31_71 hS.wI) (aw_iload (pc' := 295) (dt_X11_ask 157 (293, .iload 7, 2) rfl) rfl rfl (aw_iconst (pc' := 296) (v := (-1)) (dt_X11_ask 158 (295, .iconst (-1), 1) rfl) (by decide) rfl (aw_iast (pc' := 297) (dt_X11_ask 159 (296, .iastore, 1) rfl) rfl (sk_84 hS.wI) (by decide) (vin_eq (sl_84 hS.wI) g3) (aw_aload_n (pc' := 298) (dt_X11_ask 160 (297, .aload_n 0, 1) rfl) rfl rfl (aw_getAs (pc' := 301) (dt_X11_ask 161 (298, .getfield 59, 3) rfl) fl_ReturnDeskModel_59 rfl rfl (sk_31 hS.wI.wI) (sa_31_23 hS.wI.wI) (aw_iload_n (pc' := 302) (dt_X11_ask 162 (301, .iload_n 1, 1) rfl) rfl rfl (aw_iconst (pc' := 303) (v := 1) (dt_X11_ask 163 (302, .iconst 1, 1) rfl) (by decide) rfl (aw_iast (pc' := 304) (dt_X11_ask 164 (303, .iastore, 1) rfl) rfl (sk_48 hS.wI.wI) (by decide) (vin_eq (sl_48 hS.wI.wI) g4) (aw_aload_n (pc' := 305) (dt_X11_ask 165 (304, .aload_n 0, 1) rfl) rfl rfl (aw_dup (pc' := 306) (dt_X11_ask 166 (305, .dup, 1) rfl) rfl rfl (aw_getI (pc' := 309) (dt_X11_ask 167 (306, .getfield 384, 3) rfl) fl_ReturnDeskModel_384 rfl rfl (sk_31 hS.wI.wI.wI) (aw_iconst (pc' := 310) (v := 1) (dt_X11_ask 168 (309, .iconst 1, 1) rfl) (by decide) rfl (aw_iadd (pc' := 311) (dt_X11_ask 169 (310, .iadd, 1) rfl) rfl (aw_putI (pc' := 314) (dt_X11_ask 170 (311, .putfield 384, 3) rfl) fl_ReturnDeskModel_384 rfl (by decide +kernel) rfl (sk_31 hS.wI.wI.wI) (aw_iload (pc' := 316) (dt_X11_ask 171 (314, .iload 7, 2) rfl) rfl rfl (aw_iret (dt_X11_ask 172 (316, .ireturn, 1) rfl) rfl rfl ?_))))))))))))))))))
  exact h

theorem t_X11_find {E : ZE} {l : Launch} {d nc ns : Nat} {x1 : Int32} {x2 : Int32} {μ : ZM} {K : Option Value → ZM → Prop} (hS : Stat μ) (h :
  (vp_in x1 200) ∧
  (vp_in x1 200) ∧
  (vp_in x1 200) ∧
  (vp_in x1 200) ∧
  AW E l (d + 2) 0 0 mX11_factsOf 0 (zargs 4 [.ref 31, .int (zI μ 74 x1.toNatClampNeg), .int (zI (sI (sI μ 31 76 (-1)) 31 77 (-1)) 75 x1.toNatClampNeg), .int (zI (sI (sI μ 31 76 (-1)) 31 77 (-1)) 76 x1.toNatClampNeg)]) [] (sI (sI μ 31 76 (-1)) 31 77 (-1)) (fun v μ5 => v = none ∧ Stat μ5 ∧ 
    (vp_in x1 200) ∧
    AW E l (d + 3) nc ns mX11_find 50 [some (.ref 31), some (.int x1), some (.int x2), some (.int (zI μ 74 x1.toNatClampNeg)), some (.int (zI μ 79 x1.toNatClampNeg)), some (.int (zI μ5 77 x1.toNatClampNeg)), none, none, none, none, none, none, none] [] μ5 K)) : AW E l (d + 3) nc ns mX11_find 0 [some (.ref 31), some (.int x1), some (.int x2), none, none, none, none, none, none, none, none, none, none] [] μ K := by
  obtain ⟨g1, h⟩ := h
  obtain ⟨g2, h⟩ := h
  obtain ⟨g3, h⟩ := h
  obtain ⟨g4, h⟩ := h
  refine aw_aload_n (pc' := 1) (dt_X11_find 0 (0, .aload_n 0, 1) rfl) rfl rfl (aw_getAs (pc' := 4) (dt_X11_find 1 (1, .getfield 138, 3) rfl) fl_ReturnDeskModel_138 rfl rfl (sk_31 hS) (sa_31_61 hS) (aw_iload_n (pc' := 5) (dt_X11_find 2 (4, .iload_n 1, 1) rfl) rfl rfl (aw_iald (pc' := 6) (dt_X11_find 3 (5, .iaload, 1) rfl) rfl (sk_74 hS) (vin_eq (sl_74 hS) g1) (aw_istore_n (pc' := 7) (ls' := [some (.ref 31), some (.int x1), some (.int x2), some (.int (zI μ 74 x1.toNatClampNeg)), none, none, none, none, none, none, none, none, none]) (dt_X11_find 4 (6, .istore_n 3, 1) rfl) (by decide) rfl rfl (aw_aload_n (pc' := 8) (dt_X11_find 5 (7, .aload_n 0, 1) rfl) rfl rfl (aw_getAs (pc' := 11) (dt_X11_find 6 (8, .getfield 153, 3) rfl) fl_ReturnDeskModel_153 rfl rfl (sk_31 hS) (sa_31_66 hS) (aw_iload_n (pc' := 12) (dt_X11_find 7 (11, .iload_n 1, 1) rfl) rfl rfl (aw_iald (pc' := 13) (dt_X11_find 8 (12, .iaload, 1) rfl) rfl (sk_79 hS) (vin_eq (sl_79 hS) g2) (aw_istore (pc' := 15) (ls' := [some (.ref 31), some (.int x1), some (.int x2), some (.int (zI μ 74 x1.toNatClampNeg)), some (.int (zI μ 79 x1.toNatClampNeg)), none, none, none, none, none, none, none, none]) (dt_X11_find 9 (13, .istore 4, 2) rfl) (by decide) rfl rfl (aw_aload_n (pc' := 16) (dt_X11_find 10 (15, .aload_n 0, 1) rfl) rfl rfl (aw_iconst (pc' := 17) (v := (-1)) (dt_X11_find 11 (16, .iconst (-1), 1) rfl) (by decide) rfl (aw_putI (pc' := 20) (dt_X11_find 12 (17, .putfield 387, 3) rfl) fl_ReturnDeskModel_387 rfl (by decide +kernel) rfl (sk_31 hS) (aw_aload_n (pc' := 21) (dt_X11_find 13 (20, .aload_n 0, 1) rfl) rfl rfl (aw_iconst (pc' := 22) (v := (-1)) (dt_X11_find 14 (21, .iconst (-1), 1) rfl) (by decide) rfl (aw_putI (pc' := 25) (dt_X11_find 15 (22, .putfield 390, 3) rfl) fl_ReturnDeskModel_390 rfl (by decide +kernel) rfl (sk_31 hS.wI) (aw_aload_n (pc' := 26) (dt_X11_find 16 (25, .aload_n 0, 1) rfl) rfl rfl (aw_iload_n (pc' := 27) (dt_X11_find 17 (26, .iload_n 3, 1) rfl) rfl rfl (aw_aload_n (pc' := 28) (dt_X11_find 18 (27, .aload_n 0, 1) rfl) rfl rfl (aw_getAs (pc' := 31) (dt_X11_find 19 (28, .getfield 141, 3) rfl) fl_ReturnDeskModel_141 rfl rfl (sk_31 hS.wI.wI) (sa_31_62 hS.wI.wI) (aw_iload_n (pc' := 32) (dt_X11_find 20 (31, .iload_n 1, 1) rfl) rfl rfl (aw_iald (pc' := 33) (dt_X11_find 21 (32, .iaload, 1) rfl) rfl (sk_75 hS.wI.wI) (vin_eq (sl_75 hS.wI.wI) g3) (aw_aload_n (pc' := 34) (dt_X11_find 22 (33, .aload_n 0, 1) rfl) rfl rfl (aw_getAs (pc' := 37) (dt_X11_find 23 (34, .getfield 144, 3) rfl) fl_ReturnDeskModel_144 rfl rfl (sk_31 hS.wI.wI) (sa_31_63 hS.wI.wI) (aw_iload_n (pc' := 38) (dt_X11_find 24 (37, .iload_n 1, 1) rfl) rfl rfl (aw_iald (pc' := 39) (dt_X11_find 25 (38, .iaload, 1) rfl) rfl (sk_76 hS.wI.wI) (vin_eq (sl_76 hS.wI.wI) g4) (aw_callV0 (pc' := 42) (nc := nc) (ns := ns) (y2 := mX11_factsOf) (As := [.int (zI μ 74 x1.toNatClampNeg), .int (zI (sI (sI μ 31 76 (-1)) 31 77 (-1)) 75 x1.toNatClampNeg), .int (zI (sI (sI μ 31 76 (-1)) 31 77 (-1)) 76 x1.toNatClampNeg)]) (rest := []) (a := 31) (dt_X11_find 26 (39, .invokevirtual 367, 3) rfl) ok_X11_factsOf ln_ReturnDeskModel_367 im_X11_factsOf se_X11_factsOf pr_X11_factsOf (Or.inl ⟨by decide, rfl⟩) rfl (Nat.le_of_ble_eq_true rfl) (Nat.le_of_ble_eq_true rfl) rfl (sk_31 hS.wI.wI) h ?_))))))))))))))))))))))))))
  rintro v μ5 ⟨rfl, hS6, h⟩
  refine aw_stk (st' := []) rfl ?_
  obtain ⟨g7, h⟩ := h
  refine aw_aload_n (pc' := 43) (dt_X11_find 27 (42, .aload_n 0, 1) rfl) rfl rfl (aw_getAs (pc' := 46) (dt_X11_find 28 (43, .getfield 147, 3) rfl) fl_ReturnDeskModel_147 rfl rfl (sk_31 hS6) (sa_31_64 hS6) (aw_iload_n (pc' := 47) (dt_X11_find 29 (46, .iload_n 1, 1) rfl) rfl rfl (aw_iald (pc' := 48) (dt_X11_find 30 (47, .iaload, 1) rfl) rfl (sk_77 hS6) (vin_eq (sl_77 hS6) g7) (aw_istore (pc' := 50) (ls' := [some (.ref 31), some (.int x1), some (.int x2), some (.int (zI μ 74 x1.toNatClampNeg)), some (.int (zI μ 79 x1.toNatClampNeg)), some (.int (zI μ5 77 x1.toNatClampNeg)), none, none, none, none, none, none, none]) (dt_X11_find 31 (48, .istore 5, 2) rfl) (by decide) rfl rfl ?_))))
  exact h

theorem t_X11_find_50 {E : ZE} {l : Launch} {d nc ns : Nat} {x1 : Int32} {x2 : Int32} {x3 : Int32} {x4 : Int32} {x5 : Int32} {μ : ZM} {K : Option Value → ZM → Prop} (hS : Stat μ) (h :
  (vp_in x1 200) ∧
  ((zI μ 78 x1.toNatClampNeg) < x5 →
    K none μ) ∧
  (¬ (zI μ 78 x1.toNatClampNeg) < x5 →
    AW E l (d + 2) 0 0 mX11_digit 0 (zargs 4 [.int x4, .int 0]) [] μ (fun v μ3 => ∃ r5 : Int32, v = some (.int r5) ∧ Stat μ3 ∧ 
      AW E l (d + 3) nc ns mX11_find 69 [some (.ref 31), some (.int x1), some (.int x2), some (.int x3), some (.int x4), some (.int x5), some (.int r5), none, none, none, none, none, none] [] μ3 K))) : AW E l (d + 3) nc ns mX11_find 50 [some (.ref 31), some (.int x1), some (.int x2), some (.int x3), some (.int x4), some (.int x5), none, none, none, none, none, none, none] [] μ K := by
  obtain ⟨g1, h⟩ := h
  refine aw_iload (pc' := 52) (dt_X11_find 32 (50, .iload 5, 2) rfl) rfl rfl (aw_aload_n (pc' := 53) (dt_X11_find 33 (52, .aload_n 0, 1) rfl) rfl rfl (aw_getAs (pc' := 56) (dt_X11_find 34 (53, .getfield 150, 3) rfl) fl_ReturnDeskModel_150 rfl rfl (sk_31 hS) (sa_31_65 hS) (aw_iload_n (pc' := 57) (dt_X11_find 35 (56, .iload_n 1, 1) rfl) rfl rfl (aw_iald (pc' := 58) (dt_X11_find 36 (57, .iaload, 1) rfl) rfl (sk_78 hS) (vin_eq (sl_78 hS) g1) (aw_icmp_gt (pc' := 61) (tgt := 325) (dt_X11_find 37 (58, .if_icmp .gt 267, 3) rfl) (by decide) rfl ?_ ?_)))))
  · intro q2
    have h := h.1 q2
    refine aw_ret (dt_X11_find 172 (325, .return_, 1) rfl) rfl ?_
    exact h
  · intro q2
    have h := h.2 q2
    refine aw_iload (pc' := 63) (dt_X11_find 38 (61, .iload 4, 2) rfl) rfl rfl (aw_iconst (pc' := 64) (v := 0) (dt_X11_find 39 (63, .iconst 0, 1) rfl) (by decide) rfl (aw_callS0 (pc' := 67) (nc := nc) (ns := ns) (y2 := mX11_digit) (As := [.int x4, .int 0]) (rest := []) (dt_X11_find 40 (64, .invokestatic 377, 3) rfl) ok_X11_digit ln_ReturnDeskModel_377 sm_X11_digit pr_X11_digit rfl (Nat.le_of_ble_eq_true rfl) (Nat.le_of_ble_eq_true rfl) rfl  h ?_))
    rintro v μ3 ⟨r5, rfl, hS4, h⟩
    refine aw_stk (st' := [.int r5]) rfl ?_
    refine aw_istore (pc' := 69) (ls' := [some (.ref 31), some (.int x1), some (.int x2), some (.int x3), some (.int x4), some (.int x5), some (.int r5), none, none, none, none, none, none]) (dt_X11_find 41 (67, .istore 6, 2) rfl) (by decide) rfl rfl ?_
    exact h

theorem t_X11_find_69 {E : ZE} {l : Launch} {d nc ns : Nat} {x1 : Int32} {x2 : Int32} {x3 : Int32} {x4 : Int32} {x5 : Int32} {x6 : Int32} {μ : ZM} {K : Option Value → ZM → Prop} (hS : Stat μ) (h :
  AW E l (d + 2) 0 0 mX11_digit 0 (zargs 4 [.int x4, .int 1]) [] μ (fun v μ1 => ∃ r3 : Int32, v = some (.int r3) ∧ Stat μ1 ∧ 
    (r3 < x6 →
      AW E l (d + 3) nc ns mX11_find 50 [some (.ref 31), some (.int x1), some (.int x2), some (.int x3), some (.int x4), some (.int (x5 + 1)), none, none, none, none, none, none, none] [] μ1 K) ∧
    (¬ r3 < x6 →
      AW E l (d + 2) 0 0 mX11_digit 0 (zargs 4 [.int x4, .int 2]) [] μ1 (fun v μ5 => ∃ r7 : Int32, v = some (.int r7) ∧ Stat μ5 ∧ 
        AW E l (d + 3) nc ns mX11_find 88 [some (.ref 31), some (.int x1), some (.int x2), some (.int x3), some (.int x4), some (.int x5), some (.int x6), some (.int r7), none, none, none, none, none] [] μ5 K)))) : AW E l (d + 3) nc ns mX11_find 69 [some (.ref 31), some (.int x1), some (.int x2), some (.int x3), some (.int x4), some (.int x5), some (.int x6), none, none, none, none, none, none] [] μ K := by
  refine aw_iload (pc' := 71) (dt_X11_find 42 (69, .iload 6, 2) rfl) rfl rfl (aw_iload (pc' := 73) (dt_X11_find 43 (71, .iload 4, 2) rfl) rfl rfl (aw_iconst (pc' := 74) (v := 1) (dt_X11_find 44 (73, .iconst 1, 1) rfl) (by decide) rfl (aw_callS0 (pc' := 77) (nc := nc) (ns := ns) (y2 := mX11_digit) (As := [.int x4, .int 1]) (rest := [.int x6]) (dt_X11_find 45 (74, .invokestatic 377, 3) rfl) ok_X11_digit ln_ReturnDeskModel_377 sm_X11_digit pr_X11_digit rfl (Nat.le_of_ble_eq_true rfl) (Nat.le_of_ble_eq_true rfl) rfl  h ?_)))
  rintro v μ1 ⟨r3, rfl, hS2, h⟩
  refine aw_stk (st' := [.int r3, .int x6]) rfl ?_
  refine aw_icmp_gt (pc' := 80) (tgt := 319) (dt_X11_find 46 (77, .if_icmp .gt 242, 3) rfl) (by decide) rfl ?_ ?_
  · intro q4
    have h := h.1 q4
    refine aw_iinc (pc' := 322) (v := 1) (ls' := [some (.ref 31), some (.int x1), some (.int x2), some (.int x3), some (.int x4), some (.int (x5 + 1)), some (.int x6), none, none, none, none, none, none]) (dt_X11_find 170 (319, .iinc 5 1, 3) rfl) rfl (by decide) (by decide) rfl rfl (aw_goto (tgt := 50) (dt_X11_find 171 (322, .goto (-272), 3) rfl) (by decide) (aw_drop (ls' := [some (.ref 31), some (.int x1), some (.int x2), some (.int x3), some (.int x4), some (.int (x5 + 1)), none, none, none, none, none, none, none]) ⟨rfl, rfl, rfl, rfl, rfl, rfl, trivial⟩ ?_))
    exact h
  · intro q4
    have h := h.2 q4
    refine aw_iload (pc' := 82) (dt_X11_find 47 (80, .iload 4, 2) rfl) rfl rfl (aw_iconst (pc' := 83) (v := 2) (dt_X11_find 48 (82, .iconst 2, 1) rfl) (by decide) rfl (aw_callS0 (pc' := 86) (nc := nc) (ns := ns) (y2 := mX11_digit) (As := [.int x4, .int 2]) (rest := []) (dt_X11_find 49 (83, .invokestatic 377, 3) rfl) ok_X11_digit ln_ReturnDeskModel_377 sm_X11_digit pr_X11_digit rfl (Nat.le_of_ble_eq_true rfl) (Nat.le_of_ble_eq_true rfl) rfl  h ?_))
    rintro v μ5 ⟨r7, rfl, hS6, h⟩
    refine aw_stk (st' := [.int r7]) rfl ?_
    refine aw_istore (pc' := 88) (ls' := [some (.ref 31), some (.int x1), some (.int x2), some (.int x3), some (.int x4), some (.int x5), some (.int x6), some (.int r7), none, none, none, none, none]) (dt_X11_find 50 (86, .istore 7, 2) rfl) (by decide) rfl rfl ?_
    exact h

theorem t_X11_find_88 {E : ZE} {l : Launch} {d nc ns : Nat} {x1 : Int32} {x2 : Int32} {x3 : Int32} {x4 : Int32} {x5 : Int32} {x6 : Int32} {x7 : Int32} {μ : ZM} {K : Option Value → ZM → Prop} (hS : Stat μ) (h :
  AW E l (d + 2) 0 0 mX11_digit 0 (zargs 4 [.int x4, .int 3]) [] μ (fun v μ1 => ∃ r3 : Int32, v = some (.int r3) ∧ Stat μ1 ∧ 
    (r3 < x7 →
      AW E l (d + 3) nc ns mX11_find 69 [some (.ref 31), some (.int x1), some (.int x2), some (.int x3), some (.int x4), some (.int x5), some (.int (x6 + 1)), none, none, none, none, none, none] [] μ1 K) ∧
    (¬ r3 < x7 →
      AW E l (d + 2) 0 0 mX11_digit 0 (zargs 4 [.int x4, .int 4]) [] μ1 (fun v μ5 => ∃ r7 : Int32, v = some (.int r7) ∧ Stat μ5 ∧ 
        AW E l (d + 3) nc ns mX11_find 107 [some (.ref 31), some (.int x1), some (.int x2), some (.int x3), some (.int x4), some (.int x5), some (.int x6), some (.int x7), some (.int r7), none, none, none, none] [] μ5 K)))) : AW E l (d + 3) nc ns mX11_find 88 [some (.ref 31), some (.int x1), some (.int x2), some (.int x3), some (.int x4), some (.int x5), some (.int x6), some (.int x7), none, none, none, none, none] [] μ K := by
  refine aw_iload (pc' := 90) (dt_X11_find 51 (88, .iload 7, 2) rfl) rfl rfl (aw_iload (pc' := 92) (dt_X11_find 52 (90, .iload 4, 2) rfl) rfl rfl (aw_iconst (pc' := 93) (v := 3) (dt_X11_find 53 (92, .iconst 3, 1) rfl) (by decide) rfl (aw_callS0 (pc' := 96) (nc := nc) (ns := ns) (y2 := mX11_digit) (As := [.int x4, .int 3]) (rest := [.int x7]) (dt_X11_find 54 (93, .invokestatic 377, 3) rfl) ok_X11_digit ln_ReturnDeskModel_377 sm_X11_digit pr_X11_digit rfl (Nat.le_of_ble_eq_true rfl) (Nat.le_of_ble_eq_true rfl) rfl  h ?_)))
  rintro v μ1 ⟨r3, rfl, hS2, h⟩
  refine aw_stk (st' := [.int r3, .int x7]) rfl ?_
  refine aw_icmp_gt (pc' := 99) (tgt := 313) (dt_X11_find 55 (96, .if_icmp .gt 217, 3) rfl) (by decide) rfl ?_ ?_
  · intro q4
    have h := h.1 q4
    refine aw_iinc (pc' := 316) (v := 1) (ls' := [some (.ref 31), some (.int x1), some (.int x2), some (.int x3), some (.int x4), some (.int x5), some (.int (x6 + 1)), some (.int x7), none, none, none, none, none]) (dt_X11_find 168 (313, .iinc 6 1, 3) rfl) rfl (by decide) (by decide) rfl rfl (aw_goto (tgt := 69) (dt_X11_find 169 (316, .goto (-247), 3) rfl) (by decide) (aw_drop (ls' := [some (.ref 31), some (.int x1), some (.int x2), some (.int x3), some (.int x4), some (.int x5), some (.int (x6 + 1)), none, none, none, none, none, none]) ⟨rfl, rfl, rfl, rfl, rfl, rfl, rfl, trivial⟩ ?_))
    exact h
  · intro q4
    have h := h.2 q4
    refine aw_iload (pc' := 101) (dt_X11_find 56 (99, .iload 4, 2) rfl) rfl rfl (aw_iconst (pc' := 102) (v := 4) (dt_X11_find 57 (101, .iconst 4, 1) rfl) (by decide) rfl (aw_callS0 (pc' := 105) (nc := nc) (ns := ns) (y2 := mX11_digit) (As := [.int x4, .int 4]) (rest := []) (dt_X11_find 58 (102, .invokestatic 377, 3) rfl) ok_X11_digit ln_ReturnDeskModel_377 sm_X11_digit pr_X11_digit rfl (Nat.le_of_ble_eq_true rfl) (Nat.le_of_ble_eq_true rfl) rfl  h ?_))
    rintro v μ5 ⟨r7, rfl, hS6, h⟩
    refine aw_stk (st' := [.int r7]) rfl ?_
    refine aw_istore (pc' := 107) (ls' := [some (.ref 31), some (.int x1), some (.int x2), some (.int x3), some (.int x4), some (.int x5), some (.int x6), some (.int x7), some (.int r7), none, none, none, none]) (dt_X11_find 59 (105, .istore 8, 2) rfl) (by decide) rfl rfl ?_
    exact h

theorem t_X11_find_107 {E : ZE} {l : Launch} {d nc ns : Nat} {x1 : Int32} {x2 : Int32} {x3 : Int32} {x4 : Int32} {x5 : Int32} {x6 : Int32} {x7 : Int32} {x8 : Int32} {μ : ZM} {K : Option Value → ZM → Prop} (hS : Stat μ) (h :
  AW E l (d + 2) 0 0 mX11_digit 0 (zargs 4 [.int x4, .int 5]) [] μ (fun v μ1 => ∃ r3 : Int32, v = some (.int r3) ∧ Stat μ1 ∧ 
    (r3 < x8 →
      AW E l (d + 3) nc ns mX11_find 88 [some (.ref 31), some (.int x1), some (.int x2), some (.int x3), some (.int x4), some (.int x5), some (.int x6), some (.int (x7 + 1)), none, none, none, none, none] [] μ1 K) ∧
    (¬ r3 < x8 →
      AW E l (d + 2) 0 0 mX11_sideSays 0 (zargs 5 [.ref 31, .int 0, .int x3, .int x2]) [] (sI (sI (sI (sI μ1 72 0 x5) 72 1 x6) 72 2 x7) 72 3 x8) (fun v μ5 => ∃ r7 : Int32, v = some (.int r7) ∧ Stat μ5 ∧ 
        AW E l (d + 2) 0 0 mX11_sideSays 0 (zargs 5 [.ref 31, .int 1, .int x3, .int x2]) [] μ5 (fun v μ8 => ∃ r10 : Int32, v = some (.int r10) ∧ Stat μ8 ∧ 
          (vp_in x3 300) ∧
          AW E l (d + 2) 0 0 mX11_worthOf 0 (zargs 4 [.int r10, .int (zI μ8 56 x3.toNatClampNeg)]) [] μ8 (fun v μ12 => ∃ r14 : Int32, v = some (.int r14) ∧ Stat μ12 ∧ 
            (vp_in x3 300) ∧
            AW E l (d + 2) 0 0 mX11_worthOf 0 (zargs 4 [.int r7, .int (zI μ12 56 x3.toNatClampNeg)]) [] μ12 (fun v μ16 => ∃ r18 : Int32, v = some (.int r18) ∧ Stat μ16 ∧ 
              (r14 ≤ r18 →
                AW E l (d + 3) nc ns mX11_find 198 [some (.ref 31), some (.int x1), some (.int x2), some (.int x3), some (.int x4), some (.int x5), some (.int x6), some (.int x7), some (.int x8), some (.int r7), some (.int r10), none, none] [.int 0] μ16 K) ∧
              (¬ r14 ≤ r18 →
                AW E l (d + 3) nc ns mX11_find 198 [some (.ref 31), some (.int x1), some (.int x2), some (.int x3), some (.int x4), some (.int x5), some (.int x6), some (.int x7), some (.int x8), some (.int r7), some (.int r10), none, none] [.int 1] μ16 K)))))))) : AW E l (d + 3) nc ns mX11_find 107 [some (.ref 31), some (.int x1), some (.int x2), some (.int x3), some (.int x4), some (.int x5), some (.int x6), some (.int x7), some (.int x8), none, none, none, none] [] μ K := by
  refine aw_iload (pc' := 109) (dt_X11_find 60 (107, .iload 8, 2) rfl) rfl rfl (aw_iload (pc' := 111) (dt_X11_find 61 (109, .iload 4, 2) rfl) rfl rfl (aw_iconst (pc' := 112) (v := 5) (dt_X11_find 62 (111, .iconst 5, 1) rfl) (by decide) rfl (aw_callS0 (pc' := 115) (nc := nc) (ns := ns) (y2 := mX11_digit) (As := [.int x4, .int 5]) (rest := [.int x8]) (dt_X11_find 63 (112, .invokestatic 377, 3) rfl) ok_X11_digit ln_ReturnDeskModel_377 sm_X11_digit pr_X11_digit rfl (Nat.le_of_ble_eq_true rfl) (Nat.le_of_ble_eq_true rfl) rfl  h ?_)))
  rintro v μ1 ⟨r3, rfl, hS2, h⟩
  refine aw_stk (st' := [.int r3, .int x8]) rfl ?_
  refine aw_icmp_gt (pc' := 118) (tgt := 307) (dt_X11_find 64 (115, .if_icmp .gt 192, 3) rfl) (by decide) rfl ?_ ?_
  · intro q4
    have h := h.1 q4
    refine aw_iinc (pc' := 310) (v := 1) (ls' := [some (.ref 31), some (.int x1), some (.int x2), some (.int x3), some (.int x4), some (.int x5), some (.int x6), some (.int (x7 + 1)), some (.int x8), none, none, none, none]) (dt_X11_find 166 (307, .iinc 7 1, 3) rfl) rfl (by decide) (by decide) rfl rfl (aw_goto (tgt := 88) (dt_X11_find 167 (310, .goto (-222), 3) rfl) (by decide) (aw_drop (ls' := [some (.ref 31), some (.int x1), some (.int x2), some (.int x3), some (.int x4), some (.int x5), some (.int x6), some (.int (x7 + 1)), none, none, none, none, none]) ⟨rfl, rfl, rfl, rfl, rfl, rfl, rfl, rfl, trivial⟩ ?_))
    exact h
  · intro q4
    have h := h.2 q4
    refine aw_aload_n (pc' := 119) (dt_X11_find 65 (118, .aload_n 0, 1) rfl) rfl rfl (aw_getAs (pc' := 122) (dt_X11_find 66 (119, .getfield 132, 3) rfl) fl_ReturnDeskModel_132 rfl rfl (sk_31 hS2) (sa_31_58 hS2) (aw_iconst (pc' := 123) (v := 0) (dt_X11_find 67 (122, .iconst 0, 1) rfl) (by decide) rfl (aw_iload (pc' := 125) (dt_X11_find 68 (123, .iload 5, 2) rfl) rfl rfl (aw_iast (pc' := 126) (dt_X11_find 69 (125, .iastore, 1) rfl) rfl (sk_72 hS2) (by decide) (vin_eq (sl_72 hS2) (vlit (by decide))) (aw_aload_n (pc' := 127) (dt_X11_find 70 (126, .aload_n 0, 1) rfl) rfl rfl (aw_getAs (pc' := 130) (dt_X11_find 71 (127, .getfield 132, 3) rfl) fl_ReturnDeskModel_132 rfl rfl (sk_31 hS2.wI) (sa_31_58 hS2.wI) (aw_iconst (pc' := 131) (v := 1) (dt_X11_find 72 (130, .iconst 1, 1) rfl) (by decide) rfl (aw_iload (pc' := 133) (dt_X11_find 73 (131, .iload 6, 2) rfl) rfl rfl (aw_iast (pc' := 134) (dt_X11_find 74 (133, .iastore, 1) rfl) rfl (sk_72 hS2.wI) (by decide) (vin_eq (sl_72 hS2.wI) (vlit (by decide))) (aw_aload_n (pc' := 135) (dt_X11_find 75 (134, .aload_n 0, 1) rfl) rfl rfl (aw_getAs (pc' := 138) (dt_X11_find 76 (135, .getfield 132, 3) rfl) fl_ReturnDeskModel_132 rfl rfl (sk_31 hS2.wI.wI) (sa_31_58 hS2.wI.wI) (aw_iconst (pc' := 139) (v := 2) (dt_X11_find 77 (138, .iconst 2, 1) rfl) (by decide) rfl (aw_iload (pc' := 141) (dt_X11_find 78 (139, .iload 7, 2) rfl) rfl rfl (aw_iast (pc' := 142) (dt_X11_find 79 (141, .iastore, 1) rfl) rfl (sk_72 hS2.wI.wI) (by decide) (vin_eq (sl_72 hS2.wI.wI) (vlit (by decide))) (aw_aload_n (pc' := 143) (dt_X11_find 80 (142, .aload_n 0, 1) rfl) rfl rfl (aw_getAs (pc' := 146) (dt_X11_find 81 (143, .getfield 132, 3) rfl) fl_ReturnDeskModel_132 rfl rfl (sk_31 hS2.wI.wI.wI) (sa_31_58 hS2.wI.wI.wI) (aw_iconst (pc' := 147) (v := 3) (dt_X11_find 82 (146, .iconst 3, 1) rfl) (by decide) rfl (aw_iload (pc' := 149) (dt_X11_find 83 (147, .iload 8, 2) rfl) rfl rfl (aw_iast (pc' := 150) (dt_X11_find 84 (149, .iastore, 1) rfl) rfl (sk_72 hS2.wI.wI.wI) (by decide) (vin_eq (sl_72 hS2.wI.wI.wI) (vlit (by decide))) (aw_aload_n (pc' := 151) (dt_X11_find 85 (150, .aload_n 0, 1) rfl) rfl rfl (aw_iconst (pc' := 152) (v := 0) (dt_X11_find 86 (151, .iconst 0, 1) rfl) (by decide) rfl (aw_iload_n (pc' := 153) (dt_X11_find 87 (152, .iload_n 3, 1) rfl) rfl rfl (aw_iload_n (pc' := 154) (dt_X11_find 88 (153, .iload_n 2, 1) rfl) rfl rfl (aw_callV0 (pc' := 157) (nc := nc) (ns := ns) (y2 := mX11_sideSays) (As := [.int 0, .int x3, .int x2]) (rest := []) (a := 31) (dt_X11_find 89 (154, .invokevirtual 371, 3) rfl) ok_X11_sideSays ln_ReturnDeskModel_371 im_X11_sideSays se_X11_sideSays pr_X11_sideSays (Or.inl ⟨by decide, rfl⟩) rfl (Nat.le_of_ble_eq_true rfl) (Nat.le_of_ble_eq_true rfl) rfl (sk_31 hS2.wI.wI.wI.wI) h ?_))))))))))))))))))))))))
    rintro v μ5 ⟨r7, rfl, hS6, h⟩
    refine aw_stk (st' := [.int r7]) rfl ?_
    refine aw_istore (pc' := 159) (ls' := [some (.ref 31), some (.int x1), some (.int x2), some (.int x3), some (.int x4), some (.int x5), some (.int x6), some (.int x7), some (.int x8), some (.int r7), none, none, none]) (dt_X11_find 90 (157, .istore 9, 2) rfl) (by decide) rfl rfl (aw_aload_n (pc' := 160) (dt_X11_find 91 (159, .aload_n 0, 1) rfl) rfl rfl (aw_iconst (pc' := 161) (v := 1) (dt_X11_find 92 (160, .iconst 1, 1) rfl) (by decide) rfl (aw_iload_n (pc' := 162) (dt_X11_find 93 (161, .iload_n 3, 1) rfl) rfl rfl (aw_iload_n (pc' := 163) (dt_X11_find 94 (162, .iload_n 2, 1) rfl) rfl rfl (aw_callV0 (pc' := 166) (nc := nc) (ns := ns) (y2 := mX11_sideSays) (As := [.int 1, .int x3, .int x2]) (rest := []) (a := 31) (dt_X11_find 95 (163, .invokevirtual 371, 3) rfl) ok_X11_sideSays ln_ReturnDeskModel_371 im_X11_sideSays se_X11_sideSays pr_X11_sideSays (Or.inl ⟨by decide, rfl⟩) rfl (Nat.le_of_ble_eq_true rfl) (Nat.le_of_ble_eq_true rfl) rfl (sk_31 hS6) h ?_)))))
    rintro v μ8 ⟨r10, rfl, hS9, h⟩
    refine aw_stk (st' := [.int r10]) rfl ?_
    obtain ⟨g11, h⟩ := h
    refine aw_istore (pc' := 168) (ls' := [some (.ref 31), some (.int x1), some (.int x2), some (.int x3), some (.int x4), some (.int x5), some (.int x6), some (.int x7), some (.int x8), some (.int r7), some (.int r10), none, none]) (dt_X11_find 96 (166, .istore 10, 2) rfl) (by decide) rfl rfl (aw_iload (pc' := 170) (dt_X11_find 97 (168, .iload 10, 2) rfl) rfl rfl (aw_aload_n (pc' := 171) (dt_X11_find 98 (170, .aload_n 0, 1) rfl) rfl rfl (aw_getAs (pc' := 174) (dt_X11_find 99 (171, .getfield 83, 3) rfl) fl_ReturnDeskModel_83 rfl rfl (sk_31 hS9) (sa_31_31 hS9) (aw_iload_n (pc' := 175) (dt_X11_find 100 (174, .iload_n 3, 1) rfl) rfl rfl (aw_iald (pc' := 176) (dt_X11_find 101 (175, .iaload, 1) rfl) rfl (sk_56 hS9) (vin_eq (sl_56 hS9) g11) (aw_callS0 (pc' := 179) (nc := nc) (ns := ns) (y2 := mX11_worthOf) (As := [.int r10, .int (zI μ8 56 x3.toNatClampNeg)]) (rest := []) (dt_X11_find 102 (176, .invokestatic 393, 3) rfl) ok_X11_worthOf ln_ReturnDeskModel_393 sm_X11_worthOf pr_X11_worthOf rfl (Nat.le_of_ble_eq_true rfl) (Nat.le_of_ble_eq_true rfl) rfl  h ?_))))))
    rintro v μ12 ⟨r14, rfl, hS13, h⟩
    refine aw_stk (st' := [.int r14]) rfl ?_
    obtain ⟨g15, h⟩ := h
    refine aw_iload (pc' := 181) (dt_X11_find 103 (179, .iload 9, 2) rfl) rfl rfl (aw_aload_n (pc' := 182) (dt_X11_find 104 (181, .aload_n 0, 1) rfl) rfl rfl (aw_getAs (pc' := 185) (dt_X11_find 105 (182, .getfield 83, 3) rfl) fl_ReturnDeskModel_83 rfl rfl (sk_31 hS13) (sa_31_31 hS13) (aw_iload_n (pc' := 186) (dt_X11_find 106 (185, .iload_n 3, 1) rfl) rfl rfl (aw_iald (pc' := 187) (dt_X11_find 107 (186, .iaload, 1) rfl) rfl (sk_56 hS13) (vin_eq (sl_56 hS13) g15) (aw_callS0 (pc' := 190) (nc := nc) (ns := ns) (y2 := mX11_worthOf) (As := [.int r7, .int (zI μ12 56 x3.toNatClampNeg)]) (rest := [.int r14]) (dt_X11_find 108 (187, .invokestatic 393, 3) rfl) ok_X11_worthOf ln_ReturnDeskModel_393 sm_X11_worthOf pr_X11_worthOf rfl (Nat.le_of_ble_eq_true rfl) (Nat.le_of_ble_eq_true rfl) rfl  h ?_)))))
    rintro v μ16 ⟨r18, rfl, hS17, h⟩
    refine aw_stk (st' := [.int r18, .int r14]) rfl ?_
    refine aw_icmp_le (pc' := 193) (tgt := 197) (dt_X11_find 109 (190, .if_icmp .le 7, 3) rfl) (by decide) rfl ?_ ?_
    · intro q19
      have h := h.1 q19
      refine aw_iconst (pc' := 198) (v := 0) (dt_X11_find 112 (197, .iconst 0, 1) rfl) (by decide) rfl ?_
      exact h
    · intro q19
      have h := h.2 q19
      refine aw_iconst (pc' := 194) (v := 1) (dt_X11_find 110 (193, .iconst 1, 1) rfl) (by decide) rfl (aw_goto (tgt := 198) (dt_X11_find 111 (194, .goto 4, 3) rfl) (by decide) ?_)
      exact h

theorem t_X11_find_198 {E : ZE} {l : Launch} {d nc ns : Nat} {x1 : Int32} {x2 : Int32} {x3 : Int32} {x4 : Int32} {x5 : Int32} {x6 : Int32} {x7 : Int32} {x8 : Int32} {x9 : Int32} {x10 : Int32} {y0 : Int32} {μ : ZM} {K : Option Value → ZM → Prop} (hS : Stat μ) (h :
  (¬ y0 = 1 →
    AW E l (d + 3) nc ns mX11_find 213 [some (.ref 31), some (.int x1), some (.int x2), some (.int x3), some (.int x4), some (.int x5), some (.int x6), some (.int x7), some (.int x8), none, none, some (.int y0), none] [.int x9] μ K) ∧
  (y0 = 1 →
    AW E l (d + 3) nc ns mX11_find 213 [some (.ref 31), some (.int x1), some (.int x2), some (.int x3), some (.int x4), some (.int x5), some (.int x6), some (.int x7), some (.int x8), none, none, some (.int y0), none] [.int x10] μ K)) : AW E l (d + 3) nc ns mX11_find 198 [some (.ref 31), some (.int x1), some (.int x2), some (.int x3), some (.int x4), some (.int x5), some (.int x6), some (.int x7), some (.int x8), some (.int x9), some (.int x10), none, none] [.int y0] μ K := by
  refine aw_istore (pc' := 200) (ls' := [some (.ref 31), some (.int x1), some (.int x2), some (.int x3), some (.int x4), some (.int x5), some (.int x6), some (.int x7), some (.int x8), some (.int x9), some (.int x10), some (.int y0), none]) (dt_X11_find 113 (198, .istore 11, 2) rfl) (by decide) rfl rfl (aw_iload (pc' := 202) (dt_X11_find 114 (200, .iload 11, 2) rfl) rfl rfl (aw_iconst (pc' := 203) (v := 1) (dt_X11_find 115 (202, .iconst 1, 1) rfl) (by decide) rfl (aw_icmp_ne (pc' := 206) (tgt := 211) (dt_X11_find 116 (203, .if_icmp .ne 8, 3) rfl) (by decide) rfl ?_ ?_)))
  · intro q1
    have h := h.1 q1
    refine aw_iload (pc' := 213) (dt_X11_find 119 (211, .iload 9, 2) rfl) rfl rfl (aw_drop (ls' := [some (.ref 31), some (.int x1), some (.int x2), some (.int x3), some (.int x4), some (.int x5), some (.int x6), some (.int x7), some (.int x8), none, none, some (.int y0), none]) ⟨rfl, rfl, rfl, rfl, rfl, rfl, rfl, rfl, rfl, rfl, trivial⟩ ?_)
    exact h
  · intro q1
    have h := h.2 q1
    refine aw_iload (pc' := 208) (dt_X11_find 117 (206, .iload 10, 2) rfl) rfl rfl (aw_goto (tgt := 213) (dt_X11_find 118 (208, .goto 5, 3) rfl) (by decide) (aw_drop (ls' := [some (.ref 31), some (.int x1), some (.int x2), some (.int x3), some (.int x4), some (.int x5), some (.int x6), some (.int x7), some (.int x8), none, none, some (.int y0), none]) ⟨rfl, rfl, rfl, rfl, rfl, rfl, rfl, rfl, rfl, rfl, trivial⟩ ?_))
    exact h

theorem t_X11_find_213 {E : ZE} {l : Launch} {d nc ns : Nat} {x1 : Int32} {x2 : Int32} {x3 : Int32} {x4 : Int32} {x5 : Int32} {x6 : Int32} {x7 : Int32} {x8 : Int32} {x11 : Int32} {y0 : Int32} {μ : ZM} {K : Option Value → ZM → Prop} (hS : Stat μ) (h :
  ((zI μ 31 76) < 0 →
    AW E l (d + 3) nc ns mX11_find 249 [some (.ref 31), some (.int x1), some (.int x2), some (.int x3), some (.int x4), some (.int x5), some (.int x6), some (.int x7), some (.int x8), none, none, some (.int x11), some (.int y0)] [] μ K) ∧
  (¬ (zI μ 31 76) < 0 →
    (vp_in x3 300) ∧
    AW E l (d + 2) 0 0 mX11_worthOf 0 (zargs 4 [.int y0, .int (zI μ 56 x3.toNatClampNeg)]) [] μ (fun v μ3 => ∃ r5 : Int32, v = some (.int r5) ∧ Stat μ3 ∧ 
      (vp_in x3 300) ∧
      AW E l (d + 2) 0 0 mX11_worthOf 0 (zargs 4 [.int (zI μ3 31 76), .int (zI μ3 56 x3.toNatClampNeg)]) [] μ3 (fun v μ7 => ∃ r9 : Int32, v = some (.int r9) ∧ Stat μ7 ∧ 
        (r5 ≤ r9 →
          AW E l (d + 3) nc ns mX11_find 261 [some (.ref 31), some (.int x1), some (.int x2), some (.int x3), some (.int x4), some (.int x5), some (.int x6), some (.int x7), some (.int x8), none, none, none, some (.int y0)] [] μ7 K) ∧
        (¬ r5 ≤ r9 →
          AW E l (d + 3) nc ns mX11_find 249 [some (.ref 31), some (.int x1), some (.int x2), some (.int x3), some (.int x4), some (.int x5), some (.int x6), some (.int x7), some (.int x8), none, none, some (.int x11), some (.int y0)] [] μ7 K))))) : AW E l (d + 3) nc ns mX11_find 213 [some (.ref 31), some (.int x1), some (.int x2), some (.int x3), some (.int x4), some (.int x5), some (.int x6), some (.int x7), some (.int x8), none, none, some (.int x11), none] [.int y0] μ K := by
  refine aw_istore (pc' := 215) (ls' := [some (.ref 31), some (.int x1), some (.int x2), some (.int x3), some (.int x4), some (.int x5), some (.int x6), some (.int x7), some (.int x8), none, none, some (.int x11), some (.int y0)]) (dt_X11_find 120 (213, .istore 12, 2) rfl) (by decide) rfl rfl (aw_aload_n (pc' := 216) (dt_X11_find 121 (215, .aload_n 0, 1) rfl) rfl rfl (aw_getI (pc' := 219) (dt_X11_find 122 (216, .getfield 387, 3) rfl) fl_ReturnDeskModel_387 rfl rfl (sk_31 hS) (aw_if_lt (pc' := 222) (tgt := 249) (dt_X11_find 123 (219, .ifCond .lt 30, 3) rfl) (by decide) rfl ?_ ?_)))
  · intro q1
    have h := h.1 q1
    exact h
  · intro q1
    have h := h.2 q1
    obtain ⟨g2, h⟩ := h
    refine aw_iload (pc' := 224) (dt_X11_find 124 (222, .iload 12, 2) rfl) rfl rfl (aw_aload_n (pc' := 225) (dt_X11_find 125 (224, .aload_n 0, 1) rfl) rfl rfl (aw_getAs (pc' := 228) (dt_X11_find 126 (225, .getfield 83, 3) rfl) fl_ReturnDeskModel_83 rfl rfl (sk_31 hS) (sa_31_31 hS) (aw_iload_n (pc' := 229) (dt_X11_find 127 (228, .iload_n 3, 1) rfl) rfl rfl (aw_iald (pc' := 230) (dt_X11_find 128 (229, .iaload, 1) rfl) rfl (sk_56 hS) (vin_eq (sl_56 hS) g2) (aw_callS0 (pc' := 233) (nc := nc) (ns := ns) (y2 := mX11_worthOf) (As := [.int y0, .int (zI μ 56 x3.toNatClampNeg)]) (rest := []) (dt_X11_find 129 (230, .invokestatic 393, 3) rfl) ok_X11_worthOf ln_ReturnDeskModel_393 sm_X11_worthOf pr_X11_worthOf rfl (Nat.le_of_ble_eq_true rfl) (Nat.le_of_ble_eq_true rfl) rfl  h ?_)))))
    rintro v μ3 ⟨r5, rfl, hS4, h⟩
    refine aw_stk (st' := [.int r5]) rfl ?_
    obtain ⟨g6, h⟩ := h
    refine aw_aload_n (pc' := 234) (dt_X11_find 130 (233, .aload_n 0, 1) rfl) rfl rfl (aw_getI (pc' := 237) (dt_X11_find 131 (234, .getfield 387, 3) rfl) fl_ReturnDeskModel_387 rfl rfl (sk_31 hS4) (aw_aload_n (pc' := 238) (dt_X11_find 132 (237, .aload_n 0, 1) rfl) rfl rfl (aw_getAs (pc' := 241) (dt_X11_find 133 (238, .getfield 83, 3) rfl) fl_ReturnDeskModel_83 rfl rfl (sk_31 hS4) (sa_31_31 hS4) (aw_iload_n (pc' := 242) (dt_X11_find 134 (241, .iload_n 3, 1) rfl) rfl rfl (aw_iald (pc' := 243) (dt_X11_find 135 (242, .iaload, 1) rfl) rfl (sk_56 hS4) (vin_eq (sl_56 hS4) g6) (aw_callS0 (pc' := 246) (nc := nc) (ns := ns) (y2 := mX11_worthOf) (As := [.int (zI μ3 31 76), .int (zI μ3 56 x3.toNatClampNeg)]) (rest := [.int r5]) (dt_X11_find 136 (243, .invokestatic 393, 3) rfl) ok_X11_worthOf ln_ReturnDeskModel_393 sm_X11_worthOf pr_X11_worthOf rfl (Nat.le_of_ble_eq_true rfl) (Nat.le_of_ble_eq_true rfl) rfl  h ?_))))))
    rintro v μ7 ⟨r9, rfl, hS8, h⟩
    refine aw_stk (st' := [.int r9, .int r5]) rfl ?_
    refine aw_icmp_le (pc' := 249) (tgt := 261) (dt_X11_find 137 (246, .if_icmp .le 15, 3) rfl) (by decide) rfl ?_ ?_
    · intro q10
      have h := h.1 q10
      refine aw_drop (ls' := [some (.ref 31), some (.int x1), some (.int x2), some (.int x3), some (.int x4), some (.int x5), some (.int x6), some (.int x7), some (.int x8), none, none, none, some (.int y0)]) ⟨rfl, rfl, rfl, rfl, rfl, rfl, rfl, rfl, rfl, rfl, trivial⟩ ?_
      exact h
    · intro q10
      have h := h.2 q10
      exact h

theorem t_X11_find_249 {E : ZE} {l : Launch} {d nc ns : Nat} {x1 : Int32} {x2 : Int32} {x3 : Int32} {x4 : Int32} {x5 : Int32} {x6 : Int32} {x7 : Int32} {x8 : Int32} {x11 : Int32} {x12 : Int32} {μ : ZM} {K : Option Value → ZM → Prop} (hS : Stat μ) (h :
  AW E l (d + 3) nc ns mX11_find 261 [some (.ref 31), some (.int x1), some (.int x2), some (.int x3), some (.int x4), some (.int x5), some (.int x6), some (.int x7), some (.int x8), none, none, none, some (.int x12)] [] (sI (sI μ 31 76 x12) 31 78 x11) K) : AW E l (d + 3) nc ns mX11_find 249 [some (.ref 31), some (.int x1), some (.int x2), some (.int x3), some (.int x4), some (.int x5), some (.int x6), some (.int x7), some (.int x8), none, none, some (.int x11), some (.int x12)] [] μ K := by
  refine aw_aload_n (pc' := 250) (dt_X11_find 138 (249, .aload_n 0, 1) rfl) rfl rfl (aw_iload (pc' := 252) (dt_X11_find 139 (250, .iload 12, 2) rfl) rfl rfl (aw_putI (pc' := 255) (dt_X11_find 140 (252, .putfield 387, 3) rfl) fl_ReturnDeskModel_387 rfl (by decide +kernel) rfl (sk_31 hS) (aw_aload_n (pc' := 256) (dt_X11_find 141 (255, .aload_n 0, 1) rfl) rfl rfl (aw_iload (pc' := 258) (dt_X11_find 142 (256, .iload 11, 2) rfl) rfl rfl (aw_putI (pc' := 261) (dt_X11_find 143 (258, .putfield 396, 3) rfl) fl_ReturnDeskModel_396 rfl (by decide +kernel) rfl (sk_31 hS.wI) (aw_drop (ls' := [some (.ref 31), some (.int x1), some (.int x2), some (.int x3), some (.int x4), some (.int x5), some (.int x6), some (.int x7), some (.int x8), none, none, none, some (.int x12)]) ⟨rfl, rfl, rfl, rfl, rfl, rfl, rfl, rfl, rfl, rfl, trivial⟩ ?_))))))
  exact h

theorem t_X11_find_261 {E : ZE} {l : Launch} {d nc ns : Nat} {x1 : Int32} {x2 : Int32} {x3 : Int32} {x4 : Int32} {x5 : Int32} {x6 : Int32} {x7 : Int32} {x8 : Int32} {x12 : Int32} {μ : ZM} {K : Option Value → ZM → Prop} (hS : Stat μ) (h :
  ((zI μ 31 77) < 0 →
    AW E l (d + 3) nc ns mX11_find 295 [some (.ref 31), some (.int x1), some (.int x2), some (.int x3), some (.int x4), some (.int x5), some (.int x6), some (.int x7), some (.int x8), none, none, none, some (.int x12)] [] μ K) ∧
  (¬ (zI μ 31 77) < 0 →
    (vp_in x3 300) ∧
    AW E l (d + 2) 0 0 mX11_worthOf 0 (zargs 4 [.int x12, .int (zI μ 56 x3.toNatClampNeg)]) [] μ (fun v μ3 => ∃ r5 : Int32, v = some (.int r5) ∧ Stat μ3 ∧ 
      (vp_in x3 300) ∧
      AW E l (d + 2) 0 0 mX11_worthOf 0 (zargs 4 [.int (zI μ3 31 77), .int (zI μ3 56 x3.toNatClampNeg)]) [] μ3 (fun v μ7 => ∃ r9 : Int32, v = some (.int r9) ∧ Stat μ7 ∧ 
        (r9 ≤ r5 →
          AW E l (d + 3) nc ns mX11_find 301 [some (.ref 31), some (.int x1), some (.int x2), some (.int x3), some (.int x4), some (.int x5), some (.int x6), some (.int x7), some (.int x8), none, none, none, none] [] μ7 K) ∧
        (¬ r9 ≤ r5 →
          AW E l (d + 3) nc ns mX11_find 295 [some (.ref 31), some (.int x1), some (.int x2), some (.int x3), some (.int x4), some (.int x5), some (.int x6), some (.int x7), some (.int x8), none, none, none, some (.int x12)] [] μ7 K))))) : AW E l (d + 3) nc ns mX11_find 261 [some (.ref 31), some (.int x1), some (.int x2), some (.int x3), some (.int x4), some (.int x5), some (.int x6), some (.int x7), some (.int x8), none, none, none, some (.int x12)] [] μ K := by
  refine aw_aload_n (pc' := 262) (dt_X11_find 144 (261, .aload_n 0, 1) rfl) rfl rfl (aw_getI (pc' := 265) (dt_X11_find 145 (262, .getfield 390, 3) rfl) fl_ReturnDeskModel_390 rfl rfl (sk_31 hS) (aw_if_lt (pc' := 268) (tgt := 295) (dt_X11_find 146 (265, .ifCond .lt 30, 3) rfl) (by decide) rfl ?_ ?_))
  · intro q1
    have h := h.1 q1
    exact h
  · intro q1
    have h := h.2 q1
    obtain ⟨g2, h⟩ := h
    refine aw_iload (pc' := 270) (dt_X11_find 147 (268, .iload 12, 2) rfl) rfl rfl (aw_aload_n (pc' := 271) (dt_X11_find 148 (270, .aload_n 0, 1) rfl) rfl rfl (aw_getAs (pc' := 274) (dt_X11_find 149 (271, .getfield 83, 3) rfl) fl_ReturnDeskModel_83 rfl rfl (sk_31 hS) (sa_31_31 hS) (aw_iload_n (pc' := 275) (dt_X11_find 150 (274, .iload_n 3, 1) rfl) rfl rfl (aw_iald (pc' := 276) (dt_X11_find 151 (275, .iaload, 1) rfl) rfl (sk_56 hS) (vin_eq (sl_56 hS) g2) (aw_callS0 (pc' := 279) (nc := nc) (ns := ns) (y2 := mX11_worthOf) (As := [.int x12, .int (zI μ 56 x3.toNatClampNeg)]) (rest := []) (dt_X11_find 152 (276, .invokestatic 393, 3) rfl) ok_X11_worthOf ln_ReturnDeskModel_393 sm_X11_worthOf pr_X11_worthOf rfl (Nat.le_of_ble_eq_true rfl) (Nat.le_of_ble_eq_true rfl) rfl  h ?_)))))
    rintro v μ3 ⟨r5, rfl, hS4, h⟩
    refine aw_stk (st' := [.int r5]) rfl ?_
    obtain ⟨g6, h⟩ := h
    refine aw_aload_n (pc' := 280) (dt_X11_find 153 (279, .aload_n 0, 1) rfl) rfl rfl (aw_getI (pc' := 283) (dt_X11_find 154 (280, .getfield 390, 3) rfl) fl_ReturnDeskModel_390 rfl rfl (sk_31 hS4) (aw_aload_n (pc' := 284) (dt_X11_find 155 (283, .aload_n 0, 1) rfl) rfl rfl (aw_getAs (pc' := 287) (dt_X11_find 156 (284, .getfield 83, 3) rfl) fl_ReturnDeskModel_83 rfl rfl (sk_31 hS4) (sa_31_31 hS4) (aw_iload_n (pc' := 288) (dt_X11_find 157 (287, .iload_n 3, 1) rfl) rfl rfl (aw_iald (pc' := 289) (dt_X11_find 158 (288, .iaload, 1) rfl) rfl (sk_56 hS4) (vin_eq (sl_56 hS4) g6) (aw_callS0 (pc' := 292) (nc := nc) (ns := ns) (y2 := mX11_worthOf) (As := [.int (zI μ3 31 77), .int (zI μ3 56 x3.toNatClampNeg)]) (rest := [.int r5]) (dt_X11_find 159 (289, .invokestatic 393, 3) rfl) ok_X11_worthOf ln_ReturnDeskModel_393 sm_X11_worthOf pr_X11_worthOf rfl (Nat.le_of_ble_eq_true rfl) (Nat.le_of_ble_eq_true rfl) rfl  h ?_))))))
    rintro v μ7 ⟨r9, rfl, hS8, h⟩
    refine aw_stk (st' := [.int r9, .int r5]) rfl ?_
    refine aw_icmp_ge (pc' := 295) (tgt := 301) (dt_X11_find 160 (292, .if_icmp .ge 9, 3) rfl) (by decide) rfl ?_ ?_
    · intro q10
      have h := h.1 q10
      refine aw_drop (ls' := [some (.ref 31), some (.int x1), some (.int x2), some (.int x3), some (.int x4), some (.int x5), some (.int x6), some (.int x7), some (.int x8), none, none, none, none]) ⟨rfl, rfl, rfl, rfl, rfl, rfl, rfl, rfl, rfl, trivial⟩ ?_
      exact h
    · intro q10
      have h := h.2 q10
      exact h

theorem t_X11_find_295 {E : ZE} {l : Launch} {d nc ns : Nat} {x1 : Int32} {x2 : Int32} {x3 : Int32} {x4 : Int32} {x5 : Int32} {x6 : Int32} {x7 : Int32} {x8 : Int32} {x12 : Int32} {μ : ZM} {K : Option Value → ZM → Prop} (hS : Stat μ) (h :
  AW E l (d + 3) nc ns mX11_find 301 [some (.ref 31), some (.int x1), some (.int x2), some (.int x3), some (.int x4), some (.int x5), some (.int x6), some (.int x7), some (.int x8), none, none, none, none] [] (sI μ 31 77 x12) K) : AW E l (d + 3) nc ns mX11_find 295 [some (.ref 31), some (.int x1), some (.int x2), some (.int x3), some (.int x4), some (.int x5), some (.int x6), some (.int x7), some (.int x8), none, none, none, some (.int x12)] [] μ K := by
  refine aw_aload_n (pc' := 296) (dt_X11_find 161 (295, .aload_n 0, 1) rfl) rfl rfl (aw_iload (pc' := 298) (dt_X11_find 162 (296, .iload 12, 2) rfl) rfl rfl (aw_putI (pc' := 301) (dt_X11_find 163 (298, .putfield 390, 3) rfl) fl_ReturnDeskModel_390 rfl (by decide +kernel) rfl (sk_31 hS) (aw_drop (ls' := [some (.ref 31), some (.int x1), some (.int x2), some (.int x3), some (.int x4), some (.int x5), some (.int x6), some (.int x7), some (.int x8), none, none, none, none]) ⟨rfl, rfl, rfl, rfl, rfl, rfl, rfl, rfl, rfl, trivial⟩ ?_)))
  exact h

theorem t_X11_find_301 {E : ZE} {l : Launch} {d nc ns : Nat} {x1 : Int32} {x2 : Int32} {x3 : Int32} {x4 : Int32} {x5 : Int32} {x6 : Int32} {x7 : Int32} {x8 : Int32} {μ : ZM} {K : Option Value → ZM → Prop} (hS : Stat μ) (h :
  AW E l (d + 3) nc ns mX11_find 107 [some (.ref 31), some (.int x1), some (.int x2), some (.int x3), some (.int x4), some (.int x5), some (.int x6), some (.int x7), some (.int (x8 + 1)), none, none, none, none] [] μ K) : AW E l (d + 3) nc ns mX11_find 301 [some (.ref 31), some (.int x1), some (.int x2), some (.int x3), some (.int x4), some (.int x5), some (.int x6), some (.int x7), some (.int x8), none, none, none, none] [] μ K := by
  refine aw_iinc (pc' := 304) (v := 1) (ls' := [some (.ref 31), some (.int x1), some (.int x2), some (.int x3), some (.int x4), some (.int x5), some (.int x6), some (.int x7), some (.int (x8 + 1)), none, none, none, none]) (dt_X11_find 164 (301, .iinc 8 1, 3) rfl) rfl (by decide) (by decide) rfl rfl (aw_goto (tgt := 107) (dt_X11_find 165 (304, .goto (-197), 3) rfl) (by decide) ?_)
  exact h

theorem t_X11_judged {E : ZE} {l : Launch} {d nc ns : Nat} {x1 : Int32} {x2 : Int32} {x3 : Int32} {μ : ZM} {K : Option Value → ZM → Prop} (hS : Stat μ) (h :
  (x1 < 0 →
    K (some (.int (-1))) μ) ∧
  (¬ x1 < 0 →
    (((zI μ 31 60) - 1) < x1 →
      K (some (.int (-1))) μ) ∧
    (¬ ((zI μ 31 60) - 1) < x1 →
      (x2 < 0 →
        K (some (.int (-1))) μ) ∧
      (¬ x2 < 0 →
        (2999 < x2 →
          K (some (.int (-1))) μ) ∧
        (¬ 2999 < x2 →
          (x3 < 0 →
            K (some (.int (-1))) μ) ∧
          (¬ x3 < 0 →
            (1 < x3 →
              K (some (.int (-1))) μ) ∧
            (¬ 1 < x3 →
              AW E l (d + 3) 0 0 mX11_find 0 (zargs 13 [.ref 31, .int x1, .int x2]) [] μ (fun v μ7 => v = none ∧ Stat μ7 ∧ 
                (¬ x3 = 0 →
                  K (some (.int (zI μ7 31 77))) μ7) ∧
                (x3 = 0 →
                  K (some (.int (zI μ7 31 76))) μ7))))))))) : AW E l (d + 4) nc ns mX11_judged 0 [some (.ref 31), some (.int x1), some (.int x2), some (.int x3)] [] μ K := by
  refine aw_aload_n (pc' := 1) (dt_X11_judged 0 (0, .aload_n 0, 1) rfl) rfl rfl (aw_iload_n (pc' := 2) (dt_X11_judged 1 (1, .iload_n 1, 1) rfl) rfl rfl (aw_inV (pc' := 5) (nc1 := 0) (ns1 := 0) (nc := nc) (ns := ns) (ls' := [some (.ref 31), some (.int x1)]) (y2 := mX11_isAsking) (As := [.int x1]) (rest := []) (a := 31) (dt_X11_judged 2 (2, .invokevirtual 399, 3) rfl) ok_X11_isAsking ln_ReturnDeskModel_399 im_X11_isAsking se_X11_isAsking pr_X11_isAsking (Or.inl ⟨by decide, rfl⟩) rfl (Nat.le_of_ble_eq_true rfl) (Nat.le_of_ble_eq_true rfl) rfl rfl (sk_31 hS) (aw_iload_n (pc' := 1) (dt_X11_isAsking 0 (0, .iload_n 1, 1) rfl) rfl rfl (aw_iconst (pc' := 2) (v := 0) (dt_X11_isAsking 1 (1, .iconst 0, 1) rfl) (by decide) rfl (aw_aload_n (pc' := 3) (dt_X11_isAsking 2 (2, .aload_n 0, 1) rfl) rfl rfl (aw_getI (pc' := 6) (dt_X11_isAsking 3 (3, .getfield 384, 3) rfl) fl_ReturnDeskModel_384 rfl rfl (sk_31 hS) (aw_iconst (pc' := 7) (v := 1) (dt_X11_isAsking 4 (6, .iconst 1, 1) rfl) (by decide) rfl (aw_isub (pc' := 8) (dt_X11_isAsking 5 (7, .isub, 1) rfl) rfl (aw_inS (pc' := 11) (nc1 := 0) (ns1 := 0) (nc := 0) (ns := 0) (ls' := [some (.int x1), some (.int 0), some (.int ((zI μ 31 60) - 1))]) (y2 := mX11_in) (As := [.int x1, .int 0, .int ((zI μ 31 60) - 1)]) (rest := []) (dt_X11_isAsking 6 (8, .invokestatic 185, 3) rfl) ok_X11_in ln_ReturnDeskModel_185 sm_X11_in pr_X11_in rfl (Nat.le_of_ble_eq_true rfl) (Nat.le_of_ble_eq_true rfl) rfl rfl (aw_iload_n (pc' := 1) (dt_X11_in 0 (0, .iload_n 0, 1) rfl) rfl rfl (aw_iload_n (pc' := 2) (dt_X11_in 1 (1, .iload_n 1, 1) rfl) rfl rfl (aw_icmp_lt (pc' := 5) (tgt := 14) (dt_X11_in 2 (2, .if_icmp .lt 12, 3) rfl) (by decide) rfl ?_ ?_))))))))))))
  · intro q1
    have h := h.1 q1
    refine aw_iconst (pc' := 15) (v := 0) (dt_X11_in 8 (14, .iconst 0, 1) rfl) (by decide) rfl (aw_iret (dt_X11_in 9 (15, .ireturn, 1) rfl) rfl rfl (aw_stk (st' := [.int 0]) rfl (aw_iret (dt_X11_isAsking 7 (11, .ireturn, 1) rfl) rfl rfl (aw_stk (st' := [.int 0]) rfl (aw_if_eq_T (pc' := 8) (tgt := 24) (dt_X11_judged 3 (5, .ifCond .eq 19, 3) rfl) (by decide) rfl (by decide) (aw_iconst (pc' := 25) (v := (-1)) (dt_X11_judged 12 (24, .iconst (-1), 1) rfl) (by decide) rfl (aw_iret (dt_X11_judged 13 (25, .ireturn, 1) rfl) rfl rfl ?_)))))))
    exact h
  · intro q1
    have h := h.2 q1
    refine aw_iload_n (pc' := 6) (dt_X11_in 3 (5, .iload_n 0, 1) rfl) rfl rfl (aw_iload_n (pc' := 7) (dt_X11_in 4 (6, .iload_n 2, 1) rfl) rfl rfl (aw_icmp_gt (pc' := 10) (tgt := 14) (dt_X11_in 5 (7, .if_icmp .gt 7, 3) rfl) (by decide) rfl ?_ ?_))
    · intro q2
      have h := h.1 q2
      refine aw_iconst (pc' := 15) (v := 0) (dt_X11_in 8 (14, .iconst 0, 1) rfl) (by decide) rfl (aw_iret (dt_X11_in 9 (15, .ireturn, 1) rfl) rfl rfl (aw_stk (st' := [.int 0]) rfl (aw_iret (dt_X11_isAsking 7 (11, .ireturn, 1) rfl) rfl rfl (aw_stk (st' := [.int 0]) rfl (aw_if_eq_T (pc' := 8) (tgt := 24) (dt_X11_judged 3 (5, .ifCond .eq 19, 3) rfl) (by decide) rfl (by decide) (aw_iconst (pc' := 25) (v := (-1)) (dt_X11_judged 12 (24, .iconst (-1), 1) rfl) (by decide) rfl (aw_iret (dt_X11_judged 13 (25, .ireturn, 1) rfl) rfl rfl ?_)))))))
      exact h
    · intro q2
      have h := h.2 q2
      refine aw_iconst (pc' := 11) (v := 1) (dt_X11_in 6 (10, .iconst 1, 1) rfl) (by decide) rfl (aw_goto (tgt := 15) (dt_X11_in 7 (11, .goto 4, 3) rfl) (by decide) (aw_iret (dt_X11_in 9 (15, .ireturn, 1) rfl) rfl rfl (aw_stk (st' := [.int 1]) rfl (aw_iret (dt_X11_isAsking 7 (11, .ireturn, 1) rfl) rfl rfl (aw_stk (st' := [.int 1]) rfl (aw_if_eq_F (pc' := 8) (tgt := 24) (dt_X11_judged 3 (5, .ifCond .eq 19, 3) rfl) (by decide) rfl (by decide) (aw_iload_n (pc' := 9) (dt_X11_judged 4 (8, .iload_n 2, 1) rfl) rfl rfl (aw_inS (pc' := 12) (nc1 := 0) (ns1 := 0) (nc := nc) (ns := ns) (ls' := [some (.int x2)]) (y2 := mX11_isDay) (As := [.int x2]) (rest := []) (dt_X11_judged 5 (9, .invokestatic 203, 3) rfl) ok_X11_isDay ln_ReturnDeskModel_203 sm_X11_isDay pr_X11_isDay rfl (Nat.le_of_ble_eq_true rfl) (Nat.le_of_ble_eq_true rfl) rfl rfl (aw_iload_n (pc' := 1) (dt_X11_isDay 0 (0, .iload_n 0, 1) rfl) rfl rfl (aw_iconst (pc' := 2) (v := 0) (dt_X11_isDay 1 (1, .iconst 0, 1) rfl) (by decide) rfl (aw_sipush (pc' := 5) (v := 2999) (dt_X11_isDay 2 (2, .sipush 2999, 3) rfl) (by decide) rfl (aw_inS (pc' := 8) (nc1 := 0) (ns1 := 0) (nc := 0) (ns := 0) (ls' := [some (.int x2), some (.int 0), some (.int 2999)]) (y2 := mX11_in) (As := [.int x2, .int 0, .int 2999]) (rest := []) (dt_X11_isDay 3 (5, .invokestatic 185, 3) rfl) ok_X11_in ln_ReturnDeskModel_185 sm_X11_in pr_X11_in rfl (Nat.le_of_ble_eq_true rfl) (Nat.le_of_ble_eq_true rfl) rfl rfl (aw_iload_n (pc' := 1) (dt_X11_in 0 (0, .iload_n 0, 1) rfl) rfl rfl (aw_iload_n (pc' := 2) (dt_X11_in 1 (1, .iload_n 1, 1) rfl) rfl rfl (aw_icmp_lt (pc' := 5) (tgt := 14) (dt_X11_in 2 (2, .if_icmp .lt 12, 3) rfl) (by decide) rfl ?_ ?_)))))))))))))))
      · intro q3
        have h := h.1 q3
        refine aw_iconst (pc' := 15) (v := 0) (dt_X11_in 8 (14, .iconst 0, 1) rfl) (by decide) rfl (aw_iret (dt_X11_in 9 (15, .ireturn, 1) rfl) rfl rfl (aw_stk (st' := [.int 0]) rfl (aw_iret (dt_X11_isDay 4 (8, .ireturn, 1) rfl) rfl rfl (aw_stk (st' := [.int 0]) rfl (aw_if_eq_T (pc' := 15) (tgt := 24) (dt_X11_judged 6 (12, .ifCond .eq 12, 3) rfl) (by decide) rfl (by decide) (aw_iconst (pc' := 25) (v := (-1)) (dt_X11_judged 12 (24, .iconst (-1), 1) rfl) (by decide) rfl (aw_iret (dt_X11_judged 13 (25, .ireturn, 1) rfl) rfl rfl ?_)))))))
        exact h
      · intro q3
        have h := h.2 q3
        refine aw_iload_n (pc' := 6) (dt_X11_in 3 (5, .iload_n 0, 1) rfl) rfl rfl (aw_iload_n (pc' := 7) (dt_X11_in 4 (6, .iload_n 2, 1) rfl) rfl rfl (aw_icmp_gt (pc' := 10) (tgt := 14) (dt_X11_in 5 (7, .if_icmp .gt 7, 3) rfl) (by decide) rfl ?_ ?_))
        · intro q4
          have h := h.1 q4
          refine aw_iconst (pc' := 15) (v := 0) (dt_X11_in 8 (14, .iconst 0, 1) rfl) (by decide) rfl (aw_iret (dt_X11_in 9 (15, .ireturn, 1) rfl) rfl rfl (aw_stk (st' := [.int 0]) rfl (aw_iret (dt_X11_isDay 4 (8, .ireturn, 1) rfl) rfl rfl (aw_stk (st' := [.int 0]) rfl (aw_if_eq_T (pc' := 15) (tgt := 24) (dt_X11_judged 6 (12, .ifCond .eq 12, 3) rfl) (by decide) rfl (by decide) (aw_iconst (pc' := 25) (v := (-1)) (dt_X11_judged 12 (24, .iconst (-1), 1) rfl) (by decide) rfl (aw_iret (dt_X11_judged 13 (25, .ireturn, 1) rfl) rfl rfl ?_)))))))
          exact h
        · intro q4
          have h := h.2 q4
          refine aw_iconst (pc' := 11) (v := 1) (dt_X11_in 6 (10, .iconst 1, 1) rfl) (by decide) rfl (aw_goto (tgt := 15) (dt_X11_in 7 (11, .goto 4, 3) rfl) (by decide) (aw_iret (dt_X11_in 9 (15, .ireturn, 1) rfl) rfl rfl (aw_stk (st' := [.int 1]) rfl (aw_iret (dt_X11_isDay 4 (8, .ireturn, 1) rfl) rfl rfl (aw_stk (st' := [.int 1]) rfl (aw_if_eq_F (pc' := 15) (tgt := 24) (dt_X11_judged 6 (12, .ifCond .eq 12, 3) rfl) (by decide) rfl (by decide) (aw_iload_n (pc' := 16) (dt_X11_judged 7 (15, .iload_n 3, 1) rfl) rfl rfl (aw_iconst (pc' := 17) (v := 0) (dt_X11_judged 8 (16, .iconst 0, 1) rfl) (by decide) rfl (aw_iconst (pc' := 18) (v := 1) (dt_X11_judged 9 (17, .iconst 1, 1) rfl) (by decide) rfl (aw_inS (pc' := 21) (nc1 := 0) (ns1 := 0) (nc := nc) (ns := ns) (ls' := [some (.int x3), some (.int 0), some (.int 1)]) (y2 := mX11_in) (As := [.int x3, .int 0, .int 1]) (rest := []) (dt_X11_judged 10 (18, .invokestatic 185, 3) rfl) ok_X11_in ln_ReturnDeskModel_185 sm_X11_in pr_X11_in rfl (Nat.le_of_ble_eq_true rfl) (Nat.le_of_ble_eq_true rfl) rfl rfl (aw_iload_n (pc' := 1) (dt_X11_in 0 (0, .iload_n 0, 1) rfl) rfl rfl (aw_iload_n (pc' := 2) (dt_X11_in 1 (1, .iload_n 1, 1) rfl) rfl rfl (aw_icmp_lt (pc' := 5) (tgt := 14) (dt_X11_in 2 (2, .if_icmp .lt 12, 3) rfl) (by decide) rfl ?_ ?_)))))))))))))
          · intro q5
            have h := h.1 q5
            refine aw_iconst (pc' := 15) (v := 0) (dt_X11_in 8 (14, .iconst 0, 1) rfl) (by decide) rfl (aw_iret (dt_X11_in 9 (15, .ireturn, 1) rfl) rfl rfl (aw_stk (st' := [.int 0]) rfl (aw_if_ne_F (pc' := 24) (tgt := 26) (dt_X11_judged 11 (21, .ifCond .ne 5, 3) rfl) (by decide) rfl (by decide) (aw_iconst (pc' := 25) (v := (-1)) (dt_X11_judged 12 (24, .iconst (-1), 1) rfl) (by decide) rfl (aw_iret (dt_X11_judged 13 (25, .ireturn, 1) rfl) rfl rfl ?_)))))
            exact h
          · intro q5
            have h := h.2 q5
            refine aw_iload_n (pc' := 6) (dt_X11_in 3 (5, .iload_n 0, 1) rfl) rfl rfl (aw_iload_n (pc' := 7) (dt_X11_in 4 (6, .iload_n 2, 1) rfl) rfl rfl (aw_icmp_gt (pc' := 10) (tgt := 14) (dt_X11_in 5 (7, .if_icmp .gt 7, 3) rfl) (by decide) rfl ?_ ?_))
            · intro q6
              have h := h.1 q6
              refine aw_iconst (pc' := 15) (v := 0) (dt_X11_in 8 (14, .iconst 0, 1) rfl) (by decide) rfl (aw_iret (dt_X11_in 9 (15, .ireturn, 1) rfl) rfl rfl (aw_stk (st' := [.int 0]) rfl (aw_if_ne_F (pc' := 24) (tgt := 26) (dt_X11_judged 11 (21, .ifCond .ne 5, 3) rfl) (by decide) rfl (by decide) (aw_iconst (pc' := 25) (v := (-1)) (dt_X11_judged 12 (24, .iconst (-1), 1) rfl) (by decide) rfl (aw_iret (dt_X11_judged 13 (25, .ireturn, 1) rfl) rfl rfl ?_)))))
              exact h
            · intro q6
              have h := h.2 q6
              refine aw_iconst (pc' := 11) (v := 1) (dt_X11_in 6 (10, .iconst 1, 1) rfl) (by decide) rfl (aw_goto (tgt := 15) (dt_X11_in 7 (11, .goto 4, 3) rfl) (by decide) (aw_iret (dt_X11_in 9 (15, .ireturn, 1) rfl) rfl rfl (aw_stk (st' := [.int 1]) rfl (aw_if_ne_T (pc' := 24) (tgt := 26) (dt_X11_judged 11 (21, .ifCond .ne 5, 3) rfl) (by decide) rfl (by decide) (aw_aload_n (pc' := 27) (dt_X11_judged 14 (26, .aload_n 0, 1) rfl) rfl rfl (aw_iload_n (pc' := 28) (dt_X11_judged 15 (27, .iload_n 1, 1) rfl) rfl rfl (aw_iload_n (pc' := 29) (dt_X11_judged 16 (28, .iload_n 2, 1) rfl) rfl rfl (aw_callV0 (pc' := 32) (nc := nc) (ns := ns) (y2 := mX11_find) (As := [.int x1, .int x2]) (rest := []) (a := 31) (dt_X11_judged 17 (29, .invokevirtual 402, 3) rfl) ok_X11_find ln_ReturnDeskModel_402 im_X11_find se_X11_find pr_X11_find (Or.inl ⟨by decide, rfl⟩) rfl (Nat.le_of_ble_eq_true rfl) (Nat.le_of_ble_eq_true rfl) rfl (sk_31 hS) h ?_))))))))
              rintro v μ7 ⟨rfl, hS8, h⟩
              refine aw_stk (st' := []) rfl ?_
              refine aw_iload_n (pc' := 33) (dt_X11_judged 18 (32, .iload_n 3, 1) rfl) rfl rfl (aw_if_ne (pc' := 36) (tgt := 43) (dt_X11_judged 19 (33, .ifCond .ne 10, 3) rfl) (by decide) rfl ?_ ?_)
              · intro q9
                have h := h.1 q9
                refine aw_aload_n (pc' := 44) (dt_X11_judged 23 (43, .aload_n 0, 1) rfl) rfl rfl (aw_getI (pc' := 47) (dt_X11_judged 24 (44, .getfield 390, 3) rfl) fl_ReturnDeskModel_390 rfl rfl (sk_31 hS8) (aw_iret (dt_X11_judged 25 (47, .ireturn, 1) rfl) rfl rfl ?_))
                exact h
              · intro q9
                have h := h.2 q9
                refine aw_aload_n (pc' := 37) (dt_X11_judged 20 (36, .aload_n 0, 1) rfl) rfl rfl (aw_getI (pc' := 40) (dt_X11_judged 21 (37, .getfield 387, 3) rfl) fl_ReturnDeskModel_387 rfl rfl (sk_31 hS8) (aw_goto (tgt := 47) (dt_X11_judged 22 (40, .goto 7, 3) rfl) (by decide) (aw_iret (dt_X11_judged 25 (47, .ireturn, 1) rfl) rfl rfl ?_)))
                exact h

theorem t_X11_ofAsking {E : ZE} {l : Launch} {d nc ns : Nat} {x1 : Int32} {x2 : Int32} {μ : ZM} {K : Option Value → ZM → Prop} (hS : Stat μ) (h :
  (x1 < 0 →
    K (some (.int (-2000000000))) μ) ∧
  (¬ x1 < 0 →
    (((zI μ 31 60) - 1) < x1 →
      K (some (.int (-2000000000))) μ) ∧
    (¬ ((zI μ 31 60) - 1) < x1 →
      (x2 = 0 →
        (vp_in x1 200) ∧
        K (some (.int (zI μ 74 x1.toNatClampNeg))) μ) ∧
      (x2 = 1 →
        (vp_in x1 200) ∧
        K (some (.int (zI μ 75 x1.toNatClampNeg))) μ) ∧
      (x2 = 2 →
        (vp_in x1 200) ∧
        K (some (.int (zI μ 76 x1.toNatClampNeg))) μ) ∧
      (x2 = 3 →
        (vp_in x1 200) ∧
        AW E l (d + 3) 0 0 mX11_find 0 (zargs 13 [.ref 31, .int x1, .int (zI μ 76 x1.toNatClampNeg)]) [] μ (fun v μ11 => v = none ∧ Stat μ11 ∧ 
          (vp_in x1 200) ∧
          (vp_in (zI μ11 74 x1.toNatClampNeg) 300) ∧
          AW E l (d + 3) 0 0 mX11_worthOf 0 (zargs 4 [.int (zI μ11 31 76), .int (zI μ11 56 (zI μ11 74 x1.toNatClampNeg).toNatClampNeg)]) [] μ11 (fun v μ15 => ∃ r17 : Int32, v = some (.int r17) ∧ Stat μ15 ∧ 
            (vp_in x1 200) ∧
            (vp_in (zI μ15 74 x1.toNatClampNeg) 300) ∧
            AW E l (d + 3) 0 0 mX11_worthOf 0 (zargs 4 [.int (zI μ15 31 77), .int (zI μ15 56 (zI μ15 74 x1.toNatClampNeg).toNatClampNeg)]) [] μ15 (fun v μ20 => ∃ r22 : Int32, v = some (.int r22) ∧ Stat μ20 ∧ 
              (r17 = r22 →
                K (some (.int 0)) μ20) ∧
              (¬ r17 = r22 →
                K (some (.int 1)) μ20))))) ∧
      (x2 = 4 →
        (vp_in x1 200) ∧
        ((zI μ 80 x1.toNatClampNeg) = 0 →
          K (some (.int 0)) μ) ∧
        (¬ (zI μ 80 x1.toNatClampNeg) = 0 →
          K (some (.int 1)) μ)) ∧
      (x2 = 5 →
        (vp_in x1 200) ∧
        ((zI μ 81 x1.toNatClampNeg) = 0 →
          K (some (.int 0)) μ) ∧
        (¬ (zI μ 81 x1.toNatClampNeg) = 0 →
          K (some (.int 1)) μ)) ∧
      (x2 = 6 →
        (vp_in x1 200) ∧
        K (some (.int (zI μ 82 x1.toNatClampNeg))) μ) ∧
      (x2 = 7 →
        (vp_in x1 200) ∧
        K (some (.int (zI μ 83 x1.toNatClampNeg))) μ) ∧
      (x2 = 8 →
        (vp_in x1 200) ∧
        K (some (.int (zI μ 84 x1.toNatClampNeg))) μ) ∧
      (x2 = 9 →
        (vp_in x1 200) ∧
        AW E l (d + 3) 0 0 mX11_find 0 (zargs 13 [.ref 31, .int x1, .int (zI μ 76 x1.toNatClampNeg)]) [] μ (fun v μ38 => v = none ∧ Stat μ38 ∧ 
          K (some (.int (zI μ38 31 78))) μ38)) ∧
      ((¬ x2 = 0 ∧ ¬ x2 = 1 ∧ ¬ x2 = 2 ∧ ¬ x2 = 3 ∧ ¬ x2 = 4 ∧ ¬ x2 = 5 ∧ ¬ x2 = 6 ∧ ¬ x2 = 7 ∧ ¬ x2 = 8 ∧ ¬ x2 = 9) →
      K (some (.int (-2000000000))) μ)))) : AW E l (d + 4) nc ns mX11_ofAsking 0 [some (.ref 31), some (.int x1), some (.int x2)] [] μ K := by
  refine aw_aload_n (pc' := 1) (dt_X11_ofAsking 0 (0, .aload_n 0, 1) rfl) rfl rfl (aw_iload_n (pc' := 2) (dt_X11_ofAsking 1 (1, .iload_n 1, 1) rfl) rfl rfl (aw_inV (pc' := 5) (nc1 := 0) (ns1 := 0) (nc := nc) (ns := ns) (ls' := [some (.ref 31), some (.int x1)]) (y2 := mX11_isAsking) (As := [.int x1]) (rest := []) (a := 31) (dt_X11_ofAsking 2 (2, .invokevirtual 399, 3) rfl) ok_X11_isAsking ln_ReturnDeskModel_399 im_X11_isAsking se_X11_isAsking pr_X11_isAsking (Or.inl ⟨by decide, rfl⟩) rfl (Nat.le_of_ble_eq_true rfl) (Nat.le_of_ble_eq_true rfl) rfl rfl (sk_31 hS) (aw_iload_n (pc' := 1) (dt_X11_isAsking 0 (0, .iload_n 1, 1) rfl) rfl rfl (aw_iconst (pc' := 2) (v := 0) (dt_X11_isAsking 1 (1, .iconst 0, 1) rfl) (by decide) rfl (aw_aload_n (pc' := 3) (dt_X11_isAsking 2 (2, .aload_n 0, 1) rfl) rfl rfl (aw_getI (pc' := 6) (dt_X11_isAsking 3 (3, .getfield 384, 3) rfl) fl_ReturnDeskModel_384 rfl rfl (sk_31 hS) (aw_iconst (pc' := 7) (v := 1) (dt_X11_isAsking 4 (6, .iconst 1, 1) rfl) (by decide) rfl (aw_isub (pc' := 8) (dt_X11_isAsking 5 (7, .isub, 1) rfl) rfl (aw_inS (pc' := 11) (nc1 := 0) (ns1 := 0) (nc := 0) (ns := 0) (ls' := [some (.int x1), some (.int 0), some (.int ((zI μ 31 60) - 1))]) (y2 := mX11_in) (As := [.int x1, .int 0, .int ((zI μ 31 60) - 1)]) (rest := []) (dt_X11_isAsking 6 (8, .invokestatic 185, 3) rfl) ok_X11_in ln_ReturnDeskModel_185 sm_X11_in pr_X11_in rfl (Nat.le_of_ble_eq_true rfl) (Nat.le_of_ble_eq_true rfl) rfl rfl (aw_iload_n (pc' := 1) (dt_X11_in 0 (0, .iload_n 0, 1) rfl) rfl rfl (aw_iload_n (pc' := 2) (dt_X11_in 1 (1, .iload_n 1, 1) rfl) rfl rfl (aw_icmp_lt (pc' := 5) (tgt := 14) (dt_X11_in 2 (2, .if_icmp .lt 12, 3) rfl) (by decide) rfl ?_ ?_))))))))))))
  · intro q1
    have h := h.1 q1
    refine aw_iconst (pc' := 15) (v := 0) (dt_X11_in 8 (14, .iconst 0, 1) rfl) (by decide) rfl (aw_iret (dt_X11_in 9 (15, .ireturn, 1) rfl) rfl rfl (aw_stk (st' := [.int 0]) rfl (aw_iret (dt_X11_isAsking 7 (11, .ireturn, 1) rfl) rfl rfl (aw_stk (st' := [.int 0]) rfl (aw_if_ne_F (pc' := 8) (tgt := 11) (dt_X11_ofAsking 3 (5, .ifCond .ne 6, 3) rfl) (by decide) rfl (by decide) (aw_ldc (pc' := 10) (dt_X11_ofAsking 4 (8, .ldc 235, 2) rfl) ct_ReturnDeskModel_235 rfl (aw_iret (dt_X11_ofAsking 5 (10, .ireturn, 1) rfl) rfl rfl ?_)))))))
    exact h
  · intro q1
    have h := h.2 q1
    refine aw_iload_n (pc' := 6) (dt_X11_in 3 (5, .iload_n 0, 1) rfl) rfl rfl (aw_iload_n (pc' := 7) (dt_X11_in 4 (6, .iload_n 2, 1) rfl) rfl rfl (aw_icmp_gt (pc' := 10) (tgt := 14) (dt_X11_in 5 (7, .if_icmp .gt 7, 3) rfl) (by decide) rfl ?_ ?_))
    · intro q2
      have h := h.1 q2
      refine aw_iconst (pc' := 15) (v := 0) (dt_X11_in 8 (14, .iconst 0, 1) rfl) (by decide) rfl (aw_iret (dt_X11_in 9 (15, .ireturn, 1) rfl) rfl rfl (aw_stk (st' := [.int 0]) rfl (aw_iret (dt_X11_isAsking 7 (11, .ireturn, 1) rfl) rfl rfl (aw_stk (st' := [.int 0]) rfl (aw_if_ne_F (pc' := 8) (tgt := 11) (dt_X11_ofAsking 3 (5, .ifCond .ne 6, 3) rfl) (by decide) rfl (by decide) (aw_ldc (pc' := 10) (dt_X11_ofAsking 4 (8, .ldc 235, 2) rfl) ct_ReturnDeskModel_235 rfl (aw_iret (dt_X11_ofAsking 5 (10, .ireturn, 1) rfl) rfl rfl ?_)))))))
      exact h
    · intro q2
      have h := h.2 q2
      refine aw_iconst (pc' := 11) (v := 1) (dt_X11_in 6 (10, .iconst 1, 1) rfl) (by decide) rfl (aw_goto (tgt := 15) (dt_X11_in 7 (11, .goto 4, 3) rfl) (by decide) (aw_iret (dt_X11_in 9 (15, .ireturn, 1) rfl) rfl rfl (aw_stk (st' := [.int 1]) rfl (aw_iret (dt_X11_isAsking 7 (11, .ireturn, 1) rfl) rfl rfl (aw_stk (st' := [.int 1]) rfl (aw_if_ne_T (pc' := 8) (tgt := 11) (dt_X11_ofAsking 3 (5, .ifCond .ne 6, 3) rfl) (by decide) rfl (by decide) (aw_iload_n (pc' := 12) (dt_X11_ofAsking 6 (11, .iload_n 2, 1) rfl) rfl rfl ?_)))))))
      by_cases q3 : x2 = 0
      · have h := h.1 q3
        refine aw_tableE (tgt := 68) (off := 56) (dt_X11_ofAsking 7 (12, .tableswitch 200 0 9 #[56, 63, 70, 77, 133, 148, 163, 170, 177, 184], 56) rfl) q3 (by decide) (by decide) (by decide) (by decide) ?_
        obtain ⟨g4, h⟩ := h
        refine aw_aload_n (pc' := 69) (dt_X11_ofAsking 8 (68, .aload_n 0, 1) rfl) rfl rfl (aw_getAs (pc' := 72) (dt_X11_ofAsking 9 (69, .getfield 138, 3) rfl) fl_ReturnDeskModel_138 rfl rfl (sk_31 hS) (sa_31_61 hS) (aw_iload_n (pc' := 73) (dt_X11_ofAsking 10 (72, .iload_n 1, 1) rfl) rfl rfl (aw_iald (pc' := 74) (dt_X11_ofAsking 11 (73, .iaload, 1) rfl) rfl (sk_74 hS) (vin_eq (sl_74 hS) g4) (aw_iret (dt_X11_ofAsking 12 (74, .ireturn, 1) rfl) rfl rfl ?_))))
        exact h
      by_cases q5 : x2 = 1
      · have h := h.2.1 q5
        refine aw_tableE (tgt := 75) (off := 63) (dt_X11_ofAsking 7 (12, .tableswitch 200 0 9 #[56, 63, 70, 77, 133, 148, 163, 170, 177, 184], 56) rfl) q5 (by decide) (by decide) (by decide) (by decide) ?_
        obtain ⟨g6, h⟩ := h
        refine aw_aload_n (pc' := 76) (dt_X11_ofAsking 13 (75, .aload_n 0, 1) rfl) rfl rfl (aw_getAs (pc' := 79) (dt_X11_ofAsking 14 (76, .getfield 141, 3) rfl) fl_ReturnDeskModel_141 rfl rfl (sk_31 hS) (sa_31_62 hS) (aw_iload_n (pc' := 80) (dt_X11_ofAsking 15 (79, .iload_n 1, 1) rfl) rfl rfl (aw_iald (pc' := 81) (dt_X11_ofAsking 16 (80, .iaload, 1) rfl) rfl (sk_75 hS) (vin_eq (sl_75 hS) g6) (aw_iret (dt_X11_ofAsking 17 (81, .ireturn, 1) rfl) rfl rfl ?_))))
        exact h
      by_cases q7 : x2 = 2
      · have h := h.2.2.1 q7
        refine aw_tableE (tgt := 82) (off := 70) (dt_X11_ofAsking 7 (12, .tableswitch 200 0 9 #[56, 63, 70, 77, 133, 148, 163, 170, 177, 184], 56) rfl) q7 (by decide) (by decide) (by decide) (by decide) ?_
        obtain ⟨g8, h⟩ := h
        refine aw_aload_n (pc' := 83) (dt_X11_ofAsking 18 (82, .aload_n 0, 1) rfl) rfl rfl (aw_getAs (pc' := 86) (dt_X11_ofAsking 19 (83, .getfield 144, 3) rfl) fl_ReturnDeskModel_144 rfl rfl (sk_31 hS) (sa_31_63 hS) (aw_iload_n (pc' := 87) (dt_X11_ofAsking 20 (86, .iload_n 1, 1) rfl) rfl rfl (aw_iald (pc' := 88) (dt_X11_ofAsking 21 (87, .iaload, 1) rfl) rfl (sk_76 hS) (vin_eq (sl_76 hS) g8) (aw_iret (dt_X11_ofAsking 22 (88, .ireturn, 1) rfl) rfl rfl ?_))))
        exact h
      by_cases q9 : x2 = 3
      · have h := h.2.2.2.1 q9
        refine aw_tableE (tgt := 89) (off := 77) (dt_X11_ofAsking 7 (12, .tableswitch 200 0 9 #[56, 63, 70, 77, 133, 148, 163, 170, 177, 184], 56) rfl) q9 (by decide) (by decide) (by decide) (by decide) ?_
        obtain ⟨g10, h⟩ := h
        refine aw_aload_n (pc' := 90) (dt_X11_ofAsking 23 (89, .aload_n 0, 1) rfl) rfl rfl (aw_iload_n (pc' := 91) (dt_X11_ofAsking 24 (90, .iload_n 1, 1) rfl) rfl rfl (aw_aload_n (pc' := 92) (dt_X11_ofAsking 25 (91, .aload_n 0, 1) rfl) rfl rfl (aw_getAs (pc' := 95) (dt_X11_ofAsking 26 (92, .getfield 144, 3) rfl) fl_ReturnDeskModel_144 rfl rfl (sk_31 hS) (sa_31_63 hS) (aw_iload_n (pc' := 96) (dt_X11_ofAsking 27 (95, .iload_n 1, 1) rfl) rfl rfl (aw_iald (pc' := 97) (dt_X11_ofAsking 28 (96, .iaload, 1) rfl) rfl (sk_76 hS) (vin_eq (sl_76 hS) g10) (aw_callV0 (pc' := 100) (nc := nc) (ns := ns) (y2 := mX11_find) (As := [.int x1, .int (zI μ 76 x1.toNatClampNeg)]) (rest := []) (a := 31) (dt_X11_ofAsking 29 (97, .invokevirtual 402, 3) rfl) ok_X11_find ln_ReturnDeskModel_402 im_X11_find se_X11_find pr_X11_find (Or.inl ⟨by decide, rfl⟩) rfl (Nat.le_of_ble_eq_true rfl) (Nat.le_of_ble_eq_true rfl) rfl (sk_31 hS) h ?_))))))
        rintro v μ11 ⟨rfl, hS12, h⟩
        refine aw_stk (st' := []) rfl ?_
        obtain ⟨g13, h⟩ := h
        obtain ⟨g14, h⟩ := h
        refine aw_aload_n (pc' := 101) (dt_X11_ofAsking 30 (100, .aload_n 0, 1) rfl) rfl rfl (aw_getI (pc' := 104) (dt_X11_ofAsking 31 (101, .getfield 387, 3) rfl) fl_ReturnDeskModel_387 rfl rfl (sk_31 hS12) (aw_aload_n (pc' := 105) (dt_X11_ofAsking 32 (104, .aload_n 0, 1) rfl) rfl rfl (aw_getAs (pc' := 108) (dt_X11_ofAsking 33 (105, .getfield 83, 3) rfl) fl_ReturnDeskModel_83 rfl rfl (sk_31 hS12) (sa_31_31 hS12) (aw_aload_n (pc' := 109) (dt_X11_ofAsking 34 (108, .aload_n 0, 1) rfl) rfl rfl (aw_getAs (pc' := 112) (dt_X11_ofAsking 35 (109, .getfield 138, 3) rfl) fl_ReturnDeskModel_138 rfl rfl (sk_31 hS12) (sa_31_61 hS12) (aw_iload_n (pc' := 113) (dt_X11_ofAsking 36 (112, .iload_n 1, 1) rfl) rfl rfl (aw_iald (pc' := 114) (dt_X11_ofAsking 37 (113, .iaload, 1) rfl) rfl (sk_74 hS12) (vin_eq (sl_74 hS12) g13) (aw_iald (pc' := 115) (dt_X11_ofAsking 38 (114, .iaload, 1) rfl) rfl (sk_56 hS12) (vin_eq (sl_56 hS12) g14) (aw_callS0 (pc' := 118) (nc := nc) (ns := ns) (y2 := mX11_worthOf) (As := [.int (zI μ11 31 76), .int (zI μ11 56 (zI μ11 74 x1.toNatClampNeg).toNatClampNeg)]) (rest := []) (dt_X11_ofAsking 39 (115, .invokestatic 393, 3) rfl) ok_X11_worthOf ln_ReturnDeskModel_393 sm_X11_worthOf pr_X11_worthOf rfl (Nat.le_of_ble_eq_true rfl) (Nat.le_of_ble_eq_true rfl) rfl  h ?_)))))))))
        rintro v μ15 ⟨r17, rfl, hS16, h⟩
        refine aw_stk (st' := [.int r17]) rfl ?_
        obtain ⟨g18, h⟩ := h
        obtain ⟨g19, h⟩ := h
        refine aw_aload_n (pc' := 119) (dt_X11_ofAsking 40 (118, .aload_n 0, 1) rfl) rfl rfl (aw_getI (pc' := 122) (dt_X11_ofAsking 41 (119, .getfield 390, 3) rfl) fl_ReturnDeskModel_390 rfl rfl (sk_31 hS16) (aw_aload_n (pc' := 123) (dt_X11_ofAsking 42 (122, .aload_n 0, 1) rfl) rfl rfl (aw_getAs (pc' := 126) (dt_X11_ofAsking 43 (123, .getfield 83, 3) rfl) fl_ReturnDeskModel_83 rfl rfl (sk_31 hS16) (sa_31_31 hS16) (aw_aload_n (pc' := 127) (dt_X11_ofAsking 44 (126, .aload_n 0, 1) rfl) rfl rfl (aw_getAs (pc' := 130) (dt_X11_ofAsking 45 (127, .getfield 138, 3) rfl) fl_ReturnDeskModel_138 rfl rfl (sk_31 hS16) (sa_31_61 hS16) (aw_iload_n (pc' := 131) (dt_X11_ofAsking 46 (130, .iload_n 1, 1) rfl) rfl rfl (aw_iald (pc' := 132) (dt_X11_ofAsking 47 (131, .iaload, 1) rfl) rfl (sk_74 hS16) (vin_eq (sl_74 hS16) g18) (aw_iald (pc' := 133) (dt_X11_ofAsking 48 (132, .iaload, 1) rfl) rfl (sk_56 hS16) (vin_eq (sl_56 hS16) g19) (aw_callS0 (pc' := 136) (nc := nc) (ns := ns) (y2 := mX11_worthOf) (As := [.int (zI μ15 31 77), .int (zI μ15 56 (zI μ15 74 x1.toNatClampNeg).toNatClampNeg)]) (rest := [.int r17]) (dt_X11_ofAsking 49 (133, .invokestatic 393, 3) rfl) ok_X11_worthOf ln_ReturnDeskModel_393 sm_X11_worthOf pr_X11_worthOf rfl (Nat.le_of_ble_eq_true rfl) (Nat.le_of_ble_eq_true rfl) rfl  h ?_)))))))))
        rintro v μ20 ⟨r22, rfl, hS21, h⟩
        refine aw_stk (st' := [.int r22, .int r17]) rfl ?_
        refine aw_icmp_eq (pc' := 139) (tgt := 143) (dt_X11_ofAsking 50 (136, .if_icmp .eq 7, 3) rfl) (by decide) rfl ?_ ?_
        · intro q23
          have h := h.1 q23
          refine aw_iconst (pc' := 144) (v := 0) (dt_X11_ofAsking 53 (143, .iconst 0, 1) rfl) (by decide) rfl (aw_iret (dt_X11_ofAsking 54 (144, .ireturn, 1) rfl) rfl rfl ?_)
          exact h
        · intro q23
          have h := h.2 q23
          refine aw_iconst (pc' := 140) (v := 1) (dt_X11_ofAsking 51 (139, .iconst 1, 1) rfl) (by decide) rfl (aw_goto (tgt := 144) (dt_X11_ofAsking 52 (140, .goto 4, 3) rfl) (by decide) (aw_iret (dt_X11_ofAsking 54 (144, .ireturn, 1) rfl) rfl rfl ?_))
          exact h
      by_cases q24 : x2 = 4
      · have h := h.2.2.2.2.1 q24
        refine aw_tableE (tgt := 145) (off := 133) (dt_X11_ofAsking 7 (12, .tableswitch 200 0 9 #[56, 63, 70, 77, 133, 148, 163, 170, 177, 184], 56) rfl) q24 (by decide) (by decide) (by decide) (by decide) ?_
        obtain ⟨g25, h⟩ := h
        refine aw_aload_n (pc' := 146) (dt_X11_ofAsking 55 (145, .aload_n 0, 1) rfl) rfl rfl (aw_getAs (pc' := 149) (dt_X11_ofAsking 56 (146, .getfield 156, 3) rfl) fl_ReturnDeskModel_156 rfl rfl (sk_31 hS) (sa_31_67 hS) (aw_iload_n (pc' := 150) (dt_X11_ofAsking 57 (149, .iload_n 1, 1) rfl) rfl rfl (aw_zald (pc' := 151) (dt_X11_ofAsking 58 (150, .baload, 1) rfl) rfl (sk_80 hS) (vin_eq (sl_80 hS) g25) (aw_if_eq (pc' := 154) (tgt := 158) (dt_X11_ofAsking 59 (151, .ifCond .eq 7, 3) rfl) (by decide) rfl ?_ ?_))))
        · intro q26
          have h := h.1 q26
          refine aw_iconst (pc' := 159) (v := 0) (dt_X11_ofAsking 62 (158, .iconst 0, 1) rfl) (by decide) rfl (aw_iret (dt_X11_ofAsking 63 (159, .ireturn, 1) rfl) rfl rfl ?_)
          exact h
        · intro q26
          have h := h.2 q26
          refine aw_iconst (pc' := 155) (v := 1) (dt_X11_ofAsking 60 (154, .iconst 1, 1) rfl) (by decide) rfl (aw_goto (tgt := 159) (dt_X11_ofAsking 61 (155, .goto 4, 3) rfl) (by decide) (aw_iret (dt_X11_ofAsking 63 (159, .ireturn, 1) rfl) rfl rfl ?_))
          exact h
      by_cases q27 : x2 = 5
      · have h := h.2.2.2.2.2.1 q27
        refine aw_tableE (tgt := 160) (off := 148) (dt_X11_ofAsking 7 (12, .tableswitch 200 0 9 #[56, 63, 70, 77, 133, 148, 163, 170, 177, 184], 56) rfl) q27 (by decide) (by decide) (by decide) (by decide) ?_
        obtain ⟨g28, h⟩ := h
        refine aw_aload_n (pc' := 161) (dt_X11_ofAsking 64 (160, .aload_n 0, 1) rfl) rfl rfl (aw_getAs (pc' := 164) (dt_X11_ofAsking 65 (161, .getfield 159, 3) rfl) fl_ReturnDeskModel_159 rfl rfl (sk_31 hS) (sa_31_68 hS) (aw_iload_n (pc' := 165) (dt_X11_ofAsking 66 (164, .iload_n 1, 1) rfl) rfl rfl (aw_zald (pc' := 166) (dt_X11_ofAsking 67 (165, .baload, 1) rfl) rfl (sk_81 hS) (vin_eq (sl_81 hS) g28) (aw_if_eq (pc' := 169) (tgt := 173) (dt_X11_ofAsking 68 (166, .ifCond .eq 7, 3) rfl) (by decide) rfl ?_ ?_))))
        · intro q29
          have h := h.1 q29
          refine aw_iconst (pc' := 174) (v := 0) (dt_X11_ofAsking 71 (173, .iconst 0, 1) rfl) (by decide) rfl (aw_iret (dt_X11_ofAsking 72 (174, .ireturn, 1) rfl) rfl rfl ?_)
          exact h
        · intro q29
          have h := h.2 q29
          refine aw_iconst (pc' := 170) (v := 1) (dt_X11_ofAsking 69 (169, .iconst 1, 1) rfl) (by decide) rfl (aw_goto (tgt := 174) (dt_X11_ofAsking 70 (170, .goto 4, 3) rfl) (by decide) (aw_iret (dt_X11_ofAsking 72 (174, .ireturn, 1) rfl) rfl rfl ?_))
          exact h
      by_cases q30 : x2 = 6
      · have h := h.2.2.2.2.2.2.1 q30
        refine aw_tableE (tgt := 175) (off := 163) (dt_X11_ofAsking 7 (12, .tableswitch 200 0 9 #[56, 63, 70, 77, 133, 148, 163, 170, 177, 184], 56) rfl) q30 (by decide) (by decide) (by decide) (by decide) ?_
        obtain ⟨g31, h⟩ := h
        refine aw_aload_n (pc' := 176) (dt_X11_ofAsking 73 (175, .aload_n 0, 1) rfl) rfl rfl (aw_getAs (pc' := 179) (dt_X11_ofAsking 74 (176, .getfield 162, 3) rfl) fl_ReturnDeskModel_162 rfl rfl (sk_31 hS) (sa_31_69 hS) (aw_iload_n (pc' := 180) (dt_X11_ofAsking 75 (179, .iload_n 1, 1) rfl) rfl rfl (aw_iald (pc' := 181) (dt_X11_ofAsking 76 (180, .iaload, 1) rfl) rfl (sk_82 hS) (vin_eq (sl_82 hS) g31) (aw_iret (dt_X11_ofAsking 77 (181, .ireturn, 1) rfl) rfl rfl ?_))))
        exact h
      by_cases q32 : x2 = 7
      · have h := h.2.2.2.2.2.2.2.1 q32
        refine aw_tableE (tgt := 182) (off := 170) (dt_X11_ofAsking 7 (12, .tableswitch 200 0 9 #[56, 63, 70, 77, 133, 148, 163, 170, 177, 184], 56) rfl) q32 (by decide) (by decide) (by decide) (by decide) ?_
        obtain ⟨g33, h⟩ := h
        refine aw_aload_n (pc' := 183) (dt_X11_ofAsking 78 (182, .aload_n 0, 1) rfl) rfl rfl (aw_getAs (pc' := 186) (dt_X11_ofAsking 79 (183, .getfield 165, 3) rfl) fl_ReturnDeskModel_165 rfl rfl (sk_31 hS) (sa_31_70 hS) (aw_iload_n (pc' := 187) (dt_X11_ofAsking 80 (186, .iload_n 1, 1) rfl) rfl rfl (aw_iald (pc' := 188) (dt_X11_ofAsking 81 (187, .iaload, 1) rfl) rfl (sk_83 hS) (vin_eq (sl_83 hS) g33) (aw_iret (dt_X11_ofAsking 82 (188, .ireturn, 1) rfl) rfl rfl ?_))))
        exact h
      by_cases q34 : x2 = 8
      · have h := h.2.2.2.2.2.2.2.2.1 q34
        refine aw_tableE (tgt := 189) (off := 177) (dt_X11_ofAsking 7 (12, .tableswitch 200 0 9 #[56, 63, 70, 77, 133, 148, 163, 170, 177, 184], 56) rfl) q34 (by decide) (by decide) (by decide) (by decide) ?_
        obtain ⟨g35, h⟩ := h
        refine aw_aload_n (pc' := 190) (dt_X11_ofAsking 83 (189, .aload_n 0, 1) rfl) rfl rfl (aw_getAs (pc' := 193) (dt_X11_ofAsking 84 (190, .getfield 168, 3) rfl) fl_ReturnDeskModel_168 rfl rfl (sk_31 hS) (sa_31_71 hS) (aw_iload_n (pc' := 194) (dt_X11_ofAsking 85 (193, .iload_n 1, 1) rfl) rfl rfl (aw_iald (pc' := 195) (dt_X11_ofAsking 86 (194, .iaload, 1) rfl) rfl (sk_84 hS) (vin_eq (sl_84 hS) g35) (aw_iret (dt_X11_ofAsking 87 (195, .ireturn, 1) rfl) rfl rfl ?_))))
        exact h
      by_cases q36 : x2 = 9
      · have h := h.2.2.2.2.2.2.2.2.2.1 q36
        refine aw_tableE (tgt := 196) (off := 184) (dt_X11_ofAsking 7 (12, .tableswitch 200 0 9 #[56, 63, 70, 77, 133, 148, 163, 170, 177, 184], 56) rfl) q36 (by decide) (by decide) (by decide) (by decide) ?_
        obtain ⟨g37, h⟩ := h
        refine aw_aload_n (pc' := 197) (dt_X11_ofAsking 88 (196, .aload_n 0, 1) rfl) rfl rfl (aw_iload_n (pc' := 198) (dt_X11_ofAsking 89 (197, .iload_n 1, 1) rfl) rfl rfl (aw_aload_n (pc' := 199) (dt_X11_ofAsking 90 (198, .aload_n 0, 1) rfl) rfl rfl (aw_getAs (pc' := 202) (dt_X11_ofAsking 91 (199, .getfield 144, 3) rfl) fl_ReturnDeskModel_144 rfl rfl (sk_31 hS) (sa_31_63 hS) (aw_iload_n (pc' := 203) (dt_X11_ofAsking 92 (202, .iload_n 1, 1) rfl) rfl rfl (aw_iald (pc' := 204) (dt_X11_ofAsking 93 (203, .iaload, 1) rfl) rfl (sk_76 hS) (vin_eq (sl_76 hS) g37) (aw_callV0 (pc' := 207) (nc := nc) (ns := ns) (y2 := mX11_find) (As := [.int x1, .int (zI μ 76 x1.toNatClampNeg)]) (rest := []) (a := 31) (dt_X11_ofAsking 94 (204, .invokevirtual 402, 3) rfl) ok_X11_find ln_ReturnDeskModel_402 im_X11_find se_X11_find pr_X11_find (Or.inl ⟨by decide, rfl⟩) rfl (Nat.le_of_ble_eq_true rfl) (Nat.le_of_ble_eq_true rfl) rfl (sk_31 hS) h ?_))))))
        rintro v μ38 ⟨rfl, hS39, h⟩
        refine aw_stk (st' := []) rfl ?_
        refine aw_aload_n (pc' := 208) (dt_X11_ofAsking 95 (207, .aload_n 0, 1) rfl) rfl rfl (aw_getI (pc' := 211) (dt_X11_ofAsking 96 (208, .getfield 396, 3) rfl) fl_ReturnDeskModel_396 rfl rfl (sk_31 hS39) (aw_iret (dt_X11_ofAsking 97 (211, .ireturn, 1) rfl) rfl rfl ?_))
        exact h
      have h := h.2.2.2.2.2.2.2.2.2.2 ⟨q3, q5, q7, q9, q24, q27, q30, q32, q34, q36⟩
      refine aw_tableOut (tgt := 212) (dt_X11_ofAsking 7 (12, .tableswitch 200 0 9 #[56, 63, 70, 77, 133, 148, 163, 170, 177, 184], 56) rfl) (tab_out (lo := 0) (n := 10) (by decide) (by decide) (by decide) (by
          intro k hk
          match k, hk with
          | 0, _ => exact q3
          | 1, _ => exact q5
          | 2, _ => exact q7
          | 3, _ => exact q9
          | 4, _ => exact q24
          | 5, _ => exact q27
          | 6, _ => exact q30
          | 7, _ => exact q32
          | 8, _ => exact q34
          | 9, _ => exact q36
          | k + 10, hk => omega)) (by decide) ?_
      refine aw_ldc (pc' := 214) (dt_X11_ofAsking 98 (212, .ldc 235, 2) rfl) ct_ReturnDeskModel_235 rfl (aw_iret (dt_X11_ofAsking 99 (214, .ireturn, 1) rfl) rfl rfl ?_)
      exact h

theorem t_X11_newOf {E : ZE} {l : Launch} {d nc ns : Nat} {x1 : Int32} {μ : ZM} {K : Option Value → ZM → Prop} (hS : Stat μ) (h :
  (vp_in x1 20) ∧
  AW E l d nc ns mX11_newOf 9 [some (.ref 31), some (.int x1), some (.int (zI μ 38 x1.toNatClampNeg)), some (.int 0)] [] μ K) : AW E l d nc ns mX11_newOf 0 [some (.ref 31), some (.int x1), none, none] [] μ K := by
  obtain ⟨g1, h⟩ := h
  refine aw_aload_n (pc' := 1) (dt_X11_newOf 0 (0, .aload_n 0, 1) rfl) rfl rfl (aw_getAs (pc' := 4) (dt_X11_newOf 1 (1, .getfield 28, 3) rfl) fl_ReturnDeskModel_28 rfl rfl (sk_31 hS) (sa_31_10 hS) (aw_iload_n (pc' := 5) (dt_X11_newOf 2 (4, .iload_n 1, 1) rfl) rfl rfl (aw_iald (pc' := 6) (dt_X11_newOf 3 (5, .iaload, 1) rfl) rfl (sk_38 hS) (vin_eq (sl_38 hS) g1) (aw_istore_n (pc' := 7) (ls' := [some (.ref 31), some (.int x1), some (.int (zI μ 38 x1.toNatClampNeg)), none]) (dt_X11_newOf 4 (6, .istore_n 2, 1) rfl) (by decide) rfl rfl (aw_iconst (pc' := 8) (v := 0) (dt_X11_newOf 5 (7, .iconst 0, 1) rfl) (by decide) rfl (aw_istore_n (pc' := 9) (ls' := [some (.ref 31), some (.int x1), some (.int (zI μ 38 x1.toNatClampNeg)), some (.int 0)]) (dt_X11_newOf 6 (8, .istore_n 3, 1) rfl) (by decide) rfl rfl ?_))))))
  exact h

theorem t_X11_newOf_9 {E : ZE} {l : Launch} {d nc ns : Nat} {x1 : Int32} {x2 : Int32} {x3 : Int32} {μ : ZM} {K : Option Value → ZM → Prop} (hS : Stat μ) (h :
  ((zI μ 31 18) ≤ x3 →
    K (some (.int x2)) μ) ∧
  (¬ (zI μ 31 18) ≤ x3 →
    (vp_in x3 60) ∧
    (¬ (zI μ 45 x3.toNatClampNeg) = x1 →
      AW E l d nc ns mX11_newOf 9 [some (.ref 31), some (.int x1), some (.int (x2 + 0)), some (.int (x3 + 1))] [] μ K) ∧
    ((zI μ 45 x3.toNatClampNeg) = x1 →
      (vp_in x3 60) ∧
      AW E l d nc ns mX11_newOf 9 [some (.ref 31), some (.int x1), some (.int (x2 + (zI μ 47 x3.toNatClampNeg))), some (.int (x3 + 1))] [] μ K))) : AW E l d nc ns mX11_newOf 9 [some (.ref 31), some (.int x1), some (.int x2), some (.int x3)] [] μ K := by
  refine aw_iload_n (pc' := 10) (dt_X11_newOf 7 (9, .iload_n 3, 1) rfl) rfl rfl (aw_aload_n (pc' := 11) (dt_X11_newOf 8 (10, .aload_n 0, 1) rfl) rfl rfl (aw_getI (pc' := 14) (dt_X11_newOf 9 (11, .getfield 195, 3) rfl) fl_ReturnDeskModel_195 rfl rfl (sk_31 hS) (aw_icmp_ge (pc' := 17) (tgt := 46) (dt_X11_newOf 10 (14, .if_icmp .ge 32, 3) rfl) (by decide) rfl ?_ ?_)))
  · intro q1
    have h := h.1 q1
    refine aw_iload_n (pc' := 47) (dt_X11_newOf 28 (46, .iload_n 2, 1) rfl) rfl rfl (aw_iret (dt_X11_newOf 29 (47, .ireturn, 1) rfl) rfl rfl ?_)
    exact h
  · intro q1
    have h := h.2 q1
    obtain ⟨g2, h⟩ := h
    refine aw_iload_n (pc' := 18) (dt_X11_newOf 11 (17, .iload_n 2, 1) rfl) rfl rfl (aw_aload_n (pc' := 19) (dt_X11_newOf 12 (18, .aload_n 0, 1) rfl) rfl rfl (aw_getAs (pc' := 22) (dt_X11_newOf 13 (19, .getfield 50, 3) rfl) fl_ReturnDeskModel_50 rfl rfl (sk_31 hS) (sa_31_19 hS) (aw_iload_n (pc' := 23) (dt_X11_newOf 14 (22, .iload_n 3, 1) rfl) rfl rfl (aw_iald (pc' := 24) (dt_X11_newOf 15 (23, .iaload, 1) rfl) rfl (sk_45 hS) (vin_eq (sl_45 hS) g2) (aw_iload_n (pc' := 25) (dt_X11_newOf 16 (24, .iload_n 1, 1) rfl) rfl rfl (aw_icmp_ne (pc' := 28) (tgt := 37) (dt_X11_newOf 17 (25, .if_icmp .ne 12, 3) rfl) (by decide) rfl ?_ ?_))))))
    · intro q3
      have h := h.1 q3
      refine aw_iconst (pc' := 38) (v := 0) (dt_X11_newOf 23 (37, .iconst 0, 1) rfl) (by decide) rfl (aw_iadd (pc' := 39) (dt_X11_newOf 24 (38, .iadd, 1) rfl) rfl (aw_istore_n (pc' := 40) (ls' := [some (.ref 31), some (.int x1), some (.int (x2 + 0)), some (.int x3)]) (dt_X11_newOf 25 (39, .istore_n 2, 1) rfl) (by decide) rfl rfl (aw_iinc (pc' := 43) (v := 1) (ls' := [some (.ref 31), some (.int x1), some (.int (x2 + 0)), some (.int (x3 + 1))]) (dt_X11_newOf 26 (40, .iinc 3 1, 3) rfl) rfl (by decide) (by decide) rfl rfl (aw_goto (tgt := 9) (dt_X11_newOf 27 (43, .goto (-34), 3) rfl) (by decide) ?_))))
      exact h
    · intro q3
      have h := h.2 q3
      obtain ⟨g4, h⟩ := h
      refine aw_aload_n (pc' := 29) (dt_X11_newOf 18 (28, .aload_n 0, 1) rfl) rfl rfl (aw_getAs (pc' := 32) (dt_X11_newOf 19 (29, .getfield 56, 3) rfl) fl_ReturnDeskModel_56 rfl rfl (sk_31 hS) (sa_31_21 hS) (aw_iload_n (pc' := 33) (dt_X11_newOf 20 (32, .iload_n 3, 1) rfl) rfl rfl (aw_iald (pc' := 34) (dt_X11_newOf 21 (33, .iaload, 1) rfl) rfl (sk_47 hS) (vin_eq (sl_47 hS) g4) (aw_goto (tgt := 38) (dt_X11_newOf 22 (34, .goto 4, 3) rfl) (by decide) (aw_iadd (pc' := 39) (dt_X11_newOf 24 (38, .iadd, 1) rfl) rfl (aw_istore_n (pc' := 40) (ls' := [some (.ref 31), some (.int x1), some (.int (x2 + (zI μ 47 x3.toNatClampNeg))), some (.int x3)]) (dt_X11_newOf 25 (39, .istore_n 2, 1) rfl) (by decide) rfl rfl (aw_iinc (pc' := 43) (v := 1) (ls' := [some (.ref 31), some (.int x1), some (.int (x2 + (zI μ 47 x3.toNatClampNeg))), some (.int (x3 + 1))]) (dt_X11_newOf 26 (40, .iinc 3 1, 3) rfl) rfl (by decide) (by decide) rfl rfl (aw_goto (tgt := 9) (dt_X11_newOf 27 (43, .goto (-34), 3) rfl) (by decide) ?_))))))))
      exact h

theorem t_X11_giveNew {E : ZE} {l : Launch} {d nc ns : Nat} {x1 : Int32} {μ : ZM} {K : Option Value → ZM → Prop} (hS : Stat μ) (h :
  AW E l d nc ns mX11_giveNew 2 [some (.ref 31), some (.int x1), some (.int 0)] [] μ K) : AW E l d nc ns mX11_giveNew 0 [some (.ref 31), some (.int x1), none] [] μ K := by
  refine aw_iconst (pc' := 1) (v := 0) (dt_X11_giveNew 0 (0, .iconst 0, 1) rfl) (by decide) rfl (aw_istore_n (pc' := 2) (ls' := [some (.ref 31), some (.int x1), some (.int 0)]) (dt_X11_giveNew 1 (1, .istore_n 2, 1) rfl) (by decide) rfl rfl ?_)
  exact h

theorem t_X11_giveNew_2 {E : ZE} {l : Launch} {d nc ns : Nat} {x1 : Int32} {x2 : Int32} {μ : ZM} {K : Option Value → ZM → Prop} (hS : Stat μ) (h :
  ((zI μ 31 18) ≤ x2 →
    (vp_in x1 20) ∧
    (vp_in x1 20) ∧
    K none (sI μ 38 x1.toNatClampNeg ((zI μ 38 x1.toNatClampNeg) - 1))) ∧
  (¬ (zI μ 31 18) ≤ x2 →
    (vp_in x2 60) ∧
    (¬ (zI μ 45 x2.toNatClampNeg) = x1 →
      AW E l d nc ns mX11_giveNew 2 [some (.ref 31), some (.int x1), some (.int (x2 + 1))] [] μ K) ∧
    ((zI μ 45 x2.toNatClampNeg) = x1 →
      (vp_in x2 60) ∧
      (¬ (zI μ 47 x2.toNatClampNeg) = 0 →
        (vp_in x2 60) ∧
        (vp_in x2 60) ∧
        K none (sI μ 47 x2.toNatClampNeg ((zI μ 47 x2.toNatClampNeg) - 1))) ∧
      ((zI μ 47 x2.toNatClampNeg) = 0 →
        AW E l d nc ns mX11_giveNew 2 [some (.ref 31), some (.int x1), some (.int (x2 + 1))] [] μ K)))) : AW E l d nc ns mX11_giveNew 2 [some (.ref 31), some (.int x1), some (.int x2)] [] μ K := by
  refine aw_iload_n (pc' := 3) (dt_X11_giveNew 2 (2, .iload_n 2, 1) rfl) rfl rfl (aw_aload_n (pc' := 4) (dt_X11_giveNew 3 (3, .aload_n 0, 1) rfl) rfl rfl (aw_getI (pc' := 7) (dt_X11_giveNew 4 (4, .getfield 195, 3) rfl) fl_ReturnDeskModel_195 rfl rfl (sk_31 hS) (aw_icmp_ge (pc' := 10) (tgt := 49) (dt_X11_giveNew 5 (7, .if_icmp .ge 42, 3) rfl) (by decide) rfl ?_ ?_)))
  · intro q1
    have h := h.1 q1
    obtain ⟨g2, h⟩ := h
    obtain ⟨g3, h⟩ := h
    refine aw_aload_n (pc' := 50) (dt_X11_giveNew 29 (49, .aload_n 0, 1) rfl) rfl rfl (aw_getAs (pc' := 53) (dt_X11_giveNew 30 (50, .getfield 28, 3) rfl) fl_ReturnDeskModel_28 rfl rfl (sk_31 hS) (sa_31_10 hS) (aw_iload_n (pc' := 54) (dt_X11_giveNew 31 (53, .iload_n 1, 1) rfl) rfl rfl (aw_dup2 (pc' := 55) (dt_X11_giveNew 32 (54, .dup2, 1) rfl) rfl rfl rfl (aw_iald (pc' := 56) (dt_X11_giveNew 33 (55, .iaload, 1) rfl) rfl (sk_38 hS) (vin_eq (sl_38 hS) g2) (aw_iconst (pc' := 57) (v := 1) (dt_X11_giveNew 34 (56, .iconst 1, 1) rfl) (by decide) rfl (aw_isub (pc' := 58) (dt_X11_giveNew 35 (57, .isub, 1) rfl) rfl (aw_iast (pc' := 59) (dt_X11_giveNew 36 (58, .iastore, 1) rfl) rfl (sk_38 hS) (by decide) (vin_eq (sl_38 hS) g3) (aw_ret (dt_X11_giveNew 37 (59, .return_, 1) rfl) rfl ?_))))))))
    exact h
  · intro q1
    have h := h.2 q1
    obtain ⟨g4, h⟩ := h
    refine aw_aload_n (pc' := 11) (dt_X11_giveNew 6 (10, .aload_n 0, 1) rfl) rfl rfl (aw_getAs (pc' := 14) (dt_X11_giveNew 7 (11, .getfield 50, 3) rfl) fl_ReturnDeskModel_50 rfl rfl (sk_31 hS) (sa_31_19 hS) (aw_iload_n (pc' := 15) (dt_X11_giveNew 8 (14, .iload_n 2, 1) rfl) rfl rfl (aw_iald (pc' := 16) (dt_X11_giveNew 9 (15, .iaload, 1) rfl) rfl (sk_45 hS) (vin_eq (sl_45 hS) g4) (aw_iload_n (pc' := 17) (dt_X11_giveNew 10 (16, .iload_n 1, 1) rfl) rfl rfl (aw_icmp_ne (pc' := 20) (tgt := 43) (dt_X11_giveNew 11 (17, .if_icmp .ne 26, 3) rfl) (by decide) rfl ?_ ?_)))))
    · intro q5
      have h := h.1 q5
      refine aw_iinc (pc' := 46) (v := 1) (ls' := [some (.ref 31), some (.int x1), some (.int (x2 + 1))]) (dt_X11_giveNew 27 (43, .iinc 2 1, 3) rfl) rfl (by decide) (by decide) rfl rfl (aw_goto (tgt := 2) (dt_X11_giveNew 28 (46, .goto (-44), 3) rfl) (by decide) ?_)
      exact h
    · intro q5
      have h := h.2 q5
      obtain ⟨g6, h⟩ := h
      refine aw_aload_n (pc' := 21) (dt_X11_giveNew 12 (20, .aload_n 0, 1) rfl) rfl rfl (aw_getAs (pc' := 24) (dt_X11_giveNew 13 (21, .getfield 56, 3) rfl) fl_ReturnDeskModel_56 rfl rfl (sk_31 hS) (sa_31_21 hS) (aw_iload_n (pc' := 25) (dt_X11_giveNew 14 (24, .iload_n 2, 1) rfl) rfl rfl (aw_iald (pc' := 26) (dt_X11_giveNew 15 (25, .iaload, 1) rfl) rfl (sk_47 hS) (vin_eq (sl_47 hS) g6) (aw_if_ne (pc' := 29) (tgt := 32) (dt_X11_giveNew 16 (26, .ifCond .ne 6, 3) rfl) (by decide) rfl ?_ ?_))))
      · intro q7
        have h := h.1 q7
        obtain ⟨g8, h⟩ := h
        obtain ⟨g9, h⟩ := h
        refine aw_aload_n (pc' := 33) (dt_X11_giveNew 18 (32, .aload_n 0, 1) rfl) rfl rfl (aw_getAs (pc' := 36) (dt_X11_giveNew 19 (33, .getfield 56, 3) rfl) fl_ReturnDeskModel_56 rfl rfl (sk_31 hS) (sa_31_21 hS) (aw_iload_n (pc' := 37) (dt_X11_giveNew 20 (36, .iload_n 2, 1) rfl) rfl rfl (aw_dup2 (pc' := 38) (dt_X11_giveNew 21 (37, .dup2, 1) rfl) rfl rfl rfl (aw_iald (pc' := 39) (dt_X11_giveNew 22 (38, .iaload, 1) rfl) rfl (sk_47 hS) (vin_eq (sl_47 hS) g8) (aw_iconst (pc' := 40) (v := 1) (dt_X11_giveNew 23 (39, .iconst 1, 1) rfl) (by decide) rfl (aw_isub (pc' := 41) (dt_X11_giveNew 24 (40, .isub, 1) rfl) rfl (aw_iast (pc' := 42) (dt_X11_giveNew 25 (41, .iastore, 1) rfl) rfl (sk_47 hS) (by decide) (vin_eq (sl_47 hS) g9) (aw_ret (dt_X11_giveNew 26 (42, .return_, 1) rfl) rfl ?_))))))))
        exact h
      · intro q7
        have h := h.2 q7
        refine aw_goto (tgt := 43) (dt_X11_giveNew 17 (29, .goto 14, 3) rfl) (by decide) (aw_iinc (pc' := 46) (v := 1) (ls' := [some (.ref 31), some (.int x1), some (.int (x2 + 1))]) (dt_X11_giveNew 27 (43, .iinc 2 1, 3) rfl) rfl (by decide) (by decide) rfl rfl (aw_goto (tgt := 2) (dt_X11_giveNew 28 (46, .goto (-44), 3) rfl) (by decide) ?_))
        exact h

theorem t_X11_take {E : ZE} {l : Launch} {d nc ns : Nat} {x1 : Int32} {μ : ZM} {K : Option Value → ZM → Prop} (hS : Stat μ) (h :
  (x1 < 0 →
    K (some (.int (-1))) μ) ∧
  (¬ x1 < 0 →
    (((zI μ 31 60) - 1) < x1 →
      K (some (.int (-1))) μ) ∧
    (¬ ((zI μ 31 60) - 1) < x1 →
      (vp_in x1 200) ∧
      (¬ (zI μ 82 x1.toNatClampNeg) = 0 →
        K (some (.int (-2))) μ) ∧
      ((zI μ 82 x1.toNatClampNeg) = 0 →
        (vp_in x1 200) ∧
        ((zI μ 80 x1.toNatClampNeg) = 0 →
          (vp_in x1 200) ∧
          AW E l (d + 3) 0 0 mX11_find 0 (zargs 13 [.ref 31, .int x1, .int (zI μ 76 x1.toNatClampNeg)]) [] μ (fun v μ8 => v = none ∧ Stat μ8 ∧ 
            (vp_in x1 200) ∧
            (vp_in (zI μ8 74 x1.toNatClampNeg) 300) ∧
            (vp_in (zI μ8 49 (zI μ8 74 x1.toNatClampNeg).toNatClampNeg) 60) ∧
            (¬ ((zI μ8 31 76) / 1000) = 0 →
              (¬ ((zI μ8 31 76) / 1000) = 1 →
                (¬ ((zI μ8 31 76) / 1000) = 2 →
                  (vp_in (zI μ8 74 x1.toNatClampNeg) 300) ∧
                  AW E l (d + 4) nc ns mX11_take 129 [some (.ref 31), some (.int x1), some (.int (zI μ8 74 x1.toNatClampNeg)), some (.int (zI μ8 45 (zI μ8 49 (zI μ8 74 x1.toNatClampNeg).toNatClampNeg).toNatClampNeg)), some (.int ((zI μ8 31 76) / 1000)), none, none, none] [.int (((((zI μ8 56 (zI μ8 74 x1.toNatClampNeg).toNatClampNeg)).toInt64 * (((zI μ8 31 76) - (zI μ8 31 76) / 1000 * 1000)).toInt64) / 100)).toInt32] μ8 K) ∧
                (((zI μ8 31 76) / 1000) = 2 →
                  (vp_in (zI μ8 74 x1.toNatClampNeg) 300) ∧
                  AW E l (d + 4) nc ns mX11_take 129 [some (.ref 31), some (.int x1), some (.int (zI μ8 74 x1.toNatClampNeg)), some (.int (zI μ8 45 (zI μ8 49 (zI μ8 74 x1.toNatClampNeg).toNatClampNeg).toNatClampNeg)), some (.int ((zI μ8 31 76) / 1000)), none, none, none] [.int (zI μ8 56 (zI μ8 74 x1.toNatClampNeg).toNatClampNeg)] μ8 K)) ∧
              (((zI μ8 31 76) / 1000) = 1 →
                (vp_in (zI μ8 45 (zI μ8 49 (zI μ8 74 x1.toNatClampNeg).toNatClampNeg).toNatClampNeg) 20) ∧
                AW E l (d + 4) nc ns mX11_take 129 [some (.ref 31), some (.int x1), some (.int (zI μ8 74 x1.toNatClampNeg)), some (.int (zI μ8 45 (zI μ8 49 (zI μ8 74 x1.toNatClampNeg).toNatClampNeg).toNatClampNeg)), some (.int ((zI μ8 31 76) / 1000)), none, none, none] [.int (zI μ8 34 (zI μ8 45 (zI μ8 49 (zI μ8 74 x1.toNatClampNeg).toNatClampNeg).toNatClampNeg).toNatClampNeg)] μ8 K)) ∧
            (((zI μ8 31 76) / 1000) = 0 →
              K (some (.int (-2))) μ8))) ∧
        (¬ (zI μ 80 x1.toNatClampNeg) = 0 →
          K (some (.int (-2))) μ))))) : AW E l (d + 4) nc ns mX11_take 0 [some (.ref 31), some (.int x1), none, none, none, none, none, none] [] μ K := by
  refine aw_aload_n (pc' := 1) (dt_X11_take 0 (0, .aload_n 0, 1) rfl) rfl rfl (aw_iload_n (pc' := 2) (dt_X11_take 1 (1, .iload_n 1, 1) rfl) rfl rfl (aw_inV (pc' := 5) (nc1 := 0) (ns1 := 0) (nc := nc) (ns := ns) (ls' := [some (.ref 31), some (.int x1)]) (y2 := mX11_isAsking) (As := [.int x1]) (rest := []) (a := 31) (dt_X11_take 2 (2, .invokevirtual 399, 3) rfl) ok_X11_isAsking ln_ReturnDeskModel_399 im_X11_isAsking se_X11_isAsking pr_X11_isAsking (Or.inl ⟨by decide, rfl⟩) rfl (Nat.le_of_ble_eq_true rfl) (Nat.le_of_ble_eq_true rfl) rfl rfl (sk_31 hS) (aw_iload_n (pc' := 1) (dt_X11_isAsking 0 (0, .iload_n 1, 1) rfl) rfl rfl (aw_iconst (pc' := 2) (v := 0) (dt_X11_isAsking 1 (1, .iconst 0, 1) rfl) (by decide) rfl (aw_aload_n (pc' := 3) (dt_X11_isAsking 2 (2, .aload_n 0, 1) rfl) rfl rfl (aw_getI (pc' := 6) (dt_X11_isAsking 3 (3, .getfield 384, 3) rfl) fl_ReturnDeskModel_384 rfl rfl (sk_31 hS) (aw_iconst (pc' := 7) (v := 1) (dt_X11_isAsking 4 (6, .iconst 1, 1) rfl) (by decide) rfl (aw_isub (pc' := 8) (dt_X11_isAsking 5 (7, .isub, 1) rfl) rfl (aw_inS (pc' := 11) (nc1 := 0) (ns1 := 0) (nc := 0) (ns := 0) (ls' := [some (.int x1), some (.int 0), some (.int ((zI μ 31 60) - 1))]) (y2 := mX11_in) (As := [.int x1, .int 0, .int ((zI μ 31 60) - 1)]) (rest := []) (dt_X11_isAsking 6 (8, .invokestatic 185, 3) rfl) ok_X11_in ln_ReturnDeskModel_185 sm_X11_in pr_X11_in rfl (Nat.le_of_ble_eq_true rfl) (Nat.le_of_ble_eq_true rfl) rfl rfl (aw_iload_n (pc' := 1) (dt_X11_in 0 (0, .iload_n 0, 1) rfl) rfl rfl (aw_iload_n (pc' := 2) (dt_X11_in 1 (1, .iload_n 1, 1) rfl) rfl rfl (aw_icmp_lt (pc' := 5) (tgt := 14) (dt_X11_in 2 (2, .if_icmp .lt 12, 3) rfl) (by decide) rfl ?_ ?_))))))))))))
  · intro q1
    have h := h.1 q1
    refine aw_iconst (pc' := 15) (v := 0) (dt_X11_in 8 (14, .iconst 0, 1) rfl) (by decide) rfl (aw_iret (dt_X11_in 9 (15, .ireturn, 1) rfl) rfl rfl (aw_stk (st' := [.int 0]) rfl (aw_iret (dt_X11_isAsking 7 (11, .ireturn, 1) rfl) rfl rfl (aw_stk (st' := [.int 0]) rfl (aw_if_ne_F (pc' := 8) (tgt := 10) (dt_X11_take 3 (5, .ifCond .ne 5, 3) rfl) (by decide) rfl (by decide) (aw_iconst (pc' := 9) (v := (-1)) (dt_X11_take 4 (8, .iconst (-1), 1) rfl) (by decide) rfl (aw_iret (dt_X11_take 5 (9, .ireturn, 1) rfl) rfl rfl ?_)))))))
    exact h
  · intro q1
    have h := h.2 q1
    refine aw_iload_n (pc' := 6) (dt_X11_in 3 (5, .iload_n 0, 1) rfl) rfl rfl (aw_iload_n (pc' := 7) (dt_X11_in 4 (6, .iload_n 2, 1) rfl) rfl rfl (aw_icmp_gt (pc' := 10) (tgt := 14) (dt_X11_in 5 (7, .if_icmp .gt 7, 3) rfl) (by decide) rfl ?_ ?_))
    · intro q2
      have h := h.1 q2
      refine aw_iconst (pc' := 15) (v := 0) (dt_X11_in 8 (14, .iconst 0, 1) rfl) (by decide) rfl (aw_iret (dt_X11_in 9 (15, .ireturn, 1) rfl) rfl rfl (aw_stk (st' := [.int 0]) rfl (aw_iret (dt_X11_isAsking 7 (11, .ireturn, 1) rfl) rfl rfl (aw_stk (st' := [.int 0]) rfl (aw_if_ne_F (pc' := 8) (tgt := 10) (dt_X11_take 3 (5, .ifCond .ne 5, 3) rfl) (by decide) rfl (by decide) (aw_iconst (pc' := 9) (v := (-1)) (dt_X11_take 4 (8, .iconst (-1), 1) rfl) (by decide) rfl (aw_iret (dt_X11_take 5 (9, .ireturn, 1) rfl) rfl rfl ?_)))))))
      exact h
    · intro q2
      have h := h.2 q2
      obtain ⟨g3, h⟩ := h
      refine aw_iconst (pc' := 11) (v := 1) (dt_X11_in 6 (10, .iconst 1, 1) rfl) (by decide) rfl (aw_goto (tgt := 15) (dt_X11_in 7 (11, .goto 4, 3) rfl) (by decide) (aw_iret (dt_X11_in 9 (15, .ireturn, 1) rfl) rfl rfl (aw_stk (st' := [.int 1]) rfl (aw_iret (dt_X11_isAsking 7 (11, .ireturn, 1) rfl) rfl rfl (aw_stk (st' := [.int 1]) rfl (aw_if_ne_T (pc' := 8) (tgt := 10) (dt_X11_take 3 (5, .ifCond .ne 5, 3) rfl) (by decide) rfl (by decide) (aw_aload_n (pc' := 11) (dt_X11_take 6 (10, .aload_n 0, 1) rfl) rfl rfl (aw_getAs (pc' := 14) (dt_X11_take 7 (11, .getfield 162, 3) rfl) fl_ReturnDeskModel_162 rfl rfl (sk_31 hS) (sa_31_69 hS) (aw_iload_n (pc' := 15) (dt_X11_take 8 (14, .iload_n 1, 1) rfl) rfl rfl (aw_iald (pc' := 16) (dt_X11_take 9 (15, .iaload, 1) rfl) rfl (sk_82 hS) (vin_eq (sl_82 hS) g3) (aw_if_ne (pc' := 19) (tgt := 28) (dt_X11_take 10 (16, .ifCond .ne 12, 3) rfl) (by decide) rfl ?_ ?_)))))))))))
      · intro q4
        have h := h.1 q4
        refine aw_bipush (pc' := 30) (v := (-2)) (dt_X11_take 16 (28, .bipush (-2), 2) rfl) (by decide) rfl (aw_iret (dt_X11_take 17 (30, .ireturn, 1) rfl) rfl rfl ?_)
        exact h
      · intro q4
        have h := h.2 q4
        obtain ⟨g5, h⟩ := h
        refine aw_aload_n (pc' := 20) (dt_X11_take 11 (19, .aload_n 0, 1) rfl) rfl rfl (aw_getAs (pc' := 23) (dt_X11_take 12 (20, .getfield 156, 3) rfl) fl_ReturnDeskModel_156 rfl rfl (sk_31 hS) (sa_31_67 hS) (aw_iload_n (pc' := 24) (dt_X11_take 13 (23, .iload_n 1, 1) rfl) rfl rfl (aw_zald (pc' := 25) (dt_X11_take 14 (24, .baload, 1) rfl) rfl (sk_80 hS) (vin_eq (sl_80 hS) g5) (aw_if_eq (pc' := 28) (tgt := 31) (dt_X11_take 15 (25, .ifCond .eq 6, 3) rfl) (by decide) rfl ?_ ?_))))
        · intro q6
          have h := h.1 q6
          obtain ⟨g7, h⟩ := h
          refine aw_aload_n (pc' := 32) (dt_X11_take 18 (31, .aload_n 0, 1) rfl) rfl rfl (aw_iload_n (pc' := 33) (dt_X11_take 19 (32, .iload_n 1, 1) rfl) rfl rfl (aw_aload_n (pc' := 34) (dt_X11_take 20 (33, .aload_n 0, 1) rfl) rfl rfl (aw_getAs (pc' := 37) (dt_X11_take 21 (34, .getfield 144, 3) rfl) fl_ReturnDeskModel_144 rfl rfl (sk_31 hS) (sa_31_63 hS) (aw_iload_n (pc' := 38) (dt_X11_take 22 (37, .iload_n 1, 1) rfl) rfl rfl (aw_iald (pc' := 39) (dt_X11_take 23 (38, .iaload, 1) rfl) rfl (sk_76 hS) (vin_eq (sl_76 hS) g7) (aw_callV0 (pc' := 42) (nc := nc) (ns := ns) (y2 := mX11_find) (As := [.int x1, .int (zI μ 76 x1.toNatClampNeg)]) (rest := []) (a := 31) (dt_X11_take 24 (39, .invokevirtual 402, 3) rfl) ok_X11_find ln_ReturnDeskModel_402 im_X11_find se_X11_find pr_X11_find (Or.inl ⟨by decide, rfl⟩) rfl (Nat.le_of_ble_eq_true rfl) (Nat.le_of_ble_eq_true rfl) rfl (sk_31 hS) h ?_))))))
          rintro v μ8 ⟨rfl, hS9, h⟩
          refine aw_stk (st' := []) rfl ?_
          obtain ⟨g10, h⟩ := h
          obtain ⟨g11, h⟩ := h
          obtain ⟨g12, h⟩ := h
          refine aw_aload_n (pc' := 43) (dt_X11_take 25 (42, .aload_n 0, 1) rfl) rfl rfl (aw_getAs (pc' := 46) (dt_X11_take 26 (43, .getfield 138, 3) rfl) fl_ReturnDeskModel_138 rfl rfl (sk_31 hS9) (sa_31_61 hS9) (aw_iload_n (pc' := 47) (dt_X11_take 27 (46, .iload_n 1, 1) rfl) rfl rfl (aw_iald (pc' := 48) (dt_X11_take 28 (47, .iaload, 1) rfl) rfl (sk_74 hS9) (vin_eq (sl_74 hS9) g10) (aw_istore_n (pc' := 49) (ls' := [some (.ref 31), some (.int x1), some (.int (zI μ8 74 x1.toNatClampNeg)), none, none, none, none, none]) (dt_X11_take 29 (48, .istore_n 2, 1) rfl) (by decide) rfl rfl (aw_aload_n (pc' := 50) (dt_X11_take 30 (49, .aload_n 0, 1) rfl) rfl rfl (aw_iload_n (pc' := 51) (dt_X11_take 31 (50, .iload_n 2, 1) rfl) rfl rfl (aw_inV (pc' := 54) (nc1 := 0) (ns1 := 0) (nc := nc) (ns := ns) (ls' := [some (.ref 31), some (.int (zI μ8 74 x1.toNatClampNeg))]) (y2 := mX11_modelOf) (As := [.int (zI μ8 74 x1.toNatClampNeg)]) (rest := []) (a := 31) (dt_X11_take 32 (51, .invokevirtual 231, 3) rfl) ok_X11_modelOf ln_ReturnDeskModel_231 im_X11_modelOf se_X11_modelOf pr_X11_modelOf (Or.inl ⟨by decide, rfl⟩) rfl (Nat.le_of_ble_eq_true rfl) (Nat.le_of_ble_eq_true rfl) rfl rfl (sk_31 hS9) (aw_aload_n (pc' := 1) (dt_X11_modelOf 0 (0, .aload_n 0, 1) rfl) rfl rfl (aw_getAs (pc' := 4) (dt_X11_modelOf 1 (1, .getfield 50, 3) rfl) fl_ReturnDeskModel_50 rfl rfl (sk_31 hS9) (sa_31_19 hS9) (aw_aload_n (pc' := 5) (dt_X11_modelOf 2 (4, .aload_n 0, 1) rfl) rfl rfl (aw_getAs (pc' := 8) (dt_X11_modelOf 3 (5, .getfield 62, 3) rfl) fl_ReturnDeskModel_62 rfl rfl (sk_31 hS9) (sa_31_24 hS9) (aw_iload_n (pc' := 9) (dt_X11_modelOf 4 (8, .iload_n 1, 1) rfl) rfl rfl (aw_iald (pc' := 10) (dt_X11_modelOf 5 (9, .iaload, 1) rfl) rfl (sk_49 hS9) (vin_eq (sl_49 hS9) g11) (aw_iald (pc' := 11) (dt_X11_modelOf 6 (10, .iaload, 1) rfl) rfl (sk_45 hS9) (vin_eq (sl_45 hS9) g12) (aw_iret (dt_X11_modelOf 7 (11, .ireturn, 1) rfl) rfl rfl (aw_stk (st' := [.int (zI μ8 45 (zI μ8 49 (zI μ8 74 x1.toNatClampNeg).toNatClampNeg).toNatClampNeg)]) rfl (aw_istore_n (pc' := 55) (ls' := [some (.ref 31), some (.int x1), some (.int (zI μ8 74 x1.toNatClampNeg)), some (.int (zI μ8 45 (zI μ8 49 (zI μ8 74 x1.toNatClampNeg).toNatClampNeg).toNatClampNeg)), none, none, none, none]) (dt_X11_take 33 (54, .istore_n 3, 1) rfl) (by decide) rfl rfl (aw_aload_n (pc' := 56) (dt_X11_take 34 (55, .aload_n 0, 1) rfl) rfl rfl (aw_getI (pc' := 59) (dt_X11_take 35 (56, .getfield 387, 3) rfl) fl_ReturnDeskModel_387 rfl rfl (sk_31 hS9) (aw_sipush (pc' := 62) (v := 1000) (dt_X11_take 36 (59, .sipush 1000, 3) rfl) (by decide) rfl (aw_idiv (pc' := 63) (dt_X11_take 37 (62, .idiv, 1) rfl) (by decide) rfl (aw_istore (pc' := 65) (ls' := [some (.ref 31), some (.int x1), some (.int (zI μ8 74 x1.toNatClampNeg)), some (.int (zI μ8 45 (zI μ8 49 (zI μ8 74 x1.toNatClampNeg).toNatClampNeg).toNatClampNeg)), some (.int ((zI μ8 31 76) / 1000)), none, none, none]) (dt_X11_take 38 (63, .istore 4, 2) rfl) (by decide) rfl rfl (aw_aload_n (pc' := 66) (dt_X11_take 39 (65, .aload_n 0, 1) rfl) rfl rfl (aw_getI (pc' := 69) (dt_X11_take 40 (66, .getfield 387, 3) rfl) fl_ReturnDeskModel_387 rfl rfl (sk_31 hS9) (aw_sipush (pc' := 72) (v := 1000) (dt_X11_take 41 (69, .sipush 1000, 3) rfl) (by decide) rfl (aw_irem (pc' := 73) (dt_X11_take 42 (72, .irem, 1) rfl) (by decide) rfl (aw_istore (pc' := 75) (ls' := [some (.ref 31), some (.int x1), some (.int (zI μ8 74 x1.toNatClampNeg)), some (.int (zI μ8 45 (zI μ8 49 (zI μ8 74 x1.toNatClampNeg).toNatClampNeg).toNatClampNeg)), some (.int ((zI μ8 31 76) / 1000)), some (.int ((zI μ8 31 76) - (zI μ8 31 76) / 1000 * 1000)), none, none]) (dt_X11_take 43 (73, .istore 5, 2) rfl) (by decide) rfl rfl (aw_iload (pc' := 77) (dt_X11_take 44 (75, .iload 4, 2) rfl) rfl rfl (aw_if_ne (pc' := 80) (tgt := 83) (dt_X11_take 45 (77, .ifCond .ne 6, 3) rfl) (by decide) rfl ?_ ?_)))))))))))))))))))))))))))))
          · intro q13
            have h := h.1 q13
            refine aw_iload (pc' := 85) (dt_X11_take 48 (83, .iload 4, 2) rfl) rfl rfl (aw_iconst (pc' := 86) (v := 1) (dt_X11_take 49 (85, .iconst 1, 1) rfl) (by decide) rfl (aw_icmp_ne (pc' := 89) (tgt := 98) (dt_X11_take 50 (86, .if_icmp .ne 12, 3) rfl) (by decide) rfl ?_ ?_))
            · intro q14
              have h := h.1 q14
              refine aw_iload (pc' := 100) (dt_X11_take 56 (98, .iload 4, 2) rfl) rfl rfl (aw_iconst (pc' := 101) (v := 2) (dt_X11_take 57 (100, .iconst 2, 1) rfl) (by decide) rfl (aw_icmp_ne (pc' := 104) (tgt := 113) (dt_X11_take 58 (101, .if_icmp .ne 12, 3) rfl) (by decide) rfl ?_ ?_))
              · intro q15
                have h := h.1 q15
                obtain ⟨g16, h⟩ := h
                refine aw_aload_n (pc' := 114) (dt_X11_take 64 (113, .aload_n 0, 1) rfl) rfl rfl (aw_getAs (pc' := 117) (dt_X11_take 65 (114, .getfield 83, 3) rfl) fl_ReturnDeskModel_83 rfl rfl (sk_31 hS9) (sa_31_31 hS9) (aw_iload_n (pc' := 118) (dt_X11_take 66 (117, .iload_n 2, 1) rfl) rfl rfl (aw_iald (pc' := 119) (dt_X11_take 67 (118, .iaload, 1) rfl) rfl (sk_56 hS9) (vin_eq (sl_56 hS9) g16) (aw_i2l (pc' := 120) (dt_X11_take 68 (119, .i2l, 1) rfl) rfl (aw_iload (pc' := 122) (dt_X11_take 69 (120, .iload 5, 2) rfl) rfl rfl (aw_i2l (pc' := 123) (dt_X11_take 70 (122, .i2l, 1) rfl) rfl (aw_lmul (pc' := 124) (dt_X11_take 71 (123, .lmul, 1) rfl) rfl (aw_ldc2 (pc' := 127) (dt_X11_take 72 (124, .ldc2_w 405, 3) rfl) ct_ReturnDeskModel_405 rfl (aw_ldiv (pc' := 128) (dt_X11_take 73 (127, .ldiv, 1) rfl) (by decide) rfl (aw_l2i (pc' := 129) (dt_X11_take 74 (128, .l2i, 1) rfl) rfl (aw_drop (ls' := [some (.ref 31), some (.int x1), some (.int (zI μ8 74 x1.toNatClampNeg)), some (.int (zI μ8 45 (zI μ8 49 (zI μ8 74 x1.toNatClampNeg).toNatClampNeg).toNatClampNeg)), some (.int ((zI μ8 31 76) / 1000)), none, none, none]) ⟨rfl, rfl, rfl, rfl, rfl, trivial⟩ ?_)))))))))))
                exact h
              · intro q15
                have h := h.2 q15
                obtain ⟨g17, h⟩ := h
                refine aw_aload_n (pc' := 105) (dt_X11_take 59 (104, .aload_n 0, 1) rfl) rfl rfl (aw_getAs (pc' := 108) (dt_X11_take 60 (105, .getfield 83, 3) rfl) fl_ReturnDeskModel_83 rfl rfl (sk_31 hS9) (sa_31_31 hS9) (aw_iload_n (pc' := 109) (dt_X11_take 61 (108, .iload_n 2, 1) rfl) rfl rfl (aw_iald (pc' := 110) (dt_X11_take 62 (109, .iaload, 1) rfl) rfl (sk_56 hS9) (vin_eq (sl_56 hS9) g17) (aw_goto (tgt := 129) (dt_X11_take 63 (110, .goto 19, 3) rfl) (by decide) (aw_drop (ls' := [some (.ref 31), some (.int x1), some (.int (zI μ8 74 x1.toNatClampNeg)), some (.int (zI μ8 45 (zI μ8 49 (zI μ8 74 x1.toNatClampNeg).toNatClampNeg).toNatClampNeg)), some (.int ((zI μ8 31 76) / 1000)), none, none, none]) ⟨rfl, rfl, rfl, rfl, rfl, trivial⟩ ?_)))))
                exact h
            · intro q14
              have h := h.2 q14
              obtain ⟨g18, h⟩ := h
              refine aw_aload_n (pc' := 90) (dt_X11_take 51 (89, .aload_n 0, 1) rfl) rfl rfl (aw_getAs (pc' := 93) (dt_X11_take 52 (90, .getfield 16, 3) rfl) fl_ReturnDeskModel_16 rfl rfl (sk_31 hS9) (sa_31_6 hS9) (aw_iload_n (pc' := 94) (dt_X11_take 53 (93, .iload_n 3, 1) rfl) rfl rfl (aw_iald (pc' := 95) (dt_X11_take 54 (94, .iaload, 1) rfl) rfl (sk_34 hS9) (vin_eq (sl_34 hS9) g18) (aw_goto (tgt := 129) (dt_X11_take 55 (95, .goto 34, 3) rfl) (by decide) (aw_drop (ls' := [some (.ref 31), some (.int x1), some (.int (zI μ8 74 x1.toNatClampNeg)), some (.int (zI μ8 45 (zI μ8 49 (zI μ8 74 x1.toNatClampNeg).toNatClampNeg).toNatClampNeg)), some (.int ((zI μ8 31 76) / 1000)), none, none, none]) ⟨rfl, rfl, rfl, rfl, rfl, trivial⟩ ?_)))))
              exact h
          · intro q13
            have h := h.2 q13
            refine aw_bipush (pc' := 82) (v := (-2)) (dt_X11_take 46 (80, .bipush (-2), 2) rfl) (by decide) rfl (aw_iret (dt_X11_take 47 (82, .ireturn, 1) rfl) rfl rfl ?_)
            exact h
        · intro q6
          have h := h.2 q6
          refine aw_bipush (pc' := 30) (v := (-2)) (dt_X11_take 16 (28, .bipush (-2), 2) rfl) (by decide) rfl (aw_iret (dt_X11_take 17 (30, .ireturn, 1) rfl) rfl rfl ?_)
          exact h

theorem t_X11_take_129 {E : ZE} {l : Launch} {d nc ns : Nat} {x1 : Int32} {x2 : Int32} {x3 : Int32} {x4 : Int32} {y0 : Int32} {μ : ZM} {K : Option Value → ZM → Prop} (hS : Stat μ) (h :
  (x4 = 3 →
    AW E l (d + 4) nc ns mX11_take 175 [some (.ref 31), some (.int x1), some (.int x2), some (.int x3), some (.int x4), none, some (.int y0), none] [] μ K) ∧
  (¬ x4 = 3 →
    (¬ x4 = 4 →
      AW E l (d + 4) nc ns mX11_take 161 [some (.ref 31), some (.int x1), some (.int x2), some (.int x3), some (.int x4), none, some (.int y0), none] [] μ K) ∧
    (x4 = 4 →
      (vp_in x1 200) ∧
      ((zI μ 75 x1.toNatClampNeg) = 0 →
        AW E l (d + 4) nc ns mX11_take 175 [some (.ref 31), some (.int x1), some (.int x2), some (.int x3), some (.int x4), none, some (.int y0), none] [] μ K) ∧
      (¬ (zI μ 75 x1.toNatClampNeg) = 0 →
        (vp_in x2 300) ∧
        (¬ (zI μ 57 x2.toNatClampNeg) = 0 →
          AW E l (d + 4) nc ns mX11_take 175 [some (.ref 31), some (.int x1), some (.int x2), some (.int x3), some (.int x4), none, some (.int y0), none] [] μ K) ∧
        ((zI μ 57 x2.toNatClampNeg) = 0 →
          AW E l (d + 4) nc ns mX11_take 161 [some (.ref 31), some (.int x1), some (.int x2), some (.int x3), some (.int x4), none, some (.int y0), none] [] μ K))))) : AW E l (d + 4) nc ns mX11_take 129 [some (.ref 31), some (.int x1), some (.int x2), some (.int x3), some (.int x4), none, none, none] [.int y0] μ K := by
  refine aw_istore (pc' := 131) (ls' := [some (.ref 31), some (.int x1), some (.int x2), some (.int x3), some (.int x4), none, some (.int y0), none]) (dt_X11_take 75 (129, .istore 6, 2) rfl) (by decide) rfl rfl (aw_iload (pc' := 133) (dt_X11_take 76 (131, .iload 4, 2) rfl) rfl rfl (aw_iconst (pc' := 134) (v := 3) (dt_X11_take 77 (133, .iconst 3, 1) rfl) (by decide) rfl (aw_icmp_eq (pc' := 137) (tgt := 175) (dt_X11_take 78 (134, .if_icmp .eq 41, 3) rfl) (by decide) rfl ?_ ?_)))
  · intro q1
    have h := h.1 q1
    exact h
  · intro q1
    have h := h.2 q1
    refine aw_iload (pc' := 139) (dt_X11_take 79 (137, .iload 4, 2) rfl) rfl rfl (aw_iconst (pc' := 140) (v := 4) (dt_X11_take 80 (139, .iconst 4, 1) rfl) (by decide) rfl (aw_icmp_ne (pc' := 143) (tgt := 161) (dt_X11_take 81 (140, .if_icmp .ne 21, 3) rfl) (by decide) rfl ?_ ?_))
    · intro q2
      have h := h.1 q2
      exact h
    · intro q2
      have h := h.2 q2
      obtain ⟨g3, h⟩ := h
      refine aw_aload_n (pc' := 144) (dt_X11_take 82 (143, .aload_n 0, 1) rfl) rfl rfl (aw_getAs (pc' := 147) (dt_X11_take 83 (144, .getfield 141, 3) rfl) fl_ReturnDeskModel_141 rfl rfl (sk_31 hS) (sa_31_62 hS) (aw_iload_n (pc' := 148) (dt_X11_take 84 (147, .iload_n 1, 1) rfl) rfl rfl (aw_iald (pc' := 149) (dt_X11_take 85 (148, .iaload, 1) rfl) rfl (sk_75 hS) (vin_eq (sl_75 hS) g3) (aw_if_eq (pc' := 152) (tgt := 175) (dt_X11_take 86 (149, .ifCond .eq 26, 3) rfl) (by decide) rfl ?_ ?_))))
      · intro q4
        have h := h.1 q4
        exact h
      · intro q4
        have h := h.2 q4
        obtain ⟨g5, h⟩ := h
        refine aw_aload_n (pc' := 153) (dt_X11_take 87 (152, .aload_n 0, 1) rfl) rfl rfl (aw_getAs (pc' := 156) (dt_X11_take 88 (153, .getfield 86, 3) rfl) fl_ReturnDeskModel_86 rfl rfl (sk_31 hS) (sa_31_32 hS) (aw_iload_n (pc' := 157) (dt_X11_take 89 (156, .iload_n 2, 1) rfl) rfl rfl (aw_zald (pc' := 158) (dt_X11_take 90 (157, .baload, 1) rfl) rfl (sk_57 hS) (vin_eq (sl_57 hS) g5) (aw_if_ne (pc' := 161) (tgt := 175) (dt_X11_take 91 (158, .ifCond .ne 17, 3) rfl) (by decide) rfl ?_ ?_))))
        · intro q6
          have h := h.1 q6
          exact h
        · intro q6
          have h := h.2 q6
          exact h

theorem t_X11_take_175 {E : ZE} {l : Launch} {d nc ns : Nat} {x1 : Int32} {x2 : Int32} {x3 : Int32} {x4 : Int32} {x6 : Int32} {μ : ZM} {K : Option Value → ZM → Prop} (hS : Stat μ) (h :
  AW E l (d + 4) nc ns mX11_take 180 [some (.ref 31), some (.int x1), some (.int x2), some (.int x3), some (.int x4), none, some (.int x6), none] [.int 1] μ K) : AW E l (d + 4) nc ns mX11_take 175 [some (.ref 31), some (.int x1), some (.int x2), some (.int x3), some (.int x4), none, some (.int x6), none] [] μ K := by
  refine aw_iconst (pc' := 176) (v := 1) (dt_X11_take 99 (175, .iconst 1, 1) rfl) (by decide) rfl (aw_goto (tgt := 180) (dt_X11_take 100 (176, .goto 4, 3) rfl) (by decide) ?_)
  exact h

theorem t_X11_take_161 {E : ZE} {l : Launch} {d nc ns : Nat} {x1 : Int32} {x2 : Int32} {x3 : Int32} {x4 : Int32} {x6 : Int32} {μ : ZM} {K : Option Value → ZM → Prop} (hS : Stat μ) (h :
  (¬ x4 = 2 →
    AW E l (d + 4) nc ns mX11_take 179 [some (.ref 31), some (.int x1), some (.int x2), some (.int x3), some (.int x4), none, some (.int x6), none] [] μ K) ∧
  (x4 = 2 →
    AW E l (d + 3) 0 0 mX11_newOf 0 (zargs 4 [.ref 31, .int x3]) [] μ (fun v μ2 => ∃ r4 : Int32, v = some (.int r4) ∧ Stat μ2 ∧ 
      (¬ r4 = 0 →
        AW E l (d + 4) nc ns mX11_take 179 [some (.ref 31), some (.int x1), some (.int x2), some (.int x3), some (.int x4), none, some (.int x6), none] [] μ2 K) ∧
      (r4 = 0 →
        AW E l (d + 4) nc ns mX11_take 175 [some (.ref 31), some (.int x1), some (.int x2), some (.int x3), some (.int x4), none, some (.int x6), none] [] μ2 K)))) : AW E l (d + 4) nc ns mX11_take 161 [some (.ref 31), some (.int x1), some (.int x2), some (.int x3), some (.int x4), none, some (.int x6), none] [] μ K := by
  refine aw_iload (pc' := 163) (dt_X11_take 92 (161, .iload 4, 2) rfl) rfl rfl (aw_iconst (pc' := 164) (v := 2) (dt_X11_take 93 (163, .iconst 2, 1) rfl) (by decide) rfl (aw_icmp_ne (pc' := 167) (tgt := 179) (dt_X11_take 94 (164, .if_icmp .ne 15, 3) rfl) (by decide) rfl ?_ ?_))
  · intro q1
    have h := h.1 q1
    exact h
  · intro q1
    have h := h.2 q1
    refine aw_aload_n (pc' := 168) (dt_X11_take 95 (167, .aload_n 0, 1) rfl) rfl rfl (aw_iload_n (pc' := 169) (dt_X11_take 96 (168, .iload_n 3, 1) rfl) rfl rfl (aw_callV0 (pc' := 172) (nc := nc) (ns := ns) (y2 := mX11_newOf) (As := [.int x3]) (rest := []) (a := 31) (dt_X11_take 97 (169, .invokevirtual 407, 3) rfl) ok_X11_newOf ln_ReturnDeskModel_407 im_X11_newOf se_X11_newOf pr_X11_newOf (Or.inl ⟨by decide, rfl⟩) rfl (Nat.le_of_ble_eq_true rfl) (Nat.le_of_ble_eq_true rfl) rfl (sk_31 hS) h ?_))
    rintro v μ2 ⟨r4, rfl, hS3, h⟩
    refine aw_stk (st' := [.int r4]) rfl ?_
    refine aw_if_ne (pc' := 175) (tgt := 179) (dt_X11_take 98 (172, .ifCond .ne 7, 3) rfl) (by decide) rfl ?_ ?_
    · intro q5
      have h := h.1 q5
      exact h
    · intro q5
      have h := h.2 q5
      exact h

theorem t_X11_take_180 {E : ZE} {l : Launch} {d nc ns : Nat} {x1 : Int32} {x2 : Int32} {x3 : Int32} {x4 : Int32} {x6 : Int32} {y0 : Int32} {μ : ZM} {K : Option Value → ZM → Prop} (hS : Stat μ) (h :
  (¬ y0 = 0 →
    AW E l (d + 4) nc ns mX11_take 205 [some (.ref 31), some (.int x1), some (.int x2), some (.int x3), some (.int x4), none, some (.int x6), some (.int y0)] [] μ K) ∧
  (y0 = 0 →
    (x4 = 2 →
      AW E l (d + 4) nc ns mX11_take 205 [some (.ref 31), some (.int x1), some (.int x2), some (.int x3), some (.int x4), none, some (.int x6), some (.int y0)] [] μ K) ∧
    (¬ x4 = 2 →
      (x6 ≤ (zI μ 31 2) →
        AW E l (d + 4) nc ns mX11_take 205 [some (.ref 31), some (.int x1), some (.int x2), some (.int x3), some (.int x4), none, some (.int x6), some (.int y0)] [] μ K) ∧
      (¬ x6 ≤ (zI μ 31 2) →
        K (some (.int (-2))) μ)))) : AW E l (d + 4) nc ns mX11_take 180 [some (.ref 31), some (.int x1), some (.int x2), some (.int x3), some (.int x4), none, some (.int x6), none] [.int y0] μ K := by
  refine aw_istore (pc' := 182) (ls' := [some (.ref 31), some (.int x1), some (.int x2), some (.int x3), some (.int x4), none, some (.int x6), some (.int y0)]) (dt_X11_take 102 (180, .istore 7, 2) rfl) (by decide) rfl rfl (aw_iload (pc' := 184) (dt_X11_take 103 (182, .iload 7, 2) rfl) rfl rfl (aw_if_ne (pc' := 187) (tgt := 205) (dt_X11_take 104 (184, .ifCond .ne 21, 3) rfl) (by decide) rfl ?_ ?_))
  · intro q1
    have h := h.1 q1
    exact h
  · intro q1
    have h := h.2 q1
    refine aw_iload (pc' := 189) (dt_X11_take 105 (187, .iload 4, 2) rfl) rfl rfl (aw_iconst (pc' := 190) (v := 2) (dt_X11_take 106 (189, .iconst 2, 1) rfl) (by decide) rfl (aw_icmp_eq (pc' := 193) (tgt := 205) (dt_X11_take 107 (190, .if_icmp .eq 15, 3) rfl) (by decide) rfl ?_ ?_))
    · intro q2
      have h := h.1 q2
      exact h
    · intro q2
      have h := h.2 q2
      refine aw_iload (pc' := 195) (dt_X11_take 108 (193, .iload 6, 2) rfl) rfl rfl (aw_aload_n (pc' := 196) (dt_X11_take 109 (195, .aload_n 0, 1) rfl) rfl rfl (aw_getI (pc' := 199) (dt_X11_take 110 (196, .getfield 212, 3) rfl) fl_ReturnDeskModel_212 rfl rfl (sk_31 hS) (aw_icmp_le (pc' := 202) (tgt := 205) (dt_X11_take 111 (199, .if_icmp .le 6, 3) rfl) (by decide) rfl ?_ ?_)))
      · intro q3
        have h := h.1 q3
        exact h
      · intro q3
        have h := h.2 q3
        refine aw_bipush (pc' := 204) (v := (-2)) (dt_X11_take 112 (202, .bipush (-2), 2) rfl) (by decide) rfl (aw_iret (dt_X11_take 113 (204, .ireturn, 1) rfl) rfl rfl ?_)
        exact h

theorem t_X11_take_179 {E : ZE} {l : Launch} {d nc ns : Nat} {x1 : Int32} {x2 : Int32} {x3 : Int32} {x4 : Int32} {x6 : Int32} {μ : ZM} {K : Option Value → ZM → Prop} (hS : Stat μ) (h :
  AW E l (d + 4) nc ns mX11_take 180 [some (.ref 31), some (.int x1), some (.int x2), some (.int x3), some (.int x4), none, some (.int x6), none] [.int 0] μ K) : AW E l (d + 4) nc ns mX11_take 179 [some (.ref 31), some (.int x1), some (.int x2), some (.int x3), some (.int x4), none, some (.int x6), none] [] μ K := by
  refine aw_iconst (pc' := 180) (v := 0) (dt_X11_take 101 (179, .iconst 0, 1) rfl) (by decide) rfl ?_
  exact h

theorem t_X11_take_205 {E : ZE} {l : Launch} {d nc ns : Nat} {x1 : Int32} {x2 : Int32} {x3 : Int32} {x4 : Int32} {x6 : Int32} {x7 : Int32} {μ : ZM} {K : Option Value → ZM → Prop} (hS : Stat μ) (h :
  (x7 = 0 →
    AW E l (d + 4) nc ns mX11_take 223 [some (.ref 31), some (.int x1), some (.int x2), some (.int x3), some (.int x4), none, some (.int x6), some (.int x7)] [] μ K) ∧
  (¬ x7 = 0 →
    (¬ (zI μ 31 74) = 200 →
      AW E l (d + 4) nc ns mX11_take 223 [some (.ref 31), some (.int x1), some (.int x2), some (.int x3), some (.int x4), none, some (.int x6), some (.int x7)] [] μ K) ∧
    ((zI μ 31 74) = 200 →
      K (some (.int (-3))) μ))) : AW E l (d + 4) nc ns mX11_take 205 [some (.ref 31), some (.int x1), some (.int x2), some (.int x3), some (.int x4), none, some (.int x6), some (.int x7)] [] μ K := by
  refine aw_iload (pc' := 207) (dt_X11_take 114 (205, .iload 7, 2) rfl) rfl rfl (aw_if_eq (pc' := 210) (tgt := 223) (dt_X11_take 115 (207, .ifCond .eq 16, 3) rfl) (by decide) rfl ?_ ?_)
  · intro q1
    have h := h.1 q1
    exact h
  · intro q1
    have h := h.2 q1
    refine aw_aload_n (pc' := 211) (dt_X11_take 116 (210, .aload_n 0, 1) rfl) rfl rfl (aw_getI (pc' := 214) (dt_X11_take 117 (211, .getfield 221, 3) rfl) fl_ReturnDeskModel_221 rfl rfl (sk_31 hS) (aw_sipush (pc' := 217) (v := 200) (dt_X11_take 118 (214, .sipush 200, 3) rfl) (by decide) rfl (aw_icmp_ne (pc' := 220) (tgt := 223) (dt_X11_take 119 (217, .if_icmp .ne 6, 3) rfl) (by decide) rfl ?_ ?_)))
    · intro q2
      have h := h.1 q2
      exact h
    · intro q2
      have h := h.2 q2
      refine aw_bipush (pc' := 222) (v := (-3)) (dt_X11_take 120 (220, .bipush (-3), 2) rfl) (by decide) rfl (aw_iret (dt_X11_take 121 (222, .ireturn, 1) rfl) rfl rfl ?_)
      exact h

theorem t_X11_take_223 {E : ZE} {l : Launch} {d nc ns : Nat} {x1 : Int32} {x2 : Int32} {x3 : Int32} {x4 : Int32} {x6 : Int32} {x7 : Int32} {μ : ZM} {K : Option Value → ZM → Prop} (hS : Stat μ) (h :
  (vp_in x1 200) ∧
  (vp_in x2 300) ∧
  (vp_in x1 200) ∧
  AW E l (d + 3) 0 0 mX11_digit 0 (zargs 4 [.int (zI (sI (sI μ 82 x1.toNatClampNeg 1) 61 x2.toNatClampNeg x1) 79 x1.toNatClampNeg), .int 0]) [] (sI (sI μ 82 x1.toNatClampNeg 1) 61 x2.toNatClampNeg x1) (fun v μ4 => ∃ r6 : Int32, v = some (.int r6) ∧ Stat μ4 ∧ 
    (¬ r6 = 1 →
      AW E l (d + 4) nc ns mX11_take 270 [some (.ref 31), some (.int x1), some (.int x2), some (.int x3), some (.int x4), none, some (.int x6), some (.int x7)] [] μ4 K) ∧
    (r6 = 1 →
      (vp_in x2 300) ∧
      (0 ≤ (zI μ4 59 x2.toNatClampNeg) →
        AW E l (d + 4) nc ns mX11_take 270 [some (.ref 31), some (.int x1), some (.int x2), some (.int x3), some (.int x4), none, some (.int x6), some (.int x7)] [] μ4 K) ∧
      (¬ 0 ≤ (zI μ4 59 x2.toNatClampNeg) →
        (vp_in x2 300) ∧
        AW E l (d + 4) nc ns mX11_take 270 [some (.ref 31), some (.int x1), some (.int x2), some (.int x3), some (.int x4), none, some (.int x6), some (.int x7)] [] (sI μ4 59 x2.toNatClampNeg ((zI μ4 31 1) / 24)) K)))) : AW E l (d + 4) nc ns mX11_take 223 [some (.ref 31), some (.int x1), some (.int x2), some (.int x3), some (.int x4), none, some (.int x6), some (.int x7)] [] μ K := by
  obtain ⟨g1, h⟩ := h
  obtain ⟨g2, h⟩ := h
  obtain ⟨g3, h⟩ := h
  refine aw_aload_n (pc' := 224) (dt_X11_take 122 (223, .aload_n 0, 1) rfl) rfl rfl (aw_getAs (pc' := 227) (dt_X11_take 123 (224, .getfield 162, 3) rfl) fl_ReturnDeskModel_162 rfl rfl (sk_31 hS) (sa_31_69 hS) (aw_iload_n (pc' := 228) (dt_X11_take 124 (227, .iload_n 1, 1) rfl) rfl rfl (aw_iconst (pc' := 229) (v := 1) (dt_X11_take 125 (228, .iconst 1, 1) rfl) (by decide) rfl (aw_iast (pc' := 230) (dt_X11_take 126 (229, .iastore, 1) rfl) rfl (sk_82 hS) (by decide) (vin_eq (sl_82 hS) g1) (aw_aload_n (pc' := 231) (dt_X11_take 127 (230, .aload_n 0, 1) rfl) rfl rfl (aw_getAs (pc' := 234) (dt_X11_take 128 (231, .getfield 98, 3) rfl) fl_ReturnDeskModel_98 rfl rfl (sk_31 hS.wI) (sa_31_36 hS.wI) (aw_iload_n (pc' := 235) (dt_X11_take 129 (234, .iload_n 2, 1) rfl) rfl rfl (aw_iload_n (pc' := 236) (dt_X11_take 130 (235, .iload_n 1, 1) rfl) rfl rfl (aw_iast (pc' := 237) (dt_X11_take 131 (236, .iastore, 1) rfl) rfl (sk_61 hS.wI) (by decide) (vin_eq (sl_61 hS.wI) g2) (aw_aload_n (pc' := 238) (dt_X11_take 132 (237, .aload_n 0, 1) rfl) rfl rfl (aw_getAs (pc' := 241) (dt_X11_take 133 (238, .getfield 153, 3) rfl) fl_ReturnDeskModel_153 rfl rfl (sk_31 hS.wI.wI) (sa_31_66 hS.wI.wI) (aw_iload_n (pc' := 242) (dt_X11_take 134 (241, .iload_n 1, 1) rfl) rfl rfl (aw_iald (pc' := 243) (dt_X11_take 135 (242, .iaload, 1) rfl) rfl (sk_79 hS.wI.wI) (vin_eq (sl_79 hS.wI.wI) g3) (aw_iconst (pc' := 244) (v := 0) (dt_X11_take 136 (243, .iconst 0, 1) rfl) (by decide) rfl (aw_callS0 (pc' := 247) (nc := nc) (ns := ns) (y2 := mX11_digit) (As := [.int (zI (sI (sI μ 82 x1.toNatClampNeg 1) 61 x2.toNatClampNeg x1) 79 x1.toNatClampNeg), .int 0]) (rest := []) (dt_X11_take 137 (244, .invokestatic 377, 3) rfl) ok_X11_digit ln_ReturnDeskModel_377 sm_X11_digit pr_X11_digit rfl (Nat.le_of_ble_eq_true rfl) (Nat.le_of_ble_eq_true rfl) rfl  h ?_)))))))))))))))
  rintro v μ4 ⟨r6, rfl, hS5, h⟩
  refine aw_stk (st' := [.int r6]) rfl ?_
  refine aw_iconst (pc' := 248) (v := 1) (dt_X11_take 138 (247, .iconst 1, 1) rfl) (by decide) rfl (aw_icmp_ne (pc' := 251) (tgt := 270) (dt_X11_take 139 (248, .if_icmp .ne 22, 3) rfl) (by decide) rfl ?_ ?_)
  · intro q7
    have h := h.1 q7
    exact h
  · intro q7
    have h := h.2 q7
    obtain ⟨g8, h⟩ := h
    refine aw_aload_n (pc' := 252) (dt_X11_take 140 (251, .aload_n 0, 1) rfl) rfl rfl (aw_getAs (pc' := 255) (dt_X11_take 141 (252, .getfield 92, 3) rfl) fl_ReturnDeskModel_92 rfl rfl (sk_31 hS5) (sa_31_34 hS5) (aw_iload_n (pc' := 256) (dt_X11_take 142 (255, .iload_n 2, 1) rfl) rfl rfl (aw_iald (pc' := 257) (dt_X11_take 143 (256, .iaload, 1) rfl) rfl (sk_59 hS5) (vin_eq (sl_59 hS5) g8) (aw_if_ge (pc' := 260) (tgt := 270) (dt_X11_take 144 (257, .ifCond .ge 13, 3) rfl) (by decide) rfl ?_ ?_))))
    · intro q9
      have h := h.1 q9
      exact h
    · intro q9
      have h := h.2 q9
      obtain ⟨g10, h⟩ := h
      refine aw_aload_n (pc' := 261) (dt_X11_take 145 (260, .aload_n 0, 1) rfl) rfl rfl (aw_getAs (pc' := 264) (dt_X11_take 146 (261, .getfield 92, 3) rfl) fl_ReturnDeskModel_92 rfl rfl (sk_31 hS5) (sa_31_34 hS5) (aw_iload_n (pc' := 265) (dt_X11_take 147 (264, .iload_n 2, 1) rfl) rfl rfl (aw_aload_n (pc' := 266) (dt_X11_take 148 (265, .aload_n 0, 1) rfl) rfl rfl (aw_inV (pc' := 269) (nc1 := 0) (ns1 := 0) (nc := nc) (ns := ns) (ls' := [some (.ref 31)]) (y2 := mX11_today) (As := []) (rest := [.int x2, .ref 59]) (a := 31) (dt_X11_take 149 (266, .invokevirtual 224, 3) rfl) ok_X11_today ln_ReturnDeskModel_224 im_X11_today se_X11_today pr_X11_today (Or.inl ⟨by decide, rfl⟩) rfl (Nat.le_of_ble_eq_true rfl) (Nat.le_of_ble_eq_true rfl) rfl rfl (sk_31 hS5) (aw_aload_n (pc' := 1) (dt_X11_today 0 (0, .aload_n 0, 1) rfl) rfl rfl (aw_getI (pc' := 4) (dt_X11_today 1 (1, .getfield 189, 3) rfl) fl_ReturnDeskModel_189 rfl rfl (sk_31 hS5) (aw_bipush (pc' := 6) (v := 24) (dt_X11_today 2 (4, .bipush 24, 2) rfl) (by decide) rfl (aw_idiv (pc' := 7) (dt_X11_today 3 (6, .idiv, 1) rfl) (by decide) rfl (aw_iret (dt_X11_today 4 (7, .ireturn, 1) rfl) rfl rfl (aw_stk (st' := [.int ((zI μ4 31 1) / 24), .int x2, .ref 59]) rfl (aw_iast (pc' := 270) (dt_X11_take 150 (269, .iastore, 1) rfl) rfl (sk_59 hS5) (by decide) (vin_eq (sl_59 hS5) g10) ?_)))))))))))
      exact h

theorem t_X11_take_270 {E : ZE} {l : Launch} {d nc ns : Nat} {x1 : Int32} {x2 : Int32} {x3 : Int32} {x4 : Int32} {x6 : Int32} {x7 : Int32} {μ : ZM} {K : Option Value → ZM → Prop} (hS : Stat μ) (h :
  (¬ x4 = 1 →
    (vp_in x2 300) ∧
    (vp_in x2 300) ∧
    (vp_in x2 300) ∧
    (x7 = 0 →
      (¬ x4 = 2 →
        ∀ μ7, μ7 = (sI (sI (sI (sI μ 48 x2.toNatClampNeg 2) 58 x2.toNatClampNeg ((zI (sI μ 48 x2.toNatClampNeg 2) 31 1) / 24)) 60 x2.toNatClampNeg 1) 31 2 ((zI (sI (sI (sI μ 48 x2.toNatClampNeg 2) 58 x2.toNatClampNeg ((zI (sI μ 48 x2.toNatClampNeg 2) 31 1) / 24)) 60 x2.toNatClampNeg 1) 31 2) - x6)) →
        (vp_in x1 200) ∧
        K (some (.int (zI (sI (sI μ7 31 72 ((zI μ7 31 72) + x6)) 83 x1.toNatClampNeg x6) 31 76))) (sI (sI μ7 31 72 ((zI μ7 31 72) + x6)) 83 x1.toNatClampNeg x6)) ∧
      (x4 = 2 →
        AW E l (d + 3) 0 0 mX11_giveNew 0 (zargs 3 [.ref 31, .int x3]) [] (sI (sI (sI μ 48 x2.toNatClampNeg 2) 58 x2.toNatClampNeg ((zI (sI μ 48 x2.toNatClampNeg 2) 31 1) / 24)) 60 x2.toNatClampNeg 1) (fun v μ11 => v = none ∧ Stat μ11 ∧ 
          K (some (.int (zI μ11 31 76))) μ11))) ∧
    (¬ x7 = 0 →
      (vp_in (zI (sI (sI (sI μ 48 x2.toNatClampNeg 2) 58 x2.toNatClampNeg ((zI (sI μ 48 x2.toNatClampNeg 2) 31 1) / 24)) 60 x2.toNatClampNeg 1) 31 74) 200) ∧
      ∀ μ14, μ14 = (sI (sI (sI (sI μ 48 x2.toNatClampNeg 2) 58 x2.toNatClampNeg ((zI (sI μ 48 x2.toNatClampNeg 2) 31 1) / 24)) 60 x2.toNatClampNeg 1) 85 (zI (sI (sI (sI μ 48 x2.toNatClampNeg 2) 58 x2.toNatClampNeg ((zI (sI μ 48 x2.toNatClampNeg 2) 31 1) / 24)) 60 x2.toNatClampNeg 1) 31 74).toNatClampNeg x6) →
      (vp_in x1 200) ∧
      (vp_in x1 200) ∧
      K (some (.int (zI (sI (sI (sI μ14 84 x1.toNatClampNeg (zI μ14 31 74)) 83 x1.toNatClampNeg x6) 31 74 ((zI (sI (sI μ14 84 x1.toNatClampNeg (zI μ14 31 74)) 83 x1.toNatClampNeg x6) 31 74) + 1)) 31 76))) (sI (sI (sI μ14 84 x1.toNatClampNeg (zI μ14 31 74)) 83 x1.toNatClampNeg x6) 31 74 ((zI (sI (sI μ14 84 x1.toNatClampNeg (zI μ14 31 74)) 83 x1.toNatClampNeg x6) 31 74) + 1)))) ∧
  (x4 = 1 →
    (vp_in x3 20) ∧
    (vp_in x3 20) ∧
    (vp_in x2 300) ∧
    ∀ μ22, μ22 = (sI (sI (sI (sI μ 31 2 ((zI μ 31 2) - x6)) 31 73 ((zI (sI μ 31 2 ((zI μ 31 2) - x6)) 31 73) + x6)) 40 x3.toNatClampNeg ((zI (sI (sI μ 31 2 ((zI μ 31 2) - x6)) 31 73 ((zI (sI μ 31 2 ((zI μ 31 2) - x6)) 31 73) + x6)) 40 x3.toNatClampNeg) + 1)) 48 x2.toNatClampNeg 0) →
    K (some (.int (zI μ22 31 76))) μ22)) : AW E l (d + 4) nc ns mX11_take 270 [some (.ref 31), some (.int x1), some (.int x2), some (.int x3), some (.int x4), none, some (.int x6), some (.int x7)] [] μ K := by
  refine aw_iload (pc' := 272) (dt_X11_take 151 (270, .iload 4, 2) rfl) rfl rfl (aw_iconst (pc' := 273) (v := 1) (dt_X11_take 152 (272, .iconst 1, 1) rfl) (by decide) rfl (aw_icmp_ne (pc' := 276) (tgt := 320) (dt_X11_take 153 (273, .if_icmp .ne 47, 3) rfl) (by decide) rfl ?_ ?_))
  · intro q1
    have h := h.1 q1
    obtain ⟨g2, h⟩ := h
    obtain ⟨g3, h⟩ := h
    obtain ⟨g4, h⟩ := h
    refine aw_aload_n (pc' := 321) (dt_X11_take 182 (320, .aload_n 0, 1) rfl) rfl rfl (aw_getAs (pc' := 324) (dt_X11_take 183 (321, .getfield 59, 3) rfl) fl_ReturnDeskModel_59 rfl rfl (sk_31 hS) (sa_31_23 hS) (aw_iload_n (pc' := 325) (dt_X11_take 184 (324, .iload_n 2, 1) rfl) rfl rfl (aw_iconst (pc' := 326) (v := 2) (dt_X11_take 185 (325, .iconst 2, 1) rfl) (by decide) rfl (aw_iast (pc' := 327) (dt_X11_take 186 (326, .iastore, 1) rfl) rfl (sk_48 hS) (by decide) (vin_eq (sl_48 hS) g2) (aw_aload_n (pc' := 328) (dt_X11_take 187 (327, .aload_n 0, 1) rfl) rfl rfl (aw_getAs (pc' := 331) (dt_X11_take 188 (328, .getfield 89, 3) rfl) fl_ReturnDeskModel_89 rfl rfl (sk_31 hS.wI) (sa_31_33 hS.wI) (aw_iload_n (pc' := 332) (dt_X11_take 189 (331, .iload_n 2, 1) rfl) rfl rfl (aw_aload_n (pc' := 333) (dt_X11_take 190 (332, .aload_n 0, 1) rfl) rfl rfl (aw_inV (pc' := 336) (nc1 := 0) (ns1 := 0) (nc := nc) (ns := ns) (ls' := [some (.ref 31)]) (y2 := mX11_today) (As := []) (rest := [.int x2, .ref 58]) (a := 31) (dt_X11_take 191 (333, .invokevirtual 224, 3) rfl) ok_X11_today ln_ReturnDeskModel_224 im_X11_today se_X11_today pr_X11_today (Or.inl ⟨by decide, rfl⟩) rfl (Nat.le_of_ble_eq_true rfl) (Nat.le_of_ble_eq_true rfl) rfl rfl (sk_31 hS.wI) (aw_aload_n (pc' := 1) (dt_X11_today 0 (0, .aload_n 0, 1) rfl) rfl rfl (aw_getI (pc' := 4) (dt_X11_today 1 (1, .getfield 189, 3) rfl) fl_ReturnDeskModel_189 rfl rfl (sk_31 hS.wI) (aw_bipush (pc' := 6) (v := 24) (dt_X11_today 2 (4, .bipush 24, 2) rfl) (by decide) rfl (aw_idiv (pc' := 7) (dt_X11_today 3 (6, .idiv, 1) rfl) (by decide) rfl (aw_iret (dt_X11_today 4 (7, .ireturn, 1) rfl) rfl rfl (aw_stk (st' := [.int ((zI (sI μ 48 x2.toNatClampNeg 2) 31 1) / 24), .int x2, .ref 58]) rfl (aw_iast (pc' := 337) (dt_X11_take 192 (336, .iastore, 1) rfl) rfl (sk_58 hS.wI) (by decide) (vin_eq (sl_58 hS.wI) g3) (aw_aload_n (pc' := 338) (dt_X11_take 193 (337, .aload_n 0, 1) rfl) rfl rfl (aw_getAs (pc' := 341) (dt_X11_take 194 (338, .getfield 95, 3) rfl) fl_ReturnDeskModel_95 rfl rfl (sk_31 hS.wI.wI) (sa_31_35 hS.wI.wI) (aw_iload_n (pc' := 342) (dt_X11_take 195 (341, .iload_n 2, 1) rfl) rfl rfl (aw_iconst (pc' := 343) (v := 1) (dt_X11_take 196 (342, .iconst 1, 1) rfl) (by decide) rfl (aw_zast (pc' := 344) (dt_X11_take 197 (343, .bastore, 1) rfl) rfl (sk_60 hS.wI.wI) (by decide) (vin_eq (sl_60 hS.wI.wI) g4) (by decide) (aw_iload (pc' := 346) (dt_X11_take 198 (344, .iload 7, 2) rfl) rfl rfl (aw_if_eq (pc' := 349) (tgt := 391) (dt_X11_take 199 (346, .ifCond .eq 45, 3) rfl) (by decide) rfl ?_ ?_)))))))))))))))))))))))
    · intro q5
      have h := h.1 q5
      refine aw_iload (pc' := 393) (dt_X11_take 224 (391, .iload 4, 2) rfl) rfl rfl (aw_iconst (pc' := 394) (v := 2) (dt_X11_take 225 (393, .iconst 2, 1) rfl) (by decide) rfl (aw_icmp_ne (pc' := 397) (tgt := 405) (dt_X11_take 226 (394, .if_icmp .ne 11, 3) rfl) (by decide) rfl ?_ ?_))
      · intro q6
        have h := h.1 q6
        refine aw_aload_n (pc' := 406) (dt_X11_take 231 (405, .aload_n 0, 1) rfl) rfl rfl (aw_dup (pc' := 407) (dt_X11_take 232 (406, .dup, 1) rfl) rfl rfl (aw_getI (pc' := 410) (dt_X11_take 233 (407, .getfield 212, 3) rfl) fl_ReturnDeskModel_212 rfl rfl (sk_31 hS.wI.wI.wI) (aw_iload (pc' := 412) (dt_X11_take 234 (410, .iload 6, 2) rfl) rfl rfl (aw_isub (pc' := 413) (dt_X11_take 235 (412, .isub, 1) rfl) rfl (aw_putI (pc' := 416) (dt_X11_take 236 (413, .putfield 212, 3) rfl) fl_ReturnDeskModel_212 rfl (by decide +kernel) rfl (sk_31 hS.wI.wI.wI) ?_)))))
        refine aw_mem (fun μ7 eμ8 => ?_)
        have h := h μ7 eμ8
        have hS9 : Stat μ7 := by rw [eμ8]; exact hS.wI.wI.wI.wI
        obtain ⟨g10, h⟩ := h
        refine aw_aload_n (pc' := 417) (dt_X11_take 237 (416, .aload_n 0, 1) rfl) rfl rfl (aw_dup (pc' := 418) (dt_X11_take 238 (417, .dup, 1) rfl) rfl rfl (aw_getI (pc' := 421) (dt_X11_take 239 (418, .getfield 416, 3) rfl) fl_ReturnDeskModel_416 rfl rfl (sk_31 hS9) (aw_iload (pc' := 423) (dt_X11_take 240 (421, .iload 6, 2) rfl) rfl rfl (aw_iadd (pc' := 424) (dt_X11_take 241 (423, .iadd, 1) rfl) rfl (aw_putI (pc' := 427) (dt_X11_take 242 (424, .putfield 416, 3) rfl) fl_ReturnDeskModel_416 rfl (by decide +kernel) rfl (sk_31 hS9) (aw_aload_n (pc' := 428) (dt_X11_take 243 (427, .aload_n 0, 1) rfl) rfl rfl (aw_getAs (pc' := 431) (dt_X11_take 244 (428, .getfield 165, 3) rfl) fl_ReturnDeskModel_165 rfl rfl (sk_31 hS9.wI) (sa_31_70 hS9.wI) (aw_iload_n (pc' := 432) (dt_X11_take 245 (431, .iload_n 1, 1) rfl) rfl rfl (aw_iload (pc' := 434) (dt_X11_take 246 (432, .iload 6, 2) rfl) rfl rfl (aw_iast (pc' := 435) (dt_X11_take 247 (434, .iastore, 1) rfl) rfl (sk_83 hS9.wI) (by decide) (vin_eq (sl_83 hS9.wI) g10) (aw_aload_n (pc' := 436) (dt_X11_take 248 (435, .aload_n 0, 1) rfl) rfl rfl (aw_getI (pc' := 439) (dt_X11_take 249 (436, .getfield 387, 3) rfl) fl_ReturnDeskModel_387 rfl rfl (sk_31 hS9.wI.wI) (aw_iret (dt_X11_take 250 (439, .ireturn, 1) rfl) rfl rfl ?_)))))))))))))
        exact h
      · intro q6
        have h := h.2 q6
        refine aw_aload_n (pc' := 398) (dt_X11_take 227 (397, .aload_n 0, 1) rfl) rfl rfl (aw_iload_n (pc' := 399) (dt_X11_take 228 (398, .iload_n 3, 1) rfl) rfl rfl (aw_callV0 (pc' := 402) (nc := nc) (ns := ns) (y2 := mX11_giveNew) (As := [.int x3]) (rest := []) (a := 31) (dt_X11_take 229 (399, .invokevirtual 413, 3) rfl) ok_X11_giveNew ln_ReturnDeskModel_413 im_X11_giveNew se_X11_giveNew pr_X11_giveNew (Or.inl ⟨by decide, rfl⟩) rfl (Nat.le_of_ble_eq_true rfl) (Nat.le_of_ble_eq_true rfl) rfl (sk_31 hS.wI.wI.wI) h ?_))
        rintro v μ11 ⟨rfl, hS12, h⟩
        refine aw_stk (st' := []) rfl ?_
        refine aw_goto (tgt := 435) (dt_X11_take 230 (402, .goto 33, 3) rfl) (by decide) (aw_aload_n (pc' := 436) (dt_X11_take 248 (435, .aload_n 0, 1) rfl) rfl rfl (aw_getI (pc' := 439) (dt_X11_take 249 (436, .getfield 387, 3) rfl) fl_ReturnDeskModel_387 rfl rfl (sk_31 hS12) (aw_iret (dt_X11_take 250 (439, .ireturn, 1) rfl) rfl rfl ?_)))
        exact h
    · intro q5
      have h := h.2 q5
      obtain ⟨g13, h⟩ := h
      refine aw_aload_n (pc' := 350) (dt_X11_take 200 (349, .aload_n 0, 1) rfl) rfl rfl (aw_getAs (pc' := 353) (dt_X11_take 201 (350, .getfield 171, 3) rfl) fl_ReturnDeskModel_171 rfl rfl (sk_31 hS.wI.wI.wI) (sa_31_75 hS.wI.wI.wI) (aw_aload_n (pc' := 354) (dt_X11_take 202 (353, .aload_n 0, 1) rfl) rfl rfl (aw_getI (pc' := 357) (dt_X11_take 203 (354, .getfield 221, 3) rfl) fl_ReturnDeskModel_221 rfl rfl (sk_31 hS.wI.wI.wI) (aw_iload (pc' := 359) (dt_X11_take 204 (357, .iload 6, 2) rfl) rfl rfl (aw_iast (pc' := 360) (dt_X11_take 205 (359, .iastore, 1) rfl) rfl (sk_85 hS.wI.wI.wI) (by decide) (vin_eq (sl_85 hS.wI.wI.wI) g13) ?_)))))
      refine aw_mem (fun μ14 eμ15 => ?_)
      have h := h μ14 eμ15
      have hS16 : Stat μ14 := by rw [eμ15]; exact hS.wI.wI.wI.wI
      obtain ⟨g17, h⟩ := h
      obtain ⟨g18, h⟩ := h
      refine aw_aload_n (pc' := 361) (dt_X11_take 206 (360, .aload_n 0, 1) rfl) rfl rfl (aw_getAs (pc' := 364) (dt_X11_take 207 (361, .getfield 168, 3) rfl) fl_ReturnDeskModel_168 rfl rfl (sk_31 hS16) (sa_31_71 hS16) (aw_iload_n (pc' := 365) (dt_X11_take 208 (364, .iload_n 1, 1) rfl) rfl rfl (aw_aload_n (pc' := 366) (dt_X11_take 209 (365, .aload_n 0, 1) rfl) rfl rfl (aw_getI (pc' := 369) (dt_X11_take 210 (366, .getfield 221, 3) rfl) fl_ReturnDeskModel_221 rfl rfl (sk_31 hS16) (aw_iast (pc' := 370) (dt_X11_take 211 (369, .iastore, 1) rfl) rfl (sk_84 hS16) (by decide) (vin_eq (sl_84 hS16) g17) (aw_aload_n (pc' := 371) (dt_X11_take 212 (370, .aload_n 0, 1) rfl) rfl rfl (aw_getAs (pc' := 374) (dt_X11_take 213 (371, .getfield 165, 3) rfl) fl_ReturnDeskModel_165 rfl rfl (sk_31 hS16.wI) (sa_31_70 hS16.wI) (aw_iload_n (pc' := 375) (dt_X11_take 214 (374, .iload_n 1, 1) rfl) rfl rfl (aw_iload (pc' := 377) (dt_X11_take 215 (375, .iload 6, 2) rfl) rfl rfl (aw_iast (pc' := 378) (dt_X11_take 216 (377, .iastore, 1) rfl) rfl (sk_83 hS16.wI) (by decide) (vin_eq (sl_83 hS16.wI) g18) (aw_aload_n (pc' := 379) (dt_X11_take 217 (378, .aload_n 0, 1) rfl) rfl rfl (aw_dup (pc' := 380) (dt_X11_take 218 (379, .dup, 1) rfl) rfl rfl (aw_getI (pc' := 383) (dt_X11_take 219 (380, .getfield 221, 3) rfl) fl_ReturnDeskModel_221 rfl rfl (sk_31 hS16.wI.wI) (aw_iconst (pc' := 384) (v := 1) (dt_X11_take 220 (383, .iconst 1, 1) rfl) (by decide) rfl (aw_iadd (pc' := 385) (dt_X11_take 221 (384, .iadd, 1) rfl) rfl (aw_putI (pc' := 388) (dt_X11_take 222 (385, .putfield 221, 3) rfl) fl_ReturnDeskModel_221 rfl (by decide +kernel) rfl (sk_31 hS16.wI.wI) (aw_goto (tgt := 435) (dt_X11_take 223 (388, .goto 47, 3) rfl) (by decide) (aw_aload_n (pc' := 436) (dt_X11_take 248 (435, .aload_n 0, 1) rfl) rfl rfl (aw_getI (pc' := 439) (dt_X11_take 249 (436, .getfield 387, 3) rfl) fl_ReturnDeskModel_387 rfl rfl (sk_31 hS16.wI.wI.wI) (aw_iret (dt_X11_take 250 (439, .ireturn, 1) rfl) rfl rfl ?_))))))))))))))))))))
      exact h
  · intro q1
    have h := h.2 q1
    obtain ⟨g19, h⟩ := h
    obtain ⟨g20, h⟩ := h
    obtain ⟨g21, h⟩ := h
    refine aw_aload_n (pc' := 277) (dt_X11_take 154 (276, .aload_n 0, 1) rfl) rfl rfl (aw_dup (pc' := 278) (dt_X11_take 155 (277, .dup, 1) rfl) rfl rfl (aw_getI (pc' := 281) (dt_X11_take 156 (278, .getfield 212, 3) rfl) fl_ReturnDeskModel_212 rfl rfl (sk_31 hS) (aw_iload (pc' := 283) (dt_X11_take 157 (281, .iload 6, 2) rfl) rfl rfl (aw_isub (pc' := 284) (dt_X11_take 158 (283, .isub, 1) rfl) rfl (aw_putI (pc' := 287) (dt_X11_take 159 (284, .putfield 212, 3) rfl) fl_ReturnDeskModel_212 rfl (by decide +kernel) rfl (sk_31 hS) (aw_aload_n (pc' := 288) (dt_X11_take 160 (287, .aload_n 0, 1) rfl) rfl rfl (aw_dup (pc' := 289) (dt_X11_take 161 (288, .dup, 1) rfl) rfl rfl (aw_getI (pc' := 292) (dt_X11_take 162 (289, .getfield 410, 3) rfl) fl_ReturnDeskModel_410 rfl rfl (sk_31 hS.wI) (aw_iload (pc' := 294) (dt_X11_take 163 (292, .iload 6, 2) rfl) rfl rfl (aw_iadd (pc' := 295) (dt_X11_take 164 (294, .iadd, 1) rfl) rfl (aw_putI (pc' := 298) (dt_X11_take 165 (295, .putfield 410, 3) rfl) fl_ReturnDeskModel_410 rfl (by decide +kernel) rfl (sk_31 hS.wI) (aw_aload_n (pc' := 299) (dt_X11_take 166 (298, .aload_n 0, 1) rfl) rfl rfl (aw_getAs (pc' := 302) (dt_X11_take 167 (299, .getfield 34, 3) rfl) fl_ReturnDeskModel_34 rfl rfl (sk_31 hS.wI.wI) (sa_31_12 hS.wI.wI) (aw_iload_n (pc' := 303) (dt_X11_take 168 (302, .iload_n 3, 1) rfl) rfl rfl (aw_dup2 (pc' := 304) (dt_X11_take 169 (303, .dup2, 1) rfl) rfl rfl rfl (aw_iald (pc' := 305) (dt_X11_take 170 (304, .iaload, 1) rfl) rfl (sk_40 hS.wI.wI) (vin_eq (sl_40 hS.wI.wI) g19) (aw_iconst (pc' := 306) (v := 1) (dt_X11_take 171 (305, .iconst 1, 1) rfl) (by decide) rfl (aw_iadd (pc' := 307) (dt_X11_take 172 (306, .iadd, 1) rfl) rfl (aw_iast (pc' := 308) (dt_X11_take 173 (307, .iastore, 1) rfl) rfl (sk_40 hS.wI.wI) (by decide) (vin_eq (sl_40 hS.wI.wI) g20) (aw_aload_n (pc' := 309) (dt_X11_take 174 (308, .aload_n 0, 1) rfl) rfl rfl (aw_getAs (pc' := 312) (dt_X11_take 175 (309, .getfield 59, 3) rfl) fl_ReturnDeskModel_59 rfl rfl (sk_31 hS.wI.wI.wI) (sa_31_23 hS.wI.wI.wI) (aw_iload_n (pc' := 313) (dt_X11_take 176 (312, .iload_n 2, 1) rfl) rfl rfl (aw_iconst (pc' := 314) (v := 0) (dt_X11_take 177 (313, .iconst 0, 1) rfl) (by decide) rfl (aw_iast (pc' := 315) (dt_X11_take 178 (314, .iastore, 1) rfl) rfl (sk_48 hS.wI.wI.wI) (by decide) (vin_eq (sl_48 hS.wI.wI.wI) g21) ?_))))))))))))))))))))))))
    refine aw_mem (fun μ22 eμ23 => ?_)
    have h := h μ22 eμ23
    have hS24 : Stat μ22 := by rw [eμ23]; exact hS.wI.wI.wI.wI
    refine aw_aload_n (pc' := 316) (dt_X11_take 179 (315, .aload_n 0, 1) rfl) rfl rfl (aw_getI (pc' := 319) (dt_X11_take 180 (316, .getfield 387, 3) rfl) fl_ReturnDeskModel_387 rfl rfl (sk_31 hS24) (aw_iret (dt_X11_take 181 (319, .ireturn, 1) rfl) rfl rfl ?_))
    exact h

