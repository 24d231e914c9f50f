theorem t_X11_leave {E : ZE} {l : Launch} {d nc ns : Nat} {x1 : Int32} {μ : ZM} {K : Option Value → ZM → Prop} (hS : Stat μ) (h :
  (x1 < 0 →
    K (some (.int (-1))) μ) ∧
  (¬ x1 < 0 →
    (((zI μ 31 60) - 1) < x1 →
      K (some (.int (-1))) μ) ∧
    (¬ ((zI μ 31 60) - 1) < x1 →
      (vp_in x1 200) ∧
      ((zI μ 82 x1.toNatClampNeg) = 0 →
        (vp_in x1 200) ∧
        (vp_in x1 200) ∧
        (vp_in (zI (sI μ 82 x1.toNatClampNeg 2) 74 x1.toNatClampNeg) 300) ∧
        K (some (.int 1)) (sI (sI μ 82 x1.toNatClampNeg 2) 48 (zI (sI μ 82 x1.toNatClampNeg 2) 74 x1.toNatClampNeg).toNatClampNeg 0)) ∧
      (¬ (zI μ 82 x1.toNatClampNeg) = 0 →
        K (some (.int (-2))) μ)))) : AW E l (d + 2) nc ns mX11_leave 0 [some (.ref 31), some (.int x1)] [] μ K := by
  refine aw_aload_n (pc' := 1) (dt_X11_leave 0 (0, .aload_n 0, 1) rfl) rfl rfl (aw_iload_n (pc' := 2) (dt_X11_leave 1 (1, .iload_n 1, 1) rfl) rfl rfl (aw_inV (pc' := 5) (nc1 := 0) (ns1 := 0) (nc := nc) (ns := ns) (ls' := [some (.ref 31), some (.int x1)]) (y2 := mX11_isAsking) (As := [.int x1]) (rest := []) (a := 31) (dt_X11_leave 2 (2, .invokevirtual 399, 3) rfl) ok_X11_isAsking ln_ReturnDeskModel_399 im_X11_isAsking se_X11_isAsking pr_X11_isAsking (Or.inl ⟨by decide, rfl⟩) rfl (Nat.le_of_ble_eq_true rfl) (Nat.le_of_ble_eq_true rfl) rfl rfl (sk_31 hS) (aw_iload_n (pc' := 1) (dt_X11_isAsking 0 (0, .iload_n 1, 1) rfl) rfl rfl (aw_iconst (pc' := 2) (v := 0) (dt_X11_isAsking 1 (1, .iconst 0, 1) rfl) (by decide) rfl (aw_aload_n (pc' := 3) (dt_X11_isAsking 2 (2, .aload_n 0, 1) rfl) rfl rfl (aw_getI (pc' := 6) (dt_X11_isAsking 3 (3, .getfield 384, 3) rfl) fl_ReturnDeskModel_384 rfl rfl (sk_31 hS) (aw_iconst (pc' := 7) (v := 1) (dt_X11_isAsking 4 (6, .iconst 1, 1) rfl) (by decide) rfl (aw_isub (pc' := 8) (dt_X11_isAsking 5 (7, .isub, 1) rfl) rfl (aw_inS (pc' := 11) (nc1 := 0) (ns1 := 0) (nc := 0) (ns := 0) (ls' := [some (.int x1), some (.int 0), some (.int ((zI μ 31 60) - 1))]) (y2 := mX11_in) (As := [.int x1, .int 0, .int ((zI μ 31 60) - 1)]) (rest := []) (dt_X11_isAsking 6 (8, .invokestatic 185, 3) rfl) ok_X11_in ln_ReturnDeskModel_185 sm_X11_in pr_X11_in rfl (Nat.le_of_ble_eq_true rfl) (Nat.le_of_ble_eq_true rfl) rfl rfl (aw_iload_n (pc' := 1) (dt_X11_in 0 (0, .iload_n 0, 1) rfl) rfl rfl (aw_iload_n (pc' := 2) (dt_X11_in 1 (1, .iload_n 1, 1) rfl) rfl rfl (aw_icmp_lt (pc' := 5) (tgt := 14) (dt_X11_in 2 (2, .if_icmp .lt 12, 3) rfl) (by decide) rfl ?_ ?_))))))))))))
  · intro q1
    have h := h.1 q1
    refine aw_iconst (pc' := 15) (v := 0) (dt_X11_in 8 (14, .iconst 0, 1) rfl) (by decide) rfl (aw_iret (dt_X11_in 9 (15, .ireturn, 1) rfl) rfl rfl (aw_stk (st' := [.int 0]) rfl (aw_iret (dt_X11_isAsking 7 (11, .ireturn, 1) rfl) rfl rfl (aw_stk (st' := [.int 0]) rfl (aw_if_ne_F (pc' := 8) (tgt := 10) (dt_X11_leave 3 (5, .ifCond .ne 5, 3) rfl) (by decide) rfl (by decide) (aw_iconst (pc' := 9) (v := (-1)) (dt_X11_leave 4 (8, .iconst (-1), 1) rfl) (by decide) rfl (aw_iret (dt_X11_leave 5 (9, .ireturn, 1) rfl) rfl rfl ?_)))))))
    exact h
  · intro q1
    have h := h.2 q1
    refine aw_iload_n (pc' := 6) (dt_X11_in 3 (5, .iload_n 0, 1) rfl) rfl rfl (aw_iload_n (pc' := 7) (dt_X11_in 4 (6, .iload_n 2, 1) rfl) rfl rfl (aw_icmp_gt (pc' := 10) (tgt := 14) (dt_X11_in 5 (7, .if_icmp .gt 7, 3) rfl) (by decide) rfl ?_ ?_))
    · intro q2
      have h := h.1 q2
      refine aw_iconst (pc' := 15) (v := 0) (dt_X11_in 8 (14, .iconst 0, 1) rfl) (by decide) rfl (aw_iret (dt_X11_in 9 (15, .ireturn, 1) rfl) rfl rfl (aw_stk (st' := [.int 0]) rfl (aw_iret (dt_X11_isAsking 7 (11, .ireturn, 1) rfl) rfl rfl (aw_stk (st' := [.int 0]) rfl (aw_if_ne_F (pc' := 8) (tgt := 10) (dt_X11_leave 3 (5, .ifCond .ne 5, 3) rfl) (by decide) rfl (by decide) (aw_iconst (pc' := 9) (v := (-1)) (dt_X11_leave 4 (8, .iconst (-1), 1) rfl) (by decide) rfl (aw_iret (dt_X11_leave 5 (9, .ireturn, 1) rfl) rfl rfl ?_)))))))
      exact h
    · intro q2
      have h := h.2 q2
      obtain ⟨g3, h⟩ := h
      refine aw_iconst (pc' := 11) (v := 1) (dt_X11_in 6 (10, .iconst 1, 1) rfl) (by decide) rfl (aw_goto (tgt := 15) (dt_X11_in 7 (11, .goto 4, 3) rfl) (by decide) (aw_iret (dt_X11_in 9 (15, .ireturn, 1) rfl) rfl rfl (aw_stk (st' := [.int 1]) rfl (aw_iret (dt_X11_isAsking 7 (11, .ireturn, 1) rfl) rfl rfl (aw_stk (st' := [.int 1]) rfl (aw_if_ne_T (pc' := 8) (tgt := 10) (dt_X11_leave 3 (5, .ifCond .ne 5, 3) rfl) (by decide) rfl (by decide) (aw_aload_n (pc' := 11) (dt_X11_leave 6 (10, .aload_n 0, 1) rfl) rfl rfl (aw_getAs (pc' := 14) (dt_X11_leave 7 (11, .getfield 162, 3) rfl) fl_ReturnDeskModel_162 rfl rfl (sk_31 hS) (sa_31_69 hS) (aw_iload_n (pc' := 15) (dt_X11_leave 8 (14, .iload_n 1, 1) rfl) rfl rfl (aw_iald (pc' := 16) (dt_X11_leave 9 (15, .iaload, 1) rfl) rfl (sk_82 hS) (vin_eq (sl_82 hS) g3) (aw_if_eq (pc' := 19) (tgt := 22) (dt_X11_leave 10 (16, .ifCond .eq 6, 3) rfl) (by decide) rfl ?_ ?_)))))))))))
      · intro q4
        have h := h.1 q4
        obtain ⟨g5, h⟩ := h
        obtain ⟨g6, h⟩ := h
        obtain ⟨g7, h⟩ := h
        refine aw_aload_n (pc' := 23) (dt_X11_leave 13 (22, .aload_n 0, 1) rfl) rfl rfl (aw_getAs (pc' := 26) (dt_X11_leave 14 (23, .getfield 162, 3) rfl) fl_ReturnDeskModel_162 rfl rfl (sk_31 hS) (sa_31_69 hS) (aw_iload_n (pc' := 27) (dt_X11_leave 15 (26, .iload_n 1, 1) rfl) rfl rfl (aw_iconst (pc' := 28) (v := 2) (dt_X11_leave 16 (27, .iconst 2, 1) rfl) (by decide) rfl (aw_iast (pc' := 29) (dt_X11_leave 17 (28, .iastore, 1) rfl) rfl (sk_82 hS) (by decide) (vin_eq (sl_82 hS) g5) (aw_aload_n (pc' := 30) (dt_X11_leave 18 (29, .aload_n 0, 1) rfl) rfl rfl (aw_getAs (pc' := 33) (dt_X11_leave 19 (30, .getfield 59, 3) rfl) fl_ReturnDeskModel_59 rfl rfl (sk_31 hS.wI) (sa_31_23 hS.wI) (aw_aload_n (pc' := 34) (dt_X11_leave 20 (33, .aload_n 0, 1) rfl) rfl rfl (aw_getAs (pc' := 37) (dt_X11_leave 21 (34, .getfield 138, 3) rfl) fl_ReturnDeskModel_138 rfl rfl (sk_31 hS.wI) (sa_31_61 hS.wI) (aw_iload_n (pc' := 38) (dt_X11_leave 22 (37, .iload_n 1, 1) rfl) rfl rfl (aw_iald (pc' := 39) (dt_X11_leave 23 (38, .iaload, 1) rfl) rfl (sk_74 hS.wI) (vin_eq (sl_74 hS.wI) g6) (aw_iconst (pc' := 40) (v := 0) (dt_X11_leave 24 (39, .iconst 0, 1) rfl) (by decide) rfl (aw_iast (pc' := 41) (dt_X11_leave 25 (40, .iastore, 1) rfl) rfl (sk_48 hS.wI) (by decide) (vin_eq (sl_48 hS.wI) g7) (aw_iconst (pc' := 42) (v := 1) (dt_X11_leave 26 (41, .iconst 1, 1) rfl) (by decide) rfl (aw_iret (dt_X11_leave 27 (42, .ireturn, 1) rfl) rfl rfl ?_))))))))))))))
        exact h
      · intro q4
        have h := h.2 q4
        refine aw_bipush (pc' := 21) (v := (-2)) (dt_X11_leave 11 (19, .bipush (-2), 2) rfl) (by decide) rfl (aw_iret (dt_X11_leave 12 (21, .ireturn, 1) rfl) rfl rfl ?_)
        exact h

theorem t_X11_note {E : ZE} {l : Launch} {d nc ns : Nat} {x1 : Int32} {μ : ZM} {K : Option Value → ZM → Prop} (hS : Stat μ) (h :
  (x1 < 0 →
    K (some (.int (-1))) μ) ∧
  (¬ x1 < 0 →
    (((zI μ 31 74) - 1) < x1 →
      K (some (.int (-1))) μ) ∧
    (¬ ((zI μ 31 74) - 1) < x1 →
      (vp_in x1 200) ∧
      K (some (.int (zI μ 85 x1.toNatClampNeg))) μ))) : AW E l (d + 1) nc ns mX11_note 0 [some (.ref 31), some (.int x1)] [] μ K := by
  refine aw_iload_n (pc' := 1) (dt_X11_note 0 (0, .iload_n 1, 1) rfl) rfl rfl (aw_iconst (pc' := 2) (v := 0) (dt_X11_note 1 (1, .iconst 0, 1) rfl) (by decide) rfl (aw_aload_n (pc' := 3) (dt_X11_note 2 (2, .aload_n 0, 1) rfl) rfl rfl (aw_getI (pc' := 6) (dt_X11_note 3 (3, .getfield 221, 3) rfl) fl_ReturnDeskModel_221 rfl rfl (sk_31 hS) (aw_iconst (pc' := 7) (v := 1) (dt_X11_note 4 (6, .iconst 1, 1) rfl) (by decide) rfl (aw_isub (pc' := 8) (dt_X11_note 5 (7, .isub, 1) rfl) rfl (aw_inS (pc' := 11) (nc1 := 0) (ns1 := 0) (nc := nc) (ns := ns) (ls' := [some (.int x1), some (.int 0), some (.int ((zI μ 31 74) - 1))]) (y2 := mX11_in) (As := [.int x1, .int 0, .int ((zI μ 31 74) - 1)]) (rest := []) (dt_X11_note 6 (8, .invokestatic 185, 3) rfl) ok_X11_in ln_ReturnDeskModel_185 sm_X11_in pr_X11_in rfl (Nat.le_of_ble_eq_true rfl) (Nat.le_of_ble_eq_true rfl) rfl rfl (aw_iload_n (pc' := 1) (dt_X11_in 0 (0, .iload_n 0, 1) rfl) rfl rfl (aw_iload_n (pc' := 2) (dt_X11_in 1 (1, .iload_n 1, 1) rfl) rfl rfl (aw_icmp_lt (pc' := 5) (tgt := 14) (dt_X11_in 2 (2, .if_icmp .lt 12, 3) rfl) (by decide) rfl ?_ ?_)))))))))
  · intro q1
    have h := h.1 q1
    refine aw_iconst (pc' := 15) (v := 0) (dt_X11_in 8 (14, .iconst 0, 1) rfl) (by decide) rfl (aw_iret (dt_X11_in 9 (15, .ireturn, 1) rfl) rfl rfl (aw_stk (st' := [.int 0]) rfl (aw_if_eq_T (pc' := 14) (tgt := 23) (dt_X11_note 7 (11, .ifCond .eq 12, 3) rfl) (by decide) rfl (by decide) (aw_iconst (pc' := 24) (v := (-1)) (dt_X11_note 13 (23, .iconst (-1), 1) rfl) (by decide) rfl (aw_iret (dt_X11_note 14 (24, .ireturn, 1) rfl) rfl rfl ?_)))))
    exact h
  · intro q1
    have h := h.2 q1
    refine aw_iload_n (pc' := 6) (dt_X11_in 3 (5, .iload_n 0, 1) rfl) rfl rfl (aw_iload_n (pc' := 7) (dt_X11_in 4 (6, .iload_n 2, 1) rfl) rfl rfl (aw_icmp_gt (pc' := 10) (tgt := 14) (dt_X11_in 5 (7, .if_icmp .gt 7, 3) rfl) (by decide) rfl ?_ ?_))
    · intro q2
      have h := h.1 q2
      refine aw_iconst (pc' := 15) (v := 0) (dt_X11_in 8 (14, .iconst 0, 1) rfl) (by decide) rfl (aw_iret (dt_X11_in 9 (15, .ireturn, 1) rfl) rfl rfl (aw_stk (st' := [.int 0]) rfl (aw_if_eq_T (pc' := 14) (tgt := 23) (dt_X11_note 7 (11, .ifCond .eq 12, 3) rfl) (by decide) rfl (by decide) (aw_iconst (pc' := 24) (v := (-1)) (dt_X11_note 13 (23, .iconst (-1), 1) rfl) (by decide) rfl (aw_iret (dt_X11_note 14 (24, .ireturn, 1) rfl) rfl rfl ?_)))))
      exact h
    · intro q2
      have h := h.2 q2
      obtain ⟨g3, h⟩ := h
      refine aw_iconst (pc' := 11) (v := 1) (dt_X11_in 6 (10, .iconst 1, 1) rfl) (by decide) rfl (aw_goto (tgt := 15) (dt_X11_in 7 (11, .goto 4, 3) rfl) (by decide) (aw_iret (dt_X11_in 9 (15, .ireturn, 1) rfl) rfl rfl (aw_stk (st' := [.int 1]) rfl (aw_if_eq_F (pc' := 14) (tgt := 23) (dt_X11_note 7 (11, .ifCond .eq 12, 3) rfl) (by decide) rfl (by decide) (aw_aload_n (pc' := 15) (dt_X11_note 8 (14, .aload_n 0, 1) rfl) rfl rfl (aw_getAs (pc' := 18) (dt_X11_note 9 (15, .getfield 171, 3) rfl) fl_ReturnDeskModel_171 rfl rfl (sk_31 hS) (sa_31_75 hS) (aw_iload_n (pc' := 19) (dt_X11_note 10 (18, .iload_n 1, 1) rfl) rfl rfl (aw_iald (pc' := 20) (dt_X11_note 11 (19, .iaload, 1) rfl) rfl (sk_85 hS) (vin_eq (sl_85 hS) g3) (aw_goto (tgt := 24) (dt_X11_note 12 (20, .goto 4, 3) rfl) (by decide) (aw_iret (dt_X11_note 14 (24, .ireturn, 1) rfl) rfl rfl ?_))))))))))
      exact h

theorem t_X11_usedOf {E : ZE} {l : Launch} {d nc ns : Nat} {x1 : Int32} {μ : ZM} {K : Option Value → ZM → Prop} (hS : Stat μ) (h :
  AW E l d nc ns mX11_usedOf 4 [some (.ref 31), some (.int x1), some (.int 0), some (.int 0)] [] μ K) : AW E l d nc ns mX11_usedOf 0 [some (.ref 31), some (.int x1), none, none] [] μ K := by
  refine aw_iconst (pc' := 1) (v := 0) (dt_X11_usedOf 0 (0, .iconst 0, 1) rfl) (by decide) rfl (aw_istore_n (pc' := 2) (ls' := [some (.ref 31), some (.int x1), some (.int 0), none]) (dt_X11_usedOf 1 (1, .istore_n 2, 1) rfl) (by decide) rfl rfl (aw_iconst (pc' := 3) (v := 0) (dt_X11_usedOf 2 (2, .iconst 0, 1) rfl) (by decide) rfl (aw_istore_n (pc' := 4) (ls' := [some (.ref 31), some (.int x1), some (.int 0), some (.int 0)]) (dt_X11_usedOf 3 (3, .istore_n 3, 1) rfl) (by decide) rfl rfl ?_)))
  exact h

theorem t_X11_usedOf_4 {E : ZE} {l : Launch} {d nc ns : Nat} {x1 : Int32} {x2 : Int32} {x3 : Int32} {μ : ZM} {K : Option Value → ZM → Prop} (hS : Stat μ) (h :
  ((zI μ 31 14) ≤ x3 →
    K (some (.int x2)) μ) ∧
  (¬ (zI μ 31 14) ≤ x3 →
    (vp_in x3 300) ∧
    (¬ (zI μ 42 x3.toNatClampNeg) = x1 →
      AW E l d nc ns mX11_usedOf 4 [some (.ref 31), some (.int x1), some (.int (x2 + 0)), some (.int (x3 + 1))] [] μ K) ∧
    ((zI μ 42 x3.toNatClampNeg) = x1 →
      (vp_in x3 300) ∧
      ((zI μ 44 x3.toNatClampNeg) = 0 →
        AW E l d nc ns mX11_usedOf 4 [some (.ref 31), some (.int x1), some (.int (x2 + 0)), some (.int (x3 + 1))] [] μ K) ∧
      (¬ (zI μ 44 x3.toNatClampNeg) = 0 →
        AW E l d nc ns mX11_usedOf 4 [some (.ref 31), some (.int x1), some (.int (x2 + 1)), some (.int (x3 + 1))] [] μ K)))) : AW E l d nc ns mX11_usedOf 4 [some (.ref 31), some (.int x1), some (.int x2), some (.int x3)] [] μ K := by
  refine aw_iload_n (pc' := 5) (dt_X11_usedOf 4 (4, .iload_n 3, 1) rfl) rfl rfl (aw_aload_n (pc' := 6) (dt_X11_usedOf 5 (5, .aload_n 0, 1) rfl) rfl rfl (aw_getI (pc' := 9) (dt_X11_usedOf 6 (6, .getfield 419, 3) rfl) fl_ReturnDeskModel_419 rfl rfl (sk_31 hS) (aw_icmp_ge (pc' := 12) (tgt := 45) (dt_X11_usedOf 7 (9, .if_icmp .ge 36, 3) rfl) (by decide) rfl ?_ ?_)))
  · intro q1
    have h := h.1 q1
    refine aw_iload_n (pc' := 46) (dt_X11_usedOf 27 (45, .iload_n 2, 1) rfl) rfl rfl (aw_iret (dt_X11_usedOf 28 (46, .ireturn, 1) rfl) rfl rfl ?_)
    exact h
  · intro q1
    have h := h.2 q1
    obtain ⟨g2, h⟩ := h
    refine aw_iload_n (pc' := 13) (dt_X11_usedOf 8 (12, .iload_n 2, 1) rfl) rfl rfl (aw_aload_n (pc' := 14) (dt_X11_usedOf 9 (13, .aload_n 0, 1) rfl) rfl rfl (aw_getAs (pc' := 17) (dt_X11_usedOf 10 (14, .getfield 40, 3) rfl) fl_ReturnDeskModel_40 rfl rfl (sk_31 hS) (sa_31_15 hS) (aw_iload_n (pc' := 18) (dt_X11_usedOf 11 (17, .iload_n 3, 1) rfl) rfl rfl (aw_iald (pc' := 19) (dt_X11_usedOf 12 (18, .iaload, 1) rfl) rfl (sk_42 hS) (vin_eq (sl_42 hS) g2) (aw_iload_n (pc' := 20) (dt_X11_usedOf 13 (19, .iload_n 1, 1) rfl) rfl rfl (aw_icmp_ne (pc' := 23) (tgt := 36) (dt_X11_usedOf 14 (20, .if_icmp .ne 16, 3) rfl) (by decide) rfl ?_ ?_))))))
    · intro q3
      have h := h.1 q3
      refine aw_iconst (pc' := 37) (v := 0) (dt_X11_usedOf 22 (36, .iconst 0, 1) rfl) (by decide) rfl (aw_iadd (pc' := 38) (dt_X11_usedOf 23 (37, .iadd, 1) rfl) rfl (aw_istore_n (pc' := 39) (ls' := [some (.ref 31), some (.int x1), some (.int (x2 + 0)), some (.int x3)]) (dt_X11_usedOf 24 (38, .istore_n 2, 1) rfl) (by decide) rfl rfl (aw_iinc (pc' := 42) (v := 1) (ls' := [some (.ref 31), some (.int x1), some (.int (x2 + 0)), some (.int (x3 + 1))]) (dt_X11_usedOf 25 (39, .iinc 3 1, 3) rfl) rfl (by decide) (by decide) rfl rfl (aw_goto (tgt := 4) (dt_X11_usedOf 26 (42, .goto (-38), 3) rfl) (by decide) ?_))))
      exact h
    · intro q3
      have h := h.2 q3
      obtain ⟨g4, h⟩ := h
      refine aw_aload_n (pc' := 24) (dt_X11_usedOf 15 (23, .aload_n 0, 1) rfl) rfl rfl (aw_getAs (pc' := 27) (dt_X11_usedOf 16 (24, .getfield 46, 3) rfl) fl_ReturnDeskModel_46 rfl rfl (sk_31 hS) (sa_31_17 hS) (aw_iload_n (pc' := 28) (dt_X11_usedOf 17 (27, .iload_n 3, 1) rfl) rfl rfl (aw_zald (pc' := 29) (dt_X11_usedOf 18 (28, .baload, 1) rfl) rfl (sk_44 hS) (vin_eq (sl_44 hS) g4) (aw_if_eq (pc' := 32) (tgt := 36) (dt_X11_usedOf 19 (29, .ifCond .eq 7, 3) rfl) (by decide) rfl ?_ ?_))))
      · intro q5
        have h := h.1 q5
        refine aw_iconst (pc' := 37) (v := 0) (dt_X11_usedOf 22 (36, .iconst 0, 1) rfl) (by decide) rfl (aw_iadd (pc' := 38) (dt_X11_usedOf 23 (37, .iadd, 1) rfl) rfl (aw_istore_n (pc' := 39) (ls' := [some (.ref 31), some (.int x1), some (.int (x2 + 0)), some (.int x3)]) (dt_X11_usedOf 24 (38, .istore_n 2, 1) rfl) (by decide) rfl rfl (aw_iinc (pc' := 42) (v := 1) (ls' := [some (.ref 31), some (.int x1), some (.int (x2 + 0)), some (.int (x3 + 1))]) (dt_X11_usedOf 25 (39, .iinc 3 1, 3) rfl) rfl (by decide) (by decide) rfl rfl (aw_goto (tgt := 4) (dt_X11_usedOf 26 (42, .goto (-38), 3) rfl) (by decide) ?_))))
        exact h
      · intro q5
        have h := h.2 q5
        refine aw_iconst (pc' := 33) (v := 1) (dt_X11_usedOf 20 (32, .iconst 1, 1) rfl) (by decide) rfl (aw_goto (tgt := 37) (dt_X11_usedOf 21 (33, .goto 4, 3) rfl) (by decide) (aw_iadd (pc' := 38) (dt_X11_usedOf 23 (37, .iadd, 1) rfl) rfl (aw_istore_n (pc' := 39) (ls' := [some (.ref 31), some (.int x1), some (.int (x2 + 1)), some (.int x3)]) (dt_X11_usedOf 24 (38, .istore_n 2, 1) rfl) (by decide) rfl rfl (aw_iinc (pc' := 42) (v := 1) (ls' := [some (.ref 31), some (.int x1), some (.int (x2 + 1)), some (.int (x3 + 1))]) (dt_X11_usedOf 25 (39, .iinc 3 1, 3) rfl) rfl (by decide) (by decide) rfl rfl (aw_goto (tgt := 4) (dt_X11_usedOf 26 (42, .goto (-38), 3) rfl) (by decide) ?_)))))
        exact h

theorem t_X11_stock {E : ZE} {l : Launch} {d nc ns : Nat} {x1 : Int32} {x2 : Int32} {μ : ZM} {K : Option Value → ZM → Prop} (hS : Stat μ) (h :
  (x1 < 0 →
    K (some (.int (-1))) μ) ∧
  (¬ x1 < 0 →
    (((zI μ 31 3) - 1) < x1 →
      K (some (.int (-1))) μ) ∧
    (¬ ((zI μ 31 3) - 1) < x1 →
      (x2 = 0 →
        AW E l (d + 1) 0 0 mX11_newOf 0 (zargs 4 [.ref 31, .int x1]) [] μ (fun v μ4 => ∃ r6 : Int32, v = some (.int r6) ∧ Stat μ4 ∧ 
          K (some (.int r6)) μ4)) ∧
      (x2 = 1 →
        AW E l (d + 1) 0 0 mX11_usedOf 0 (zargs 4 [.ref 31, .int x1]) [] μ (fun v μ8 => ∃ r10 : Int32, v = some (.int r10) ∧ Stat μ8 ∧ 
          K (some (.int r10)) μ8)) ∧
      (x2 = 2 →
        AW E l (d + 2) nc ns mX11_stock 71 [some (.ref 31), some (.int x1), none, some (.int 0), some (.int 0)] [] μ K) ∧
      (x2 = 3 →
        (vp_in x1 20) ∧
        K (some (.int (zI μ 39 x1.toNatClampNeg))) μ) ∧
      (x2 = 4 →
        AW E l (d + 2) nc ns mX11_stock 126 [some (.ref 31), some (.int x1), none, some (.int 0), some (.int 0)] [] μ K) ∧
      (x2 = 5 →
        AW E l (d + 2) nc ns mX11_stock 164 [some (.ref 31), some (.int x1), none, some (.int 0), some (.int 0)] [] μ K) ∧
      (x2 = 6 →
        (vp_in x1 20) ∧
        K (some (.int (zI μ 40 x1.toNatClampNeg))) μ) ∧
      ((¬ x2 = 0 ∧ ¬ x2 = 1 ∧ ¬ x2 = 2 ∧ ¬ x2 = 3 ∧ ¬ x2 = 4 ∧ ¬ x2 = 5 ∧ ¬ x2 = 6) →
      K (some (.int (-1))) μ)))) : AW E l (d + 2) nc ns mX11_stock 0 [some (.ref 31), some (.int x1), some (.int x2), none, none] [] μ K := by
  refine aw_aload_n (pc' := 1) (dt_X11_stock 0 (0, .aload_n 0, 1) rfl) rfl rfl (aw_iload_n (pc' := 2) (dt_X11_stock 1 (1, .iload_n 1, 1) rfl) rfl rfl (aw_inV (pc' := 5) (nc1 := 0) (ns1 := 0) (nc := nc) (ns := ns) (ls' := [some (.ref 31), some (.int x1)]) (y2 := mX11_isModel) (As := [.int x1]) (rest := []) (a := 31) (dt_X11_stock 2 (2, .invokevirtual 199, 3) rfl) ok_X11_isModel ln_ReturnDeskModel_199 im_X11_isModel se_X11_isModel pr_X11_isModel (Or.inl ⟨by decide, rfl⟩) rfl (Nat.le_of_ble_eq_true rfl) (Nat.le_of_ble_eq_true rfl) rfl rfl (sk_31 hS) (aw_iload_n (pc' := 1) (dt_X11_isModel 0 (0, .iload_n 1, 1) rfl) rfl rfl (aw_iconst (pc' := 2) (v := 0) (dt_X11_isModel 1 (1, .iconst 0, 1) rfl) (by decide) rfl (aw_aload_n (pc' := 3) (dt_X11_isModel 2 (2, .aload_n 0, 1) rfl) rfl rfl (aw_getI (pc' := 6) (dt_X11_isModel 3 (3, .getfield 192, 3) rfl) fl_ReturnDeskModel_192 rfl rfl (sk_31 hS) (aw_iconst (pc' := 7) (v := 1) (dt_X11_isModel 4 (6, .iconst 1, 1) rfl) (by decide) rfl (aw_isub (pc' := 8) (dt_X11_isModel 5 (7, .isub, 1) rfl) rfl (aw_inS (pc' := 11) (nc1 := 0) (ns1 := 0) (nc := 0) (ns := 0) (ls' := [some (.int x1), some (.int 0), some (.int ((zI μ 31 3) - 1))]) (y2 := mX11_in) (As := [.int x1, .int 0, .int ((zI μ 31 3) - 1)]) (rest := []) (dt_X11_isModel 6 (8, .invokestatic 185, 3) rfl) ok_X11_in ln_ReturnDeskModel_185 sm_X11_in pr_X11_in rfl (Nat.le_of_ble_eq_true rfl) (Nat.le_of_ble_eq_true rfl) rfl rfl (aw_iload_n (pc' := 1) (dt_X11_in 0 (0, .iload_n 0, 1) rfl) rfl rfl (aw_iload_n (pc' := 2) (dt_X11_in 1 (1, .iload_n 1, 1) rfl) rfl rfl (aw_icmp_lt (pc' := 5) (tgt := 14) (dt_X11_in 2 (2, .if_icmp .lt 12, 3) rfl) (by decide) rfl ?_ ?_))))))))))))
  · intro q1
    have h := h.1 q1
    refine aw_iconst (pc' := 15) (v := 0) (dt_X11_in 8 (14, .iconst 0, 1) rfl) (by decide) rfl (aw_iret (dt_X11_in 9 (15, .ireturn, 1) rfl) rfl rfl (aw_stk (st' := [.int 0]) rfl (aw_iret (dt_X11_isModel 7 (11, .ireturn, 1) rfl) rfl rfl (aw_stk (st' := [.int 0]) rfl (aw_if_ne_F (pc' := 8) (tgt := 10) (dt_X11_stock 3 (5, .ifCond .ne 5, 3) rfl) (by decide) rfl (by decide) (aw_iconst (pc' := 9) (v := (-1)) (dt_X11_stock 4 (8, .iconst (-1), 1) rfl) (by decide) rfl (aw_iret (dt_X11_stock 5 (9, .ireturn, 1) rfl) rfl rfl ?_)))))))
    exact h
  · intro q1
    have h := h.2 q1
    refine aw_iload_n (pc' := 6) (dt_X11_in 3 (5, .iload_n 0, 1) rfl) rfl rfl (aw_iload_n (pc' := 7) (dt_X11_in 4 (6, .iload_n 2, 1) rfl) rfl rfl (aw_icmp_gt (pc' := 10) (tgt := 14) (dt_X11_in 5 (7, .if_icmp .gt 7, 3) rfl) (by decide) rfl ?_ ?_))
    · intro q2
      have h := h.1 q2
      refine aw_iconst (pc' := 15) (v := 0) (dt_X11_in 8 (14, .iconst 0, 1) rfl) (by decide) rfl (aw_iret (dt_X11_in 9 (15, .ireturn, 1) rfl) rfl rfl (aw_stk (st' := [.int 0]) rfl (aw_iret (dt_X11_isModel 7 (11, .ireturn, 1) rfl) rfl rfl (aw_stk (st' := [.int 0]) rfl (aw_if_ne_F (pc' := 8) (tgt := 10) (dt_X11_stock 3 (5, .ifCond .ne 5, 3) rfl) (by decide) rfl (by decide) (aw_iconst (pc' := 9) (v := (-1)) (dt_X11_stock 4 (8, .iconst (-1), 1) rfl) (by decide) rfl (aw_iret (dt_X11_stock 5 (9, .ireturn, 1) rfl) rfl rfl ?_)))))))
      exact h
    · intro q2
      have h := h.2 q2
      refine aw_iconst (pc' := 11) (v := 1) (dt_X11_in 6 (10, .iconst 1, 1) rfl) (by decide) rfl (aw_goto (tgt := 15) (dt_X11_in 7 (11, .goto 4, 3) rfl) (by decide) (aw_iret (dt_X11_in 9 (15, .ireturn, 1) rfl) rfl rfl (aw_stk (st' := [.int 1]) rfl (aw_iret (dt_X11_isModel 7 (11, .ireturn, 1) rfl) rfl rfl (aw_stk (st' := [.int 1]) rfl (aw_if_ne_T (pc' := 8) (tgt := 10) (dt_X11_stock 3 (5, .ifCond .ne 5, 3) rfl) (by decide) rfl (by decide) (aw_iconst (pc' := 11) (v := 0) (dt_X11_stock 6 (10, .iconst 0, 1) rfl) (by decide) rfl (aw_istore_n (pc' := 12) (ls' := [some (.ref 31), some (.int x1), some (.int x2), some (.int 0), none]) (dt_X11_stock 7 (11, .istore_n 3, 1) rfl) (by decide) rfl rfl (aw_iload_n (pc' := 13) (dt_X11_stock 8 (12, .iload_n 2, 1) rfl) rfl rfl ?_)))))))))
      by_cases q3 : x2 = 0
      · have h := h.1 q3
        refine aw_tableE (tgt := 56) (off := 43) (dt_X11_stock 9 (13, .tableswitch 203 0 6 #[43, 49, 55, 103, 110, 148, 196], 43) rfl) q3 (by decide) (by decide) (by decide) (by decide) ?_
        refine aw_aload_n (pc' := 57) (dt_X11_stock 10 (56, .aload_n 0, 1) rfl) rfl rfl (aw_iload_n (pc' := 58) (dt_X11_stock 11 (57, .iload_n 1, 1) rfl) rfl rfl (aw_callV0 (pc' := 61) (nc := nc) (ns := ns) (y2 := mX11_newOf) (As := [.int x1]) (rest := []) (a := 31) (dt_X11_stock 12 (58, .invokevirtual 407, 3) rfl) ok_X11_newOf ln_ReturnDeskModel_407 im_X11_newOf se_X11_newOf pr_X11_newOf (Or.inl ⟨by decide, rfl⟩) rfl (Nat.le_of_ble_eq_true rfl) (Nat.le_of_ble_eq_true rfl) rfl (sk_31 hS) h ?_))
        rintro v μ4 ⟨r6, rfl, hS5, h⟩
        refine aw_stk (st' := [.int r6]) rfl ?_
        refine aw_iret (dt_X11_stock 13 (61, .ireturn, 1) rfl) rfl rfl ?_
        exact h
      by_cases q7 : x2 = 1
      · have h := h.2.1 q7
        refine aw_tableE (tgt := 62) (off := 49) (dt_X11_stock 9 (13, .tableswitch 203 0 6 #[43, 49, 55, 103, 110, 148, 196], 43) rfl) q7 (by decide) (by decide) (by decide) (by decide) ?_
        refine aw_aload_n (pc' := 63) (dt_X11_stock 14 (62, .aload_n 0, 1) rfl) rfl rfl (aw_iload_n (pc' := 64) (dt_X11_stock 15 (63, .iload_n 1, 1) rfl) rfl rfl (aw_callV0 (pc' := 67) (nc := nc) (ns := ns) (y2 := mX11_usedOf) (As := [.int x1]) (rest := []) (a := 31) (dt_X11_stock 16 (64, .invokevirtual 422, 3) rfl) ok_X11_usedOf ln_ReturnDeskModel_422 im_X11_usedOf se_X11_usedOf pr_X11_usedOf (Or.inl ⟨by decide, rfl⟩) rfl (Nat.le_of_ble_eq_true rfl) (Nat.le_of_ble_eq_true rfl) rfl (sk_31 hS) h ?_))
        rintro v μ8 ⟨r10, rfl, hS9, h⟩
        refine aw_stk (st' := [.int r10]) rfl ?_
        refine aw_iret (dt_X11_stock 17 (67, .ireturn, 1) rfl) rfl rfl ?_
        exact h
      by_cases q11 : x2 = 2
      · have h := h.2.2.1 q11
        refine aw_tableE (tgt := 68) (off := 55) (dt_X11_stock 9 (13, .tableswitch 203 0 6 #[43, 49, 55, 103, 110, 148, 196], 43) rfl) q11 (by decide) (by decide) (by decide) (by decide) ?_
        refine aw_iconst (pc' := 69) (v := 0) (dt_X11_stock 18 (68, .iconst 0, 1) rfl) (by decide) rfl (aw_istore (pc' := 71) (ls' := [some (.ref 31), some (.int x1), some (.int x2), some (.int 0), some (.int 0)]) (dt_X11_stock 19 (69, .istore 4, 2) rfl) (by decide) rfl rfl (aw_drop (ls' := [some (.ref 31), some (.int x1), none, some (.int 0), some (.int 0)]) ⟨rfl, rfl, rfl, rfl, trivial⟩ ?_))
        exact h
      by_cases q12 : x2 = 3
      · have h := h.2.2.2.1 q12
        refine aw_tableE (tgt := 116) (off := 103) (dt_X11_stock 9 (13, .tableswitch 203 0 6 #[43, 49, 55, 103, 110, 148, 196], 43) rfl) q12 (by decide) (by decide) (by decide) (by decide) ?_
        obtain ⟨g13, h⟩ := h
        refine aw_aload_n (pc' := 117) (dt_X11_stock 44 (116, .aload_n 0, 1) rfl) rfl rfl (aw_getAs (pc' := 120) (dt_X11_stock 45 (117, .getfield 31, 3) rfl) fl_ReturnDeskModel_31 rfl rfl (sk_31 hS) (sa_31_11 hS) (aw_iload_n (pc' := 121) (dt_X11_stock 46 (120, .iload_n 1, 1) rfl) rfl rfl (aw_iald (pc' := 122) (dt_X11_stock 47 (121, .iaload, 1) rfl) rfl (sk_39 hS) (vin_eq (sl_39 hS) g13) (aw_iret (dt_X11_stock 48 (122, .ireturn, 1) rfl) rfl rfl ?_))))
        exact h
      by_cases q14 : x2 = 4
      · have h := h.2.2.2.2.1 q14
        refine aw_tableE (tgt := 123) (off := 110) (dt_X11_stock 9 (13, .tableswitch 203 0 6 #[43, 49, 55, 103, 110, 148, 196], 43) rfl) q14 (by decide) (by decide) (by decide) (by decide) ?_
        refine aw_iconst (pc' := 124) (v := 0) (dt_X11_stock 49 (123, .iconst 0, 1) rfl) (by decide) rfl (aw_istore (pc' := 126) (ls' := [some (.ref 31), some (.int x1), some (.int x2), some (.int 0), some (.int 0)]) (dt_X11_stock 50 (124, .istore 4, 2) rfl) (by decide) rfl rfl (aw_drop (ls' := [some (.ref 31), some (.int x1), none, some (.int 0), some (.int 0)]) ⟨rfl, rfl, rfl, rfl, trivial⟩ ?_))
        exact h
      by_cases q15 : x2 = 5
      · have h := h.2.2.2.2.2.1 q15
        refine aw_tableE (tgt := 161) (off := 148) (dt_X11_stock 9 (13, .tableswitch 203 0 6 #[43, 49, 55, 103, 110, 148, 196], 43) rfl) q15 (by decide) (by decide) (by decide) (by decide) ?_
        refine aw_iconst (pc' := 162) (v := 0) (dt_X11_stock 70 (161, .iconst 0, 1) rfl) (by decide) rfl (aw_istore (pc' := 164) (ls' := [some (.ref 31), some (.int x1), some (.int x2), some (.int 0), some (.int 0)]) (dt_X11_stock 71 (162, .istore 4, 2) rfl) (by decide) rfl rfl (aw_drop (ls' := [some (.ref 31), some (.int x1), none, some (.int 0), some (.int 0)]) ⟨rfl, rfl, rfl, rfl, trivial⟩ ?_))
        exact h
      by_cases q16 : x2 = 6
      · have h := h.2.2.2.2.2.2.1 q16
        refine aw_tableE (tgt := 209) (off := 196) (dt_X11_stock 9 (13, .tableswitch 203 0 6 #[43, 49, 55, 103, 110, 148, 196], 43) rfl) q16 (by decide) (by decide) (by decide) (by decide) ?_
        obtain ⟨g17, h⟩ := h
        refine aw_aload_n (pc' := 210) (dt_X11_stock 96 (209, .aload_n 0, 1) rfl) rfl rfl (aw_getAs (pc' := 213) (dt_X11_stock 97 (210, .getfield 34, 3) rfl) fl_ReturnDeskModel_34 rfl rfl (sk_31 hS) (sa_31_12 hS) (aw_iload_n (pc' := 214) (dt_X11_stock 98 (213, .iload_n 1, 1) rfl) rfl rfl (aw_iald (pc' := 215) (dt_X11_stock 99 (214, .iaload, 1) rfl) rfl (sk_40 hS) (vin_eq (sl_40 hS) g17) (aw_iret (dt_X11_stock 100 (215, .ireturn, 1) rfl) rfl rfl ?_))))
        exact h
      have h := h.2.2.2.2.2.2.2 ⟨q3, q7, q11, q12, q14, q15, q16⟩
      refine aw_tableOut (tgt := 216) (dt_X11_stock 9 (13, .tableswitch 203 0 6 #[43, 49, 55, 103, 110, 148, 196], 43) rfl) (tab_out (lo := 0) (n := 7) (by decide) (by decide) (by decide) (by
          intro k hk
          match k, hk with
          | 0, _ => exact q3
          | 1, _ => exact q7
          | 2, _ => exact q11
          | 3, _ => exact q12
          | 4, _ => exact q14
          | 5, _ => exact q15
          | 6, _ => exact q16
          | k + 7, hk => omega)) (by decide) ?_
      refine aw_iconst (pc' := 217) (v := (-1)) (dt_X11_stock 101 (216, .iconst (-1), 1) rfl) (by decide) rfl (aw_iret (dt_X11_stock 102 (217, .ireturn, 1) rfl) rfl rfl ?_)
      exact h

theorem t_X11_stock_71 {E : ZE} {l : Launch} {d nc ns : Nat} {x1 : Int32} {x3 : Int32} {x4 : Int32} {μ : ZM} {K : Option Value → ZM → Prop} (hS : Stat μ) (h :
  ((zI μ 31 22) ≤ x4 →
    K (some (.int x3)) μ) ∧
  (¬ (zI μ 31 22) ≤ x4 →
    (vp_in x4 300) ∧
    ((zI μ 60 x4.toNatClampNeg) = 0 →
      AW E l (d + 2) nc ns mX11_stock 71 [some (.ref 31), some (.int x1), none, some (.int (x3 + 0)), some (.int (x4 + 1))] [] μ K) ∧
    (¬ (zI μ 60 x4.toNatClampNeg) = 0 →
      (vp_in x4 300) ∧
      (vp_in (zI μ 49 x4.toNatClampNeg) 60) ∧
      (¬ (zI μ 45 (zI μ 49 x4.toNatClampNeg).toNatClampNeg) = x1 →
        AW E l (d + 2) nc ns mX11_stock 71 [some (.ref 31), some (.int x1), none, some (.int (x3 + 0)), some (.int (x4 + 1))] [] μ K) ∧
      ((zI μ 45 (zI μ 49 x4.toNatClampNeg).toNatClampNeg) = x1 →
        AW E l (d + 2) nc ns mX11_stock 71 [some (.ref 31), some (.int x1), none, some (.int (x3 + 1)), some (.int (x4 + 1))] [] μ K)))) : AW E l (d + 2) nc ns mX11_stock 71 [some (.ref 31), some (.int x1), none, some (.int x3), some (.int x4)] [] μ K := by
  refine aw_iload (pc' := 73) (dt_X11_stock 20 (71, .iload 4, 2) rfl) rfl rfl (aw_aload_n (pc' := 74) (dt_X11_stock 21 (73, .aload_n 0, 1) rfl) rfl rfl (aw_getI (pc' := 77) (dt_X11_stock 22 (74, .getfield 215, 3) rfl) fl_ReturnDeskModel_215 rfl rfl (sk_31 hS) (aw_icmp_ge (pc' := 80) (tgt := 114) (dt_X11_stock 23 (77, .if_icmp .ge 37, 3) rfl) (by decide) rfl ?_ ?_)))
  · intro q1
    have h := h.1 q1
    refine aw_iload_n (pc' := 115) (dt_X11_stock 42 (114, .iload_n 3, 1) rfl) rfl rfl (aw_iret (dt_X11_stock 43 (115, .ireturn, 1) rfl) rfl rfl ?_)
    exact h
  · intro q1
    have h := h.2 q1
    obtain ⟨g2, h⟩ := h
    refine aw_iload_n (pc' := 81) (dt_X11_stock 24 (80, .iload_n 3, 1) rfl) rfl rfl (aw_aload_n (pc' := 82) (dt_X11_stock 25 (81, .aload_n 0, 1) rfl) rfl rfl (aw_getAs (pc' := 85) (dt_X11_stock 26 (82, .getfield 95, 3) rfl) fl_ReturnDeskModel_95 rfl rfl (sk_31 hS) (sa_31_35 hS) (aw_iload (pc' := 87) (dt_X11_stock 27 (85, .iload 4, 2) rfl) rfl rfl (aw_zald (pc' := 88) (dt_X11_stock 28 (87, .baload, 1) rfl) rfl (sk_60 hS) (vin_eq (sl_60 hS) g2) (aw_if_eq (pc' := 91) (tgt := 105) (dt_X11_stock 29 (88, .ifCond .eq 17, 3) rfl) (by decide) rfl ?_ ?_)))))
    · intro q3
      have h := h.1 q3
      refine aw_iconst (pc' := 106) (v := 0) (dt_X11_stock 37 (105, .iconst 0, 1) rfl) (by decide) rfl (aw_iadd (pc' := 107) (dt_X11_stock 38 (106, .iadd, 1) rfl) rfl (aw_istore_n (pc' := 108) (ls' := [some (.ref 31), some (.int x1), none, some (.int (x3 + 0)), some (.int x4)]) (dt_X11_stock 39 (107, .istore_n 3, 1) rfl) (by decide) rfl rfl (aw_iinc (pc' := 111) (v := 1) (ls' := [some (.ref 31), some (.int x1), none, some (.int (x3 + 0)), some (.int (x4 + 1))]) (dt_X11_stock 40 (108, .iinc 4 1, 3) rfl) rfl (by decide) (by decide) rfl rfl (aw_goto (tgt := 71) (dt_X11_stock 41 (111, .goto (-40), 3) rfl) (by decide) ?_))))
      exact h
    · intro q3
      have h := h.2 q3
      obtain ⟨g4, h⟩ := h
      obtain ⟨g5, h⟩ := h
      refine aw_aload_n (pc' := 92) (dt_X11_stock 30 (91, .aload_n 0, 1) rfl) rfl rfl (aw_iload (pc' := 94) (dt_X11_stock 31 (92, .iload 4, 2) rfl) rfl rfl (aw_inV (pc' := 97) (nc1 := 0) (ns1 := 0) (nc := nc) (ns := ns) (ls' := [some (.ref 31), some (.int x4)]) (y2 := mX11_modelOf) (As := [.int x4]) (rest := [.int x3]) (a := 31) (dt_X11_stock 32 (94, .invokevirtual 231, 3) rfl) ok_X11_modelOf ln_ReturnDeskModel_231 im_X11_modelOf se_X11_modelOf pr_X11_modelOf (Or.inl ⟨by decide, rfl⟩) rfl (Nat.le_of_ble_eq_true rfl) (Nat.le_of_ble_eq_true rfl) rfl rfl (sk_31 hS) (aw_aload_n (pc' := 1) (dt_X11_modelOf 0 (0, .aload_n 0, 1) rfl) rfl rfl (aw_getAs (pc' := 4) (dt_X11_modelOf 1 (1, .getfield 50, 3) rfl) fl_ReturnDeskModel_50 rfl rfl (sk_31 hS) (sa_31_19 hS) (aw_aload_n (pc' := 5) (dt_X11_modelOf 2 (4, .aload_n 0, 1) rfl) rfl rfl (aw_getAs (pc' := 8) (dt_X11_modelOf 3 (5, .getfield 62, 3) rfl) fl_ReturnDeskModel_62 rfl rfl (sk_31 hS) (sa_31_24 hS) (aw_iload_n (pc' := 9) (dt_X11_modelOf 4 (8, .iload_n 1, 1) rfl) rfl rfl (aw_iald (pc' := 10) (dt_X11_modelOf 5 (9, .iaload, 1) rfl) rfl (sk_49 hS) (vin_eq (sl_49 hS) g4) (aw_iald (pc' := 11) (dt_X11_modelOf 6 (10, .iaload, 1) rfl) rfl (sk_45 hS) (vin_eq (sl_45 hS) g5) (aw_iret (dt_X11_modelOf 7 (11, .ireturn, 1) rfl) rfl rfl (aw_stk (st' := [.int (zI μ 45 (zI μ 49 x4.toNatClampNeg).toNatClampNeg), .int x3]) rfl (aw_iload_n (pc' := 98) (dt_X11_stock 33 (97, .iload_n 1, 1) rfl) rfl rfl (aw_icmp_ne (pc' := 101) (tgt := 105) (dt_X11_stock 34 (98, .if_icmp .ne 7, 3) rfl) (by decide) rfl ?_ ?_)))))))))))))
      · intro q6
        have h := h.1 q6
        refine aw_iconst (pc' := 106) (v := 0) (dt_X11_stock 37 (105, .iconst 0, 1) rfl) (by decide) rfl (aw_iadd (pc' := 107) (dt_X11_stock 38 (106, .iadd, 1) rfl) rfl (aw_istore_n (pc' := 108) (ls' := [some (.ref 31), some (.int x1), none, some (.int (x3 + 0)), some (.int x4)]) (dt_X11_stock 39 (107, .istore_n 3, 1) rfl) (by decide) rfl rfl (aw_iinc (pc' := 111) (v := 1) (ls' := [some (.ref 31), some (.int x1), none, some (.int (x3 + 0)), some (.int (x4 + 1))]) (dt_X11_stock 40 (108, .iinc 4 1, 3) rfl) rfl (by decide) (by decide) rfl rfl (aw_goto (tgt := 71) (dt_X11_stock 41 (111, .goto (-40), 3) rfl) (by decide) ?_))))
        exact h
      · intro q6
        have h := h.2 q6
        refine aw_iconst (pc' := 102) (v := 1) (dt_X11_stock 35 (101, .iconst 1, 1) rfl) (by decide) rfl (aw_goto (tgt := 106) (dt_X11_stock 36 (102, .goto 4, 3) rfl) (by decide) (aw_iadd (pc' := 107) (dt_X11_stock 38 (106, .iadd, 1) rfl) rfl (aw_istore_n (pc' := 108) (ls' := [some (.ref 31), some (.int x1), none, some (.int (x3 + 1)), some (.int x4)]) (dt_X11_stock 39 (107, .istore_n 3, 1) rfl) (by decide) rfl rfl (aw_iinc (pc' := 111) (v := 1) (ls' := [some (.ref 31), some (.int x1), none, some (.int (x3 + 1)), some (.int (x4 + 1))]) (dt_X11_stock 40 (108, .iinc 4 1, 3) rfl) rfl (by decide) (by decide) rfl rfl (aw_goto (tgt := 71) (dt_X11_stock 41 (111, .goto (-40), 3) rfl) (by decide) ?_)))))
        exact h

theorem t_X11_stock_126 {E : ZE} {l : Launch} {d nc ns : Nat} {x1 : Int32} {x3 : Int32} {x4 : Int32} {μ : ZM} {K : Option Value → ZM → Prop} (hS : Stat μ) (h :
  ((zI μ 31 22) ≤ x4 →
    K (some (.int x3)) μ) ∧
  (¬ (zI μ 31 22) ≤ x4 →
    (vp_in x4 300) ∧
    (vp_in (zI μ 49 x4.toNatClampNeg) 60) ∧
    (¬ (zI μ 45 (zI μ 49 x4.toNatClampNeg).toNatClampNeg) = x1 →
      AW E l (d + 2) nc ns mX11_stock 126 [some (.ref 31), some (.int x1), none, some (.int (x3 + 0)), some (.int (x4 + 1))] [] μ K) ∧
    ((zI μ 45 (zI μ 49 x4.toNatClampNeg).toNatClampNeg) = x1 →
      AW E l (d + 2) nc ns mX11_stock 126 [some (.ref 31), some (.int x1), none, some (.int (x3 + 1)), some (.int (x4 + 1))] [] μ K))) : AW E l (d + 2) nc ns mX11_stock 126 [some (.ref 31), some (.int x1), none, some (.int x3), some (.int x4)] [] μ K := by
  refine aw_iload (pc' := 128) (dt_X11_stock 51 (126, .iload 4, 2) rfl) rfl rfl (aw_aload_n (pc' := 129) (dt_X11_stock 52 (128, .aload_n 0, 1) rfl) rfl rfl (aw_getI (pc' := 132) (dt_X11_stock 53 (129, .getfield 215, 3) rfl) fl_ReturnDeskModel_215 rfl rfl (sk_31 hS) (aw_icmp_ge (pc' := 135) (tgt := 159) (dt_X11_stock 54 (132, .if_icmp .ge 27, 3) rfl) (by decide) rfl ?_ ?_)))
  · intro q1
    have h := h.1 q1
    refine aw_iload_n (pc' := 160) (dt_X11_stock 68 (159, .iload_n 3, 1) rfl) rfl rfl (aw_iret (dt_X11_stock 69 (160, .ireturn, 1) rfl) rfl rfl ?_)
    exact h
  · intro q1
    have h := h.2 q1
    obtain ⟨g2, h⟩ := h
    obtain ⟨g3, h⟩ := h
    refine aw_iload_n (pc' := 136) (dt_X11_stock 55 (135, .iload_n 3, 1) rfl) rfl rfl (aw_aload_n (pc' := 137) (dt_X11_stock 56 (136, .aload_n 0, 1) rfl) rfl rfl (aw_iload (pc' := 139) (dt_X11_stock 57 (137, .iload 4, 2) rfl) rfl rfl (aw_inV (pc' := 142) (nc1 := 0) (ns1 := 0) (nc := nc) (ns := ns) (ls' := [some (.ref 31), some (.int x4)]) (y2 := mX11_modelOf) (As := [.int x4]) (rest := [.int x3]) (a := 31) (dt_X11_stock 58 (139, .invokevirtual 231, 3) rfl) ok_X11_modelOf ln_ReturnDeskModel_231 im_X11_modelOf se_X11_modelOf pr_X11_modelOf (Or.inl ⟨by decide, rfl⟩) rfl (Nat.le_of_ble_eq_true rfl) (Nat.le_of_ble_eq_true rfl) rfl rfl (sk_31 hS) (aw_aload_n (pc' := 1) (dt_X11_modelOf 0 (0, .aload_n 0, 1) rfl) rfl rfl (aw_getAs (pc' := 4) (dt_X11_modelOf 1 (1, .getfield 50, 3) rfl) fl_ReturnDeskModel_50 rfl rfl (sk_31 hS) (sa_31_19 hS) (aw_aload_n (pc' := 5) (dt_X11_modelOf 2 (4, .aload_n 0, 1) rfl) rfl rfl (aw_getAs (pc' := 8) (dt_X11_modelOf 3 (5, .getfield 62, 3) rfl) fl_ReturnDeskModel_62 rfl rfl (sk_31 hS) (sa_31_24 hS) (aw_iload_n (pc' := 9) (dt_X11_modelOf 4 (8, .iload_n 1, 1) rfl) rfl rfl (aw_iald (pc' := 10) (dt_X11_modelOf 5 (9, .iaload, 1) rfl) rfl (sk_49 hS) (vin_eq (sl_49 hS) g2) (aw_iald (pc' := 11) (dt_X11_modelOf 6 (10, .iaload, 1) rfl) rfl (sk_45 hS) (vin_eq (sl_45 hS) g3) (aw_iret (dt_X11_modelOf 7 (11, .ireturn, 1) rfl) rfl rfl (aw_stk (st' := [.int (zI μ 45 (zI μ 49 x4.toNatClampNeg).toNatClampNeg), .int x3]) rfl (aw_iload_n (pc' := 143) (dt_X11_stock 59 (142, .iload_n 1, 1) rfl) rfl rfl (aw_icmp_ne (pc' := 146) (tgt := 150) (dt_X11_stock 60 (143, .if_icmp .ne 7, 3) rfl) (by decide) rfl ?_ ?_))))))))))))))
    · intro q4
      have h := h.1 q4
      refine aw_iconst (pc' := 151) (v := 0) (dt_X11_stock 63 (150, .iconst 0, 1) rfl) (by decide) rfl (aw_iadd (pc' := 152) (dt_X11_stock 64 (151, .iadd, 1) rfl) rfl (aw_istore_n (pc' := 153) (ls' := [some (.ref 31), some (.int x1), none, some (.int (x3 + 0)), some (.int x4)]) (dt_X11_stock 65 (152, .istore_n 3, 1) rfl) (by decide) rfl rfl (aw_iinc (pc' := 156) (v := 1) (ls' := [some (.ref 31), some (.int x1), none, some (.int (x3 + 0)), some (.int (x4 + 1))]) (dt_X11_stock 66 (153, .iinc 4 1, 3) rfl) rfl (by decide) (by decide) rfl rfl (aw_goto (tgt := 126) (dt_X11_stock 67 (156, .goto (-30), 3) rfl) (by decide) ?_))))
      exact h
    · intro q4
      have h := h.2 q4
      refine aw_iconst (pc' := 147) (v := 1) (dt_X11_stock 61 (146, .iconst 1, 1) rfl) (by decide) rfl (aw_goto (tgt := 151) (dt_X11_stock 62 (147, .goto 4, 3) rfl) (by decide) (aw_iadd (pc' := 152) (dt_X11_stock 64 (151, .iadd, 1) rfl) rfl (aw_istore_n (pc' := 153) (ls' := [some (.ref 31), some (.int x1), none, some (.int (x3 + 1)), some (.int x4)]) (dt_X11_stock 65 (152, .istore_n 3, 1) rfl) (by decide) rfl rfl (aw_iinc (pc' := 156) (v := 1) (ls' := [some (.ref 31), some (.int x1), none, some (.int (x3 + 1)), some (.int (x4 + 1))]) (dt_X11_stock 66 (153, .iinc 4 1, 3) rfl) rfl (by decide) (by decide) rfl rfl (aw_goto (tgt := 126) (dt_X11_stock 67 (156, .goto (-30), 3) rfl) (by decide) ?_)))))
      exact h

theorem t_X11_stock_164 {E : ZE} {l : Launch} {d nc ns : Nat} {x1 : Int32} {x3 : Int32} {x4 : Int32} {μ : ZM} {K : Option Value → ZM → Prop} (hS : Stat μ) (h :
  ((zI μ 31 22) ≤ x4 →
    K (some (.int x3)) μ) ∧
  (¬ (zI μ 31 22) ≤ x4 →
    (vp_in x4 300) ∧
    ((zI μ 58 x4.toNatClampNeg) < 0 →
      AW E l (d + 2) nc ns mX11_stock 164 [some (.ref 31), some (.int x1), none, some (.int (x3 + 0)), some (.int (x4 + 1))] [] μ K) ∧
    (¬ (zI μ 58 x4.toNatClampNeg) < 0 →
      (vp_in x4 300) ∧
      (vp_in (zI μ 49 x4.toNatClampNeg) 60) ∧
      (¬ (zI μ 45 (zI μ 49 x4.toNatClampNeg).toNatClampNeg) = x1 →
        AW E l (d + 2) nc ns mX11_stock 164 [some (.ref 31), some (.int x1), none, some (.int (x3 + 0)), some (.int (x4 + 1))] [] μ K) ∧
      ((zI μ 45 (zI μ 49 x4.toNatClampNeg).toNatClampNeg) = x1 →
        AW E l (d + 2) nc ns mX11_stock 164 [some (.ref 31), some (.int x1), none, some (.int (x3 + 1)), some (.int (x4 + 1))] [] μ K)))) : AW E l (d + 2) nc ns mX11_stock 164 [some (.ref 31), some (.int x1), none, some (.int x3), some (.int x4)] [] μ K := by
  refine aw_iload (pc' := 166) (dt_X11_stock 72 (164, .iload 4, 2) rfl) rfl rfl (aw_aload_n (pc' := 167) (dt_X11_stock 73 (166, .aload_n 0, 1) rfl) rfl rfl (aw_getI (pc' := 170) (dt_X11_stock 74 (167, .getfield 215, 3) rfl) fl_ReturnDeskModel_215 rfl rfl (sk_31 hS) (aw_icmp_ge (pc' := 173) (tgt := 207) (dt_X11_stock 75 (170, .if_icmp .ge 37, 3) rfl) (by decide) rfl ?_ ?_)))
  · intro q1
    have h := h.1 q1
    refine aw_iload_n (pc' := 208) (dt_X11_stock 94 (207, .iload_n 3, 1) rfl) rfl rfl (aw_iret (dt_X11_stock 95 (208, .ireturn, 1) rfl) rfl rfl ?_)
    exact h
  · intro q1
    have h := h.2 q1
    obtain ⟨g2, h⟩ := h
    refine aw_iload_n (pc' := 174) (dt_X11_stock 76 (173, .iload_n 3, 1) rfl) rfl rfl (aw_aload_n (pc' := 175) (dt_X11_stock 77 (174, .aload_n 0, 1) rfl) rfl rfl (aw_getAs (pc' := 178) (dt_X11_stock 78 (175, .getfield 89, 3) rfl) fl_ReturnDeskModel_89 rfl rfl (sk_31 hS) (sa_31_33 hS) (aw_iload (pc' := 180) (dt_X11_stock 79 (178, .iload 4, 2) rfl) rfl rfl (aw_iald (pc' := 181) (dt_X11_stock 80 (180, .iaload, 1) rfl) rfl (sk_58 hS) (vin_eq (sl_58 hS) g2) (aw_if_lt (pc' := 184) (tgt := 198) (dt_X11_stock 81 (181, .ifCond .lt 17, 3) rfl) (by decide) rfl ?_ ?_)))))
    · intro q3
      have h := h.1 q3
      refine aw_iconst (pc' := 199) (v := 0) (dt_X11_stock 89 (198, .iconst 0, 1) rfl) (by decide) rfl (aw_iadd (pc' := 200) (dt_X11_stock 90 (199, .iadd, 1) rfl) rfl (aw_istore_n (pc' := 201) (ls' := [some (.ref 31), some (.int x1), none, some (.int (x3 + 0)), some (.int x4)]) (dt_X11_stock 91 (200, .istore_n 3, 1) rfl) (by decide) rfl rfl (aw_iinc (pc' := 204) (v := 1) (ls' := [some (.ref 31), some (.int x1), none, some (.int (x3 + 0)), some (.int (x4 + 1))]) (dt_X11_stock 92 (201, .iinc 4 1, 3) rfl) rfl (by decide) (by decide) rfl rfl (aw_goto (tgt := 164) (dt_X11_stock 93 (204, .goto (-40), 3) rfl) (by decide) ?_))))
      exact h
    · intro q3
      have h := h.2 q3
      obtain ⟨g4, h⟩ := h
      obtain ⟨g5, h⟩ := h
      refine aw_aload_n (pc' := 185) (dt_X11_stock 82 (184, .aload_n 0, 1) rfl) rfl rfl (aw_iload (pc' := 187) (dt_X11_stock 83 (185, .iload 4, 2) rfl) rfl rfl (aw_inV (pc' := 190) (nc1 := 0) (ns1 := 0) (nc := nc) (ns := ns) (ls' := [some (.ref 31), some (.int x4)]) (y2 := mX11_modelOf) (As := [.int x4]) (rest := [.int x3]) (a := 31) (dt_X11_stock 84 (187, .invokevirtual 231, 3) rfl) ok_X11_modelOf ln_ReturnDeskModel_231 im_X11_modelOf se_X11_modelOf pr_X11_modelOf (Or.inl ⟨by decide, rfl⟩) rfl (Nat.le_of_ble_eq_true rfl) (Nat.le_of_ble_eq_true rfl) rfl rfl (sk_31 hS) (aw_aload_n (pc' := 1) (dt_X11_modelOf 0 (0, .aload_n 0, 1) rfl) rfl rfl (aw_getAs (pc' := 4) (dt_X11_modelOf 1 (1, .getfield 50, 3) rfl) fl_ReturnDeskModel_50 rfl rfl (sk_31 hS) (sa_31_19 hS) (aw_aload_n (pc' := 5) (dt_X11_modelOf 2 (4, .aload_n 0, 1) rfl) rfl rfl (aw_getAs (pc' := 8) (dt_X11_modelOf 3 (5, .getfield 62, 3) rfl) fl_ReturnDeskModel_62 rfl rfl (sk_31 hS) (sa_31_24 hS) (aw_iload_n (pc' := 9) (dt_X11_modelOf 4 (8, .iload_n 1, 1) rfl) rfl rfl (aw_iald (pc' := 10) (dt_X11_modelOf 5 (9, .iaload, 1) rfl) rfl (sk_49 hS) (vin_eq (sl_49 hS) g4) (aw_iald (pc' := 11) (dt_X11_modelOf 6 (10, .iaload, 1) rfl) rfl (sk_45 hS) (vin_eq (sl_45 hS) g5) (aw_iret (dt_X11_modelOf 7 (11, .ireturn, 1) rfl) rfl rfl (aw_stk (st' := [.int (zI μ 45 (zI μ 49 x4.toNatClampNeg).toNatClampNeg), .int x3]) rfl (aw_iload_n (pc' := 191) (dt_X11_stock 85 (190, .iload_n 1, 1) rfl) rfl rfl (aw_icmp_ne (pc' := 194) (tgt := 198) (dt_X11_stock 86 (191, .if_icmp .ne 7, 3) rfl) (by decide) rfl ?_ ?_)))))))))))))
      · intro q6
        have h := h.1 q6
        refine aw_iconst (pc' := 199) (v := 0) (dt_X11_stock 89 (198, .iconst 0, 1) rfl) (by decide) rfl (aw_iadd (pc' := 200) (dt_X11_stock 90 (199, .iadd, 1) rfl) rfl (aw_istore_n (pc' := 201) (ls' := [some (.ref 31), some (.int x1), none, some (.int (x3 + 0)), some (.int x4)]) (dt_X11_stock 91 (200, .istore_n 3, 1) rfl) (by decide) rfl rfl (aw_iinc (pc' := 204) (v := 1) (ls' := [some (.ref 31), some (.int x1), none, some (.int (x3 + 0)), some (.int (x4 + 1))]) (dt_X11_stock 92 (201, .iinc 4 1, 3) rfl) rfl (by decide) (by decide) rfl rfl (aw_goto (tgt := 164) (dt_X11_stock 93 (204, .goto (-40), 3) rfl) (by decide) ?_))))
        exact h
      · intro q6
        have h := h.2 q6
        refine aw_iconst (pc' := 195) (v := 1) (dt_X11_stock 87 (194, .iconst 1, 1) rfl) (by decide) rfl (aw_goto (tgt := 199) (dt_X11_stock 88 (195, .goto 4, 3) rfl) (by decide) (aw_iadd (pc' := 200) (dt_X11_stock 90 (199, .iadd, 1) rfl) rfl (aw_istore_n (pc' := 201) (ls' := [some (.ref 31), some (.int x1), none, some (.int (x3 + 1)), some (.int x4)]) (dt_X11_stock 91 (200, .istore_n 3, 1) rfl) (by decide) rfl rfl (aw_iinc (pc' := 204) (v := 1) (ls' := [some (.ref 31), some (.int x1), none, some (.int (x3 + 1)), some (.int (x4 + 1))]) (dt_X11_stock 92 (201, .iinc 4 1, 3) rfl) rfl (by decide) (by decide) rfl rfl (aw_goto (tgt := 164) (dt_X11_stock 93 (204, .goto (-40), 3) rfl) (by decide) ?_)))))
        exact h

theorem t_X11_wornOf {E : ZE} {l : Launch} {d nc ns : Nat} {x1 : Int32} {μ : ZM} {K : Option Value → ZM → Prop} (hS : Stat μ) (h :
  (vp_in x1 300) ∧
  (vp_in (zI μ 61 x1.toNatClampNeg) 200) ∧
  AW E l d 0 0 mX11_digit 0 (zargs 4 [.int (zI μ 79 (zI μ 61 x1.toNatClampNeg).toNatClampNeg), .int 3]) [] μ (fun v μ3 => ∃ r5 : Int32, v = some (.int r5) ∧ Stat μ3 ∧ 
    K (some (.int r5)) μ3)) : AW E l (d + 1) nc ns mX11_wornOf 0 [some (.ref 31), some (.int x1)] [] μ K := by
  obtain ⟨g1, h⟩ := h
  obtain ⟨g2, h⟩ := h
  refine aw_aload_n (pc' := 1) (dt_X11_wornOf 0 (0, .aload_n 0, 1) rfl) rfl rfl (aw_getAs (pc' := 4) (dt_X11_wornOf 1 (1, .getfield 153, 3) rfl) fl_ReturnDeskModel_153 rfl rfl (sk_31 hS) (sa_31_66 hS) (aw_aload_n (pc' := 5) (dt_X11_wornOf 2 (4, .aload_n 0, 1) rfl) rfl rfl (aw_getAs (pc' := 8) (dt_X11_wornOf 3 (5, .getfield 98, 3) rfl) fl_ReturnDeskModel_98 rfl rfl (sk_31 hS) (sa_31_36 hS) (aw_iload_n (pc' := 9) (dt_X11_wornOf 4 (8, .iload_n 1, 1) rfl) rfl rfl (aw_iald (pc' := 10) (dt_X11_wornOf 5 (9, .iaload, 1) rfl) rfl (sk_61 hS) (vin_eq (sl_61 hS) g1) (aw_iald (pc' := 11) (dt_X11_wornOf 6 (10, .iaload, 1) rfl) rfl (sk_79 hS) (vin_eq (sl_79 hS) g2) (aw_iconst (pc' := 12) (v := 3) (dt_X11_wornOf 7 (11, .iconst 3, 1) rfl) (by decide) rfl (aw_callS0 (pc' := 15) (nc := nc) (ns := ns) (y2 := mX11_digit) (As := [.int (zI μ 79 (zI μ 61 x1.toNatClampNeg).toNatClampNeg), .int 3]) (rest := []) (dt_X11_wornOf 8 (12, .invokestatic 377, 3) rfl) ok_X11_digit ln_ReturnDeskModel_377 sm_X11_digit pr_X11_digit rfl (Nat.le_of_ble_eq_true rfl) (Nat.le_of_ble_eq_true rfl) rfl  h ?_))))))))
  rintro v μ3 ⟨r5, rfl, hS4, h⟩
  refine aw_stk (st' := [.int r5]) rfl ?_
  refine aw_iret (dt_X11_wornOf 9 (15, .ireturn, 1) rfl) rfl rfl ?_
  exact h

theorem t_X11_asUsed {E : ZE} {l : Launch} {d nc ns : Nat} {x1 : Int32} {x2 : Int32} {μ : ZM} {K : Option Value → ZM → Prop} (hS : Stat μ) (h :
  AW E l d 0 0 mX11_priceAt 0 (zargs 5 [.ref 31, .int x1, .int ((zI μ 31 1) / 24)]) [] μ (fun v μ1 => ∃ r3 : Int32, v = some (.int r3) ∧ Stat μ1 ∧ 
    K (some (.int ((((r3).toInt64 * ((90 - (8 * x2))).toInt64) / 100)).toInt32)) μ1)) : AW E l (d + 1) nc ns mX11_asUsed 0 [some (.ref 31), some (.int x1), some (.int x2)] [] μ K := by
  refine aw_aload_n (pc' := 1) (dt_X11_asUsed 0 (0, .aload_n 0, 1) rfl) rfl rfl (aw_iload_n (pc' := 2) (dt_X11_asUsed 1 (1, .iload_n 1, 1) rfl) rfl rfl (aw_aload_n (pc' := 3) (dt_X11_asUsed 2 (2, .aload_n 0, 1) rfl) rfl rfl (aw_inV (pc' := 6) (nc1 := 0) (ns1 := 0) (nc := nc) (ns := ns) (ls' := [some (.ref 31)]) (y2 := mX11_today) (As := []) (rest := [.int x1, .ref 31]) (a := 31) (dt_X11_asUsed 3 (3, .invokevirtual 224, 3) rfl) ok_X11_today ln_ReturnDeskModel_224 im_X11_today se_X11_today pr_X11_today (Or.inl ⟨by decide, rfl⟩) rfl (Nat.le_of_ble_eq_true rfl) (Nat.le_of_ble_eq_true rfl) rfl rfl (sk_31 hS) (aw_aload_n (pc' := 1) (dt_X11_today 0 (0, .aload_n 0, 1) rfl) rfl rfl (aw_getI (pc' := 4) (dt_X11_today 1 (1, .getfield 189, 3) rfl) fl_ReturnDeskModel_189 rfl rfl (sk_31 hS) (aw_bipush (pc' := 6) (v := 24) (dt_X11_today 2 (4, .bipush 24, 2) rfl) (by decide) rfl (aw_idiv (pc' := 7) (dt_X11_today 3 (6, .idiv, 1) rfl) (by decide) rfl (aw_iret (dt_X11_today 4 (7, .ireturn, 1) rfl) rfl rfl (aw_stk (st' := [.int ((zI μ 31 1) / 24), .int x1, .ref 31]) rfl (aw_callV0 (pc' := 9) (nc := nc) (ns := ns) (y2 := mX11_priceAt) (As := [.int x1, .int ((zI μ 31 1) / 24)]) (rest := []) (a := 31) (dt_X11_asUsed 4 (6, .invokevirtual 206, 3) rfl) ok_X11_priceAt ln_ReturnDeskModel_206 im_X11_priceAt se_X11_priceAt pr_X11_priceAt (Or.inl ⟨by decide, rfl⟩) rfl (Nat.le_of_ble_eq_true rfl) (Nat.le_of_ble_eq_true rfl) rfl (sk_31 hS) h ?_))))))))))
  rintro v μ1 ⟨r3, rfl, hS2, h⟩
  refine aw_stk (st' := [.int r3]) rfl ?_
  refine aw_i2l (pc' := 10) (dt_X11_asUsed 5 (9, .i2l, 1) rfl) rfl (aw_bipush (pc' := 12) (v := 90) (dt_X11_asUsed 6 (10, .bipush 90, 2) rfl) (by decide) rfl (aw_bipush (pc' := 14) (v := 8) (dt_X11_asUsed 7 (12, .bipush 8, 2) rfl) (by decide) rfl (aw_iload_n (pc' := 15) (dt_X11_asUsed 8 (14, .iload_n 2, 1) rfl) rfl rfl (aw_imul (pc' := 16) (dt_X11_asUsed 9 (15, .imul, 1) rfl) rfl (aw_isub (pc' := 17) (dt_X11_asUsed 10 (16, .isub, 1) rfl) rfl (aw_i2l (pc' := 18) (dt_X11_asUsed 11 (17, .i2l, 1) rfl) rfl (aw_lmul (pc' := 19) (dt_X11_asUsed 12 (18, .lmul, 1) rfl) rfl (aw_ldc2 (pc' := 22) (dt_X11_asUsed 13 (19, .ldc2_w 405, 3) rfl) ct_ReturnDeskModel_405 rfl (aw_ldiv (pc' := 23) (dt_X11_asUsed 14 (22, .ldiv, 1) rfl) (by decide) rfl (aw_l2i (pc' := 24) (dt_X11_asUsed 15 (23, .l2i, 1) rfl) rfl (aw_iret (dt_X11_asUsed 16 (24, .ireturn, 1) rfl) rfl rfl ?_)))))))))))
  exact h

theorem t_X11_worthBy {E : ZE} {l : Launch} {d nc ns : Nat} {x1 : Int32} {x2 : Int32} {μ : ZM} {K : Option Value → ZM → Prop} (hS : Stat μ) (h :
  (vp_in x1 300) ∧
  (vp_in x1 300) ∧
  (vp_in (zI μ 49 x1.toNatClampNeg) 60) ∧
  AW E l (d + 1) 0 0 mX11_wornOf 0 (zargs 2 [.ref 31, .int x1]) [] μ (fun v μ4 => ∃ r6 : Int32, v = some (.int r6) ∧ Stat μ4 ∧ 
    (vp_in (zI μ 61 x1.toNatClampNeg) 200) ∧
    AW E l (d + 1) 0 0 mX11_digit 0 (zargs 4 [.int (zI μ4 79 (zI μ 61 x1.toNatClampNeg).toNatClampNeg), .int 0]) [] μ4 (fun v μ8 => ∃ r10 : Int32, v = some (.int r10) ∧ Stat μ8 ∧ 
      (r10 = 1 →
        (x2 = 0 →
          (¬ r6 = 0 →
            K (some (.int (-2000000000))) μ8) ∧
          (r6 = 0 →
            (vp_in (zI μ 61 x1.toNatClampNeg) 200) ∧
            AW E l (d + 1) 0 0 mX11_digit 0 (zargs 4 [.int (zI μ8 79 (zI μ 61 x1.toNatClampNeg).toNatClampNeg), .int 5]) [] μ8 (fun v μ15 => ∃ r17 : Int32, v = some (.int r17) ∧ Stat μ15 ∧ 
              (¬ r17 = 0 →
                K (some (.int (-2000000000))) μ15) ∧
              (r17 = 0 →
                K (some (.int (-2000000000))) μ15)))) ∧
        (x2 = 1 →
          K (some (.int (-2000000000))) μ8) ∧
        (x2 = 2 →
          AW E l (d + 1) 0 0 mX11_asUsed 0 (zargs 3 [.ref 31, .int (zI μ 45 (zI μ 49 x1.toNatClampNeg).toNatClampNeg), .int r6]) [] μ8 (fun v μ21 => ∃ r23 : Int32, v = some (.int r23) ∧ Stat μ21 ∧ 
            (vp_in (zI μ 45 (zI μ 49 x1.toNatClampNeg).toNatClampNeg) 20) ∧
            K (some (.int (r23 - (zI μ21 34 (zI μ 45 (zI μ 49 x1.toNatClampNeg).toNatClampNeg).toNatClampNeg)))) μ21)) ∧
        ((¬ x2 = 0 ∧ ¬ x2 = 1 ∧ ¬ x2 = 2) →
        (vp_in (zI μ 45 (zI μ 49 x1.toNatClampNeg).toNatClampNeg) 20) ∧
        K (some (.int ((zI μ8 33 (zI μ 45 (zI μ 49 x1.toNatClampNeg).toNatClampNeg).toNatClampNeg) / 100))) μ8)) ∧
      (¬ r10 = 1 →
        (vp_in (zI μ 61 x1.toNatClampNeg) 200) ∧
        ((zI μ8 81 (zI μ 61 x1.toNatClampNeg).toNatClampNeg) = 0 →
          (x2 = 0 →
            (¬ r6 = 0 →
              K (some (.int (-2000000000))) μ8) ∧
            (r6 = 0 →
              (vp_in (zI μ 61 x1.toNatClampNeg) 200) ∧
              AW E l (d + 1) 0 0 mX11_digit 0 (zargs 4 [.int (zI μ8 79 (zI μ 61 x1.toNatClampNeg).toNatClampNeg), .int 5]) [] μ8 (fun v μ31 => ∃ r33 : Int32, v = some (.int r33) ∧ Stat μ31 ∧ 
                (¬ r33 = 0 →
                  K (some (.int (-2000000000))) μ31) ∧
                (r33 = 0 →
                  AW E l (d + 1) 0 0 mX11_priceAt 0 (zargs 5 [.ref 31, .int (zI μ 45 (zI μ 49 x1.toNatClampNeg).toNatClampNeg), .int ((zI μ31 31 1) / 24)]) [] μ31 (fun v μ35 => ∃ r37 : Int32, v = some (.int r37) ∧ Stat μ35 ∧ 
                    K (some (.int r37)) μ35))))) ∧
          (x2 = 1 →
            AW E l (d + 1) 0 0 mX11_asUsed 0 (zargs 3 [.ref 31, .int (zI μ 45 (zI μ 49 x1.toNatClampNeg).toNatClampNeg), .int r6]) [] μ8 (fun v μ39 => ∃ r41 : Int32, v = some (.int r41) ∧ Stat μ39 ∧ 
              K (some (.int r41)) μ39)) ∧
          (x2 = 2 →
            AW E l (d + 1) 0 0 mX11_asUsed 0 (zargs 3 [.ref 31, .int (zI μ 45 (zI μ 49 x1.toNatClampNeg).toNatClampNeg), .int r6]) [] μ8 (fun v μ43 => ∃ r45 : Int32, v = some (.int r45) ∧ Stat μ43 ∧ 
              (vp_in (zI μ 45 (zI μ 49 x1.toNatClampNeg).toNatClampNeg) 20) ∧
              K (some (.int (r45 - (zI μ43 34 (zI μ 45 (zI μ 49 x1.toNatClampNeg).toNatClampNeg).toNatClampNeg)))) μ43)) ∧
          ((¬ x2 = 0 ∧ ¬ x2 = 1 ∧ ¬ x2 = 2) →
          (vp_in (zI μ 45 (zI μ 49 x1.toNatClampNeg).toNatClampNeg) 20) ∧
          K (some (.int ((zI μ8 33 (zI μ 45 (zI μ 49 x1.toNatClampNeg).toNatClampNeg).toNatClampNeg) / 100))) μ8)) ∧
        (¬ (zI μ8 81 (zI μ 61 x1.toNatClampNeg).toNatClampNeg) = 0 →
          (x2 = 0 →
            (¬ r6 = 0 →
              K (some (.int (-2000000000))) μ8) ∧
            (r6 = 0 →
              (vp_in (zI μ 61 x1.toNatClampNeg) 200) ∧
              AW E l (d + 1) 0 0 mX11_digit 0 (zargs 4 [.int (zI μ8 79 (zI μ 61 x1.toNatClampNeg).toNatClampNeg), .int 5]) [] μ8 (fun v μ51 => ∃ r53 : Int32, v = some (.int r53) ∧ Stat μ51 ∧ 
                (¬ r53 = 0 →
                  K (some (.int (-2000000000))) μ51) ∧
                (r53 = 0 →
                  K (some (.int (-2000000000))) μ51)))) ∧
          (x2 = 1 →
            K (some (.int (-2000000000))) μ8) ∧
          (x2 = 2 →
            AW E l (d + 1) 0 0 mX11_asUsed 0 (zargs 3 [.ref 31, .int (zI μ 45 (zI μ 49 x1.toNatClampNeg).toNatClampNeg), .int r6]) [] μ8 (fun v μ57 => ∃ r59 : Int32, v = some (.int r59) ∧ Stat μ57 ∧ 
              (vp_in (zI μ 45 (zI μ 49 x1.toNatClampNeg).toNatClampNeg) 20) ∧
              K (some (.int (r59 - (zI μ57 34 (zI μ 45 (zI μ 49 x1.toNatClampNeg).toNatClampNeg).toNatClampNeg)))) μ57)) ∧
          ((¬ x2 = 0 ∧ ¬ x2 = 1 ∧ ¬ x2 = 2) →
          (vp_in (zI μ 45 (zI μ 49 x1.toNatClampNeg).toNatClampNeg) 20) ∧
          K (some (.int ((zI μ8 33 (zI μ 45 (zI μ 49 x1.toNatClampNeg).toNatClampNeg).toNatClampNeg) / 100))) μ8)))))) : AW E l (d + 2) nc ns mX11_worthBy 0 [some (.ref 31), some (.int x1), some (.int x2), none, none, none, none] [] μ K := by
  obtain ⟨g1, h⟩ := h
  obtain ⟨g2, h⟩ := h
  obtain ⟨g3, h⟩ := h
  refine aw_aload_n (pc' := 1) (dt_X11_worthBy 0 (0, .aload_n 0, 1) rfl) rfl rfl (aw_getAs (pc' := 4) (dt_X11_worthBy 1 (1, .getfield 98, 3) rfl) fl_ReturnDeskModel_98 rfl rfl (sk_31 hS) (sa_31_36 hS) (aw_iload_n (pc' := 5) (dt_X11_worthBy 2 (4, .iload_n 1, 1) rfl) rfl rfl (aw_iald (pc' := 6) (dt_X11_worthBy 3 (5, .iaload, 1) rfl) rfl (sk_61 hS) (vin_eq (sl_61 hS) g1) (aw_istore_n (pc' := 7) (ls' := [some (.ref 31), some (.int x1), some (.int x2), some (.int (zI μ 61 x1.toNatClampNeg)), none, none, none]) (dt_X11_worthBy 4 (6, .istore_n 3, 1) rfl) (by decide) rfl rfl (aw_aload_n (pc' := 8) (dt_X11_worthBy 5 (7, .aload_n 0, 1) rfl) rfl rfl (aw_iload_n (pc' := 9) (dt_X11_worthBy 6 (8, .iload_n 1, 1) rfl) rfl rfl (aw_inV (pc' := 12) (nc1 := 0) (ns1 := 0) (nc := nc) (ns := ns) (ls' := [some (.ref 31), some (.int x1)]) (y2 := mX11_modelOf) (As := [.int x1]) (rest := []) (a := 31) (dt_X11_worthBy 7 (9, .invokevirtual 231, 3) rfl) ok_X11_modelOf ln_ReturnDeskModel_231 im_X11_modelOf se_X11_modelOf pr_X11_modelOf (Or.inl ⟨by decide, rfl⟩) rfl (Nat.le_of_ble_eq_true rfl) (Nat.le_of_ble_eq_true rfl) rfl rfl (sk_31 hS) (aw_aload_n (pc' := 1) (dt_X11_modelOf 0 (0, .aload_n 0, 1) rfl) rfl rfl (aw_getAs (pc' := 4) (dt_X11_modelOf 1 (1, .getfield 50, 3) rfl) fl_ReturnDeskModel_50 rfl rfl (sk_31 hS) (sa_31_19 hS) (aw_aload_n (pc' := 5) (dt_X11_modelOf 2 (4, .aload_n 0, 1) rfl) rfl rfl (aw_getAs (pc' := 8) (dt_X11_modelOf 3 (5, .getfield 62, 3) rfl) fl_ReturnDeskModel_62 rfl rfl (sk_31 hS) (sa_31_24 hS) (aw_iload_n (pc' := 9) (dt_X11_modelOf 4 (8, .iload_n 1, 1) rfl) rfl rfl (aw_iald (pc' := 10) (dt_X11_modelOf 5 (9, .iaload, 1) rfl) rfl (sk_49 hS) (vin_eq (sl_49 hS) g2) (aw_iald (pc' := 11) (dt_X11_modelOf 6 (10, .iaload, 1) rfl) rfl (sk_45 hS) (vin_eq (sl_45 hS) g3) (aw_iret (dt_X11_modelOf 7 (11, .ireturn, 1) rfl) rfl rfl (aw_stk (st' := [.int (zI μ 45 (zI μ 49 x1.toNatClampNeg).toNatClampNeg)]) rfl (aw_istore (pc' := 14) (ls' := [some (.ref 31), some (.int x1), some (.int x2), some (.int (zI μ 61 x1.toNatClampNeg)), some (.int (zI μ 45 (zI μ 49 x1.toNatClampNeg).toNatClampNeg)), none, none]) (dt_X11_worthBy 8 (12, .istore 4, 2) rfl) (by decide) rfl rfl (aw_aload_n (pc' := 15) (dt_X11_worthBy 9 (14, .aload_n 0, 1) rfl) rfl rfl (aw_iload_n (pc' := 16) (dt_X11_worthBy 10 (15, .iload_n 1, 1) rfl) rfl rfl (aw_callV0 (pc' := 19) (nc := nc) (ns := ns) (y2 := mX11_wornOf) (As := [.int x1]) (rest := []) (a := 31) (dt_X11_worthBy 11 (16, .invokevirtual 425, 3) rfl) ok_X11_wornOf ln_ReturnDeskModel_425 im_X11_wornOf se_X11_wornOf pr_X11_wornOf (Or.inl ⟨by decide, rfl⟩) rfl (Nat.le_of_ble_eq_true rfl) (Nat.le_of_ble_eq_true rfl) rfl (sk_31 hS) h ?_))))))))))))))))))))
  rintro v μ4 ⟨r6, rfl, hS5, h⟩
  refine aw_stk (st' := [.int r6]) rfl ?_
  obtain ⟨g7, h⟩ := h
  refine aw_istore (pc' := 21) (ls' := [some (.ref 31), some (.int x1), some (.int x2), some (.int (zI μ 61 x1.toNatClampNeg)), some (.int (zI μ 45 (zI μ 49 x1.toNatClampNeg).toNatClampNeg)), some (.int r6), none]) (dt_X11_worthBy 12 (19, .istore 5, 2) rfl) (by decide) rfl rfl (aw_aload_n (pc' := 22) (dt_X11_worthBy 13 (21, .aload_n 0, 1) rfl) rfl rfl (aw_getAs (pc' := 25) (dt_X11_worthBy 14 (22, .getfield 153, 3) rfl) fl_ReturnDeskModel_153 rfl rfl (sk_31 hS5) (sa_31_66 hS5) (aw_iload_n (pc' := 26) (dt_X11_worthBy 15 (25, .iload_n 3, 1) rfl) rfl rfl (aw_iald (pc' := 27) (dt_X11_worthBy 16 (26, .iaload, 1) rfl) rfl (sk_79 hS5) (vin_eq (sl_79 hS5) g7) (aw_iconst (pc' := 28) (v := 0) (dt_X11_worthBy 17 (27, .iconst 0, 1) rfl) (by decide) rfl (aw_callS0 (pc' := 31) (nc := nc) (ns := ns) (y2 := mX11_digit) (As := [.int (zI μ4 79 (zI μ 61 x1.toNatClampNeg).toNatClampNeg), .int 0]) (rest := []) (dt_X11_worthBy 18 (28, .invokestatic 377, 3) rfl) ok_X11_digit ln_ReturnDeskModel_377 sm_X11_digit pr_X11_digit rfl (Nat.le_of_ble_eq_true rfl) (Nat.le_of_ble_eq_true rfl) rfl  h ?_))))))
  rintro v μ8 ⟨r10, rfl, hS9, h⟩
  refine aw_stk (st' := [.int r10]) rfl ?_
  refine aw_iconst (pc' := 32) (v := 1) (dt_X11_worthBy 19 (31, .iconst 1, 1) rfl) (by decide) rfl (aw_icmp_eq (pc' := 35) (tgt := 44) (dt_X11_worthBy 20 (32, .if_icmp .eq 12, 3) rfl) (by decide) rfl ?_ ?_)
  · intro q11
    have h := h.1 q11
    refine aw_iconst (pc' := 45) (v := 1) (dt_X11_worthBy 26 (44, .iconst 1, 1) rfl) (by decide) rfl (aw_goto (tgt := 49) (dt_X11_worthBy 27 (45, .goto 4, 3) rfl) (by decide) (aw_istore (pc' := 51) (ls' := [some (.ref 31), some (.int x1), some (.int x2), some (.int (zI μ 61 x1.toNatClampNeg)), some (.int (zI μ 45 (zI μ 49 x1.toNatClampNeg).toNatClampNeg)), some (.int r6), some (.int 1)]) (dt_X11_worthBy 29 (49, .istore 6, 2) rfl) (by decide) rfl rfl (aw_iload_n (pc' := 52) (dt_X11_worthBy 30 (51, .iload_n 2, 1) rfl) rfl rfl ?_)))
    by_cases q12 : x2 = 0
    · have h := h.1 q12
      refine aw_tableE (tgt := 80) (off := 28) (dt_X11_worthBy 31 (52, .tableswitch 103 0 2 #[28, 67, 86], 28) rfl) q12 (by decide) (by decide) (by decide) (by decide) ?_
      refine aw_iload (pc' := 82) (dt_X11_worthBy 32 (80, .iload 5, 2) rfl) rfl rfl (aw_if_ne (pc' := 85) (tgt := 116) (dt_X11_worthBy 33 (82, .ifCond .ne 34, 3) rfl) (by decide) rfl ?_ ?_)
      · intro q13
        have h := h.1 q13
        refine aw_ldc (pc' := 118) (dt_X11_worthBy 49 (116, .ldc 235, 2) rfl) ct_ReturnDeskModel_235 rfl (aw_iret (dt_X11_worthBy 50 (118, .ireturn, 1) rfl) rfl rfl ?_)
        exact h
      · intro q13
        have h := h.2 q13
        obtain ⟨g14, h⟩ := h
        refine aw_aload_n (pc' := 86) (dt_X11_worthBy 34 (85, .aload_n 0, 1) rfl) rfl rfl (aw_getAs (pc' := 89) (dt_X11_worthBy 35 (86, .getfield 153, 3) rfl) fl_ReturnDeskModel_153 rfl rfl (sk_31 hS9) (sa_31_66 hS9) (aw_iload_n (pc' := 90) (dt_X11_worthBy 36 (89, .iload_n 3, 1) rfl) rfl rfl (aw_iald (pc' := 91) (dt_X11_worthBy 37 (90, .iaload, 1) rfl) rfl (sk_79 hS9) (vin_eq (sl_79 hS9) g14) (aw_iconst (pc' := 92) (v := 5) (dt_X11_worthBy 38 (91, .iconst 5, 1) rfl) (by decide) rfl (aw_callS0 (pc' := 95) (nc := nc) (ns := ns) (y2 := mX11_digit) (As := [.int (zI μ8 79 (zI μ 61 x1.toNatClampNeg).toNatClampNeg), .int 5]) (rest := []) (dt_X11_worthBy 39 (92, .invokestatic 377, 3) rfl) ok_X11_digit ln_ReturnDeskModel_377 sm_X11_digit pr_X11_digit rfl (Nat.le_of_ble_eq_true rfl) (Nat.le_of_ble_eq_true rfl) rfl  h ?_)))))
        rintro v μ15 ⟨r17, rfl, hS16, h⟩
        refine aw_stk (st' := [.int r17]) rfl ?_
        refine aw_if_ne (pc' := 98) (tgt := 116) (dt_X11_worthBy 40 (95, .ifCond .ne 21, 3) rfl) (by decide) rfl ?_ ?_
        · intro q18
          have h := h.1 q18
          refine aw_ldc (pc' := 118) (dt_X11_worthBy 49 (116, .ldc 235, 2) rfl) ct_ReturnDeskModel_235 rfl (aw_iret (dt_X11_worthBy 50 (118, .ireturn, 1) rfl) rfl rfl ?_)
          exact h
        · intro q18
          have h := h.2 q18
          refine aw_iload (pc' := 100) (dt_X11_worthBy 41 (98, .iload 6, 2) rfl) rfl rfl (aw_if_ne_T (pc' := 103) (tgt := 116) (dt_X11_worthBy 42 (100, .ifCond .ne 16, 3) rfl) (by decide) rfl (by decide) (aw_ldc (pc' := 118) (dt_X11_worthBy 49 (116, .ldc 235, 2) rfl) ct_ReturnDeskModel_235 rfl (aw_iret (dt_X11_worthBy 50 (118, .ireturn, 1) rfl) rfl rfl ?_)))
          exact h
    by_cases q19 : x2 = 1
    · have h := h.2.1 q19
      refine aw_tableE (tgt := 119) (off := 67) (dt_X11_worthBy 31 (52, .tableswitch 103 0 2 #[28, 67, 86], 28) rfl) q19 (by decide) (by decide) (by decide) (by decide) ?_
      refine aw_iload (pc' := 121) (dt_X11_worthBy 51 (119, .iload 6, 2) rfl) rfl rfl (aw_if_eq_F (pc' := 124) (tgt := 129) (dt_X11_worthBy 52 (121, .ifCond .eq 8, 3) rfl) (by decide) rfl (by decide) (aw_ldc (pc' := 126) (dt_X11_worthBy 53 (124, .ldc 235, 2) rfl) ct_ReturnDeskModel_235 rfl (aw_goto (tgt := 137) (dt_X11_worthBy 54 (126, .goto 11, 3) rfl) (by decide) (aw_iret (dt_X11_worthBy 59 (137, .ireturn, 1) rfl) rfl rfl ?_))))
      exact h
    by_cases q20 : x2 = 2
    · have h := h.2.2.1 q20
      refine aw_tableE (tgt := 138) (off := 86) (dt_X11_worthBy 31 (52, .tableswitch 103 0 2 #[28, 67, 86], 28) rfl) q20 (by decide) (by decide) (by decide) (by decide) ?_
      refine aw_aload_n (pc' := 139) (dt_X11_worthBy 60 (138, .aload_n 0, 1) rfl) rfl rfl (aw_iload (pc' := 141) (dt_X11_worthBy 61 (139, .iload 4, 2) rfl) rfl rfl (aw_iload (pc' := 143) (dt_X11_worthBy 62 (141, .iload 5, 2) rfl) rfl rfl (aw_callV0 (pc' := 146) (nc := nc) (ns := ns) (y2 := mX11_asUsed) (As := [.int (zI μ 45 (zI μ 49 x1.toNatClampNeg).toNatClampNeg), .int r6]) (rest := []) (a := 31) (dt_X11_worthBy 63 (143, .invokevirtual 428, 3) rfl) ok_X11_asUsed ln_ReturnDeskModel_428 im_X11_asUsed se_X11_asUsed pr_X11_asUsed (Or.inl ⟨by decide, rfl⟩) rfl (Nat.le_of_ble_eq_true rfl) (Nat.le_of_ble_eq_true rfl) rfl (sk_31 hS9) h ?_)))
      rintro v μ21 ⟨r23, rfl, hS22, h⟩
      refine aw_stk (st' := [.int r23]) rfl ?_
      obtain ⟨g24, h⟩ := h
      refine aw_aload_n (pc' := 147) (dt_X11_worthBy 64 (146, .aload_n 0, 1) rfl) rfl rfl (aw_getAs (pc' := 150) (dt_X11_worthBy 65 (147, .getfield 16, 3) rfl) fl_ReturnDeskModel_16 rfl rfl (sk_31 hS22) (sa_31_6 hS22) (aw_iload (pc' := 152) (dt_X11_worthBy 66 (150, .iload 4, 2) rfl) rfl rfl (aw_iald (pc' := 153) (dt_X11_worthBy 67 (152, .iaload, 1) rfl) rfl (sk_34 hS22) (vin_eq (sl_34 hS22) g24) (aw_isub (pc' := 154) (dt_X11_worthBy 68 (153, .isub, 1) rfl) rfl (aw_iret (dt_X11_worthBy 69 (154, .ireturn, 1) rfl) rfl rfl ?_)))))
      exact h
    have h := h.2.2.2 ⟨q12, q19, q20⟩
    refine aw_tableOut (tgt := 155) (dt_X11_worthBy 31 (52, .tableswitch 103 0 2 #[28, 67, 86], 28) rfl) (tab_out (lo := 0) (n := 3) (by decide) (by decide) (by decide) (by
        intro k hk
        match k, hk with
        | 0, _ => exact q12
        | 1, _ => exact q19
        | 2, _ => exact q20
        | k + 3, hk => omega)) (by decide) ?_
    obtain ⟨g25, h⟩ := h
    refine aw_aload_n (pc' := 156) (dt_X11_worthBy 70 (155, .aload_n 0, 1) rfl) rfl rfl (aw_getAs (pc' := 159) (dt_X11_worthBy 71 (156, .getfield 13, 3) rfl) fl_ReturnDeskModel_13 rfl rfl (sk_31 hS9) (sa_31_5 hS9) (aw_iload (pc' := 161) (dt_X11_worthBy 72 (159, .iload 4, 2) rfl) rfl rfl (aw_iald (pc' := 162) (dt_X11_worthBy 73 (161, .iaload, 1) rfl) rfl (sk_33 hS9) (vin_eq (sl_33 hS9) g25) (aw_bipush (pc' := 164) (v := 100) (dt_X11_worthBy 74 (162, .bipush 100, 2) rfl) (by decide) rfl (aw_idiv (pc' := 165) (dt_X11_worthBy 75 (164, .idiv, 1) rfl) (by decide) rfl (aw_iret (dt_X11_worthBy 76 (165, .ireturn, 1) rfl) rfl rfl ?_))))))
    exact h
  · intro q11
    have h := h.2 q11
    obtain ⟨g26, h⟩ := h
    refine aw_aload_n (pc' := 36) (dt_X11_worthBy 21 (35, .aload_n 0, 1) rfl) rfl rfl (aw_getAs (pc' := 39) (dt_X11_worthBy 22 (36, .getfield 159, 3) rfl) fl_ReturnDeskModel_159 rfl rfl (sk_31 hS9) (sa_31_68 hS9) (aw_iload_n (pc' := 40) (dt_X11_worthBy 23 (39, .iload_n 3, 1) rfl) rfl rfl (aw_zald (pc' := 41) (dt_X11_worthBy 24 (40, .baload, 1) rfl) rfl (sk_81 hS9) (vin_eq (sl_81 hS9) g26) (aw_if_eq (pc' := 44) (tgt := 48) (dt_X11_worthBy 25 (41, .ifCond .eq 7, 3) rfl) (by decide) rfl ?_ ?_))))
    · intro q27
      have h := h.1 q27
      refine aw_iconst (pc' := 49) (v := 0) (dt_X11_worthBy 28 (48, .iconst 0, 1) rfl) (by decide) rfl (aw_istore (pc' := 51) (ls' := [some (.ref 31), some (.int x1), some (.int x2), some (.int (zI μ 61 x1.toNatClampNeg)), some (.int (zI μ 45 (zI μ 49 x1.toNatClampNeg).toNatClampNeg)), some (.int r6), some (.int 0)]) (dt_X11_worthBy 29 (49, .istore 6, 2) rfl) (by decide) rfl rfl (aw_iload_n (pc' := 52) (dt_X11_worthBy 30 (51, .iload_n 2, 1) rfl) rfl rfl ?_))
      by_cases q28 : x2 = 0
      · have h := h.1 q28
        refine aw_tableE (tgt := 80) (off := 28) (dt_X11_worthBy 31 (52, .tableswitch 103 0 2 #[28, 67, 86], 28) rfl) q28 (by decide) (by decide) (by decide) (by decide) ?_
        refine aw_iload (pc' := 82) (dt_X11_worthBy 32 (80, .iload 5, 2) rfl) rfl rfl (aw_if_ne (pc' := 85) (tgt := 116) (dt_X11_worthBy 33 (82, .ifCond .ne 34, 3) rfl) (by decide) rfl ?_ ?_)
        · intro q29
          have h := h.1 q29
          refine aw_ldc (pc' := 118) (dt_X11_worthBy 49 (116, .ldc 235, 2) rfl) ct_ReturnDeskModel_235 rfl (aw_iret (dt_X11_worthBy 50 (118, .ireturn, 1) rfl) rfl rfl ?_)
          exact h
        · intro q29
          have h := h.2 q29
          obtain ⟨g30, h⟩ := h
          refine aw_aload_n (pc' := 86) (dt_X11_worthBy 34 (85, .aload_n 0, 1) rfl) rfl rfl (aw_getAs (pc' := 89) (dt_X11_worthBy 35 (86, .getfield 153, 3) rfl) fl_ReturnDeskModel_153 rfl rfl (sk_31 hS9) (sa_31_66 hS9) (aw_iload_n (pc' := 90) (dt_X11_worthBy 36 (89, .iload_n 3, 1) rfl) rfl rfl (aw_iald (pc' := 91) (dt_X11_worthBy 37 (90, .iaload, 1) rfl) rfl (sk_79 hS9) (vin_eq (sl_79 hS9) g30) (aw_iconst (pc' := 92) (v := 5) (dt_X11_worthBy 38 (91, .iconst 5, 1) rfl) (by decide) rfl (aw_callS0 (pc' := 95) (nc := nc) (ns := ns) (y2 := mX11_digit) (As := [.int (zI μ8 79 (zI μ 61 x1.toNatClampNeg).toNatClampNeg), .int 5]) (rest := []) (dt_X11_worthBy 39 (92, .invokestatic 377, 3) rfl) ok_X11_digit ln_ReturnDeskModel_377 sm_X11_digit pr_X11_digit rfl (Nat.le_of_ble_eq_true rfl) (Nat.le_of_ble_eq_true rfl) rfl  h ?_)))))
          rintro v μ31 ⟨r33, rfl, hS32, h⟩
          refine aw_stk (st' := [.int r33]) rfl ?_
          refine aw_if_ne (pc' := 98) (tgt := 116) (dt_X11_worthBy 40 (95, .ifCond .ne 21, 3) rfl) (by decide) rfl ?_ ?_
          · intro q34
            have h := h.1 q34
            refine aw_ldc (pc' := 118) (dt_X11_worthBy 49 (116, .ldc 235, 2) rfl) ct_ReturnDeskModel_235 rfl (aw_iret (dt_X11_worthBy 50 (118, .ireturn, 1) rfl) rfl rfl ?_)
            exact h
          · intro q34
            have h := h.2 q34
            refine aw_iload (pc' := 100) (dt_X11_worthBy 41 (98, .iload 6, 2) rfl) rfl rfl (aw_if_ne_F (pc' := 103) (tgt := 116) (dt_X11_worthBy 42 (100, .ifCond .ne 16, 3) rfl) (by decide) rfl (by decide) (aw_aload_n (pc' := 104) (dt_X11_worthBy 43 (103, .aload_n 0, 1) rfl) rfl rfl (aw_iload (pc' := 106) (dt_X11_worthBy 44 (104, .iload 4, 2) rfl) rfl rfl (aw_aload_n (pc' := 107) (dt_X11_worthBy 45 (106, .aload_n 0, 1) rfl) rfl rfl (aw_inV (pc' := 110) (nc1 := 0) (ns1 := 0) (nc := nc) (ns := ns) (ls' := [some (.ref 31)]) (y2 := mX11_today) (As := []) (rest := [.int (zI μ 45 (zI μ 49 x1.toNatClampNeg).toNatClampNeg), .ref 31]) (a := 31) (dt_X11_worthBy 46 (107, .invokevirtual 224, 3) rfl) ok_X11_today ln_ReturnDeskModel_224 im_X11_today se_X11_today pr_X11_today (Or.inl ⟨by decide, rfl⟩) rfl (Nat.le_of_ble_eq_true rfl) (Nat.le_of_ble_eq_true rfl) rfl rfl (sk_31 hS32) (aw_aload_n (pc' := 1) (dt_X11_today 0 (0, .aload_n 0, 1) rfl) rfl rfl (aw_getI (pc' := 4) (dt_X11_today 1 (1, .getfield 189, 3) rfl) fl_ReturnDeskModel_189 rfl rfl (sk_31 hS32) (aw_bipush (pc' := 6) (v := 24) (dt_X11_today 2 (4, .bipush 24, 2) rfl) (by decide) rfl (aw_idiv (pc' := 7) (dt_X11_today 3 (6, .idiv, 1) rfl) (by decide) rfl (aw_iret (dt_X11_today 4 (7, .ireturn, 1) rfl) rfl rfl (aw_stk (st' := [.int ((zI μ31 31 1) / 24), .int (zI μ 45 (zI μ 49 x1.toNatClampNeg).toNatClampNeg), .ref 31]) rfl (aw_callV0 (pc' := 113) (nc := nc) (ns := ns) (y2 := mX11_priceAt) (As := [.int (zI μ 45 (zI μ 49 x1.toNatClampNeg).toNatClampNeg), .int ((zI μ31 31 1) / 24)]) (rest := []) (a := 31) (dt_X11_worthBy 47 (110, .invokevirtual 206, 3) rfl) ok_X11_priceAt ln_ReturnDeskModel_206 im_X11_priceAt se_X11_priceAt pr_X11_priceAt (Or.inl ⟨by decide, rfl⟩) rfl (Nat.le_of_ble_eq_true rfl) (Nat.le_of_ble_eq_true rfl) rfl (sk_31 hS32) h ?_))))))))))))
            rintro v μ35 ⟨r37, rfl, hS36, h⟩
            refine aw_stk (st' := [.int r37]) rfl ?_
            refine aw_goto (tgt := 118) (dt_X11_worthBy 48 (113, .goto 5, 3) rfl) (by decide) (aw_iret (dt_X11_worthBy 50 (118, .ireturn, 1) rfl) rfl rfl ?_)
            exact h
      by_cases q38 : x2 = 1
      · have h := h.2.1 q38
        refine aw_tableE (tgt := 119) (off := 67) (dt_X11_worthBy 31 (52, .tableswitch 103 0 2 #[28, 67, 86], 28) rfl) q38 (by decide) (by decide) (by decide) (by decide) ?_
        refine aw_iload (pc' := 121) (dt_X11_worthBy 51 (119, .iload 6, 2) rfl) rfl rfl (aw_if_eq_T (pc' := 124) (tgt := 129) (dt_X11_worthBy 52 (121, .ifCond .eq 8, 3) rfl) (by decide) rfl (by decide) (aw_aload_n (pc' := 130) (dt_X11_worthBy 55 (129, .aload_n 0, 1) rfl) rfl rfl (aw_iload (pc' := 132) (dt_X11_worthBy 56 (130, .iload 4, 2) rfl) rfl rfl (aw_iload (pc' := 134) (dt_X11_worthBy 57 (132, .iload 5, 2) rfl) rfl rfl (aw_callV0 (pc' := 137) (nc := nc) (ns := ns) (y2 := mX11_asUsed) (As := [.int (zI μ 45 (zI μ 49 x1.toNatClampNeg).toNatClampNeg), .int r6]) (rest := []) (a := 31) (dt_X11_worthBy 58 (134, .invokevirtual 428, 3) rfl) ok_X11_asUsed ln_ReturnDeskModel_428 im_X11_asUsed se_X11_asUsed pr_X11_asUsed (Or.inl ⟨by decide, rfl⟩) rfl (Nat.le_of_ble_eq_true rfl) (Nat.le_of_ble_eq_true rfl) rfl (sk_31 hS9) h ?_)))))
        rintro v μ39 ⟨r41, rfl, hS40, h⟩
        refine aw_stk (st' := [.int r41]) rfl ?_
        refine aw_iret (dt_X11_worthBy 59 (137, .ireturn, 1) rfl) rfl rfl ?_
        exact h
      by_cases q42 : x2 = 2
      · have h := h.2.2.1 q42
        refine aw_tableE (tgt := 138) (off := 86) (dt_X11_worthBy 31 (52, .tableswitch 103 0 2 #[28, 67, 86], 28) rfl) q42 (by decide) (by decide) (by decide) (by decide) ?_
        refine aw_aload_n (pc' := 139) (dt_X11_worthBy 60 (138, .aload_n 0, 1) rfl) rfl rfl (aw_iload (pc' := 141) (dt_X11_worthBy 61 (139, .iload 4, 2) rfl) rfl rfl (aw_iload (pc' := 143) (dt_X11_worthBy 62 (141, .iload 5, 2) rfl) rfl rfl (aw_callV0 (pc' := 146) (nc := nc) (ns := ns) (y2 := mX11_asUsed) (As := [.int (zI μ 45 (zI μ 49 x1.toNatClampNeg).toNatClampNeg), .int r6]) (rest := []) (a := 31) (dt_X11_worthBy 63 (143, .invokevirtual 428, 3) rfl) ok_X11_asUsed ln_ReturnDeskModel_428 im_X11_asUsed se_X11_asUsed pr_X11_asUsed (Or.inl ⟨by decide, rfl⟩) rfl (Nat.le_of_ble_eq_true rfl) (Nat.le_of_ble_eq_true rfl) rfl (sk_31 hS9) h ?_)))
        rintro v μ43 ⟨r45, rfl, hS44, h⟩
        refine aw_stk (st' := [.int r45]) rfl ?_
        obtain ⟨g46, h⟩ := h
        refine aw_aload_n (pc' := 147) (dt_X11_worthBy 64 (146, .aload_n 0, 1) rfl) rfl rfl (aw_getAs (pc' := 150) (dt_X11_worthBy 65 (147, .getfield 16, 3) rfl) fl_ReturnDeskModel_16 rfl rfl (sk_31 hS44) (sa_31_6 hS44) (aw_iload (pc' := 152) (dt_X11_worthBy 66 (150, .iload 4, 2) rfl) rfl rfl (aw_iald (pc' := 153) (dt_X11_worthBy 67 (152, .iaload, 1) rfl) rfl (sk_34 hS44) (vin_eq (sl_34 hS44) g46) (aw_isub (pc' := 154) (dt_X11_worthBy 68 (153, .isub, 1) rfl) rfl (aw_iret (dt_X11_worthBy 69 (154, .ireturn, 1) rfl) rfl rfl ?_)))))
        exact h
      have h := h.2.2.2 ⟨q28, q38, q42⟩
      refine aw_tableOut (tgt := 155) (dt_X11_worthBy 31 (52, .tableswitch 103 0 2 #[28, 67, 86], 28) rfl) (tab_out (lo := 0) (n := 3) (by decide) (by decide) (by decide) (by
          intro k hk
          match k, hk with
          | 0, _ => exact q28
          | 1, _ => exact q38
          | 2, _ => exact q42
          | k + 3, hk => omega)) (by decide) ?_
      obtain ⟨g47, h⟩ := h
      refine aw_aload_n (pc' := 156) (dt_X11_worthBy 70 (155, .aload_n 0, 1) rfl) rfl rfl (aw_getAs (pc' := 159) (dt_X11_worthBy 71 (156, .getfield 13, 3) rfl) fl_ReturnDeskModel_13 rfl rfl (sk_31 hS9) (sa_31_5 hS9) (aw_iload (pc' := 161) (dt_X11_worthBy 72 (159, .iload 4, 2) rfl) rfl rfl (aw_iald (pc' := 162) (dt_X11_worthBy 73 (161, .iaload, 1) rfl) rfl (sk_33 hS9) (vin_eq (sl_33 hS9) g47) (aw_bipush (pc' := 164) (v := 100) (dt_X11_worthBy 74 (162, .bipush 100, 2) rfl) (by decide) rfl (aw_idiv (pc' := 165) (dt_X11_worthBy 75 (164, .idiv, 1) rfl) (by decide) rfl (aw_iret (dt_X11_worthBy 76 (165, .ireturn, 1) rfl) rfl rfl ?_))))))
      exact h
    · intro q27
      have h := h.2 q27
      refine aw_iconst (pc' := 45) (v := 1) (dt_X11_worthBy 26 (44, .iconst 1, 1) rfl) (by decide) rfl (aw_goto (tgt := 49) (dt_X11_worthBy 27 (45, .goto 4, 3) rfl) (by decide) (aw_istore (pc' := 51) (ls' := [some (.ref 31), some (.int x1), some (.int x2), some (.int (zI μ 61 x1.toNatClampNeg)), some (.int (zI μ 45 (zI μ 49 x1.toNatClampNeg).toNatClampNeg)), some (.int r6), some (.int 1)]) (dt_X11_worthBy 29 (49, .istore 6, 2) rfl) (by decide) rfl rfl (aw_iload_n (pc' := 52) (dt_X11_worthBy 30 (51, .iload_n 2, 1) rfl) rfl rfl ?_)))
      by_cases q48 : x2 = 0
      · have h := h.1 q48
        refine aw_tableE (tgt := 80) (off := 28) (dt_X11_worthBy 31 (52, .tableswitch 103 0 2 #[28, 67, 86], 28) rfl) q48 (by decide) (by decide) (by decide) (by decide) ?_
        refine aw_iload (pc' := 82) (dt_X11_worthBy 32 (80, .iload 5, 2) rfl) rfl rfl (aw_if_ne (pc' := 85) (tgt := 116) (dt_X11_worthBy 33 (82, .ifCond .ne 34, 3) rfl) (by decide) rfl ?_ ?_)
        · intro q49
          have h := h.1 q49
          refine aw_ldc (pc' := 118) (dt_X11_worthBy 49 (116, .ldc 235, 2) rfl) ct_ReturnDeskModel_235 rfl (aw_iret (dt_X11_worthBy 50 (118, .ireturn, 1) rfl) rfl rfl ?_)
          exact h
        · intro q49
          have h := h.2 q49
          obtain ⟨g50, h⟩ := h
          refine aw_aload_n (pc' := 86) (dt_X11_worthBy 34 (85, .aload_n 0, 1) rfl) rfl rfl (aw_getAs (pc' := 89) (dt_X11_worthBy 35 (86, .getfield 153, 3) rfl) fl_ReturnDeskModel_153 rfl rfl (sk_31 hS9) (sa_31_66 hS9) (aw_iload_n (pc' := 90) (dt_X11_worthBy 36 (89, .iload_n 3, 1) rfl) rfl rfl (aw_iald (pc' := 91) (dt_X11_worthBy 37 (90, .iaload, 1) rfl) rfl (sk_79 hS9) (vin_eq (sl_79 hS9) g50) (aw_iconst (pc' := 92) (v := 5) (dt_X11_worthBy 38 (91, .iconst 5, 1) rfl) (by decide) rfl (aw_callS0 (pc' := 95) (nc := nc) (ns := ns) (y2 := mX11_digit) (As := [.int (zI μ8 79 (zI μ 61 x1.toNatClampNeg).toNatClampNeg), .int 5]) (rest := []) (dt_X11_worthBy 39 (92, .invokestatic 377, 3) rfl) ok_X11_digit ln_ReturnDeskModel_377 sm_X11_digit pr_X11_digit rfl (Nat.le_of_ble_eq_true rfl) (Nat.le_of_ble_eq_true rfl) rfl  h ?_)))))
          rintro v μ51 ⟨r53, rfl, hS52, h⟩
          refine aw_stk (st' := [.int r53]) rfl ?_
          refine aw_if_ne (pc' := 98) (tgt := 116) (dt_X11_worthBy 40 (95, .ifCond .ne 21, 3) rfl) (by decide) rfl ?_ ?_
          · intro q54
            have h := h.1 q54
            refine aw_ldc (pc' := 118) (dt_X11_worthBy 49 (116, .ldc 235, 2) rfl) ct_ReturnDeskModel_235 rfl (aw_iret (dt_X11_worthBy 50 (118, .ireturn, 1) rfl) rfl rfl ?_)
            exact h
          · intro q54
            have h := h.2 q54
            refine aw_iload (pc' := 100) (dt_X11_worthBy 41 (98, .iload 6, 2) rfl) rfl rfl (aw_if_ne_T (pc' := 103) (tgt := 116) (dt_X11_worthBy 42 (100, .ifCond .ne 16, 3) rfl) (by decide) rfl (by decide) (aw_ldc (pc' := 118) (dt_X11_worthBy 49 (116, .ldc 235, 2) rfl) ct_ReturnDeskModel_235 rfl (aw_iret (dt_X11_worthBy 50 (118, .ireturn, 1) rfl) rfl rfl ?_)))
            exact h
      by_cases q55 : x2 = 1
      · have h := h.2.1 q55
        refine aw_tableE (tgt := 119) (off := 67) (dt_X11_worthBy 31 (52, .tableswitch 103 0 2 #[28, 67, 86], 28) rfl) q55 (by decide) (by decide) (by decide) (by decide) ?_
        refine aw_iload (pc' := 121) (dt_X11_worthBy 51 (119, .iload 6, 2) rfl) rfl rfl (aw_if_eq_F (pc' := 124) (tgt := 129) (dt_X11_worthBy 52 (121, .ifCond .eq 8, 3) rfl) (by decide) rfl (by decide) (aw_ldc (pc' := 126) (dt_X11_worthBy 53 (124, .ldc 235, 2) rfl) ct_ReturnDeskModel_235 rfl (aw_goto (tgt := 137) (dt_X11_worthBy 54 (126, .goto 11, 3) rfl) (by decide) (aw_iret (dt_X11_worthBy 59 (137, .ireturn, 1) rfl) rfl rfl ?_))))
        exact h
      by_cases q56 : x2 = 2
      · have h := h.2.2.1 q56
        refine aw_tableE (tgt := 138) (off := 86) (dt_X11_worthBy 31 (52, .tableswitch 103 0 2 #[28, 67, 86], 28) rfl) q56 (by decide) (by decide) (by decide) (by decide) ?_
        refine aw_aload_n (pc' := 139) (dt_X11_worthBy 60 (138, .aload_n 0, 1) rfl) rfl rfl (aw_iload (pc' := 141) (dt_X11_worthBy 61 (139, .iload 4, 2) rfl) rfl rfl (aw_iload (pc' := 143) (dt_X11_worthBy 62 (141, .iload 5, 2) rfl) rfl rfl (aw_callV0 (pc' := 146) (nc := nc) (ns := ns) (y2 := mX11_asUsed) (As := [.int (zI μ 45 (zI μ 49 x1.toNatClampNeg).toNatClampNeg), .int r6]) (rest := []) (a := 31) (dt_X11_worthBy 63 (143, .invokevirtual 428, 3) rfl) ok_X11_asUsed ln_ReturnDeskModel_428 im_X11_asUsed se_X11_asUsed pr_X11_asUsed (Or.inl ⟨by decide, rfl⟩) rfl (Nat.le_of_ble_eq_true rfl) (Nat.le_of_ble_eq_true rfl) rfl (sk_31 hS9) h ?_)))
        rintro v μ57 ⟨r59, rfl, hS58, h⟩
        refine aw_stk (st' := [.int r59]) rfl ?_
        obtain ⟨g60, h⟩ := h
        refine aw_aload_n (pc' := 147) (dt_X11_worthBy 64 (146, .aload_n 0, 1) rfl) rfl rfl (aw_getAs (pc' := 150) (dt_X11_worthBy 65 (147, .getfield 16, 3) rfl) fl_ReturnDeskModel_16 rfl rfl (sk_31 hS58) (sa_31_6 hS58) (aw_iload (pc' := 152) (dt_X11_worthBy 66 (150, .iload 4, 2) rfl) rfl rfl (aw_iald (pc' := 153) (dt_X11_worthBy 67 (152, .iaload, 1) rfl) rfl (sk_34 hS58) (vin_eq (sl_34 hS58) g60) (aw_isub (pc' := 154) (dt_X11_worthBy 68 (153, .isub, 1) rfl) rfl (aw_iret (dt_X11_worthBy 69 (154, .ireturn, 1) rfl) rfl rfl ?_)))))
        exact h
      have h := h.2.2.2 ⟨q48, q55, q56⟩
      refine aw_tableOut (tgt := 155) (dt_X11_worthBy 31 (52, .tableswitch 103 0 2 #[28, 67, 86], 28) rfl) (tab_out (lo := 0) (n := 3) (by decide) (by decide) (by decide) (by
          intro k hk
          match k, hk with
          | 0, _ => exact q48
          | 1, _ => exact q55
          | 2, _ => exact q56
          | k + 3, hk => omega)) (by decide) ?_
      obtain ⟨g61, h⟩ := h
      refine aw_aload_n (pc' := 156) (dt_X11_worthBy 70 (155, .aload_n 0, 1) rfl) rfl rfl (aw_getAs (pc' := 159) (dt_X11_worthBy 71 (156, .getfield 13, 3) rfl) fl_ReturnDeskModel_13 rfl rfl (sk_31 hS9) (sa_31_5 hS9) (aw_iload (pc' := 161) (dt_X11_worthBy 72 (159, .iload 4, 2) rfl) rfl rfl (aw_iald (pc' := 162) (dt_X11_worthBy 73 (161, .iaload, 1) rfl) rfl (sk_33 hS9) (vin_eq (sl_33 hS9) g61) (aw_bipush (pc' := 164) (v := 100) (dt_X11_worthBy 74 (162, .bipush 100, 2) rfl) (by decide) rfl (aw_idiv (pc' := 165) (dt_X11_worthBy 75 (164, .idiv, 1) rfl) (by decide) rfl (aw_iret (dt_X11_worthBy 76 (165, .ireturn, 1) rfl) rfl rfl ?_))))))
      exact h

theorem t_X11_worth {E : ZE} {l : Launch} {d nc ns : Nat} {x1 : Int32} {x2 : Int32} {μ : ZM} {K : Option Value → ZM → Prop} (hS : Stat μ) (h :
  (x1 < 0 →
    K (some (.int (-2000000000))) μ) ∧
  (¬ x1 < 0 →
    (((zI μ 31 22) - 1) < x1 →
      K (some (.int (-2000000000))) μ) ∧
    (¬ ((zI μ 31 22) - 1) < x1 →
      (x2 < 0 →
        K (some (.int (-2000000000))) μ) ∧
      (¬ x2 < 0 →
        (3 < x2 →
          K (some (.int (-2000000000))) μ) ∧
        (¬ 3 < x2 →
          (vp_in x1 300) ∧
          ((zI μ 60 x1.toNatClampNeg) = 0 →
            K (some (.int (-2000000000))) μ) ∧
          (¬ (zI μ 60 x1.toNatClampNeg) = 0 →
            AW E l (d + 2) 0 0 mX11_worthBy 0 (zargs 7 [.ref 31, .int x1, .int x2]) [] μ (fun v μ7 => ∃ r9 : Int32, v = some (.int r9) ∧ Stat μ7 ∧ 
              K (some (.int r9)) μ7))))))) : AW E l (d + 3) nc ns mX11_worth 0 [some (.ref 31), some (.int x1), some (.int x2)] [] μ K := by
  refine aw_aload_n (pc' := 1) (dt_X11_worth 0 (0, .aload_n 0, 1) rfl) rfl rfl (aw_iload_n (pc' := 2) (dt_X11_worth 1 (1, .iload_n 1, 1) rfl) rfl rfl (aw_inV (pc' := 5) (nc1 := 0) (ns1 := 0) (nc := nc) (ns := ns) (ls' := [some (.ref 31), some (.int x1)]) (y2 := mX11_isSale) (As := [.int x1]) (rest := []) (a := 31) (dt_X11_worth 2 (2, .invokevirtual 228, 3) rfl) ok_X11_isSale ln_ReturnDeskModel_228 im_X11_isSale se_X11_isSale pr_X11_isSale (Or.inl ⟨by decide, rfl⟩) rfl (Nat.le_of_ble_eq_true rfl) (Nat.le_of_ble_eq_true rfl) rfl rfl (sk_31 hS) (aw_iload_n (pc' := 1) (dt_X11_isSale 0 (0, .iload_n 1, 1) rfl) rfl rfl (aw_iconst (pc' := 2) (v := 0) (dt_X11_isSale 1 (1, .iconst 0, 1) rfl) (by decide) rfl (aw_aload_n (pc' := 3) (dt_X11_isSale 2 (2, .aload_n 0, 1) rfl) rfl rfl (aw_getI (pc' := 6) (dt_X11_isSale 3 (3, .getfield 215, 3) rfl) fl_ReturnDeskModel_215 rfl rfl (sk_31 hS) (aw_iconst (pc' := 7) (v := 1) (dt_X11_isSale 4 (6, .iconst 1, 1) rfl) (by decide) rfl (aw_isub (pc' := 8) (dt_X11_isSale 5 (7, .isub, 1) rfl) rfl (aw_inS (pc' := 11) (nc1 := 0) (ns1 := 0) (nc := 0) (ns := 0) (ls' := [some (.int x1), some (.int 0), some (.int ((zI μ 31 22) - 1))]) (y2 := mX11_in) (As := [.int x1, .int 0, .int ((zI μ 31 22) - 1)]) (rest := []) (dt_X11_isSale 6 (8, .invokestatic 185, 3) rfl) ok_X11_in ln_ReturnDeskModel_185 sm_X11_in pr_X11_in rfl (Nat.le_of_ble_eq_true rfl) (Nat.le_of_ble_eq_true rfl) rfl rfl (aw_iload_n (pc' := 1) (dt_X11_in 0 (0, .iload_n 0, 1) rfl) rfl rfl (aw_iload_n (pc' := 2) (dt_X11_in 1 (1, .iload_n 1, 1) rfl) rfl rfl (aw_icmp_lt (pc' := 5) (tgt := 14) (dt_X11_in 2 (2, .if_icmp .lt 12, 3) rfl) (by decide) rfl ?_ ?_))))))))))))
  · intro q1
    have h := h.1 q1
    refine aw_iconst (pc' := 15) (v := 0) (dt_X11_in 8 (14, .iconst 0, 1) rfl) (by decide) rfl (aw_iret (dt_X11_in 9 (15, .ireturn, 1) rfl) rfl rfl (aw_stk (st' := [.int 0]) rfl (aw_iret (dt_X11_isSale 7 (11, .ireturn, 1) rfl) rfl rfl (aw_stk (st' := [.int 0]) rfl (aw_if_eq_T (pc' := 8) (tgt := 35) (dt_X11_worth 3 (5, .ifCond .eq 30, 3) rfl) (by decide) rfl (by decide) (aw_ldc (pc' := 37) (dt_X11_worth 19 (35, .ldc 235, 2) rfl) ct_ReturnDeskModel_235 rfl (aw_iret (dt_X11_worth 20 (37, .ireturn, 1) rfl) rfl rfl ?_)))))))
    exact h
  · intro q1
    have h := h.2 q1
    refine aw_iload_n (pc' := 6) (dt_X11_in 3 (5, .iload_n 0, 1) rfl) rfl rfl (aw_iload_n (pc' := 7) (dt_X11_in 4 (6, .iload_n 2, 1) rfl) rfl rfl (aw_icmp_gt (pc' := 10) (tgt := 14) (dt_X11_in 5 (7, .if_icmp .gt 7, 3) rfl) (by decide) rfl ?_ ?_))
    · intro q2
      have h := h.1 q2
      refine aw_iconst (pc' := 15) (v := 0) (dt_X11_in 8 (14, .iconst 0, 1) rfl) (by decide) rfl (aw_iret (dt_X11_in 9 (15, .ireturn, 1) rfl) rfl rfl (aw_stk (st' := [.int 0]) rfl (aw_iret (dt_X11_isSale 7 (11, .ireturn, 1) rfl) rfl rfl (aw_stk (st' := [.int 0]) rfl (aw_if_eq_T (pc' := 8) (tgt := 35) (dt_X11_worth 3 (5, .ifCond .eq 30, 3) rfl) (by decide) rfl (by decide) (aw_ldc (pc' := 37) (dt_X11_worth 19 (35, .ldc 235, 2) rfl) ct_ReturnDeskModel_235 rfl (aw_iret (dt_X11_worth 20 (37, .ireturn, 1) rfl) rfl rfl ?_)))))))
      exact h
    · intro q2
      have h := h.2 q2
      refine aw_iconst (pc' := 11) (v := 1) (dt_X11_in 6 (10, .iconst 1, 1) rfl) (by decide) rfl (aw_goto (tgt := 15) (dt_X11_in 7 (11, .goto 4, 3) rfl) (by decide) (aw_iret (dt_X11_in 9 (15, .ireturn, 1) rfl) rfl rfl (aw_stk (st' := [.int 1]) rfl (aw_iret (dt_X11_isSale 7 (11, .ireturn, 1) rfl) rfl rfl (aw_stk (st' := [.int 1]) rfl (aw_if_eq_F (pc' := 8) (tgt := 35) (dt_X11_worth 3 (5, .ifCond .eq 30, 3) rfl) (by decide) rfl (by decide) (aw_iload_n (pc' := 9) (dt_X11_worth 4 (8, .iload_n 2, 1) rfl) rfl rfl (aw_iconst (pc' := 10) (v := 0) (dt_X11_worth 5 (9, .iconst 0, 1) rfl) (by decide) rfl (aw_iconst (pc' := 11) (v := 3) (dt_X11_worth 6 (10, .iconst 3, 1) rfl) (by decide) rfl (aw_inS (pc' := 14) (nc1 := 0) (ns1 := 0) (nc := nc) (ns := ns) (ls' := [some (.int x2), some (.int 0), some (.int 3)]) (y2 := mX11_in) (As := [.int x2, .int 0, .int 3]) (rest := []) (dt_X11_worth 7 (11, .invokestatic 185, 3) rfl) ok_X11_in ln_ReturnDeskModel_185 sm_X11_in pr_X11_in rfl (Nat.le_of_ble_eq_true rfl) (Nat.le_of_ble_eq_true rfl) rfl rfl (aw_iload_n (pc' := 1) (dt_X11_in 0 (0, .iload_n 0, 1) rfl) rfl rfl (aw_iload_n (pc' := 2) (dt_X11_in 1 (1, .iload_n 1, 1) rfl) rfl rfl (aw_icmp_lt (pc' := 5) (tgt := 14) (dt_X11_in 2 (2, .if_icmp .lt 12, 3) rfl) (by decide) rfl ?_ ?_)))))))))))))
      · intro q3
        have h := h.1 q3
        refine aw_iconst (pc' := 15) (v := 0) (dt_X11_in 8 (14, .iconst 0, 1) rfl) (by decide) rfl (aw_iret (dt_X11_in 9 (15, .ireturn, 1) rfl) rfl rfl (aw_stk (st' := [.int 0]) rfl (aw_if_eq_T (pc' := 17) (tgt := 35) (dt_X11_worth 8 (14, .ifCond .eq 21, 3) rfl) (by decide) rfl (by decide) (aw_ldc (pc' := 37) (dt_X11_worth 19 (35, .ldc 235, 2) rfl) ct_ReturnDeskModel_235 rfl (aw_iret (dt_X11_worth 20 (37, .ireturn, 1) rfl) rfl rfl ?_)))))
        exact h
      · intro q3
        have h := h.2 q3
        refine aw_iload_n (pc' := 6) (dt_X11_in 3 (5, .iload_n 0, 1) rfl) rfl rfl (aw_iload_n (pc' := 7) (dt_X11_in 4 (6, .iload_n 2, 1) rfl) rfl rfl (aw_icmp_gt (pc' := 10) (tgt := 14) (dt_X11_in 5 (7, .if_icmp .gt 7, 3) rfl) (by decide) rfl ?_ ?_))
        · intro q4
          have h := h.1 q4
          refine aw_iconst (pc' := 15) (v := 0) (dt_X11_in 8 (14, .iconst 0, 1) rfl) (by decide) rfl (aw_iret (dt_X11_in 9 (15, .ireturn, 1) rfl) rfl rfl (aw_stk (st' := [.int 0]) rfl (aw_if_eq_T (pc' := 17) (tgt := 35) (dt_X11_worth 8 (14, .ifCond .eq 21, 3) rfl) (by decide) rfl (by decide) (aw_ldc (pc' := 37) (dt_X11_worth 19 (35, .ldc 235, 2) rfl) ct_ReturnDeskModel_235 rfl (aw_iret (dt_X11_worth 20 (37, .ireturn, 1) rfl) rfl rfl ?_)))))
          exact h
        · intro q4
          have h := h.2 q4
          obtain ⟨g5, h⟩ := h
          refine aw_iconst (pc' := 11) (v := 1) (dt_X11_in 6 (10, .iconst 1, 1) rfl) (by decide) rfl (aw_goto (tgt := 15) (dt_X11_in 7 (11, .goto 4, 3) rfl) (by decide) (aw_iret (dt_X11_in 9 (15, .ireturn, 1) rfl) rfl rfl (aw_stk (st' := [.int 1]) rfl (aw_if_eq_F (pc' := 17) (tgt := 35) (dt_X11_worth 8 (14, .ifCond .eq 21, 3) rfl) (by decide) rfl (by decide) (aw_aload_n (pc' := 18) (dt_X11_worth 9 (17, .aload_n 0, 1) rfl) rfl rfl (aw_getAs (pc' := 21) (dt_X11_worth 10 (18, .getfield 95, 3) rfl) fl_ReturnDeskModel_95 rfl rfl (sk_31 hS) (sa_31_35 hS) (aw_iload_n (pc' := 22) (dt_X11_worth 11 (21, .iload_n 1, 1) rfl) rfl rfl (aw_zald (pc' := 23) (dt_X11_worth 12 (22, .baload, 1) rfl) rfl (sk_60 hS) (vin_eq (sl_60 hS) g5) (aw_if_eq (pc' := 26) (tgt := 35) (dt_X11_worth 13 (23, .ifCond .eq 12, 3) rfl) (by decide) rfl ?_ ?_)))))))))
          · intro q6
            have h := h.1 q6
            refine aw_ldc (pc' := 37) (dt_X11_worth 19 (35, .ldc 235, 2) rfl) ct_ReturnDeskModel_235 rfl (aw_iret (dt_X11_worth 20 (37, .ireturn, 1) rfl) rfl rfl ?_)
            exact h
          · intro q6
            have h := h.2 q6
            refine aw_aload_n (pc' := 27) (dt_X11_worth 14 (26, .aload_n 0, 1) rfl) rfl rfl (aw_iload_n (pc' := 28) (dt_X11_worth 15 (27, .iload_n 1, 1) rfl) rfl rfl (aw_iload_n (pc' := 29) (dt_X11_worth 16 (28, .iload_n 2, 1) rfl) rfl rfl (aw_callV0 (pc' := 32) (nc := nc) (ns := ns) (y2 := mX11_worthBy) (As := [.int x1, .int x2]) (rest := []) (a := 31) (dt_X11_worth 17 (29, .invokevirtual 431, 3) rfl) ok_X11_worthBy ln_ReturnDeskModel_431 im_X11_worthBy se_X11_worthBy pr_X11_worthBy (Or.inl ⟨by decide, rfl⟩) rfl (Nat.le_of_ble_eq_true rfl) (Nat.le_of_ble_eq_true rfl) rfl (sk_31 hS) h ?_)))
            rintro v μ7 ⟨r9, rfl, hS8, h⟩
            refine aw_stk (st' := [.int r9]) rfl ?_
            refine aw_goto (tgt := 37) (dt_X11_worth 18 (32, .goto 5, 3) rfl) (by decide) (aw_iret (dt_X11_worth 20 (37, .ireturn, 1) rfl) rfl rfl ?_)
            exact h

theorem t_X11_sort {E : ZE} {l : Launch} {d nc ns : Nat} {x1 : Int32} {μ : ZM} {K : Option Value → ZM → Prop} (hS : Stat μ) (h :
  (x1 < 0 →
    K (some (.int (-1))) μ) ∧
  (¬ x1 < 0 →
    (((zI μ 31 22) - 1) < x1 →
      K (some (.int (-1))) μ) ∧
    (¬ ((zI μ 31 22) - 1) < x1 →
      (vp_in x1 300) ∧
      (¬ (zI μ 60 x1.toNatClampNeg) = 0 →
        AW E l (d + 3) nc ns mX11_sort 26 [some (.ref 31), some (.int x1), some (.int 3), some (.int 2)] [] μ K) ∧
      ((zI μ 60 x1.toNatClampNeg) = 0 →
        K (some (.int (-2))) μ)))) : AW E l (d + 3) nc ns mX11_sort 0 [some (.ref 31), some (.int x1), none, none] [] μ K := by
  refine aw_aload_n (pc' := 1) (dt_X11_sort 0 (0, .aload_n 0, 1) rfl) rfl rfl (aw_iload_n (pc' := 2) (dt_X11_sort 1 (1, .iload_n 1, 1) rfl) rfl rfl (aw_inV (pc' := 5) (nc1 := 0) (ns1 := 0) (nc := nc) (ns := ns) (ls' := [some (.ref 31), some (.int x1)]) (y2 := mX11_isSale) (As := [.int x1]) (rest := []) (a := 31) (dt_X11_sort 2 (2, .invokevirtual 228, 3) rfl) ok_X11_isSale ln_ReturnDeskModel_228 im_X11_isSale se_X11_isSale pr_X11_isSale (Or.inl ⟨by decide, rfl⟩) rfl (Nat.le_of_ble_eq_true rfl) (Nat.le_of_ble_eq_true rfl) rfl rfl (sk_31 hS) (aw_iload_n (pc' := 1) (dt_X11_isSale 0 (0, .iload_n 1, 1) rfl) rfl rfl (aw_iconst (pc' := 2) (v := 0) (dt_X11_isSale 1 (1, .iconst 0, 1) rfl) (by decide) rfl (aw_aload_n (pc' := 3) (dt_X11_isSale 2 (2, .aload_n 0, 1) rfl) rfl rfl (aw_getI (pc' := 6) (dt_X11_isSale 3 (3, .getfield 215, 3) rfl) fl_ReturnDeskModel_215 rfl rfl (sk_31 hS) (aw_iconst (pc' := 7) (v := 1) (dt_X11_isSale 4 (6, .iconst 1, 1) rfl) (by decide) rfl (aw_isub (pc' := 8) (dt_X11_isSale 5 (7, .isub, 1) rfl) rfl (aw_inS (pc' := 11) (nc1 := 0) (ns1 := 0) (nc := 0) (ns := 0) (ls' := [some (.int x1), some (.int 0), some (.int ((zI μ 31 22) - 1))]) (y2 := mX11_in) (As := [.int x1, .int 0, .int ((zI μ 31 22) - 1)]) (rest := []) (dt_X11_isSale 6 (8, .invokestatic 185, 3) rfl) ok_X11_in ln_ReturnDeskModel_185 sm_X11_in pr_X11_in rfl (Nat.le_of_ble_eq_true rfl) (Nat.le_of_ble_eq_true rfl) rfl rfl (aw_iload_n (pc' := 1) (dt_X11_in 0 (0, .iload_n 0, 1) rfl) rfl rfl (aw_iload_n (pc' := 2) (dt_X11_in 1 (1, .iload_n 1, 1) rfl) rfl rfl (aw_icmp_lt (pc' := 5) (tgt := 14) (dt_X11_in 2 (2, .if_icmp .lt 12, 3) rfl) (by decide) rfl ?_ ?_))))))))))))
  · intro q1
    have h := h.1 q1
    refine aw_iconst (pc' := 15) (v := 0) (dt_X11_in 8 (14, .iconst 0, 1) rfl) (by decide) rfl (aw_iret (dt_X11_in 9 (15, .ireturn, 1) rfl) rfl rfl (aw_stk (st' := [.int 0]) rfl (aw_iret (dt_X11_isSale 7 (11, .ireturn, 1) rfl) rfl rfl (aw_stk (st' := [.int 0]) rfl (aw_if_ne_F (pc' := 8) (tgt := 10) (dt_X11_sort 3 (5, .ifCond .ne 5, 3) rfl) (by decide) rfl (by decide) (aw_iconst (pc' := 9) (v := (-1)) (dt_X11_sort 4 (8, .iconst (-1), 1) rfl) (by decide) rfl (aw_iret (dt_X11_sort 5 (9, .ireturn, 1) rfl) rfl rfl ?_)))))))
    exact h
  · intro q1
    have h := h.2 q1
    refine aw_iload_n (pc' := 6) (dt_X11_in 3 (5, .iload_n 0, 1) rfl) rfl rfl (aw_iload_n (pc' := 7) (dt_X11_in 4 (6, .iload_n 2, 1) rfl) rfl rfl (aw_icmp_gt (pc' := 10) (tgt := 14) (dt_X11_in 5 (7, .if_icmp .gt 7, 3) rfl) (by decide) rfl ?_ ?_))
    · intro q2
      have h := h.1 q2
      refine aw_iconst (pc' := 15) (v := 0) (dt_X11_in 8 (14, .iconst 0, 1) rfl) (by decide) rfl (aw_iret (dt_X11_in 9 (15, .ireturn, 1) rfl) rfl rfl (aw_stk (st' := [.int 0]) rfl (aw_iret (dt_X11_isSale 7 (11, .ireturn, 1) rfl) rfl rfl (aw_stk (st' := [.int 0]) rfl (aw_if_ne_F (pc' := 8) (tgt := 10) (dt_X11_sort 3 (5, .ifCond .ne 5, 3) rfl) (by decide) rfl (by decide) (aw_iconst (pc' := 9) (v := (-1)) (dt_X11_sort 4 (8, .iconst (-1), 1) rfl) (by decide) rfl (aw_iret (dt_X11_sort 5 (9, .ireturn, 1) rfl) rfl rfl ?_)))))))
      exact h
    · intro q2
      have h := h.2 q2
      obtain ⟨g3, h⟩ := h
      refine aw_iconst (pc' := 11) (v := 1) (dt_X11_in 6 (10, .iconst 1, 1) rfl) (by decide) rfl (aw_goto (tgt := 15) (dt_X11_in 7 (11, .goto 4, 3) rfl) (by decide) (aw_iret (dt_X11_in 9 (15, .ireturn, 1) rfl) rfl rfl (aw_stk (st' := [.int 1]) rfl (aw_iret (dt_X11_isSale 7 (11, .ireturn, 1) rfl) rfl rfl (aw_stk (st' := [.int 1]) rfl (aw_if_ne_T (pc' := 8) (tgt := 10) (dt_X11_sort 3 (5, .ifCond .ne 5, 3) rfl) (by decide) rfl (by decide) (aw_aload_n (pc' := 11) (dt_X11_sort 6 (10, .aload_n 0, 1) rfl) rfl rfl (aw_getAs (pc' := 14) (dt_X11_sort 7 (11, .getfield 95, 3) rfl) fl_ReturnDeskModel_95 rfl rfl (sk_31 hS) (sa_31_35 hS) (aw_iload_n (pc' := 15) (dt_X11_sort 8 (14, .iload_n 1, 1) rfl) rfl rfl (aw_zald (pc' := 16) (dt_X11_sort 9 (15, .baload, 1) rfl) rfl (sk_60 hS) (vin_eq (sl_60 hS) g3) (aw_if_ne (pc' := 19) (tgt := 22) (dt_X11_sort 10 (16, .ifCond .ne 6, 3) rfl) (by decide) rfl ?_ ?_)))))))))))
      · intro q4
        have h := h.1 q4
        refine aw_iconst (pc' := 23) (v := 3) (dt_X11_sort 13 (22, .iconst 3, 1) rfl) (by decide) rfl (aw_istore_n (pc' := 24) (ls' := [some (.ref 31), some (.int x1), some (.int 3), none]) (dt_X11_sort 14 (23, .istore_n 2, 1) rfl) (by decide) rfl rfl (aw_iconst (pc' := 25) (v := 2) (dt_X11_sort 15 (24, .iconst 2, 1) rfl) (by decide) rfl (aw_istore_n (pc' := 26) (ls' := [some (.ref 31), some (.int x1), some (.int 3), some (.int 2)]) (dt_X11_sort 16 (25, .istore_n 3, 1) rfl) (by decide) rfl rfl ?_)))
        exact h
      · intro q4
        have h := h.2 q4
        refine aw_bipush (pc' := 21) (v := (-2)) (dt_X11_sort 11 (19, .bipush (-2), 2) rfl) (by decide) rfl (aw_iret (dt_X11_sort 12 (21, .ireturn, 1) rfl) rfl rfl ?_)
        exact h

theorem t_X11_sort_26 {E : ZE} {l : Launch} {d nc ns : Nat} {x1 : Int32} {x2 : Int32} {x3 : Int32} {μ : ZM} {K : Option Value → ZM → Prop} (hS : Stat μ) (h :
  (x3 < 0 →
    (vp_in x1 300) ∧
    (vp_in (zI μ 49 x1.toNatClampNeg) 60) ∧
    (¬ x2 = 2 →
      (vp_in x1 300) ∧
      (¬ x2 = 0 →
        (¬ x2 = 3 →
          (vp_in (zI (sI μ 60 x1.toNatClampNeg 0) 31 14) 300) ∧
          AW E l (d + 2) 0 0 mX11_wornOf 0 (zargs 2 [.ref 31, .int x1]) [] (sI (sI μ 60 x1.toNatClampNeg 0) 42 (zI (sI μ 60 x1.toNatClampNeg 0) 31 14).toNatClampNeg (zI μ 45 (zI μ 49 x1.toNatClampNeg).toNatClampNeg)) (fun v μ9 => ∃ r11 : Int32, v = some (.int r11) ∧ Stat μ9 ∧ 
            (vp_in (zI (sI (sI μ 60 x1.toNatClampNeg 0) 42 (zI (sI μ 60 x1.toNatClampNeg 0) 31 14).toNatClampNeg (zI μ 45 (zI μ 49 x1.toNatClampNeg).toNatClampNeg)) 31 14) 300) ∧
            (vp_in (zI (sI μ9 43 (zI (sI (sI μ 60 x1.toNatClampNeg 0) 42 (zI (sI μ 60 x1.toNatClampNeg 0) 31 14).toNatClampNeg (zI μ 45 (zI μ 49 x1.toNatClampNeg).toNatClampNeg)) 31 14).toNatClampNeg r11) 31 14) 300) ∧
            ∀ μ14, μ14 = (sI (sI μ9 43 (zI (sI (sI μ 60 x1.toNatClampNeg 0) 42 (zI (sI μ 60 x1.toNatClampNeg 0) 31 14).toNatClampNeg (zI μ 45 (zI μ 49 x1.toNatClampNeg).toNatClampNeg)) 31 14).toNatClampNeg r11) 44 (zI (sI μ9 43 (zI (sI (sI μ 60 x1.toNatClampNeg 0) 42 (zI (sI μ 60 x1.toNatClampNeg 0) 31 14).toNatClampNeg (zI μ 45 (zI μ 49 x1.toNatClampNeg).toNatClampNeg)) 31 14).toNatClampNeg r11) 31 14).toNatClampNeg 1) →
            (¬ x2 = 2 →
              K (some (.int x2)) (sI μ14 31 14 ((zI μ14 31 14) + 1))) ∧
            (x2 = 2 →
              (vp_in (zI μ 45 (zI μ 49 x1.toNatClampNeg).toNatClampNeg) 20) ∧
              (vp_in (zI μ 45 (zI μ 49 x1.toNatClampNeg).toNatClampNeg) 20) ∧
              ∀ μ20, μ20 = (sI (sI (sI μ14 31 14 ((zI μ14 31 14) + 1)) 31 2 ((zI (sI μ14 31 14 ((zI μ14 31 14) + 1)) 31 2) - (zI (sI μ14 31 14 ((zI μ14 31 14) + 1)) 34 (zI μ 45 (zI μ 49 x1.toNatClampNeg).toNatClampNeg).toNatClampNeg))) 31 73 ((zI (sI (sI μ14 31 14 ((zI μ14 31 14) + 1)) 31 2 ((zI (sI μ14 31 14 ((zI μ14 31 14) + 1)) 31 2) - (zI (sI μ14 31 14 ((zI μ14 31 14) + 1)) 34 (zI μ 45 (zI μ 49 x1.toNatClampNeg).toNatClampNeg).toNatClampNeg))) 31 73) + (zI (sI (sI μ14 31 14 ((zI μ14 31 14) + 1)) 31 2 ((zI (sI μ14 31 14 ((zI μ14 31 14) + 1)) 31 2) - (zI (sI μ14 31 14 ((zI μ14 31 14) + 1)) 34 (zI μ 45 (zI μ 49 x1.toNatClampNeg).toNatClampNeg).toNatClampNeg))) 34 (zI μ 45 (zI μ 49 x1.toNatClampNeg).toNatClampNeg).toNatClampNeg))) →
              (vp_in (zI μ 45 (zI μ 49 x1.toNatClampNeg).toNatClampNeg) 20) ∧
              (vp_in (zI μ 45 (zI μ 49 x1.toNatClampNeg).toNatClampNeg) 20) ∧
              K (some (.int x2)) (sI μ20 40 (zI μ 45 (zI μ 49 x1.toNatClampNeg).toNatClampNeg).toNatClampNeg ((zI μ20 40 (zI μ 45 (zI μ 49 x1.toNatClampNeg).toNatClampNeg).toNatClampNeg) + 1))))) ∧
        (x2 = 3 →
          (vp_in (zI μ 45 (zI μ 49 x1.toNatClampNeg).toNatClampNeg) 20) ∧
          (vp_in (zI μ 45 (zI μ 49 x1.toNatClampNeg).toNatClampNeg) 20) ∧
          (vp_in (zI μ 45 (zI μ 49 x1.toNatClampNeg).toNatClampNeg) 20) ∧
          ∀ μ28, μ28 = (sI (sI (sI μ 60 x1.toNatClampNeg 0) 39 (zI μ 45 (zI μ 49 x1.toNatClampNeg).toNatClampNeg).toNatClampNeg ((zI (sI μ 60 x1.toNatClampNeg 0) 39 (zI μ 45 (zI μ 49 x1.toNatClampNeg).toNatClampNeg).toNatClampNeg) + 1)) 31 2 ((zI (sI (sI μ 60 x1.toNatClampNeg 0) 39 (zI μ 45 (zI μ 49 x1.toNatClampNeg).toNatClampNeg).toNatClampNeg ((zI (sI μ 60 x1.toNatClampNeg 0) 39 (zI μ 45 (zI μ 49 x1.toNatClampNeg).toNatClampNeg).toNatClampNeg) + 1)) 31 2) + ((zI (sI (sI μ 60 x1.toNatClampNeg 0) 39 (zI μ 45 (zI μ 49 x1.toNatClampNeg).toNatClampNeg).toNatClampNeg ((zI (sI μ 60 x1.toNatClampNeg 0) 39 (zI μ 45 (zI μ 49 x1.toNatClampNeg).toNatClampNeg).toNatClampNeg) + 1)) 33 (zI μ 45 (zI μ 49 x1.toNatClampNeg).toNatClampNeg).toNatClampNeg) / 100))) →
          K (some (.int x2)) μ28)) ∧
      (x2 = 0 →
        (vp_in (zI μ 45 (zI μ 49 x1.toNatClampNeg).toNatClampNeg) 20) ∧
        (vp_in (zI μ 45 (zI μ 49 x1.toNatClampNeg).toNatClampNeg) 20) ∧
        K (some (.int x2)) (sI (sI μ 60 x1.toNatClampNeg 0) 38 (zI μ 45 (zI μ 49 x1.toNatClampNeg).toNatClampNeg).toNatClampNeg ((zI (sI μ 60 x1.toNatClampNeg 0) 38 (zI μ 45 (zI μ 49 x1.toNatClampNeg).toNatClampNeg).toNatClampNeg) + 1)))) ∧
    (x2 = 2 →
      (vp_in (zI μ 45 (zI μ 49 x1.toNatClampNeg).toNatClampNeg) 20) ∧
      ((zI μ 34 (zI μ 45 (zI μ 49 x1.toNatClampNeg).toNatClampNeg).toNatClampNeg) ≤ (zI μ 31 2) →
        (vp_in x1 300) ∧
        (¬ x2 = 0 →
          (¬ x2 = 3 →
            (vp_in (zI (sI μ 60 x1.toNatClampNeg 0) 31 14) 300) ∧
            AW E l (d + 2) 0 0 mX11_wornOf 0 (zargs 2 [.ref 31, .int x1]) [] (sI (sI μ 60 x1.toNatClampNeg 0) 42 (zI (sI μ 60 x1.toNatClampNeg 0) 31 14).toNatClampNeg (zI μ 45 (zI μ 49 x1.toNatClampNeg).toNatClampNeg)) (fun v μ39 => ∃ r41 : Int32, v = some (.int r41) ∧ Stat μ39 ∧ 
              (vp_in (zI (sI (sI μ 60 x1.toNatClampNeg 0) 42 (zI (sI μ 60 x1.toNatClampNeg 0) 31 14).toNatClampNeg (zI μ 45 (zI μ 49 x1.toNatClampNeg).toNatClampNeg)) 31 14) 300) ∧
              (vp_in (zI (sI μ39 43 (zI (sI (sI μ 60 x1.toNatClampNeg 0) 42 (zI (sI μ 60 x1.toNatClampNeg 0) 31 14).toNatClampNeg (zI μ 45 (zI μ 49 x1.toNatClampNeg).toNatClampNeg)) 31 14).toNatClampNeg r41) 31 14) 300) ∧
              ∀ μ44, μ44 = (sI (sI μ39 43 (zI (sI (sI μ 60 x1.toNatClampNeg 0) 42 (zI (sI μ 60 x1.toNatClampNeg 0) 31 14).toNatClampNeg (zI μ 45 (zI μ 49 x1.toNatClampNeg).toNatClampNeg)) 31 14).toNatClampNeg r41) 44 (zI (sI μ39 43 (zI (sI (sI μ 60 x1.toNatClampNeg 0) 42 (zI (sI μ 60 x1.toNatClampNeg 0) 31 14).toNatClampNeg (zI μ 45 (zI μ 49 x1.toNatClampNeg).toNatClampNeg)) 31 14).toNatClampNeg r41) 31 14).toNatClampNeg 1) →
              (¬ x2 = 2 →
                K (some (.int x2)) (sI μ44 31 14 ((zI μ44 31 14) + 1))) ∧
              (x2 = 2 →
                (vp_in (zI μ 45 (zI μ 49 x1.toNatClampNeg).toNatClampNeg) 20) ∧
                (vp_in (zI μ 45 (zI μ 49 x1.toNatClampNeg).toNatClampNeg) 20) ∧
                ∀ μ50, μ50 = (sI (sI (sI μ44 31 14 ((zI μ44 31 14) + 1)) 31 2 ((zI (sI μ44 31 14 ((zI μ44 31 14) + 1)) 31 2) - (zI (sI μ44 31 14 ((zI μ44 31 14) + 1)) 34 (zI μ 45 (zI μ 49 x1.toNatClampNeg).toNatClampNeg).toNatClampNeg))) 31 73 ((zI (sI (sI μ44 31 14 ((zI μ44 31 14) + 1)) 31 2 ((zI (sI μ44 31 14 ((zI μ44 31 14) + 1)) 31 2) - (zI (sI μ44 31 14 ((zI μ44 31 14) + 1)) 34 (zI μ 45 (zI μ 49 x1.toNatClampNeg).toNatClampNeg).toNatClampNeg))) 31 73) + (zI (sI (sI μ44 31 14 ((zI μ44 31 14) + 1)) 31 2 ((zI (sI μ44 31 14 ((zI μ44 31 14) + 1)) 31 2) - (zI (sI μ44 31 14 ((zI μ44 31 14) + 1)) 34 (zI μ 45 (zI μ 49 x1.toNatClampNeg).toNatClampNeg).toNatClampNeg))) 34 (zI μ 45 (zI μ 49 x1.toNatClampNeg).toNatClampNeg).toNatClampNeg))) →
                (vp_in (zI μ 45 (zI μ 49 x1.toNatClampNeg).toNatClampNeg) 20) ∧
                (vp_in (zI μ 45 (zI μ 49 x1.toNatClampNeg).toNatClampNeg) 20) ∧
                K (some (.int x2)) (sI μ50 40 (zI μ 45 (zI μ 49 x1.toNatClampNeg).toNatClampNeg).toNatClampNeg ((zI μ50 40 (zI μ 45 (zI μ 49 x1.toNatClampNeg).toNatClampNeg).toNatClampNeg) + 1))))) ∧
          (x2 = 3 →
            (vp_in (zI μ 45 (zI μ 49 x1.toNatClampNeg).toNatClampNeg) 20) ∧
            (vp_in (zI μ 45 (zI μ 49 x1.toNatClampNeg).toNatClampNeg) 20) ∧
            (vp_in (zI μ 45 (zI μ 49 x1.toNatClampNeg).toNatClampNeg) 20) ∧
            ∀ μ58, μ58 = (sI (sI (sI μ 60 x1.toNatClampNeg 0) 39 (zI μ 45 (zI μ 49 x1.toNatClampNeg).toNatClampNeg).toNatClampNeg ((zI (sI μ 60 x1.toNatClampNeg 0) 39 (zI μ 45 (zI μ 49 x1.toNatClampNeg).toNatClampNeg).toNatClampNeg) + 1)) 31 2 ((zI (sI (sI μ 60 x1.toNatClampNeg 0) 39 (zI μ 45 (zI μ 49 x1.toNatClampNeg).toNatClampNeg).toNatClampNeg ((zI (sI μ 60 x1.toNatClampNeg 0) 39 (zI μ 45 (zI μ 49 x1.toNatClampNeg).toNatClampNeg).toNatClampNeg) + 1)) 31 2) + ((zI (sI (sI μ 60 x1.toNatClampNeg 0) 39 (zI μ 45 (zI μ 49 x1.toNatClampNeg).toNatClampNeg).toNatClampNeg ((zI (sI μ 60 x1.toNatClampNeg 0) 39 (zI μ 45 (zI μ 49 x1.toNatClampNeg).toNatClampNeg).toNatClampNeg) + 1)) 33 (zI μ 45 (zI μ 49 x1.toNatClampNeg).toNatClampNeg).toNatClampNeg) / 100))) →
            K (some (.int x2)) μ58)) ∧
        (x2 = 0 →
          (vp_in (zI μ 45 (zI μ 49 x1.toNatClampNeg).toNatClampNeg) 20) ∧
          (vp_in (zI μ 45 (zI μ 49 x1.toNatClampNeg).toNatClampNeg) 20) ∧
          K (some (.int x2)) (sI (sI μ 60 x1.toNatClampNeg 0) 38 (zI μ 45 (zI μ 49 x1.toNatClampNeg).toNatClampNeg).toNatClampNeg ((zI (sI μ 60 x1.toNatClampNeg 0) 38 (zI μ 45 (zI μ 49 x1.toNatClampNeg).toNatClampNeg).toNatClampNeg) + 1)))) ∧
      (¬ (zI μ 34 (zI μ 45 (zI μ 49 x1.toNatClampNeg).toNatClampNeg).toNatClampNeg) ≤ (zI μ 31 2) →
        K (some (.int (-2))) μ))) ∧
  (¬ x3 < 0 →
    AW E l (d + 2) 0 0 mX11_worthBy 0 (zargs 7 [.ref 31, .int x1, .int x3]) [] μ (fun v μ63 => ∃ r65 : Int32, v = some (.int r65) ∧ Stat μ63 ∧ 
      (r65 = (-2000000000) →
        AW E l (d + 3) nc ns mX11_sort 26 [some (.ref 31), some (.int x1), some (.int x2), some (.int (x3 + (-1)))] [] μ63 K) ∧
      (¬ r65 = (-2000000000) →
        AW E l (d + 2) 0 0 mX11_worthBy 0 (zargs 7 [.ref 31, .int x1, .int x3]) [] μ63 (fun v μ67 => ∃ r69 : Int32, v = some (.int r69) ∧ Stat μ67 ∧ 
          AW E l (d + 2) 0 0 mX11_worthBy 0 (zargs 7 [.ref 31, .int x1, .int x2]) [] μ67 (fun v μ70 => ∃ r72 : Int32, v = some (.int r72) ∧ Stat μ70 ∧ 
            (r69 < r72 →
              AW E l (d + 3) nc ns mX11_sort 26 [some (.ref 31), some (.int x1), some (.int x2), some (.int (x3 + (-1)))] [] μ70 K) ∧
            (¬ r69 < r72 →
              AW E l (d + 3) nc ns mX11_sort 26 [some (.ref 31), some (.int x1), some (.int x3), some (.int (x3 + (-1)))] [] μ70 K))))))) : AW E l (d + 3) nc ns mX11_sort 26 [some (.ref 31), some (.int x1), some (.int x2), some (.int x3)] [] μ K := by
  refine aw_iload_n (pc' := 27) (dt_X11_sort 17 (26, .iload_n 3, 1) rfl) rfl rfl (aw_if_lt (pc' := 30) (tgt := 64) (dt_X11_sort 18 (27, .ifCond .lt 37, 3) rfl) (by decide) rfl ?_ ?_)
  · intro q1
    have h := h.1 q1
    obtain ⟨g2, h⟩ := h
    obtain ⟨g3, h⟩ := h
    refine aw_aload_n (pc' := 65) (dt_X11_sort 38 (64, .aload_n 0, 1) rfl) rfl rfl (aw_iload_n (pc' := 66) (dt_X11_sort 39 (65, .iload_n 1, 1) rfl) rfl rfl (aw_inV (pc' := 69) (nc1 := 0) (ns1 := 0) (nc := nc) (ns := ns) (ls' := [some (.ref 31), some (.int x1)]) (y2 := mX11_modelOf) (As := [.int x1]) (rest := []) (a := 31) (dt_X11_sort 40 (66, .invokevirtual 231, 3) rfl) ok_X11_modelOf ln_ReturnDeskModel_231 im_X11_modelOf se_X11_modelOf pr_X11_modelOf (Or.inl ⟨by decide, rfl⟩) rfl (Nat.le_of_ble_eq_true rfl) (Nat.le_of_ble_eq_true rfl) rfl rfl (sk_31 hS) (aw_aload_n (pc' := 1) (dt_X11_modelOf 0 (0, .aload_n 0, 1) rfl) rfl rfl (aw_getAs (pc' := 4) (dt_X11_modelOf 1 (1, .getfield 50, 3) rfl) fl_ReturnDeskModel_50 rfl rfl (sk_31 hS) (sa_31_19 hS) (aw_aload_n (pc' := 5) (dt_X11_modelOf 2 (4, .aload_n 0, 1) rfl) rfl rfl (aw_getAs (pc' := 8) (dt_X11_modelOf 3 (5, .getfield 62, 3) rfl) fl_ReturnDeskModel_62 rfl rfl (sk_31 hS) (sa_31_24 hS) (aw_iload_n (pc' := 9) (dt_X11_modelOf 4 (8, .iload_n 1, 1) rfl) rfl rfl (aw_iald (pc' := 10) (dt_X11_modelOf 5 (9, .iaload, 1) rfl) rfl (sk_49 hS) (vin_eq (sl_49 hS) g2) (aw_iald (pc' := 11) (dt_X11_modelOf 6 (10, .iaload, 1) rfl) rfl (sk_45 hS) (vin_eq (sl_45 hS) g3) (aw_iret (dt_X11_modelOf 7 (11, .ireturn, 1) rfl) rfl rfl (aw_stk (st' := [.int (zI μ 45 (zI μ 49 x1.toNatClampNeg).toNatClampNeg)]) rfl (aw_istore_n (pc' := 70) (ls' := [some (.ref 31), some (.int x1), some (.int x2), some (.int (zI μ 45 (zI μ 49 x1.toNatClampNeg).toNatClampNeg))]) (dt_X11_sort 41 (69, .istore_n 3, 1) rfl) (by decide) rfl rfl (aw_iload_n (pc' := 71) (dt_X11_sort 42 (70, .iload_n 2, 1) rfl) rfl rfl (aw_iconst (pc' := 72) (v := 2) (dt_X11_sort 43 (71, .iconst 2, 1) rfl) (by decide) rfl (aw_icmp_ne (pc' := 75) (tgt := 91) (dt_X11_sort 44 (72, .if_icmp .ne 19, 3) rfl) (by decide) rfl ?_ ?_)))))))))))))))
    · intro q4
      have h := h.1 q4
      obtain ⟨g5, h⟩ := h
      refine aw_aload_n (pc' := 92) (dt_X11_sort 54 (91, .aload_n 0, 1) rfl) rfl rfl (aw_getAs (pc' := 95) (dt_X11_sort 55 (92, .getfield 95, 3) rfl) fl_ReturnDeskModel_95 rfl rfl (sk_31 hS) (sa_31_35 hS) (aw_iload_n (pc' := 96) (dt_X11_sort 56 (95, .iload_n 1, 1) rfl) rfl rfl (aw_iconst (pc' := 97) (v := 0) (dt_X11_sort 57 (96, .iconst 0, 1) rfl) (by decide) rfl (aw_zast (pc' := 98) (dt_X11_sort 58 (97, .bastore, 1) rfl) rfl (sk_60 hS) (by decide) (vin_eq (sl_60 hS) g5) (by decide) (aw_iload_n (pc' := 99) (dt_X11_sort 59 (98, .iload_n 2, 1) rfl) rfl rfl (aw_if_ne (pc' := 102) (tgt := 115) (dt_X11_sort 60 (99, .ifCond .ne 16, 3) rfl) (by decide) rfl ?_ ?_))))))
      · intro q6
        have h := h.1 q6
        refine aw_iload_n (pc' := 116) (dt_X11_sort 70 (115, .iload_n 2, 1) rfl) rfl rfl (aw_iconst (pc' := 117) (v := 3) (dt_X11_sort 71 (116, .iconst 3, 1) rfl) (by decide) rfl (aw_icmp_ne (pc' := 120) (tgt := 151) (dt_X11_sort 72 (117, .if_icmp .ne 34, 3) rfl) (by decide) rfl ?_ ?_))
        · intro q7
          have h := h.1 q7
          obtain ⟨g8, h⟩ := h
          refine aw_aload_n (pc' := 152) (dt_X11_sort 93 (151, .aload_n 0, 1) rfl) rfl rfl (aw_getAs (pc' := 155) (dt_X11_sort 94 (152, .getfield 40, 3) rfl) fl_ReturnDeskModel_40 rfl rfl (sk_31 hS.wI) (sa_31_15 hS.wI) (aw_aload_n (pc' := 156) (dt_X11_sort 95 (155, .aload_n 0, 1) rfl) rfl rfl (aw_getI (pc' := 159) (dt_X11_sort 96 (156, .getfield 419, 3) rfl) fl_ReturnDeskModel_419 rfl rfl (sk_31 hS.wI) (aw_iload_n (pc' := 160) (dt_X11_sort 97 (159, .iload_n 3, 1) rfl) rfl rfl (aw_iast (pc' := 161) (dt_X11_sort 98 (160, .iastore, 1) rfl) rfl (sk_42 hS.wI) (by decide) (vin_eq (sl_42 hS.wI) g8) (aw_aload_n (pc' := 162) (dt_X11_sort 99 (161, .aload_n 0, 1) rfl) rfl rfl (aw_getAs (pc' := 165) (dt_X11_sort 100 (162, .getfield 43, 3) rfl) fl_ReturnDeskModel_43 rfl rfl (sk_31 hS.wI.wI) (sa_31_16 hS.wI.wI) (aw_aload_n (pc' := 166) (dt_X11_sort 101 (165, .aload_n 0, 1) rfl) rfl rfl (aw_getI (pc' := 169) (dt_X11_sort 102 (166, .getfield 419, 3) rfl) fl_ReturnDeskModel_419 rfl rfl (sk_31 hS.wI.wI) (aw_aload_n (pc' := 170) (dt_X11_sort 103 (169, .aload_n 0, 1) rfl) rfl rfl (aw_iload_n (pc' := 171) (dt_X11_sort 104 (170, .iload_n 1, 1) rfl) rfl rfl (aw_callV0 (pc' := 174) (nc := nc) (ns := ns) (y2 := mX11_wornOf) (As := [.int x1]) (rest := [.int (zI (sI (sI μ 60 x1.toNatClampNeg 0) 42 (zI (sI μ 60 x1.toNatClampNeg 0) 31 14).toNatClampNeg (zI μ 45 (zI μ 49 x1.toNatClampNeg).toNatClampNeg)) 31 14), .ref 43]) (a := 31) (dt_X11_sort 105 (171, .invokevirtual 425, 3) rfl) ok_X11_wornOf ln_ReturnDeskModel_425 im_X11_wornOf se_X11_wornOf pr_X11_wornOf (Or.inl ⟨by decide, rfl⟩) rfl (Nat.le_of_ble_eq_true rfl) (Nat.le_of_ble_eq_true rfl) rfl (sk_31 hS.wI.wI) h ?_))))))))))))
          rintro v μ9 ⟨r11, rfl, hS10, h⟩
          refine aw_stk (st' := [.int r11, .int (zI (sI (sI μ 60 x1.toNatClampNeg 0) 42 (zI (sI μ 60 x1.toNatClampNeg 0) 31 14).toNatClampNeg (zI μ 45 (zI μ 49 x1.toNatClampNeg).toNatClampNeg)) 31 14), .ref 43]) rfl ?_
          obtain ⟨g12, h⟩ := h
          obtain ⟨g13, h⟩ := h
          refine aw_iast (pc' := 175) (dt_X11_sort 106 (174, .iastore, 1) rfl) rfl (sk_43 hS10) (by decide) (vin_eq (sl_43 hS10) g12) (aw_aload_n (pc' := 176) (dt_X11_sort 107 (175, .aload_n 0, 1) rfl) rfl rfl (aw_getAs (pc' := 179) (dt_X11_sort 108 (176, .getfield 46, 3) rfl) fl_ReturnDeskModel_46 rfl rfl (sk_31 hS10.wI) (sa_31_17 hS10.wI) (aw_aload_n (pc' := 180) (dt_X11_sort 109 (179, .aload_n 0, 1) rfl) rfl rfl (aw_getI (pc' := 183) (dt_X11_sort 110 (180, .getfield 419, 3) rfl) fl_ReturnDeskModel_419 rfl rfl (sk_31 hS10.wI) (aw_iconst (pc' := 184) (v := 1) (dt_X11_sort 111 (183, .iconst 1, 1) rfl) (by decide) rfl (aw_zast (pc' := 185) (dt_X11_sort 112 (184, .bastore, 1) rfl) rfl (sk_44 hS10.wI) (by decide) (vin_eq (sl_44 hS10.wI) g13) (by decide) ?_))))))
          refine aw_mem (fun μ14 eμ15 => ?_)
          have h := h μ14 eμ15
          have hS16 : Stat μ14 := by rw [eμ15]; exact hS10.wI.wI
          refine aw_aload_n (pc' := 186) (dt_X11_sort 113 (185, .aload_n 0, 1) rfl) rfl rfl (aw_dup (pc' := 187) (dt_X11_sort 114 (186, .dup, 1) rfl) rfl rfl (aw_getI (pc' := 190) (dt_X11_sort 115 (187, .getfield 419, 3) rfl) fl_ReturnDeskModel_419 rfl rfl (sk_31 hS16) (aw_iconst (pc' := 191) (v := 1) (dt_X11_sort 116 (190, .iconst 1, 1) rfl) (by decide) rfl (aw_iadd (pc' := 192) (dt_X11_sort 117 (191, .iadd, 1) rfl) rfl (aw_putI (pc' := 195) (dt_X11_sort 118 (192, .putfield 419, 3) rfl) fl_ReturnDeskModel_419 rfl (by decide +kernel) rfl (sk_31 hS16) (aw_iload_n (pc' := 196) (dt_X11_sort 119 (195, .iload_n 2, 1) rfl) rfl rfl (aw_iconst (pc' := 197) (v := 2) (dt_X11_sort 120 (196, .iconst 2, 1) rfl) (by decide) rfl (aw_icmp_ne (pc' := 200) (tgt := 240) (dt_X11_sort 121 (197, .if_icmp .ne 43, 3) rfl) (by decide) rfl ?_ ?_))))))))
          · intro q17
            have h := h.1 q17
            refine aw_iload_n (pc' := 241) (dt_X11_sort 148 (240, .iload_n 2, 1) rfl) rfl rfl (aw_iret (dt_X11_sort 149 (241, .ireturn, 1) rfl) rfl rfl ?_)
            exact h
          · intro q17
            have h := h.2 q17
            obtain ⟨g18, h⟩ := h
            obtain ⟨g19, h⟩ := h
            refine aw_aload_n (pc' := 201) (dt_X11_sort 122 (200, .aload_n 0, 1) rfl) rfl rfl (aw_dup (pc' := 202) (dt_X11_sort 123 (201, .dup, 1) rfl) rfl rfl (aw_getI (pc' := 205) (dt_X11_sort 124 (202, .getfield 212, 3) rfl) fl_ReturnDeskModel_212 rfl rfl (sk_31 hS16.wI) (aw_aload_n (pc' := 206) (dt_X11_sort 125 (205, .aload_n 0, 1) rfl) rfl rfl (aw_getAs (pc' := 209) (dt_X11_sort 126 (206, .getfield 16, 3) rfl) fl_ReturnDeskModel_16 rfl rfl (sk_31 hS16.wI) (sa_31_6 hS16.wI) (aw_iload_n (pc' := 210) (dt_X11_sort 127 (209, .iload_n 3, 1) rfl) rfl rfl (aw_iald (pc' := 211) (dt_X11_sort 128 (210, .iaload, 1) rfl) rfl (sk_34 hS16.wI) (vin_eq (sl_34 hS16.wI) g18) (aw_isub (pc' := 212) (dt_X11_sort 129 (211, .isub, 1) rfl) rfl (aw_putI (pc' := 215) (dt_X11_sort 130 (212, .putfield 212, 3) rfl) fl_ReturnDeskModel_212 rfl (by decide +kernel) rfl (sk_31 hS16.wI) (aw_aload_n (pc' := 216) (dt_X11_sort 131 (215, .aload_n 0, 1) rfl) rfl rfl (aw_dup (pc' := 217) (dt_X11_sort 132 (216, .dup, 1) rfl) rfl rfl (aw_getI (pc' := 220) (dt_X11_sort 133 (217, .getfield 410, 3) rfl) fl_ReturnDeskModel_410 rfl rfl (sk_31 hS16.wI.wI) (aw_aload_n (pc' := 221) (dt_X11_sort 134 (220, .aload_n 0, 1) rfl) rfl rfl (aw_getAs (pc' := 224) (dt_X11_sort 135 (221, .getfield 16, 3) rfl) fl_ReturnDeskModel_16 rfl rfl (sk_31 hS16.wI.wI) (sa_31_6 hS16.wI.wI) (aw_iload_n (pc' := 225) (dt_X11_sort 136 (224, .iload_n 3, 1) rfl) rfl rfl (aw_iald (pc' := 226) (dt_X11_sort 137 (225, .iaload, 1) rfl) rfl (sk_34 hS16.wI.wI) (vin_eq (sl_34 hS16.wI.wI) g19) (aw_iadd (pc' := 227) (dt_X11_sort 138 (226, .iadd, 1) rfl) rfl (aw_putI (pc' := 230) (dt_X11_sort 139 (227, .putfield 410, 3) rfl) fl_ReturnDeskModel_410 rfl (by decide +kernel) rfl (sk_31 hS16.wI.wI) ?_)))))))))))))))))
            refine aw_mem (fun μ20 eμ21 => ?_)
            have h := h μ20 eμ21
            have hS22 : Stat μ20 := by rw [eμ21]; exact hS16.wI.wI.wI
            obtain ⟨g23, h⟩ := h
            obtain ⟨g24, h⟩ := h
            refine aw_aload_n (pc' := 231) (dt_X11_sort 140 (230, .aload_n 0, 1) rfl) rfl rfl (aw_getAs (pc' := 234) (dt_X11_sort 141 (231, .getfield 34, 3) rfl) fl_ReturnDeskModel_34 rfl rfl (sk_31 hS22) (sa_31_12 hS22) (aw_iload_n (pc' := 235) (dt_X11_sort 142 (234, .iload_n 3, 1) rfl) rfl rfl (aw_dup2 (pc' := 236) (dt_X11_sort 143 (235, .dup2, 1) rfl) rfl rfl rfl (aw_iald (pc' := 237) (dt_X11_sort 144 (236, .iaload, 1) rfl) rfl (sk_40 hS22) (vin_eq (sl_40 hS22) g23) (aw_iconst (pc' := 238) (v := 1) (dt_X11_sort 145 (237, .iconst 1, 1) rfl) (by decide) rfl (aw_iadd (pc' := 239) (dt_X11_sort 146 (238, .iadd, 1) rfl) rfl (aw_iast (pc' := 240) (dt_X11_sort 147 (239, .iastore, 1) rfl) rfl (sk_40 hS22) (by decide) (vin_eq (sl_40 hS22) g24) (aw_iload_n (pc' := 241) (dt_X11_sort 148 (240, .iload_n 2, 1) rfl) rfl rfl (aw_iret (dt_X11_sort 149 (241, .ireturn, 1) rfl) rfl rfl ?_)))))))))
            exact h
        · intro q7
          have h := h.2 q7
          obtain ⟨g25, h⟩ := h
          obtain ⟨g26, h⟩ := h
          obtain ⟨g27, h⟩ := h
          refine aw_aload_n (pc' := 121) (dt_X11_sort 73 (120, .aload_n 0, 1) rfl) rfl rfl (aw_getAs (pc' := 124) (dt_X11_sort 74 (121, .getfield 31, 3) rfl) fl_ReturnDeskModel_31 rfl rfl (sk_31 hS.wI) (sa_31_11 hS.wI) (aw_iload_n (pc' := 125) (dt_X11_sort 75 (124, .iload_n 3, 1) rfl) rfl rfl (aw_dup2 (pc' := 126) (dt_X11_sort 76 (125, .dup2, 1) rfl) rfl rfl rfl (aw_iald (pc' := 127) (dt_X11_sort 77 (126, .iaload, 1) rfl) rfl (sk_39 hS.wI) (vin_eq (sl_39 hS.wI) g25) (aw_iconst (pc' := 128) (v := 1) (dt_X11_sort 78 (127, .iconst 1, 1) rfl) (by decide) rfl (aw_iadd (pc' := 129) (dt_X11_sort 79 (128, .iadd, 1) rfl) rfl (aw_iast (pc' := 130) (dt_X11_sort 80 (129, .iastore, 1) rfl) rfl (sk_39 hS.wI) (by decide) (vin_eq (sl_39 hS.wI) g26) (aw_aload_n (pc' := 131) (dt_X11_sort 81 (130, .aload_n 0, 1) rfl) rfl rfl (aw_dup (pc' := 132) (dt_X11_sort 82 (131, .dup, 1) rfl) rfl rfl (aw_getI (pc' := 135) (dt_X11_sort 83 (132, .getfield 212, 3) rfl) fl_ReturnDeskModel_212 rfl rfl (sk_31 hS.wI.wI) (aw_aload_n (pc' := 136) (dt_X11_sort 84 (135, .aload_n 0, 1) rfl) rfl rfl (aw_getAs (pc' := 139) (dt_X11_sort 85 (136, .getfield 13, 3) rfl) fl_ReturnDeskModel_13 rfl rfl (sk_31 hS.wI.wI) (sa_31_5 hS.wI.wI) (aw_iload_n (pc' := 140) (dt_X11_sort 86 (139, .iload_n 3, 1) rfl) rfl rfl (aw_iald (pc' := 141) (dt_X11_sort 87 (140, .iaload, 1) rfl) rfl (sk_33 hS.wI.wI) (vin_eq (sl_33 hS.wI.wI) g27) (aw_bipush (pc' := 143) (v := 100) (dt_X11_sort 88 (141, .bipush 100, 2) rfl) (by decide) rfl (aw_idiv (pc' := 144) (dt_X11_sort 89 (143, .idiv, 1) rfl) (by decide) rfl (aw_iadd (pc' := 145) (dt_X11_sort 90 (144, .iadd, 1) rfl) rfl (aw_putI (pc' := 148) (dt_X11_sort 91 (145, .putfield 212, 3) rfl) fl_ReturnDeskModel_212 rfl (by decide +kernel) rfl (sk_31 hS.wI.wI) ?_))))))))))))))))))
          refine aw_mem (fun μ28 eμ29 => ?_)
          have h := h μ28 eμ29
          have hS30 : Stat μ28 := by rw [eμ29]; exact hS.wI.wI.wI
          refine aw_goto (tgt := 240) (dt_X11_sort 92 (148, .goto 92, 3) rfl) (by decide) (aw_iload_n (pc' := 241) (dt_X11_sort 148 (240, .iload_n 2, 1) rfl) rfl rfl (aw_iret (dt_X11_sort 149 (241, .ireturn, 1) rfl) rfl rfl ?_))
          exact h
      · intro q6
        have h := h.2 q6
        obtain ⟨g31, h⟩ := h
        obtain ⟨g32, h⟩ := h
        refine aw_aload_n (pc' := 103) (dt_X11_sort 61 (102, .aload_n 0, 1) rfl) rfl rfl (aw_getAs (pc' := 106) (dt_X11_sort 62 (103, .getfield 28, 3) rfl) fl_ReturnDeskModel_28 rfl rfl (sk_31 hS.wI) (sa_31_10 hS.wI) (aw_iload_n (pc' := 107) (dt_X11_sort 63 (106, .iload_n 3, 1) rfl) rfl rfl (aw_dup2 (pc' := 108) (dt_X11_sort 64 (107, .dup2, 1) rfl) rfl rfl rfl (aw_iald (pc' := 109) (dt_X11_sort 65 (108, .iaload, 1) rfl) rfl (sk_38 hS.wI) (vin_eq (sl_38 hS.wI) g31) (aw_iconst (pc' := 110) (v := 1) (dt_X11_sort 66 (109, .iconst 1, 1) rfl) (by decide) rfl (aw_iadd (pc' := 111) (dt_X11_sort 67 (110, .iadd, 1) rfl) rfl (aw_iast (pc' := 112) (dt_X11_sort 68 (111, .iastore, 1) rfl) rfl (sk_38 hS.wI) (by decide) (vin_eq (sl_38 hS.wI) g32) (aw_goto (tgt := 240) (dt_X11_sort 69 (112, .goto 128, 3) rfl) (by decide) (aw_iload_n (pc' := 241) (dt_X11_sort 148 (240, .iload_n 2, 1) rfl) rfl rfl (aw_iret (dt_X11_sort 149 (241, .ireturn, 1) rfl) rfl rfl ?_))))))))))
        exact h
    · intro q4
      have h := h.2 q4
      obtain ⟨g33, h⟩ := h
      refine aw_aload_n (pc' := 76) (dt_X11_sort 45 (75, .aload_n 0, 1) rfl) rfl rfl (aw_getAs (pc' := 79) (dt_X11_sort 46 (76, .getfield 16, 3) rfl) fl_ReturnDeskModel_16 rfl rfl (sk_31 hS) (sa_31_6 hS) (aw_iload_n (pc' := 80) (dt_X11_sort 47 (79, .iload_n 3, 1) rfl) rfl rfl (aw_iald (pc' := 81) (dt_X11_sort 48 (80, .iaload, 1) rfl) rfl (sk_34 hS) (vin_eq (sl_34 hS) g33) (aw_aload_n (pc' := 82) (dt_X11_sort 49 (81, .aload_n 0, 1) rfl) rfl rfl (aw_getI (pc' := 85) (dt_X11_sort 50 (82, .getfield 212, 3) rfl) fl_ReturnDeskModel_212 rfl rfl (sk_31 hS) (aw_icmp_le (pc' := 88) (tgt := 91) (dt_X11_sort 51 (85, .if_icmp .le 6, 3) rfl) (by decide) rfl ?_ ?_))))))
      · intro q34
        have h := h.1 q34
        obtain ⟨g35, h⟩ := h
        refine aw_aload_n (pc' := 92) (dt_X11_sort 54 (91, .aload_n 0, 1) rfl) rfl rfl (aw_getAs (pc' := 95) (dt_X11_sort 55 (92, .getfield 95, 3) rfl) fl_ReturnDeskModel_95 rfl rfl (sk_31 hS) (sa_31_35 hS) (aw_iload_n (pc' := 96) (dt_X11_sort 56 (95, .iload_n 1, 1) rfl) rfl rfl (aw_iconst (pc' := 97) (v := 0) (dt_X11_sort 57 (96, .iconst 0, 1) rfl) (by decide) rfl (aw_zast (pc' := 98) (dt_X11_sort 58 (97, .bastore, 1) rfl) rfl (sk_60 hS) (by decide) (vin_eq (sl_60 hS) g35) (by decide) (aw_iload_n (pc' := 99) (dt_X11_sort 59 (98, .iload_n 2, 1) rfl) rfl rfl (aw_if_ne (pc' := 102) (tgt := 115) (dt_X11_sort 60 (99, .ifCond .ne 16, 3) rfl) (by decide) rfl ?_ ?_))))))
        · intro q36
          have h := h.1 q36
          refine aw_iload_n (pc' := 116) (dt_X11_sort 70 (115, .iload_n 2, 1) rfl) rfl rfl (aw_iconst (pc' := 117) (v := 3) (dt_X11_sort 71 (116, .iconst 3, 1) rfl) (by decide) rfl (aw_icmp_ne (pc' := 120) (tgt := 151) (dt_X11_sort 72 (117, .if_icmp .ne 34, 3) rfl) (by decide) rfl ?_ ?_))
          · intro q37
            have h := h.1 q37
            obtain ⟨g38, h⟩ := h
            refine aw_aload_n (pc' := 152) (dt_X11_sort 93 (151, .aload_n 0, 1) rfl) rfl rfl (aw_getAs (pc' := 155) (dt_X11_sort 94 (152, .getfield 40, 3) rfl) fl_ReturnDeskModel_40 rfl rfl (sk_31 hS.wI) (sa_31_15 hS.wI) (aw_aload_n (pc' := 156) (dt_X11_sort 95 (155, .aload_n 0, 1) rfl) rfl rfl (aw_getI (pc' := 159) (dt_X11_sort 96 (156, .getfield 419, 3) rfl) fl_ReturnDeskModel_419 rfl rfl (sk_31 hS.wI) (aw_iload_n (pc' := 160) (dt_X11_sort 97 (159, .iload_n 3, 1) rfl) rfl rfl (aw_iast (pc' := 161) (dt_X11_sort 98 (160, .iastore, 1) rfl) rfl (sk_42 hS.wI) (by decide) (vin_eq (sl_42 hS.wI) g38) (aw_aload_n (pc' := 162) (dt_X11_sort 99 (161, .aload_n 0, 1) rfl) rfl rfl (aw_getAs (pc' := 165) (dt_X11_sort 100 (162, .getfield 43, 3) rfl) fl_ReturnDeskModel_43 rfl rfl (sk_31 hS.wI.wI) (sa_31_16 hS.wI.wI) (aw_aload_n (pc' := 166) (dt_X11_sort 101 (165, .aload_n 0, 1) rfl) rfl rfl (aw_getI (pc' := 169) (dt_X11_sort 102 (166, .getfield 419, 3) rfl) fl_ReturnDeskModel_419 rfl rfl (sk_31 hS.wI.wI) (aw_aload_n (pc' := 170) (dt_X11_sort 103 (169, .aload_n 0, 1) rfl) rfl rfl (aw_iload_n (pc' := 171) (dt_X11_sort 104 (170, .iload_n 1, 1) rfl) rfl rfl (aw_callV0 (pc' := 174) (nc := nc) (ns := ns) (y2 := mX11_wornOf) (As := [.int x1]) (rest := [.int (zI (sI (sI μ 60 x1.toNatClampNeg 0) 42 (zI (sI μ 60 x1.toNatClampNeg 0) 31 14).toNatClampNeg (zI μ 45 (zI μ 49 x1.toNatClampNeg).toNatClampNeg)) 31 14), .ref 43]) (a := 31) (dt_X11_sort 105 (171, .invokevirtual 425, 3) rfl) ok_X11_wornOf ln_ReturnDeskModel_425 im_X11_wornOf se_X11_wornOf pr_X11_wornOf (Or.inl ⟨by decide, rfl⟩) rfl (Nat.le_of_ble_eq_true rfl) (Nat.le_of_ble_eq_true rfl) rfl (sk_31 hS.wI.wI) h ?_))))))))))))
            rintro v μ39 ⟨r41, rfl, hS40, h⟩
            refine aw_stk (st' := [.int r41, .int (zI (sI (sI μ 60 x1.toNatClampNeg 0) 42 (zI (sI μ 60 x1.toNatClampNeg 0) 31 14).toNatClampNeg (zI μ 45 (zI μ 49 x1.toNatClampNeg).toNatClampNeg)) 31 14), .ref 43]) rfl ?_
            obtain ⟨g42, h⟩ := h
            obtain ⟨g43, h⟩ := h
            refine aw_iast (pc' := 175) (dt_X11_sort 106 (174, .iastore, 1) rfl) rfl (sk_43 hS40) (by decide) (vin_eq (sl_43 hS40) g42) (aw_aload_n (pc' := 176) (dt_X11_sort 107 (175, .aload_n 0, 1) rfl) rfl rfl (aw_getAs (pc' := 179) (dt_X11_sort 108 (176, .getfield 46, 3) rfl) fl_ReturnDeskModel_46 rfl rfl (sk_31 hS40.wI) (sa_31_17 hS40.wI) (aw_aload_n (pc' := 180) (dt_X11_sort 109 (179, .aload_n 0, 1) rfl) rfl rfl (aw_getI (pc' := 183) (dt_X11_sort 110 (180, .getfield 419, 3) rfl) fl_ReturnDeskModel_419 rfl rfl (sk_31 hS40.wI) (aw_iconst (pc' := 184) (v := 1) (dt_X11_sort 111 (183, .iconst 1, 1) rfl) (by decide) rfl (aw_zast (pc' := 185) (dt_X11_sort 112 (184, .bastore, 1) rfl) rfl (sk_44 hS40.wI) (by decide) (vin_eq (sl_44 hS40.wI) g43) (by decide) ?_))))))
            refine aw_mem (fun μ44 eμ45 => ?_)
            have h := h μ44 eμ45
            have hS46 : Stat μ44 := by rw [eμ45]; exact hS40.wI.wI
            refine aw_aload_n (pc' := 186) (dt_X11_sort 113 (185, .aload_n 0, 1) rfl) rfl rfl (aw_dup (pc' := 187) (dt_X11_sort 114 (186, .dup, 1) rfl) rfl rfl (aw_getI (pc' := 190) (dt_X11_sort 115 (187, .getfield 419, 3) rfl) fl_ReturnDeskModel_419 rfl rfl (sk_31 hS46) (aw_iconst (pc' := 191) (v := 1) (dt_X11_sort 116 (190, .iconst 1, 1) rfl) (by decide) rfl (aw_iadd (pc' := 192) (dt_X11_sort 117 (191, .iadd, 1) rfl) rfl (aw_putI (pc' := 195) (dt_X11_sort 118 (192, .putfield 419, 3) rfl) fl_ReturnDeskModel_419 rfl (by decide +kernel) rfl (sk_31 hS46) (aw_iload_n (pc' := 196) (dt_X11_sort 119 (195, .iload_n 2, 1) rfl) rfl rfl (aw_iconst (pc' := 197) (v := 2) (dt_X11_sort 120 (196, .iconst 2, 1) rfl) (by decide) rfl (aw_icmp_ne (pc' := 200) (tgt := 240) (dt_X11_sort 121 (197, .if_icmp .ne 43, 3) rfl) (by decide) rfl ?_ ?_))))))))
            · intro q47
              have h := h.1 q47
              refine aw_iload_n (pc' := 241) (dt_X11_sort 148 (240, .iload_n 2, 1) rfl) rfl rfl (aw_iret (dt_X11_sort 149 (241, .ireturn, 1) rfl) rfl rfl ?_)
              exact h
            · intro q47
              have h := h.2 q47
              obtain ⟨g48, h⟩ := h
              obtain ⟨g49, h⟩ := h
              refine aw_aload_n (pc' := 201) (dt_X11_sort 122 (200, .aload_n 0, 1) rfl) rfl rfl (aw_dup (pc' := 202) (dt_X11_sort 123 (201, .dup, 1) rfl) rfl rfl (aw_getI (pc' := 205) (dt_X11_sort 124 (202, .getfield 212, 3) rfl) fl_ReturnDeskModel_212 rfl rfl (sk_31 hS46.wI) (aw_aload_n (pc' := 206) (dt_X11_sort 125 (205, .aload_n 0, 1) rfl) rfl rfl (aw_getAs (pc' := 209) (dt_X11_sort 126 (206, .getfield 16, 3) rfl) fl_ReturnDeskModel_16 rfl rfl (sk_31 hS46.wI) (sa_31_6 hS46.wI) (aw_iload_n (pc' := 210) (dt_X11_sort 127 (209, .iload_n 3, 1) rfl) rfl rfl (aw_iald (pc' := 211) (dt_X11_sort 128 (210, .iaload, 1) rfl) rfl (sk_34 hS46.wI) (vin_eq (sl_34 hS46.wI) g48) (aw_isub (pc' := 212) (dt_X11_sort 129 (211, .isub, 1) rfl) rfl (aw_putI (pc' := 215) (dt_X11_sort 130 (212, .putfield 212, 3) rfl) fl_ReturnDeskModel_212 rfl (by decide +kernel) rfl (sk_31 hS46.wI) (aw_aload_n (pc' := 216) (dt_X11_sort 131 (215, .aload_n 0, 1) rfl) rfl rfl (aw_dup (pc' := 217) (dt_X11_sort 132 (216, .dup, 1) rfl) rfl rfl (aw_getI (pc' := 220) (dt_X11_sort 133 (217, .getfield 410, 3) rfl) fl_ReturnDeskModel_410 rfl rfl (sk_31 hS46.wI.wI) (aw_aload_n (pc' := 221) (dt_X11_sort 134 (220, .aload_n 0, 1) rfl) rfl rfl (aw_getAs (pc' := 224) (dt_X11_sort 135 (221, .getfield 16, 3) rfl) fl_ReturnDeskModel_16 rfl rfl (sk_31 hS46.wI.wI) (sa_31_6 hS46.wI.wI) (aw_iload_n (pc' := 225) (dt_X11_sort 136 (224, .iload_n 3, 1) rfl) rfl rfl (aw_iald (pc' := 226) (dt_X11_sort 137 (225, .iaload, 1) rfl) rfl (sk_34 hS46.wI.wI) (vin_eq (sl_34 hS46.wI.wI) g49) (aw_iadd (pc' := 227) (dt_X11_sort 138 (226, .iadd, 1) rfl) rfl (aw_putI (pc' := 230) (dt_X11_sort 139 (227, .putfield 410, 3) rfl) fl_ReturnDeskModel_410 rfl (by decide +kernel) rfl (sk_31 hS46.wI.wI) ?_)))))))))))))))))
              refine aw_mem (fun μ50 eμ51 => ?_)
              have h := h μ50 eμ51
              have hS52 : Stat μ50 := by rw [eμ51]; exact hS46.wI.wI.wI
              obtain ⟨g53, h⟩ := h
              obtain ⟨g54, h⟩ := h
              refine aw_aload_n (pc' := 231) (dt_X11_sort 140 (230, .aload_n 0, 1) rfl) rfl rfl (aw_getAs (pc' := 234) (dt_X11_sort 141 (231, .getfield 34, 3) rfl) fl_ReturnDeskModel_34 rfl rfl (sk_31 hS52) (sa_31_12 hS52) (aw_iload_n (pc' := 235) (dt_X11_sort 142 (234, .iload_n 3, 1) rfl) rfl rfl (aw_dup2 (pc' := 236) (dt_X11_sort 143 (235, .dup2, 1) rfl) rfl rfl rfl (aw_iald (pc' := 237) (dt_X11_sort 144 (236, .iaload, 1) rfl) rfl (sk_40 hS52) (vin_eq (sl_40 hS52) g53) (aw_iconst (pc' := 238) (v := 1) (dt_X11_sort 145 (237, .iconst 1, 1) rfl) (by decide) rfl (aw_iadd (pc' := 239) (dt_X11_sort 146 (238, .iadd, 1) rfl) rfl (aw_iast (pc' := 240) (dt_X11_sort 147 (239, .iastore, 1) rfl) rfl (sk_40 hS52) (by decide) (vin_eq (sl_40 hS52) g54) (aw_iload_n (pc' := 241) (dt_X11_sort 148 (240, .iload_n 2, 1) rfl) rfl rfl (aw_iret (dt_X11_sort 149 (241, .ireturn, 1) rfl) rfl rfl ?_)))))))))
              exact h
          · intro q37
            have h := h.2 q37
            obtain ⟨g55, h⟩ := h
            obtain ⟨g56, h⟩ := h
            obtain ⟨g57, h⟩ := h
            refine aw_aload_n (pc' := 121) (dt_X11_sort 73 (120, .aload_n 0, 1) rfl) rfl rfl (aw_getAs (pc' := 124) (dt_X11_sort 74 (121, .getfield 31, 3) rfl) fl_ReturnDeskModel_31 rfl rfl (sk_31 hS.wI) (sa_31_11 hS.wI) (aw_iload_n (pc' := 125) (dt_X11_sort 75 (124, .iload_n 3, 1) rfl) rfl rfl (aw_dup2 (pc' := 126) (dt_X11_sort 76 (125, .dup2, 1) rfl) rfl rfl rfl (aw_iald (pc' := 127) (dt_X11_sort 77 (126, .iaload, 1) rfl) rfl (sk_39 hS.wI) (vin_eq (sl_39 hS.wI) g55) (aw_iconst (pc' := 128) (v := 1) (dt_X11_sort 78 (127, .iconst 1, 1) rfl) (by decide) rfl (aw_iadd (pc' := 129) (dt_X11_sort 79 (128, .iadd, 1) rfl) rfl (aw_iast (pc' := 130) (dt_X11_sort 80 (129, .iastore, 1) rfl) rfl (sk_39 hS.wI) (by decide) (vin_eq (sl_39 hS.wI) g56) (aw_aload_n (pc' := 131) (dt_X11_sort 81 (130, .aload_n 0, 1) rfl) rfl rfl (aw_dup (pc' := 132) (dt_X11_sort 82 (131, .dup, 1) rfl) rfl rfl (aw_getI (pc' := 135) (dt_X11_sort 83 (132, .getfield 212, 3) rfl) fl_ReturnDeskModel_212 rfl rfl (sk_31 hS.wI.wI) (aw_aload_n (pc' := 136) (dt_X11_sort 84 (135, .aload_n 0, 1) rfl) rfl rfl (aw_getAs (pc' := 139) (dt_X11_sort 85 (136, .getfield 13, 3) rfl) fl_ReturnDeskModel_13 rfl rfl (sk_31 hS.wI.wI) (sa_31_5 hS.wI.wI) (aw_iload_n (pc' := 140) (dt_X11_sort 86 (139, .iload_n 3, 1) rfl) rfl rfl (aw_iald (pc' := 141) (dt_X11_sort 87 (140, .iaload, 1) rfl) rfl (sk_33 hS.wI.wI) (vin_eq (sl_33 hS.wI.wI) g57) (aw_bipush (pc' := 143) (v := 100) (dt_X11_sort 88 (141, .bipush 100, 2) rfl) (by decide) rfl (aw_idiv (pc' := 144) (dt_X11_sort 89 (143, .idiv, 1) rfl) (by decide) rfl (aw_iadd (pc' := 145) (dt_X11_sort 90 (144, .iadd, 1) rfl) rfl (aw_putI (pc' := 148) (dt_X11_sort 91 (145, .putfield 212, 3) rfl) fl_ReturnDeskModel_212 rfl (by decide +kernel) rfl (sk_31 hS.wI.wI) ?_))))))))))))))))))
            refine aw_mem (fun μ58 eμ59 => ?_)
            have h := h μ58 eμ59
            have hS60 : Stat μ58 := by rw [eμ59]; exact hS.wI.wI.wI
            refine aw_goto (tgt := 240) (dt_X11_sort 92 (148, .goto 92, 3) rfl) (by decide) (aw_iload_n (pc' := 241) (dt_X11_sort 148 (240, .iload_n 2, 1) rfl) rfl rfl (aw_iret (dt_X11_sort 149 (241, .ireturn, 1) rfl) rfl rfl ?_))
            exact h
        · intro q36
          have h := h.2 q36
          obtain ⟨g61, h⟩ := h
          obtain ⟨g62, h⟩ := h
          refine aw_aload_n (pc' := 103) (dt_X11_sort 61 (102, .aload_n 0, 1) rfl) rfl rfl (aw_getAs (pc' := 106) (dt_X11_sort 62 (103, .getfield 28, 3) rfl) fl_ReturnDeskModel_28 rfl rfl (sk_31 hS.wI) (sa_31_10 hS.wI) (aw_iload_n (pc' := 107) (dt_X11_sort 63 (106, .iload_n 3, 1) rfl) rfl rfl (aw_dup2 (pc' := 108) (dt_X11_sort 64 (107, .dup2, 1) rfl) rfl rfl rfl (aw_iald (pc' := 109) (dt_X11_sort 65 (108, .iaload, 1) rfl) rfl (sk_38 hS.wI) (vin_eq (sl_38 hS.wI) g61) (aw_iconst (pc' := 110) (v := 1) (dt_X11_sort 66 (109, .iconst 1, 1) rfl) (by decide) rfl (aw_iadd (pc' := 111) (dt_X11_sort 67 (110, .iadd, 1) rfl) rfl (aw_iast (pc' := 112) (dt_X11_sort 68 (111, .iastore, 1) rfl) rfl (sk_38 hS.wI) (by decide) (vin_eq (sl_38 hS.wI) g62) (aw_goto (tgt := 240) (dt_X11_sort 69 (112, .goto 128, 3) rfl) (by decide) (aw_iload_n (pc' := 241) (dt_X11_sort 148 (240, .iload_n 2, 1) rfl) rfl rfl (aw_iret (dt_X11_sort 149 (241, .ireturn, 1) rfl) rfl rfl ?_))))))))))
          exact h
      · intro q34
        have h := h.2 q34
        refine aw_bipush (pc' := 90) (v := (-2)) (dt_X11_sort 52 (88, .bipush (-2), 2) rfl) (by decide) rfl (aw_iret (dt_X11_sort 53 (90, .ireturn, 1) rfl) rfl rfl ?_)
        exact h
  · intro q1
    have h := h.2 q1
    refine aw_aload_n (pc' := 31) (dt_X11_sort 19 (30, .aload_n 0, 1) rfl) rfl rfl (aw_iload_n (pc' := 32) (dt_X11_sort 20 (31, .iload_n 1, 1) rfl) rfl rfl (aw_iload_n (pc' := 33) (dt_X11_sort 21 (32, .iload_n 3, 1) rfl) rfl rfl (aw_callV0 (pc' := 36) (nc := nc) (ns := ns) (y2 := mX11_worthBy) (As := [.int x1, .int x3]) (rest := []) (a := 31) (dt_X11_sort 22 (33, .invokevirtual 431, 3) rfl) ok_X11_worthBy ln_ReturnDeskModel_431 im_X11_worthBy se_X11_worthBy pr_X11_worthBy (Or.inl ⟨by decide, rfl⟩) rfl (Nat.le_of_ble_eq_true rfl) (Nat.le_of_ble_eq_true rfl) rfl (sk_31 hS) h ?_)))
    rintro v μ63 ⟨r65, rfl, hS64, h⟩
    refine aw_stk (st' := [.int r65]) rfl ?_
    refine aw_ldc (pc' := 38) (dt_X11_sort 23 (36, .ldc 235, 2) rfl) ct_ReturnDeskModel_235 rfl (aw_icmp_eq (pc' := 41) (tgt := 58) (dt_X11_sort 24 (38, .if_icmp .eq 20, 3) rfl) (by decide) rfl ?_ ?_)
    · intro q66
      have h := h.1 q66
      refine aw_iinc (pc' := 61) (v := (-1)) (ls' := [some (.ref 31), some (.int x1), some (.int x2), some (.int (x3 + (-1)))]) (dt_X11_sort 36 (58, .iinc 3 (-1), 3) rfl) rfl (by decide) (by decide) rfl rfl (aw_goto (tgt := 26) (dt_X11_sort 37 (61, .goto (-35), 3) rfl) (by decide) ?_)
      exact h
    · intro q66
      have h := h.2 q66
      refine aw_aload_n (pc' := 42) (dt_X11_sort 25 (41, .aload_n 0, 1) rfl) rfl rfl (aw_iload_n (pc' := 43) (dt_X11_sort 26 (42, .iload_n 1, 1) rfl) rfl rfl (aw_iload_n (pc' := 44) (dt_X11_sort 27 (43, .iload_n 3, 1) rfl) rfl rfl (aw_callV0 (pc' := 47) (nc := nc) (ns := ns) (y2 := mX11_worthBy) (As := [.int x1, .int x3]) (rest := []) (a := 31) (dt_X11_sort 28 (44, .invokevirtual 431, 3) rfl) ok_X11_worthBy ln_ReturnDeskModel_431 im_X11_worthBy se_X11_worthBy pr_X11_worthBy (Or.inl ⟨by decide, rfl⟩) rfl (Nat.le_of_ble_eq_true rfl) (Nat.le_of_ble_eq_true rfl) rfl (sk_31 hS64) h ?_)))
      rintro v μ67 ⟨r69, rfl, hS68, h⟩
      refine aw_stk (st' := [.int r69]) rfl ?_
      refine aw_aload_n (pc' := 48) (dt_X11_sort 29 (47, .aload_n 0, 1) rfl) rfl rfl (aw_iload_n (pc' := 49) (dt_X11_sort 30 (48, .iload_n 1, 1) rfl) rfl rfl (aw_iload_n (pc' := 50) (dt_X11_sort 31 (49, .iload_n 2, 1) rfl) rfl rfl (aw_callV0 (pc' := 53) (nc := nc) (ns := ns) (y2 := mX11_worthBy) (As := [.int x1, .int x2]) (rest := [.int r69]) (a := 31) (dt_X11_sort 32 (50, .invokevirtual 431, 3) rfl) ok_X11_worthBy ln_ReturnDeskModel_431 im_X11_worthBy se_X11_worthBy pr_X11_worthBy (Or.inl ⟨by decide, rfl⟩) rfl (Nat.le_of_ble_eq_true rfl) (Nat.le_of_ble_eq_true rfl) rfl (sk_31 hS68) h ?_)))
      rintro v μ70 ⟨r72, rfl, hS71, h⟩
      refine aw_stk (st' := [.int r72, .int r69]) rfl ?_
      refine aw_icmp_lt (pc' := 56) (tgt := 58) (dt_X11_sort 33 (53, .if_icmp .lt 5, 3) rfl) (by decide) rfl ?_ ?_
      · intro q73
        have h := h.1 q73
        refine aw_iinc (pc' := 61) (v := (-1)) (ls' := [some (.ref 31), some (.int x1), some (.int x2), some (.int (x3 + (-1)))]) (dt_X11_sort 36 (58, .iinc 3 (-1), 3) rfl) rfl (by decide) (by decide) rfl rfl (aw_goto (tgt := 26) (dt_X11_sort 37 (61, .goto (-35), 3) rfl) (by decide) ?_)
        exact h
      · intro q73
        have h := h.2 q73
        refine aw_iload_n (pc' := 57) (dt_X11_sort 34 (56, .iload_n 3, 1) rfl) rfl rfl (aw_istore_n (pc' := 58) (ls' := [some (.ref 31), some (.int x1), some (.int x3), some (.int x3)]) (dt_X11_sort 35 (57, .istore_n 2, 1) rfl) (by decide) rfl rfl (aw_iinc (pc' := 61) (v := (-1)) (ls' := [some (.ref 31), some (.int x1), some (.int x3), some (.int (x3 + (-1)))]) (dt_X11_sort 36 (58, .iinc 3 (-1), 3) rfl) rfl (by decide) (by decide) rfl rfl (aw_goto (tgt := 26) (dt_X11_sort 37 (61, .goto (-35), 3) rfl) (by decide) ?_)))
        exact h

theorem t_X11_sellUsed {E : ZE} {l : Launch} {d nc ns : Nat} {x1 : Int32} {μ : ZM} {K : Option Value → ZM → Prop} (hS : Stat μ) (h :
  (x1 < 0 →
    K (some (.int (-1))) μ) ∧
  (¬ x1 < 0 →
    (((zI μ 31 3) - 1) < x1 →
      K (some (.int (-1))) μ) ∧
    (¬ ((zI μ 31 3) - 1) < x1 →
      AW E l (d + 2) nc ns mX11_sellUsed 12 [some (.ref 31), some (.int x1), some (.int 0), none] [] μ K))) : AW E l (d + 2) nc ns mX11_sellUsed 0 [some (.ref 31), some (.int x1), none, none] [] μ K := by
  refine aw_aload_n (pc' := 1) (dt_X11_sellUsed 0 (0, .aload_n 0, 1) rfl) rfl rfl (aw_iload_n (pc' := 2) (dt_X11_sellUsed 1 (1, .iload_n 1, 1) rfl) rfl rfl (aw_inV (pc' := 5) (nc1 := 0) (ns1 := 0) (nc := nc) (ns := ns) (ls' := [some (.ref 31), some (.int x1)]) (y2 := mX11_isModel) (As := [.int x1]) (rest := []) (a := 31) (dt_X11_sellUsed 2 (2, .invokevirtual 199, 3) rfl) ok_X11_isModel ln_ReturnDeskModel_199 im_X11_isModel se_X11_isModel pr_X11_isModel (Or.inl ⟨by decide, rfl⟩) rfl (Nat.le_of_ble_eq_true rfl) (Nat.le_of_ble_eq_true rfl) rfl rfl (sk_31 hS) (aw_iload_n (pc' := 1) (dt_X11_isModel 0 (0, .iload_n 1, 1) rfl) rfl rfl (aw_iconst (pc' := 2) (v := 0) (dt_X11_isModel 1 (1, .iconst 0, 1) rfl) (by decide) rfl (aw_aload_n (pc' := 3) (dt_X11_isModel 2 (2, .aload_n 0, 1) rfl) rfl rfl (aw_getI (pc' := 6) (dt_X11_isModel 3 (3, .getfield 192, 3) rfl) fl_ReturnDeskModel_192 rfl rfl (sk_31 hS) (aw_iconst (pc' := 7) (v := 1) (dt_X11_isModel 4 (6, .iconst 1, 1) rfl) (by decide) rfl (aw_isub (pc' := 8) (dt_X11_isModel 5 (7, .isub, 1) rfl) rfl (aw_inS (pc' := 11) (nc1 := 0) (ns1 := 0) (nc := 0) (ns := 0) (ls' := [some (.int x1), some (.int 0), some (.int ((zI μ 31 3) - 1))]) (y2 := mX11_in) (As := [.int x1, .int 0, .int ((zI μ 31 3) - 1)]) (rest := []) (dt_X11_isModel 6 (8, .invokestatic 185, 3) rfl) ok_X11_in ln_ReturnDeskModel_185 sm_X11_in pr_X11_in rfl (Nat.le_of_ble_eq_true rfl) (Nat.le_of_ble_eq_true rfl) rfl rfl (aw_iload_n (pc' := 1) (dt_X11_in 0 (0, .iload_n 0, 1) rfl) rfl rfl (aw_iload_n (pc' := 2) (dt_X11_in 1 (1, .iload_n 1, 1) rfl) rfl rfl (aw_icmp_lt (pc' := 5) (tgt := 14) (dt_X11_in 2 (2, .if_icmp .lt 12, 3) rfl) (by decide) rfl ?_ ?_))))))))))))
  · intro q1
    have h := h.1 q1
    refine aw_iconst (pc' := 15) (v := 0) (dt_X11_in 8 (14, .iconst 0, 1) rfl) (by decide) rfl (aw_iret (dt_X11_in 9 (15, .ireturn, 1) rfl) rfl rfl (aw_stk (st' := [.int 0]) rfl (aw_iret (dt_X11_isModel 7 (11, .ireturn, 1) rfl) rfl rfl (aw_stk (st' := [.int 0]) rfl (aw_if_ne_F (pc' := 8) (tgt := 10) (dt_X11_sellUsed 3 (5, .ifCond .ne 5, 3) rfl) (by decide) rfl (by decide) (aw_iconst (pc' := 9) (v := (-1)) (dt_X11_sellUsed 4 (8, .iconst (-1), 1) rfl) (by decide) rfl (aw_iret (dt_X11_sellUsed 5 (9, .ireturn, 1) rfl) rfl rfl ?_)))))))
    exact h
  · intro q1
    have h := h.2 q1
    refine aw_iload_n (pc' := 6) (dt_X11_in 3 (5, .iload_n 0, 1) rfl) rfl rfl (aw_iload_n (pc' := 7) (dt_X11_in 4 (6, .iload_n 2, 1) rfl) rfl rfl (aw_icmp_gt (pc' := 10) (tgt := 14) (dt_X11_in 5 (7, .if_icmp .gt 7, 3) rfl) (by decide) rfl ?_ ?_))
    · intro q2
      have h := h.1 q2
      refine aw_iconst (pc' := 15) (v := 0) (dt_X11_in 8 (14, .iconst 0, 1) rfl) (by decide) rfl (aw_iret (dt_X11_in 9 (15, .ireturn, 1) rfl) rfl rfl (aw_stk (st' := [.int 0]) rfl (aw_iret (dt_X11_isModel 7 (11, .ireturn, 1) rfl) rfl rfl (aw_stk (st' := [.int 0]) rfl (aw_if_ne_F (pc' := 8) (tgt := 10) (dt_X11_sellUsed 3 (5, .ifCond .ne 5, 3) rfl) (by decide) rfl (by decide) (aw_iconst (pc' := 9) (v := (-1)) (dt_X11_sellUsed 4 (8, .iconst (-1), 1) rfl) (by decide) rfl (aw_iret (dt_X11_sellUsed 5 (9, .ireturn, 1) rfl) rfl rfl ?_)))))))
      exact h
    · intro q2
      have h := h.2 q2
      refine aw_iconst (pc' := 11) (v := 1) (dt_X11_in 6 (10, .iconst 1, 1) rfl) (by decide) rfl (aw_goto (tgt := 15) (dt_X11_in 7 (11, .goto 4, 3) rfl) (by decide) (aw_iret (dt_X11_in 9 (15, .ireturn, 1) rfl) rfl rfl (aw_stk (st' := [.int 1]) rfl (aw_iret (dt_X11_isModel 7 (11, .ireturn, 1) rfl) rfl rfl (aw_stk (st' := [.int 1]) rfl (aw_if_ne_T (pc' := 8) (tgt := 10) (dt_X11_sellUsed 3 (5, .ifCond .ne 5, 3) rfl) (by decide) rfl (by decide) (aw_iconst (pc' := 11) (v := 0) (dt_X11_sellUsed 6 (10, .iconst 0, 1) rfl) (by decide) rfl (aw_istore_n (pc' := 12) (ls' := [some (.ref 31), some (.int x1), some (.int 0), none]) (dt_X11_sellUsed 7 (11, .istore_n 2, 1) rfl) (by decide) rfl rfl ?_))))))))
      exact h

theorem t_X11_sellUsed_12 {E : ZE} {l : Launch} {d nc ns : Nat} {x1 : Int32} {x2 : Int32} {μ : ZM} {K : Option Value → ZM → Prop} (hS : Stat μ) (h :
  ((zI μ 31 14) ≤ x2 →
    K (some (.int (-2))) μ) ∧
  (¬ (zI μ 31 14) ≤ x2 →
    (vp_in x2 300) ∧
    (¬ (zI μ 42 x2.toNatClampNeg) = x1 →
      AW E l (d + 2) nc ns mX11_sellUsed 12 [some (.ref 31), some (.int x1), some (.int (x2 + 1)), none] [] μ K) ∧
    ((zI μ 42 x2.toNatClampNeg) = x1 →
      (vp_in x2 300) ∧
      (¬ (zI μ 44 x2.toNatClampNeg) = 0 →
        (vp_in x2 300) ∧
        (vp_in x1 20) ∧
        (vp_in x1 20) ∧
        (vp_in x2 300) ∧
        AW E l (d + 1) 0 0 mX11_asUsed 0 (zargs 3 [.ref 31, .int x1, .int (zI (sI (sI μ 44 x2.toNatClampNeg 0) 41 x1.toNatClampNeg ((zI (sI μ 44 x2.toNatClampNeg 0) 41 x1.toNatClampNeg) + 1)) 43 x2.toNatClampNeg)]) [] (sI (sI μ 44 x2.toNatClampNeg 0) 41 x1.toNatClampNeg ((zI (sI μ 44 x2.toNatClampNeg 0) 41 x1.toNatClampNeg) + 1)) (fun v μ10 => ∃ r12 : Int32, v = some (.int r12) ∧ Stat μ10 ∧ 
          K (some (.int r12)) (sI μ10 31 2 ((zI μ10 31 2) + r12)))) ∧
      ((zI μ 44 x2.toNatClampNeg) = 0 →
        AW E l (d + 2) nc ns mX11_sellUsed 12 [some (.ref 31), some (.int x1), some (.int (x2 + 1)), none] [] μ K)))) : AW E l (d + 2) nc ns mX11_sellUsed 12 [some (.ref 31), some (.int x1), some (.int x2), none] [] μ K := by
  refine aw_iload_n (pc' := 13) (dt_X11_sellUsed 8 (12, .iload_n 2, 1) rfl) rfl rfl (aw_aload_n (pc' := 14) (dt_X11_sellUsed 9 (13, .aload_n 0, 1) rfl) rfl rfl (aw_getI (pc' := 17) (dt_X11_sellUsed 10 (14, .getfield 419, 3) rfl) fl_ReturnDeskModel_419 rfl rfl (sk_31 hS) (aw_icmp_ge (pc' := 20) (tgt := 89) (dt_X11_sellUsed 11 (17, .if_icmp .ge 72, 3) rfl) (by decide) rfl ?_ ?_)))
  · intro q1
    have h := h.1 q1
    refine aw_bipush (pc' := 91) (v := (-2)) (dt_X11_sellUsed 55 (89, .bipush (-2), 2) rfl) (by decide) rfl (aw_iret (dt_X11_sellUsed 56 (91, .ireturn, 1) rfl) rfl rfl ?_)
    exact h
  · intro q1
    have h := h.2 q1
    obtain ⟨g2, h⟩ := h
    refine aw_aload_n (pc' := 21) (dt_X11_sellUsed 12 (20, .aload_n 0, 1) rfl) rfl rfl (aw_getAs (pc' := 24) (dt_X11_sellUsed 13 (21, .getfield 40, 3) rfl) fl_ReturnDeskModel_40 rfl rfl (sk_31 hS) (sa_31_15 hS) (aw_iload_n (pc' := 25) (dt_X11_sellUsed 14 (24, .iload_n 2, 1) rfl) rfl rfl (aw_iald (pc' := 26) (dt_X11_sellUsed 15 (25, .iaload, 1) rfl) rfl (sk_42 hS) (vin_eq (sl_42 hS) g2) (aw_iload_n (pc' := 27) (dt_X11_sellUsed 16 (26, .iload_n 1, 1) rfl) rfl rfl (aw_icmp_ne (pc' := 30) (tgt := 83) (dt_X11_sellUsed 17 (27, .if_icmp .ne 56, 3) rfl) (by decide) rfl ?_ ?_)))))
    · intro q3
      have h := h.1 q3
      refine aw_iinc (pc' := 86) (v := 1) (ls' := [some (.ref 31), some (.int x1), some (.int (x2 + 1)), none]) (dt_X11_sellUsed 53 (83, .iinc 2 1, 3) rfl) rfl (by decide) (by decide) rfl rfl (aw_goto (tgt := 12) (dt_X11_sellUsed 54 (86, .goto (-74), 3) rfl) (by decide) ?_)
      exact h
    · intro q3
      have h := h.2 q3
      obtain ⟨g4, h⟩ := h
      refine aw_aload_n (pc' := 31) (dt_X11_sellUsed 18 (30, .aload_n 0, 1) rfl) rfl rfl (aw_getAs (pc' := 34) (dt_X11_sellUsed 19 (31, .getfield 46, 3) rfl) fl_ReturnDeskModel_46 rfl rfl (sk_31 hS) (sa_31_17 hS) (aw_iload_n (pc' := 35) (dt_X11_sellUsed 20 (34, .iload_n 2, 1) rfl) rfl rfl (aw_zald (pc' := 36) (dt_X11_sellUsed 21 (35, .baload, 1) rfl) rfl (sk_44 hS) (vin_eq (sl_44 hS) g4) (aw_if_ne (pc' := 39) (tgt := 42) (dt_X11_sellUsed 22 (36, .ifCond .ne 6, 3) rfl) (by decide) rfl ?_ ?_))))
      · intro q5
        have h := h.1 q5
        obtain ⟨g6, h⟩ := h
        obtain ⟨g7, h⟩ := h
        obtain ⟨g8, h⟩ := h
        obtain ⟨g9, h⟩ := h
        refine aw_aload_n (pc' := 43) (dt_X11_sellUsed 24 (42, .aload_n 0, 1) rfl) rfl rfl (aw_getAs (pc' := 46) (dt_X11_sellUsed 25 (43, .getfield 46, 3) rfl) fl_ReturnDeskModel_46 rfl rfl (sk_31 hS) (sa_31_17 hS) (aw_iload_n (pc' := 47) (dt_X11_sellUsed 26 (46, .iload_n 2, 1) rfl) rfl rfl (aw_iconst (pc' := 48) (v := 0) (dt_X11_sellUsed 27 (47, .iconst 0, 1) rfl) (by decide) rfl (aw_zast (pc' := 49) (dt_X11_sellUsed 28 (48, .bastore, 1) rfl) rfl (sk_44 hS) (by decide) (vin_eq (sl_44 hS) g6) (by decide) (aw_aload_n (pc' := 50) (dt_X11_sellUsed 29 (49, .aload_n 0, 1) rfl) rfl rfl (aw_getAs (pc' := 53) (dt_X11_sellUsed 30 (50, .getfield 37, 3) rfl) fl_ReturnDeskModel_37 rfl rfl (sk_31 hS.wI) (sa_31_13 hS.wI) (aw_iload_n (pc' := 54) (dt_X11_sellUsed 31 (53, .iload_n 1, 1) rfl) rfl rfl (aw_dup2 (pc' := 55) (dt_X11_sellUsed 32 (54, .dup2, 1) rfl) rfl rfl rfl (aw_iald (pc' := 56) (dt_X11_sellUsed 33 (55, .iaload, 1) rfl) rfl (sk_41 hS.wI) (vin_eq (sl_41 hS.wI) g7) (aw_iconst (pc' := 57) (v := 1) (dt_X11_sellUsed 34 (56, .iconst 1, 1) rfl) (by decide) rfl (aw_iadd (pc' := 58) (dt_X11_sellUsed 35 (57, .iadd, 1) rfl) rfl (aw_iast (pc' := 59) (dt_X11_sellUsed 36 (58, .iastore, 1) rfl) rfl (sk_41 hS.wI) (by decide) (vin_eq (sl_41 hS.wI) g8) (aw_aload_n (pc' := 60) (dt_X11_sellUsed 37 (59, .aload_n 0, 1) rfl) rfl rfl (aw_iload_n (pc' := 61) (dt_X11_sellUsed 38 (60, .iload_n 1, 1) rfl) rfl rfl (aw_aload_n (pc' := 62) (dt_X11_sellUsed 39 (61, .aload_n 0, 1) rfl) rfl rfl (aw_getAs (pc' := 65) (dt_X11_sellUsed 40 (62, .getfield 43, 3) rfl) fl_ReturnDeskModel_43 rfl rfl (sk_31 hS.wI.wI) (sa_31_16 hS.wI.wI) (aw_iload_n (pc' := 66) (dt_X11_sellUsed 41 (65, .iload_n 2, 1) rfl) rfl rfl (aw_iald (pc' := 67) (dt_X11_sellUsed 42 (66, .iaload, 1) rfl) rfl (sk_43 hS.wI.wI) (vin_eq (sl_43 hS.wI.wI) g9) (aw_callV0 (pc' := 70) (nc := nc) (ns := ns) (y2 := mX11_asUsed) (As := [.int x1, .int (zI (sI (sI μ 44 x2.toNatClampNeg 0) 41 x1.toNatClampNeg ((zI (sI μ 44 x2.toNatClampNeg 0) 41 x1.toNatClampNeg) + 1)) 43 x2.toNatClampNeg)]) (rest := []) (a := 31) (dt_X11_sellUsed 43 (67, .invokevirtual 428, 3) rfl) ok_X11_asUsed ln_ReturnDeskModel_428 im_X11_asUsed se_X11_asUsed pr_X11_asUsed (Or.inl ⟨by decide, rfl⟩) rfl (Nat.le_of_ble_eq_true rfl) (Nat.le_of_ble_eq_true rfl) rfl (sk_31 hS.wI.wI) h ?_)))))))))))))))))))
        rintro v μ10 ⟨r12, rfl, hS11, h⟩
        refine aw_stk (st' := [.int r12]) rfl ?_
        refine aw_istore_n (pc' := 71) (ls' := [some (.ref 31), some (.int x1), some (.int x2), some (.int r12)]) (dt_X11_sellUsed 44 (70, .istore_n 3, 1) rfl) (by decide) rfl rfl (aw_aload_n (pc' := 72) (dt_X11_sellUsed 45 (71, .aload_n 0, 1) rfl) rfl rfl (aw_dup (pc' := 73) (dt_X11_sellUsed 46 (72, .dup, 1) rfl) rfl rfl (aw_getI (pc' := 76) (dt_X11_sellUsed 47 (73, .getfield 212, 3) rfl) fl_ReturnDeskModel_212 rfl rfl (sk_31 hS11) (aw_iload_n (pc' := 77) (dt_X11_sellUsed 48 (76, .iload_n 3, 1) rfl) rfl rfl (aw_iadd (pc' := 78) (dt_X11_sellUsed 49 (77, .iadd, 1) rfl) rfl (aw_putI (pc' := 81) (dt_X11_sellUsed 50 (78, .putfield 212, 3) rfl) fl_ReturnDeskModel_212 rfl (by decide +kernel) rfl (sk_31 hS11) (aw_iload_n (pc' := 82) (dt_X11_sellUsed 51 (81, .iload_n 3, 1) rfl) rfl rfl (aw_iret (dt_X11_sellUsed 52 (82, .ireturn, 1) rfl) rfl rfl ?_))))))))
        exact h
      · intro q5
        have h := h.2 q5
        refine aw_goto (tgt := 83) (dt_X11_sellUsed 23 (39, .goto 44, 3) rfl) (by decide) (aw_iinc (pc' := 86) (v := 1) (ls' := [some (.ref 31), some (.int x1), some (.int (x2 + 1)), none]) (dt_X11_sellUsed 53 (83, .iinc 2 1, 3) rfl) rfl (by decide) (by decide) rfl rfl (aw_goto (tgt := 12) (dt_X11_sellUsed 54 (86, .goto (-74), 3) rfl) (by decide) ?_))
        exact h

theorem t_X11_ofLot {E : ZE} {l : Launch} {d nc ns : Nat} {x1 : Int32} {x2 : Int32} {x3 : Int32} {μ : ZM} {K : Option Value → ZM → Prop} (hS : Stat μ) (h :
  (x1 < 0 →
    K (some (.int (-1))) μ) ∧
  (¬ x1 < 0 →
    (((zI μ 31 18) - 1) < x1 →
      K (some (.int (-1))) μ) ∧
    (¬ ((zI μ 31 18) - 1) < x1 →
      (x2 < 0 →
        K (some (.int (-1))) μ) ∧
      (¬ x2 < 0 →
        (1 < x2 →
          K (some (.int (-1))) μ) ∧
        (¬ 1 < x2 →
          (x3 < 0 →
            K (some (.int (-1))) μ) ∧
          (¬ x3 < 0 →
            (2999 < x3 →
              K (some (.int (-1))) μ) ∧
            (¬ 2999 < x3 →
              AW E l (d + 2) nc ns mX11_ofLot 32 [some (.ref 31), some (.int x1), some (.int x2), some (.int x3), some (.int 0), some (.int 0)] [] μ K))))))) : AW E l (d + 2) nc ns mX11_ofLot 0 [some (.ref 31), some (.int x1), some (.int x2), some (.int x3), none, none] [] μ K := by
  refine aw_aload_n (pc' := 1) (dt_X11_ofLot 0 (0, .aload_n 0, 1) rfl) rfl rfl (aw_iload_n (pc' := 2) (dt_X11_ofLot 1 (1, .iload_n 1, 1) rfl) rfl rfl (aw_inV (pc' := 5) (nc1 := 0) (ns1 := 0) (nc := nc) (ns := ns) (ls' := [some (.ref 31), some (.int x1)]) (y2 := mX11_isLot) (As := [.int x1]) (rest := []) (a := 31) (dt_X11_ofLot 2 (2, .invokevirtual 218, 3) rfl) ok_X11_isLot ln_ReturnDeskModel_218 im_X11_isLot se_X11_isLot pr_X11_isLot (Or.inl ⟨by decide, rfl⟩) rfl (Nat.le_of_ble_eq_true rfl) (Nat.le_of_ble_eq_true rfl) rfl rfl (sk_31 hS) (aw_iload_n (pc' := 1) (dt_X11_isLot 0 (0, .iload_n 1, 1) rfl) rfl rfl (aw_iconst (pc' := 2) (v := 0) (dt_X11_isLot 1 (1, .iconst 0, 1) rfl) (by decide) rfl (aw_aload_n (pc' := 3) (dt_X11_isLot 2 (2, .aload_n 0, 1) rfl) rfl rfl (aw_getI (pc' := 6) (dt_X11_isLot 3 (3, .getfield 195, 3) rfl) fl_ReturnDeskModel_195 rfl rfl (sk_31 hS) (aw_iconst (pc' := 7) (v := 1) (dt_X11_isLot 4 (6, .iconst 1, 1) rfl) (by decide) rfl (aw_isub (pc' := 8) (dt_X11_isLot 5 (7, .isub, 1) rfl) rfl (aw_inS (pc' := 11) (nc1 := 0) (ns1 := 0) (nc := 0) (ns := 0) (ls' := [some (.int x1), some (.int 0), some (.int ((zI μ 31 18) - 1))]) (y2 := mX11_in) (As := [.int x1, .int 0, .int ((zI μ 31 18) - 1)]) (rest := []) (dt_X11_isLot 6 (8, .invokestatic 185, 3) rfl) ok_X11_in ln_ReturnDeskModel_185 sm_X11_in pr_X11_in rfl (Nat.le_of_ble_eq_true rfl) (Nat.le_of_ble_eq_true rfl) rfl rfl (aw_iload_n (pc' := 1) (dt_X11_in 0 (0, .iload_n 0, 1) rfl) rfl rfl (aw_iload_n (pc' := 2) (dt_X11_in 1 (1, .iload_n 1, 1) rfl) rfl rfl (aw_icmp_lt (pc' := 5) (tgt := 14) (dt_X11_in 2 (2, .if_icmp .lt 12, 3) rfl) (by decide) rfl ?_ ?_))))))))))))
  · intro q1
    have h := h.1 q1
    refine aw_iconst (pc' := 15) (v := 0) (dt_X11_in 8 (14, .iconst 0, 1) rfl) (by decide) rfl (aw_iret (dt_X11_in 9 (15, .ireturn, 1) rfl) rfl rfl (aw_stk (st' := [.int 0]) rfl (aw_iret (dt_X11_isLot 7 (11, .ireturn, 1) rfl) rfl rfl (aw_stk (st' := [.int 0]) rfl (aw_if_eq_T (pc' := 8) (tgt := 24) (dt_X11_ofLot 3 (5, .ifCond .eq 19, 3) rfl) (by decide) rfl (by decide) (aw_iconst (pc' := 25) (v := (-1)) (dt_X11_ofLot 12 (24, .iconst (-1), 1) rfl) (by decide) rfl (aw_iret (dt_X11_ofLot 13 (25, .ireturn, 1) rfl) rfl rfl ?_)))))))
    exact h
  · intro q1
    have h := h.2 q1
    refine aw_iload_n (pc' := 6) (dt_X11_in 3 (5, .iload_n 0, 1) rfl) rfl rfl (aw_iload_n (pc' := 7) (dt_X11_in 4 (6, .iload_n 2, 1) rfl) rfl rfl (aw_icmp_gt (pc' := 10) (tgt := 14) (dt_X11_in 5 (7, .if_icmp .gt 7, 3) rfl) (by decide) rfl ?_ ?_))
    · intro q2
      have h := h.1 q2
      refine aw_iconst (pc' := 15) (v := 0) (dt_X11_in 8 (14, .iconst 0, 1) rfl) (by decide) rfl (aw_iret (dt_X11_in 9 (15, .ireturn, 1) rfl) rfl rfl (aw_stk (st' := [.int 0]) rfl (aw_iret (dt_X11_isLot 7 (11, .ireturn, 1) rfl) rfl rfl (aw_stk (st' := [.int 0]) rfl (aw_if_eq_T (pc' := 8) (tgt := 24) (dt_X11_ofLot 3 (5, .ifCond .eq 19, 3) rfl) (by decide) rfl (by decide) (aw_iconst (pc' := 25) (v := (-1)) (dt_X11_ofLot 12 (24, .iconst (-1), 1) rfl) (by decide) rfl (aw_iret (dt_X11_ofLot 13 (25, .ireturn, 1) rfl) rfl rfl ?_)))))))
      exact h
    · intro q2
      have h := h.2 q2
      refine aw_iconst (pc' := 11) (v := 1) (dt_X11_in 6 (10, .iconst 1, 1) rfl) (by decide) rfl (aw_goto (tgt := 15) (dt_X11_in 7 (11, .goto 4, 3) rfl) (by decide) (aw_iret (dt_X11_in 9 (15, .ireturn, 1) rfl) rfl rfl (aw_stk (st' := [.int 1]) rfl (aw_iret (dt_X11_isLot 7 (11, .ireturn, 1) rfl) rfl rfl (aw_stk (st' := [.int 1]) rfl (aw_if_eq_F (pc' := 8) (tgt := 24) (dt_X11_ofLot 3 (5, .ifCond .eq 19, 3) rfl) (by decide) rfl (by decide) (aw_iload_n (pc' := 9) (dt_X11_ofLot 4 (8, .iload_n 2, 1) rfl) rfl rfl (aw_iconst (pc' := 10) (v := 0) (dt_X11_ofLot 5 (9, .iconst 0, 1) rfl) (by decide) rfl (aw_iconst (pc' := 11) (v := 1) (dt_X11_ofLot 6 (10, .iconst 1, 1) rfl) (by decide) rfl (aw_inS (pc' := 14) (nc1 := 0) (ns1 := 0) (nc := nc) (ns := ns) (ls' := [some (.int x2), some (.int 0), some (.int 1)]) (y2 := mX11_in) (As := [.int x2, .int 0, .int 1]) (rest := []) (dt_X11_ofLot 7 (11, .invokestatic 185, 3) rfl) ok_X11_in ln_ReturnDeskModel_185 sm_X11_in pr_X11_in rfl (Nat.le_of_ble_eq_true rfl) (Nat.le_of_ble_eq_true rfl) rfl rfl (aw_iload_n (pc' := 1) (dt_X11_in 0 (0, .iload_n 0, 1) rfl) rfl rfl (aw_iload_n (pc' := 2) (dt_X11_in 1 (1, .iload_n 1, 1) rfl) rfl rfl (aw_icmp_lt (pc' := 5) (tgt := 14) (dt_X11_in 2 (2, .if_icmp .lt 12, 3) rfl) (by decide) rfl ?_ ?_)))))))))))))
      · intro q3
        have h := h.1 q3
        refine aw_iconst (pc' := 15) (v := 0) (dt_X11_in 8 (14, .iconst 0, 1) rfl) (by decide) rfl (aw_iret (dt_X11_in 9 (15, .ireturn, 1) rfl) rfl rfl (aw_stk (st' := [.int 0]) rfl (aw_if_eq_T (pc' := 17) (tgt := 24) (dt_X11_ofLot 8 (14, .ifCond .eq 10, 3) rfl) (by decide) rfl (by decide) (aw_iconst (pc' := 25) (v := (-1)) (dt_X11_ofLot 12 (24, .iconst (-1), 1) rfl) (by decide) rfl (aw_iret (dt_X11_ofLot 13 (25, .ireturn, 1) rfl) rfl rfl ?_)))))
        exact h
      · intro q3
        have h := h.2 q3
        refine aw_iload_n (pc' := 6) (dt_X11_in 3 (5, .iload_n 0, 1) rfl) rfl rfl (aw_iload_n (pc' := 7) (dt_X11_in 4 (6, .iload_n 2, 1) rfl) rfl rfl (aw_icmp_gt (pc' := 10) (tgt := 14) (dt_X11_in 5 (7, .if_icmp .gt 7, 3) rfl) (by decide) rfl ?_ ?_))
        · intro q4
          have h := h.1 q4
          refine aw_iconst (pc' := 15) (v := 0) (dt_X11_in 8 (14, .iconst 0, 1) rfl) (by decide) rfl (aw_iret (dt_X11_in 9 (15, .ireturn, 1) rfl) rfl rfl (aw_stk (st' := [.int 0]) rfl (aw_if_eq_T (pc' := 17) (tgt := 24) (dt_X11_ofLot 8 (14, .ifCond .eq 10, 3) rfl) (by decide) rfl (by decide) (aw_iconst (pc' := 25) (v := (-1)) (dt_X11_ofLot 12 (24, .iconst (-1), 1) rfl) (by decide) rfl (aw_iret (dt_X11_ofLot 13 (25, .ireturn, 1) rfl) rfl rfl ?_)))))
          exact h
        · intro q4
          have h := h.2 q4
          refine aw_iconst (pc' := 11) (v := 1) (dt_X11_in 6 (10, .iconst 1, 1) rfl) (by decide) rfl (aw_goto (tgt := 15) (dt_X11_in 7 (11, .goto 4, 3) rfl) (by decide) (aw_iret (dt_X11_in 9 (15, .ireturn, 1) rfl) rfl rfl (aw_stk (st' := [.int 1]) rfl (aw_if_eq_F (pc' := 17) (tgt := 24) (dt_X11_ofLot 8 (14, .ifCond .eq 10, 3) rfl) (by decide) rfl (by decide) (aw_iload_n (pc' := 18) (dt_X11_ofLot 9 (17, .iload_n 3, 1) rfl) rfl rfl (aw_inS (pc' := 21) (nc1 := 0) (ns1 := 0) (nc := nc) (ns := ns) (ls' := [some (.int x3)]) (y2 := mX11_isDay) (As := [.int x3]) (rest := []) (dt_X11_ofLot 10 (18, .invokestatic 203, 3) rfl) ok_X11_isDay ln_ReturnDeskModel_203 sm_X11_isDay pr_X11_isDay rfl (Nat.le_of_ble_eq_true rfl) (Nat.le_of_ble_eq_true rfl) rfl rfl (aw_iload_n (pc' := 1) (dt_X11_isDay 0 (0, .iload_n 0, 1) rfl) rfl rfl (aw_iconst (pc' := 2) (v := 0) (dt_X11_isDay 1 (1, .iconst 0, 1) rfl) (by decide) rfl (aw_sipush (pc' := 5) (v := 2999) (dt_X11_isDay 2 (2, .sipush 2999, 3) rfl) (by decide) rfl (aw_inS (pc' := 8) (nc1 := 0) (ns1 := 0) (nc := 0) (ns := 0) (ls' := [some (.int x3), some (.int 0), some (.int 2999)]) (y2 := mX11_in) (As := [.int x3, .int 0, .int 2999]) (rest := []) (dt_X11_isDay 3 (5, .invokestatic 185, 3) rfl) ok_X11_in ln_ReturnDeskModel_185 sm_X11_in pr_X11_in rfl (Nat.le_of_ble_eq_true rfl) (Nat.le_of_ble_eq_true rfl) rfl rfl (aw_iload_n (pc' := 1) (dt_X11_in 0 (0, .iload_n 0, 1) rfl) rfl rfl (aw_iload_n (pc' := 2) (dt_X11_in 1 (1, .iload_n 1, 1) rfl) rfl rfl (aw_icmp_lt (pc' := 5) (tgt := 14) (dt_X11_in 2 (2, .if_icmp .lt 12, 3) rfl) (by decide) rfl ?_ ?_)))))))))))))
          · intro q5
            have h := h.1 q5
            refine aw_iconst (pc' := 15) (v := 0) (dt_X11_in 8 (14, .iconst 0, 1) rfl) (by decide) rfl (aw_iret (dt_X11_in 9 (15, .ireturn, 1) rfl) rfl rfl (aw_stk (st' := [.int 0]) rfl (aw_iret (dt_X11_isDay 4 (8, .ireturn, 1) rfl) rfl rfl (aw_stk (st' := [.int 0]) rfl (aw_if_ne_F (pc' := 24) (tgt := 26) (dt_X11_ofLot 11 (21, .ifCond .ne 5, 3) rfl) (by decide) rfl (by decide) (aw_iconst (pc' := 25) (v := (-1)) (dt_X11_ofLot 12 (24, .iconst (-1), 1) rfl) (by decide) rfl (aw_iret (dt_X11_ofLot 13 (25, .ireturn, 1) rfl) rfl rfl ?_)))))))
            exact h
          · intro q5
            have h := h.2 q5
            refine aw_iload_n (pc' := 6) (dt_X11_in 3 (5, .iload_n 0, 1) rfl) rfl rfl (aw_iload_n (pc' := 7) (dt_X11_in 4 (6, .iload_n 2, 1) rfl) rfl rfl (aw_icmp_gt (pc' := 10) (tgt := 14) (dt_X11_in 5 (7, .if_icmp .gt 7, 3) rfl) (by decide) rfl ?_ ?_))
            · intro q6
              have h := h.1 q6
              refine aw_iconst (pc' := 15) (v := 0) (dt_X11_in 8 (14, .iconst 0, 1) rfl) (by decide) rfl (aw_iret (dt_X11_in 9 (15, .ireturn, 1) rfl) rfl rfl (aw_stk (st' := [.int 0]) rfl (aw_iret (dt_X11_isDay 4 (8, .ireturn, 1) rfl) rfl rfl (aw_stk (st' := [.int 0]) rfl (aw_if_ne_F (pc' := 24) (tgt := 26) (dt_X11_ofLot 11 (21, .ifCond .ne 5, 3) rfl) (by decide) rfl (by decide) (aw_iconst (pc' := 25) (v := (-1)) (dt_X11_ofLot 12 (24, .iconst (-1), 1) rfl) (by decide) rfl (aw_iret (dt_X11_ofLot 13 (25, .ireturn, 1) rfl) rfl rfl ?_)))))))
              exact h
            · intro q6
              have h := h.2 q6
              refine aw_iconst (pc' := 11) (v := 1) (dt_X11_in 6 (10, .iconst 1, 1) rfl) (by decide) rfl (aw_goto (tgt := 15) (dt_X11_in 7 (11, .goto 4, 3) rfl) (by decide) (aw_iret (dt_X11_in 9 (15, .ireturn, 1) rfl) rfl rfl (aw_stk (st' := [.int 1]) rfl (aw_iret (dt_X11_isDay 4 (8, .ireturn, 1) rfl) rfl rfl (aw_stk (st' := [.int 1]) rfl (aw_if_ne_T (pc' := 24) (tgt := 26) (dt_X11_ofLot 11 (21, .ifCond .ne 5, 3) rfl) (by decide) rfl (by decide) (aw_iconst (pc' := 27) (v := 0) (dt_X11_ofLot 14 (26, .iconst 0, 1) rfl) (by decide) rfl (aw_istore (pc' := 29) (ls' := [some (.ref 31), some (.int x1), some (.int x2), some (.int x3), some (.int 0), none]) (dt_X11_ofLot 15 (27, .istore 4, 2) rfl) (by decide) rfl rfl (aw_iconst (pc' := 30) (v := 0) (dt_X11_ofLot 16 (29, .iconst 0, 1) rfl) (by decide) rfl (aw_istore (pc' := 32) (ls' := [some (.ref 31), some (.int x1), some (.int x2), some (.int x3), some (.int 0), some (.int 0)]) (dt_X11_ofLot 17 (30, .istore 5, 2) rfl) (by decide) rfl rfl ?_))))))))))
              exact h

theorem t_X11_ofLot_32 {E : ZE} {l : Launch} {d nc ns : Nat} {x1 : Int32} {x2 : Int32} {x3 : Int32} {x4 : Int32} {x5 : Int32} {μ : ZM} {K : Option Value → ZM → Prop} (hS : Stat μ) (h :
  ((zI μ 31 22) ≤ x5 →
    K (some (.int x4)) μ) ∧
  (¬ (zI μ 31 22) ≤ x5 →
    (vp_in x5 300) ∧
    (¬ (zI μ 49 x5.toNatClampNeg) = x1 →
      AW E l (d + 2) nc ns mX11_ofLot 32 [some (.ref 31), some (.int x1), some (.int x2), some (.int x3), some (.int (x4 + 0)), some (.int (x5 + 1))] [] μ K) ∧
    ((zI μ 49 x5.toNatClampNeg) = x1 →
      (vp_in x5 300) ∧
      (x3 < ((zI μ 55 x5.toNatClampNeg) / 24) →
        AW E l (d + 2) nc ns mX11_ofLot 32 [some (.ref 31), some (.int x1), some (.int x2), some (.int x3), some (.int (x4 + 0)), some (.int (x5 + 1))] [] μ K) ∧
      (¬ x3 < ((zI μ 55 x5.toNatClampNeg) / 24) →
        (x2 = 0 →
          AW E l (d + 2) nc ns mX11_ofLot 32 [some (.ref 31), some (.int x1), some (.int x2), some (.int x3), some (.int (x4 + 1)), some (.int (x5 + 1))] [] μ K) ∧
        (¬ x2 = 0 →
          (vp_in x5 300) ∧
          ((zI μ 59 x5.toNatClampNeg) < 0 →
            AW E l (d + 2) nc ns mX11_ofLot 32 [some (.ref 31), some (.int x1), some (.int x2), some (.int x3), some (.int (x4 + 0)), some (.int (x5 + 1))] [] μ K) ∧
          (¬ (zI μ 59 x5.toNatClampNeg) < 0 →
            (vp_in x5 300) ∧
            (x3 < (zI μ 59 x5.toNatClampNeg) →
              AW E l (d + 2) nc ns mX11_ofLot 32 [some (.ref 31), some (.int x1), some (.int x2), some (.int x3), some (.int (x4 + 0)), some (.int (x5 + 1))] [] μ K) ∧
            (¬ x3 < (zI μ 59 x5.toNatClampNeg) →
              AW E l (d + 2) nc ns mX11_ofLot 32 [some (.ref 31), some (.int x1), some (.int x2), some (.int x3), some (.int (x4 + 1)), some (.int (x5 + 1))] [] μ K))))))) : AW E l (d + 2) nc ns mX11_ofLot 32 [some (.ref 31), some (.int x1), some (.int x2), some (.int x3), some (.int x4), some (.int x5)] [] μ K := by
  refine aw_iload (pc' := 34) (dt_X11_ofLot 18 (32, .iload 5, 2) rfl) rfl rfl (aw_aload_n (pc' := 35) (dt_X11_ofLot 19 (34, .aload_n 0, 1) rfl) rfl rfl (aw_getI (pc' := 38) (dt_X11_ofLot 20 (35, .getfield 215, 3) rfl) fl_ReturnDeskModel_215 rfl rfl (sk_31 hS) (aw_icmp_ge (pc' := 41) (tgt := 103) (dt_X11_ofLot 21 (38, .if_icmp .ge 65, 3) rfl) (by decide) rfl ?_ ?_)))
  · intro q1
    have h := h.1 q1
    refine aw_iload (pc' := 105) (dt_X11_ofLot 54 (103, .iload 4, 2) rfl) rfl rfl (aw_iret (dt_X11_ofLot 55 (105, .ireturn, 1) rfl) rfl rfl ?_)
    exact h
  · intro q1
    have h := h.2 q1
    obtain ⟨g2, h⟩ := h
    refine aw_iload (pc' := 43) (dt_X11_ofLot 22 (41, .iload 4, 2) rfl) rfl rfl (aw_aload_n (pc' := 44) (dt_X11_ofLot 23 (43, .aload_n 0, 1) rfl) rfl rfl (aw_getAs (pc' := 47) (dt_X11_ofLot 24 (44, .getfield 62, 3) rfl) fl_ReturnDeskModel_62 rfl rfl (sk_31 hS) (sa_31_24 hS) (aw_iload (pc' := 49) (dt_X11_ofLot 25 (47, .iload 5, 2) rfl) rfl rfl (aw_iald (pc' := 50) (dt_X11_ofLot 26 (49, .iaload, 1) rfl) rfl (sk_49 hS) (vin_eq (sl_49 hS) g2) (aw_iload_n (pc' := 51) (dt_X11_ofLot 27 (50, .iload_n 1, 1) rfl) rfl rfl (aw_icmp_ne (pc' := 54) (tgt := 93) (dt_X11_ofLot 28 (51, .if_icmp .ne 42, 3) rfl) (by decide) rfl ?_ ?_))))))
    · intro q3
      have h := h.1 q3
      refine aw_iconst (pc' := 94) (v := 0) (dt_X11_ofLot 49 (93, .iconst 0, 1) rfl) (by decide) rfl (aw_iadd (pc' := 95) (dt_X11_ofLot 50 (94, .iadd, 1) rfl) rfl (aw_istore (pc' := 97) (ls' := [some (.ref 31), some (.int x1), some (.int x2), some (.int x3), some (.int (x4 + 0)), some (.int x5)]) (dt_X11_ofLot 51 (95, .istore 4, 2) rfl) (by decide) rfl rfl (aw_iinc (pc' := 100) (v := 1) (ls' := [some (.ref 31), some (.int x1), some (.int x2), some (.int x3), some (.int (x4 + 0)), some (.int (x5 + 1))]) (dt_X11_ofLot 52 (97, .iinc 5 1, 3) rfl) rfl (by decide) (by decide) rfl rfl (aw_goto (tgt := 32) (dt_X11_ofLot 53 (100, .goto (-68), 3) rfl) (by decide) ?_))))
      exact h
    · intro q3
      have h := h.2 q3
      obtain ⟨g4, h⟩ := h
      refine aw_aload_n (pc' := 55) (dt_X11_ofLot 29 (54, .aload_n 0, 1) rfl) rfl rfl (aw_iload (pc' := 57) (dt_X11_ofLot 30 (55, .iload 5, 2) rfl) rfl rfl (aw_inV (pc' := 60) (nc1 := 0) (ns1 := 0) (nc := nc) (ns := ns) (ls' := [some (.ref 31), some (.int x5)]) (y2 := mX11_dayOf) (As := [.int x5]) (rest := [.int x4]) (a := 31) (dt_X11_ofLot 31 (57, .invokevirtual 350, 3) rfl) ok_X11_dayOf ln_ReturnDeskModel_350 im_X11_dayOf se_X11_dayOf pr_X11_dayOf (Or.inl ⟨by decide, rfl⟩) rfl (Nat.le_of_ble_eq_true rfl) (Nat.le_of_ble_eq_true rfl) rfl rfl (sk_31 hS) (aw_aload_n (pc' := 1) (dt_X11_dayOf 0 (0, .aload_n 0, 1) rfl) rfl rfl (aw_getAs (pc' := 4) (dt_X11_dayOf 1 (1, .getfield 80, 3) rfl) fl_ReturnDeskModel_80 rfl rfl (sk_31 hS) (sa_31_30 hS) (aw_iload_n (pc' := 5) (dt_X11_dayOf 2 (4, .iload_n 1, 1) rfl) rfl rfl (aw_iald (pc' := 6) (dt_X11_dayOf 3 (5, .iaload, 1) rfl) rfl (sk_55 hS) (vin_eq (sl_55 hS) g4) (aw_bipush (pc' := 8) (v := 24) (dt_X11_dayOf 4 (6, .bipush 24, 2) rfl) (by decide) rfl (aw_idiv (pc' := 9) (dt_X11_dayOf 5 (8, .idiv, 1) rfl) (by decide) rfl (aw_iret (dt_X11_dayOf 6 (9, .ireturn, 1) rfl) rfl rfl (aw_stk (st' := [.int ((zI μ 55 x5.toNatClampNeg) / 24), .int x4]) rfl (aw_iload_n (pc' := 61) (dt_X11_ofLot 32 (60, .iload_n 3, 1) rfl) rfl rfl (aw_icmp_gt (pc' := 64) (tgt := 93) (dt_X11_ofLot 33 (61, .if_icmp .gt 32, 3) rfl) (by decide) rfl ?_ ?_))))))))))))
      · intro q5
        have h := h.1 q5
        refine aw_iconst (pc' := 94) (v := 0) (dt_X11_ofLot 49 (93, .iconst 0, 1) rfl) (by decide) rfl (aw_iadd (pc' := 95) (dt_X11_ofLot 50 (94, .iadd, 1) rfl) rfl (aw_istore (pc' := 97) (ls' := [some (.ref 31), some (.int x1), some (.int x2), some (.int x3), some (.int (x4 + 0)), some (.int x5)]) (dt_X11_ofLot 51 (95, .istore 4, 2) rfl) (by decide) rfl rfl (aw_iinc (pc' := 100) (v := 1) (ls' := [some (.ref 31), some (.int x1), some (.int x2), some (.int x3), some (.int (x4 + 0)), some (.int (x5 + 1))]) (dt_X11_ofLot 52 (97, .iinc 5 1, 3) rfl) rfl (by decide) (by decide) rfl rfl (aw_goto (tgt := 32) (dt_X11_ofLot 53 (100, .goto (-68), 3) rfl) (by decide) ?_))))
        exact h
      · intro q5
        have h := h.2 q5
        refine aw_iload_n (pc' := 65) (dt_X11_ofLot 34 (64, .iload_n 2, 1) rfl) rfl rfl (aw_if_eq (pc' := 68) (tgt := 89) (dt_X11_ofLot 35 (65, .ifCond .eq 24, 3) rfl) (by decide) rfl ?_ ?_)
        · intro q6
          have h := h.1 q6
          refine aw_iconst (pc' := 90) (v := 1) (dt_X11_ofLot 47 (89, .iconst 1, 1) rfl) (by decide) rfl (aw_goto (tgt := 94) (dt_X11_ofLot 48 (90, .goto 4, 3) rfl) (by decide) (aw_iadd (pc' := 95) (dt_X11_ofLot 50 (94, .iadd, 1) rfl) rfl (aw_istore (pc' := 97) (ls' := [some (.ref 31), some (.int x1), some (.int x2), some (.int x3), some (.int (x4 + 1)), some (.int x5)]) (dt_X11_ofLot 51 (95, .istore 4, 2) rfl) (by decide) rfl rfl (aw_iinc (pc' := 100) (v := 1) (ls' := [some (.ref 31), some (.int x1), some (.int x2), some (.int x3), some (.int (x4 + 1)), some (.int (x5 + 1))]) (dt_X11_ofLot 52 (97, .iinc 5 1, 3) rfl) rfl (by decide) (by decide) rfl rfl (aw_goto (tgt := 32) (dt_X11_ofLot 53 (100, .goto (-68), 3) rfl) (by decide) ?_)))))
          exact h
        · intro q6
          have h := h.2 q6
          obtain ⟨g7, h⟩ := h
          refine aw_aload_n (pc' := 69) (dt_X11_ofLot 36 (68, .aload_n 0, 1) rfl) rfl rfl (aw_getAs (pc' := 72) (dt_X11_ofLot 37 (69, .getfield 92, 3) rfl) fl_ReturnDeskModel_92 rfl rfl (sk_31 hS) (sa_31_34 hS) (aw_iload (pc' := 74) (dt_X11_ofLot 38 (72, .iload 5, 2) rfl) rfl rfl (aw_iald (pc' := 75) (dt_X11_ofLot 39 (74, .iaload, 1) rfl) rfl (sk_59 hS) (vin_eq (sl_59 hS) g7) (aw_if_lt (pc' := 78) (tgt := 93) (dt_X11_ofLot 40 (75, .ifCond .lt 18, 3) rfl) (by decide) rfl ?_ ?_))))
          · intro q8
            have h := h.1 q8
            refine aw_iconst (pc' := 94) (v := 0) (dt_X11_ofLot 49 (93, .iconst 0, 1) rfl) (by decide) rfl (aw_iadd (pc' := 95) (dt_X11_ofLot 50 (94, .iadd, 1) rfl) rfl (aw_istore (pc' := 97) (ls' := [some (.ref 31), some (.int x1), some (.int x2), some (.int x3), some (.int (x4 + 0)), some (.int x5)]) (dt_X11_ofLot 51 (95, .istore 4, 2) rfl) (by decide) rfl rfl (aw_iinc (pc' := 100) (v := 1) (ls' := [some (.ref 31), some (.int x1), some (.int x2), some (.int x3), some (.int (x4 + 0)), some (.int (x5 + 1))]) (dt_X11_ofLot 52 (97, .iinc 5 1, 3) rfl) rfl (by decide) (by decide) rfl rfl (aw_goto (tgt := 32) (dt_X11_ofLot 53 (100, .goto (-68), 3) rfl) (by decide) ?_))))
            exact h
          · intro q8
            have h := h.2 q8
            obtain ⟨g9, h⟩ := h
            refine aw_aload_n (pc' := 79) (dt_X11_ofLot 41 (78, .aload_n 0, 1) rfl) rfl rfl (aw_getAs (pc' := 82) (dt_X11_ofLot 42 (79, .getfield 92, 3) rfl) fl_ReturnDeskModel_92 rfl rfl (sk_31 hS) (sa_31_34 hS) (aw_iload (pc' := 84) (dt_X11_ofLot 43 (82, .iload 5, 2) rfl) rfl rfl (aw_iald (pc' := 85) (dt_X11_ofLot 44 (84, .iaload, 1) rfl) rfl (sk_59 hS) (vin_eq (sl_59 hS) g9) (aw_iload_n (pc' := 86) (dt_X11_ofLot 45 (85, .iload_n 3, 1) rfl) rfl rfl (aw_icmp_gt (pc' := 89) (tgt := 93) (dt_X11_ofLot 46 (86, .if_icmp .gt 7, 3) rfl) (by decide) rfl ?_ ?_)))))
            · intro q10
              have h := h.1 q10
              refine aw_iconst (pc' := 94) (v := 0) (dt_X11_ofLot 49 (93, .iconst 0, 1) rfl) (by decide) rfl (aw_iadd (pc' := 95) (dt_X11_ofLot 50 (94, .iadd, 1) rfl) rfl (aw_istore (pc' := 97) (ls' := [some (.ref 31), some (.int x1), some (.int x2), some (.int x3), some (.int (x4 + 0)), some (.int x5)]) (dt_X11_ofLot 51 (95, .istore 4, 2) rfl) (by decide) rfl rfl (aw_iinc (pc' := 100) (v := 1) (ls' := [some (.ref 31), some (.int x1), some (.int x2), some (.int x3), some (.int (x4 + 0)), some (.int (x5 + 1))]) (dt_X11_ofLot 52 (97, .iinc 5 1, 3) rfl) rfl (by decide) (by decide) rfl rfl (aw_goto (tgt := 32) (dt_X11_ofLot 53 (100, .goto (-68), 3) rfl) (by decide) ?_))))
              exact h
            · intro q10
              have h := h.2 q10
              refine aw_iconst (pc' := 90) (v := 1) (dt_X11_ofLot 47 (89, .iconst 1, 1) rfl) (by decide) rfl (aw_goto (tgt := 94) (dt_X11_ofLot 48 (90, .goto 4, 3) rfl) (by decide) (aw_iadd (pc' := 95) (dt_X11_ofLot 50 (94, .iadd, 1) rfl) rfl (aw_istore (pc' := 97) (ls' := [some (.ref 31), some (.int x1), some (.int x2), some (.int x3), some (.int (x4 + 1)), some (.int x5)]) (dt_X11_ofLot 51 (95, .istore 4, 2) rfl) (by decide) rfl rfl (aw_iinc (pc' := 100) (v := 1) (ls' := [some (.ref 31), some (.int x1), some (.int x2), some (.int x3), some (.int (x4 + 1)), some (.int (x5 + 1))]) (dt_X11_ofLot 52 (97, .iinc 5 1, 3) rfl) rfl (by decide) (by decide) rfl rfl (aw_goto (tgt := 32) (dt_X11_ofLot 53 (100, .goto (-68), 3) rfl) (by decide) ?_)))))
              exact h

theorem t_X11_choose {E : ZE} {l : Launch} {d nc ns : Nat} {x1 : Int32} {x2 : Int32} {μ : ZM} {K : Option Value → ZM → Prop} (hS : Stat μ) (h :
  (¬ (lg_cmp (zJ μ 86 0) (0 : Int64)) = 0 →
    (x2 < 0 →
      K (some (.long 0)) μ) ∧
    (¬ x2 < 0 →
      (x2 ≤ x1 →
        (vp_in ((61 * x1) + x2) 3721) ∧
        K (some (.long (zJ μ 86 ((61 * x1) + x2).toNatClampNeg))) μ) ∧
      (¬ x2 ≤ x1 →
        K (some (.long 0)) μ))) ∧
  ((lg_cmp (zJ μ 86 0) (0 : Int64)) = 0 →
    AW E l d nc ns mX11_choose 13 [some (.ref 31), some (.int x1), some (.int x2), some (.int 0), none] [] μ K)) : AW E l d nc ns mX11_choose 0 [some (.ref 31), some (.int x1), some (.int x2), none, none] [] μ K := by
  refine aw_aload_n (pc' := 1) (dt_X11_choose 0 (0, .aload_n 0, 1) rfl) rfl rfl (aw_getAs (pc' := 4) (dt_X11_choose 1 (1, .getfield 174, 3) rfl) fl_ReturnDeskModel_174 rfl rfl (sk_31 hS) (sa_31_79 hS) (aw_iconst (pc' := 5) (v := 0) (dt_X11_choose 2 (4, .iconst 0, 1) rfl) (by decide) rfl (aw_lald (pc' := 6) (dt_X11_choose 3 (5, .laload, 1) rfl) rfl (sk_86 hS) (vin_eq (sl_86 hS) (vlit (by decide))) (aw_lconst (pc' := 7) (v := 0) (dt_X11_choose 4 (6, .lconst 0, 1) rfl) (by decide) rfl (aw_lcmp (pc' := 8) (dt_X11_choose 5 (7, .lcmp, 1) rfl) rfl (aw_if_ne (pc' := 11) (tgt := 98) (dt_X11_choose 6 (8, .ifCond .ne 90, 3) rfl) (by decide) rfl ?_ ?_))))))
  · intro q1
    have h := h.1 q1
    refine aw_iload_n (pc' := 99) (dt_X11_choose 59 (98, .iload_n 2, 1) rfl) rfl rfl (aw_if_lt (pc' := 102) (tgt := 107) (dt_X11_choose 60 (99, .ifCond .lt 8, 3) rfl) (by decide) rfl ?_ ?_)
    · intro q2
      have h := h.1 q2
      refine aw_lconst (pc' := 108) (v := 0) (dt_X11_choose 64 (107, .lconst 0, 1) rfl) (by decide) rfl (aw_goto (tgt := 122) (dt_X11_choose 65 (108, .goto 14, 3) rfl) (by decide) (aw_lret (dt_X11_choose 74 (122, .lreturn, 1) rfl) rfl ?_))
      exact h
    · intro q2
      have h := h.2 q2
      refine aw_iload_n (pc' := 103) (dt_X11_choose 61 (102, .iload_n 2, 1) rfl) rfl rfl (aw_iload_n (pc' := 104) (dt_X11_choose 62 (103, .iload_n 1, 1) rfl) rfl rfl (aw_icmp_le (pc' := 107) (tgt := 111) (dt_X11_choose 63 (104, .if_icmp .le 7, 3) rfl) (by decide) rfl ?_ ?_))
      · intro q3
        have h := h.1 q3
        obtain ⟨g4, h⟩ := h
        refine aw_aload_n (pc' := 112) (dt_X11_choose 66 (111, .aload_n 0, 1) rfl) rfl rfl (aw_getAs (pc' := 115) (dt_X11_choose 67 (112, .getfield 174, 3) rfl) fl_ReturnDeskModel_174 rfl rfl (sk_31 hS) (sa_31_79 hS) (aw_bipush (pc' := 117) (v := 61) (dt_X11_choose 68 (115, .bipush 61, 2) rfl) (by decide) rfl (aw_iload_n (pc' := 118) (dt_X11_choose 69 (117, .iload_n 1, 1) rfl) rfl rfl (aw_imul (pc' := 119) (dt_X11_choose 70 (118, .imul, 1) rfl) rfl (aw_iload_n (pc' := 120) (dt_X11_choose 71 (119, .iload_n 2, 1) rfl) rfl rfl (aw_iadd (pc' := 121) (dt_X11_choose 72 (120, .iadd, 1) rfl) rfl (aw_lald (pc' := 122) (dt_X11_choose 73 (121, .laload, 1) rfl) rfl (sk_86 hS) (vin_eq (sl_86 hS) g4) (aw_lret (dt_X11_choose 74 (122, .lreturn, 1) rfl) rfl ?_))))))))
        exact h
      · intro q3
        have h := h.2 q3
        refine aw_lconst (pc' := 108) (v := 0) (dt_X11_choose 64 (107, .lconst 0, 1) rfl) (by decide) rfl (aw_goto (tgt := 122) (dt_X11_choose 65 (108, .goto 14, 3) rfl) (by decide) (aw_lret (dt_X11_choose 74 (122, .lreturn, 1) rfl) rfl ?_))
        exact h
  · intro q1
    have h := h.2 q1
    refine aw_iconst (pc' := 12) (v := 0) (dt_X11_choose 7 (11, .iconst 0, 1) rfl) (by decide) rfl (aw_istore_n (pc' := 13) (ls' := [some (.ref 31), some (.int x1), some (.int x2), some (.int 0), none]) (dt_X11_choose 8 (12, .istore_n 3, 1) rfl) (by decide) rfl rfl ?_)
    exact h

theorem t_X11_choose_13 {E : ZE} {l : Launch} {d nc ns : Nat} {x1 : Int32} {x2 : Int32} {x3 : Int32} {μ : ZM} {K : Option Value → ZM → Prop} (hS : Stat μ) (h :
  (60 < x3 →
    (x2 < 0 →
      K (some (.long 0)) μ) ∧
    (¬ x2 < 0 →
      (x2 ≤ x1 →
        (vp_in ((61 * x1) + x2) 3721) ∧
        K (some (.long (zJ μ 86 ((61 * x1) + x2).toNatClampNeg))) μ) ∧
      (¬ x2 ≤ x1 →
        K (some (.long 0)) μ))) ∧
  (¬ 60 < x3 →
    AW E l d nc ns mX11_choose 22 [some (.ref 31), some (.int x1), some (.int x2), some (.int x3), some (.int 0)] [] μ K)) : AW E l d nc ns mX11_choose 13 [some (.ref 31), some (.int x1), some (.int x2), some (.int x3), none] [] μ K := by
  refine aw_iload_n (pc' := 14) (dt_X11_choose 9 (13, .iload_n 3, 1) rfl) rfl rfl (aw_bipush (pc' := 16) (v := 60) (dt_X11_choose 10 (14, .bipush 60, 2) rfl) (by decide) rfl (aw_icmp_gt (pc' := 19) (tgt := 98) (dt_X11_choose 11 (16, .if_icmp .gt 82, 3) rfl) (by decide) rfl ?_ ?_))
  · intro q1
    have h := h.1 q1
    refine aw_iload_n (pc' := 99) (dt_X11_choose 59 (98, .iload_n 2, 1) rfl) rfl rfl (aw_if_lt (pc' := 102) (tgt := 107) (dt_X11_choose 60 (99, .ifCond .lt 8, 3) rfl) (by decide) rfl ?_ ?_)
    · intro q2
      have h := h.1 q2
      refine aw_lconst (pc' := 108) (v := 0) (dt_X11_choose 64 (107, .lconst 0, 1) rfl) (by decide) rfl (aw_goto (tgt := 122) (dt_X11_choose 65 (108, .goto 14, 3) rfl) (by decide) (aw_lret (dt_X11_choose 74 (122, .lreturn, 1) rfl) rfl ?_))
      exact h
    · intro q2
      have h := h.2 q2
      refine aw_iload_n (pc' := 103) (dt_X11_choose 61 (102, .iload_n 2, 1) rfl) rfl rfl (aw_iload_n (pc' := 104) (dt_X11_choose 62 (103, .iload_n 1, 1) rfl) rfl rfl (aw_icmp_le (pc' := 107) (tgt := 111) (dt_X11_choose 63 (104, .if_icmp .le 7, 3) rfl) (by decide) rfl ?_ ?_))
      · intro q3
        have h := h.1 q3
        obtain ⟨g4, h⟩ := h
        refine aw_aload_n (pc' := 112) (dt_X11_choose 66 (111, .aload_n 0, 1) rfl) rfl rfl (aw_getAs (pc' := 115) (dt_X11_choose 67 (112, .getfield 174, 3) rfl) fl_ReturnDeskModel_174 rfl rfl (sk_31 hS) (sa_31_79 hS) (aw_bipush (pc' := 117) (v := 61) (dt_X11_choose 68 (115, .bipush 61, 2) rfl) (by decide) rfl (aw_iload_n (pc' := 118) (dt_X11_choose 69 (117, .iload_n 1, 1) rfl) rfl rfl (aw_imul (pc' := 119) (dt_X11_choose 70 (118, .imul, 1) rfl) rfl (aw_iload_n (pc' := 120) (dt_X11_choose 71 (119, .iload_n 2, 1) rfl) rfl rfl (aw_iadd (pc' := 121) (dt_X11_choose 72 (120, .iadd, 1) rfl) rfl (aw_lald (pc' := 122) (dt_X11_choose 73 (121, .laload, 1) rfl) rfl (sk_86 hS) (vin_eq (sl_86 hS) g4) (aw_lret (dt_X11_choose 74 (122, .lreturn, 1) rfl) rfl ?_))))))))
        exact h
      · intro q3
        have h := h.2 q3
        refine aw_lconst (pc' := 108) (v := 0) (dt_X11_choose 64 (107, .lconst 0, 1) rfl) (by decide) rfl (aw_goto (tgt := 122) (dt_X11_choose 65 (108, .goto 14, 3) rfl) (by decide) (aw_lret (dt_X11_choose 74 (122, .lreturn, 1) rfl) rfl ?_))
        exact h
  · intro q1
    have h := h.2 q1
    refine aw_iconst (pc' := 20) (v := 0) (dt_X11_choose 12 (19, .iconst 0, 1) rfl) (by decide) rfl (aw_istore (pc' := 22) (ls' := [some (.ref 31), some (.int x1), some (.int x2), some (.int x3), some (.int 0)]) (dt_X11_choose 13 (20, .istore 4, 2) rfl) (by decide) rfl rfl ?_)
    exact h

theorem t_X11_choose_22 {E : ZE} {l : Launch} {d nc ns : Nat} {x1 : Int32} {x2 : Int32} {x3 : Int32} {x4 : Int32} {μ : ZM} {K : Option Value → ZM → Prop} (hS : Stat μ) (h :
  (x3 < x4 →
    AW E l d nc ns mX11_choose 13 [some (.ref 31), some (.int x1), some (.int x2), some (.int (x3 + 1)), none] [] μ K) ∧
  (¬ x3 < x4 →
    (x4 = 0 →
      (vp_in ((61 * x3) + x4) 3721) ∧
      AW E l d nc ns mX11_choose 22 [some (.ref 31), some (.int x1), some (.int x2), some (.int x3), some (.int (x4 + 1))] [] (sJ μ 86 ((61 * x3) + x4).toNatClampNeg 1) K) ∧
    (¬ x4 = 0 →
      (¬ x4 = x3 →
        (vp_in (((61 * (x3 - 1)) + x4) - 1) 3721) ∧
        (vp_in ((61 * (x3 - 1)) + x4) 3721) ∧
        (vp_in ((61 * x3) + x4) 3721) ∧
        AW E l d nc ns mX11_choose 22 [some (.ref 31), some (.int x1), some (.int x2), some (.int x3), some (.int (x4 + 1))] [] (sJ μ 86 ((61 * x3) + x4).toNatClampNeg ((zJ μ 86 (((61 * (x3 - 1)) + x4) - 1).toNatClampNeg) + (zJ μ 86 ((61 * (x3 - 1)) + x4).toNatClampNeg))) K) ∧
      (x4 = x3 →
        (vp_in ((61 * x3) + x4) 3721) ∧
        AW E l d nc ns mX11_choose 22 [some (.ref 31), some (.int x1), some (.int x2), some (.int x3), some (.int (x4 + 1))] [] (sJ μ 86 ((61 * x3) + x4).toNatClampNeg 1) K)))) : AW E l d nc ns mX11_choose 22 [some (.ref 31), some (.int x1), some (.int x2), some (.int x3), some (.int x4)] [] μ K := by
  refine aw_iload (pc' := 24) (dt_X11_choose 14 (22, .iload 4, 2) rfl) rfl rfl (aw_iload_n (pc' := 25) (dt_X11_choose 15 (24, .iload_n 3, 1) rfl) rfl rfl (aw_icmp_gt (pc' := 28) (tgt := 92) (dt_X11_choose 16 (25, .if_icmp .gt 67, 3) rfl) (by decide) rfl ?_ ?_))
  · intro q1
    have h := h.1 q1
    refine aw_iinc (pc' := 95) (v := 1) (ls' := [some (.ref 31), some (.int x1), some (.int x2), some (.int (x3 + 1)), some (.int x4)]) (dt_X11_choose 57 (92, .iinc 3 1, 3) rfl) rfl (by decide) (by decide) rfl rfl (aw_goto (tgt := 13) (dt_X11_choose 58 (95, .goto (-82), 3) rfl) (by decide) (aw_drop (ls' := [some (.ref 31), some (.int x1), some (.int x2), some (.int (x3 + 1)), none]) ⟨rfl, rfl, rfl, rfl, trivial⟩ ?_))
    exact h
  · intro q1
    have h := h.2 q1
    refine aw_aload_n (pc' := 29) (dt_X11_choose 17 (28, .aload_n 0, 1) rfl) rfl rfl (aw_getAs (pc' := 32) (dt_X11_choose 18 (29, .getfield 174, 3) rfl) fl_ReturnDeskModel_174 rfl rfl (sk_31 hS) (sa_31_79 hS) (aw_bipush (pc' := 34) (v := 61) (dt_X11_choose 19 (32, .bipush 61, 2) rfl) (by decide) rfl (aw_iload_n (pc' := 35) (dt_X11_choose 20 (34, .iload_n 3, 1) rfl) rfl rfl (aw_imul (pc' := 36) (dt_X11_choose 21 (35, .imul, 1) rfl) rfl (aw_iload (pc' := 38) (dt_X11_choose 22 (36, .iload 4, 2) rfl) rfl rfl (aw_iadd (pc' := 39) (dt_X11_choose 23 (38, .iadd, 1) rfl) rfl (aw_iload (pc' := 41) (dt_X11_choose 24 (39, .iload 4, 2) rfl) rfl rfl (aw_if_eq (pc' := 44) (tgt := 50) (dt_X11_choose 25 (41, .ifCond .eq 9, 3) rfl) (by decide) rfl ?_ ?_))))))))
    · intro q2
      have h := h.1 q2
      obtain ⟨g3, h⟩ := h
      refine aw_lconst (pc' := 51) (v := 1) (dt_X11_choose 29 (50, .lconst 1, 1) rfl) (by decide) rfl (aw_goto (tgt := 85) (dt_X11_choose 30 (51, .goto 34, 3) rfl) (by decide) (aw_last (pc' := 86) (dt_X11_choose 54 (85, .lastore, 1) rfl) rfl (sk_86 hS) (by decide) (vin_eq (sl_86 hS) g3) (aw_iinc (pc' := 89) (v := 1) (ls' := [some (.ref 31), some (.int x1), some (.int x2), some (.int x3), some (.int (x4 + 1))]) (dt_X11_choose 55 (86, .iinc 4 1, 3) rfl) rfl (by decide) (by decide) rfl rfl (aw_goto (tgt := 22) (dt_X11_choose 56 (89, .goto (-67), 3) rfl) (by decide) ?_))))
      exact h
    · intro q2
      have h := h.2 q2
      refine aw_iload (pc' := 46) (dt_X11_choose 26 (44, .iload 4, 2) rfl) rfl rfl (aw_iload_n (pc' := 47) (dt_X11_choose 27 (46, .iload_n 3, 1) rfl) rfl rfl (aw_icmp_ne (pc' := 50) (tgt := 54) (dt_X11_choose 28 (47, .if_icmp .ne 7, 3) rfl) (by decide) rfl ?_ ?_))
      · intro q4
        have h := h.1 q4
        obtain ⟨g5, h⟩ := h
        obtain ⟨g6, h⟩ := h
        obtain ⟨g7, h⟩ := h
        refine aw_aload_n (pc' := 55) (dt_X11_choose 31 (54, .aload_n 0, 1) rfl) rfl rfl (aw_getAs (pc' := 58) (dt_X11_choose 32 (55, .getfield 174, 3) rfl) fl_ReturnDeskModel_174 rfl rfl (sk_31 hS) (sa_31_79 hS) (aw_bipush (pc' := 60) (v := 61) (dt_X11_choose 33 (58, .bipush 61, 2) rfl) (by decide) rfl (aw_iload_n (pc' := 61) (dt_X11_choose 34 (60, .iload_n 3, 1) rfl) rfl rfl (aw_iconst (pc' := 62) (v := 1) (dt_X11_choose 35 (61, .iconst 1, 1) rfl) (by decide) rfl (aw_isub (pc' := 63) (dt_X11_choose 36 (62, .isub, 1) rfl) rfl (aw_imul (pc' := 64) (dt_X11_choose 37 (63, .imul, 1) rfl) rfl (aw_iload (pc' := 66) (dt_X11_choose 38 (64, .iload 4, 2) rfl) rfl rfl (aw_iadd (pc' := 67) (dt_X11_choose 39 (66, .iadd, 1) rfl) rfl (aw_iconst (pc' := 68) (v := 1) (dt_X11_choose 40 (67, .iconst 1, 1) rfl) (by decide) rfl (aw_isub (pc' := 69) (dt_X11_choose 41 (68, .isub, 1) rfl) rfl (aw_lald (pc' := 70) (dt_X11_choose 42 (69, .laload, 1) rfl) rfl (sk_86 hS) (vin_eq (sl_86 hS) g5) (aw_aload_n (pc' := 71) (dt_X11_choose 43 (70, .aload_n 0, 1) rfl) rfl rfl (aw_getAs (pc' := 74) (dt_X11_choose 44 (71, .getfield 174, 3) rfl) fl_ReturnDeskModel_174 rfl rfl (sk_31 hS) (sa_31_79 hS) (aw_bipush (pc' := 76) (v := 61) (dt_X11_choose 45 (74, .bipush 61, 2) rfl) (by decide) rfl (aw_iload_n (pc' := 77) (dt_X11_choose 46 (76, .iload_n 3, 1) rfl) rfl rfl (aw_iconst (pc' := 78) (v := 1) (dt_X11_choose 47 (77, .iconst 1, 1) rfl) (by decide) rfl (aw_isub (pc' := 79) (dt_X11_choose 48 (78, .isub, 1) rfl) rfl (aw_imul (pc' := 80) (dt_X11_choose 49 (79, .imul, 1) rfl) rfl (aw_iload (pc' := 82) (dt_X11_choose 50 (80, .iload 4, 2) rfl) rfl rfl (aw_iadd (pc' := 83) (dt_X11_choose 51 (82, .iadd, 1) rfl) rfl (aw_lald (pc' := 84) (dt_X11_choose 52 (83, .laload, 1) rfl) rfl (sk_86 hS) (vin_eq (sl_86 hS) g6) (aw_ladd (pc' := 85) (dt_X11_choose 53 (84, .ladd, 1) rfl) rfl (aw_last (pc' := 86) (dt_X11_choose 54 (85, .lastore, 1) rfl) rfl (sk_86 hS) (by decide) (vin_eq (sl_86 hS) g7) (aw_iinc (pc' := 89) (v := 1) (ls' := [some (.ref 31), some (.int x1), some (.int x2), some (.int x3), some (.int (x4 + 1))]) (dt_X11_choose 55 (86, .iinc 4 1, 3) rfl) rfl (by decide) (by decide) rfl rfl (aw_goto (tgt := 22) (dt_X11_choose 56 (89, .goto (-67), 3) rfl) (by decide) ?_)))))))))))))))))))))))))
        exact h
      · intro q4
        have h := h.2 q4
        obtain ⟨g8, h⟩ := h
        refine aw_lconst (pc' := 51) (v := 1) (dt_X11_choose 29 (50, .lconst 1, 1) rfl) (by decide) rfl (aw_goto (tgt := 85) (dt_X11_choose 30 (51, .goto 34, 3) rfl) (by decide) (aw_last (pc' := 86) (dt_X11_choose 54 (85, .lastore, 1) rfl) rfl (sk_86 hS) (by decide) (vin_eq (sl_86 hS) g8) (aw_iinc (pc' := 89) (v := 1) (ls' := [some (.ref 31), some (.int x1), some (.int x2), some (.int x3), some (.int (x4 + 1))]) (dt_X11_choose 55 (86, .iinc 4 1, 3) rfl) rfl (by decide) (by decide) rfl rfl (aw_goto (tgt := 22) (dt_X11_choose 56 (89, .goto (-67), 3) rfl) (by decide) ?_))))
        exact h

theorem t_X11_soldBy {E : ZE} {l : Launch} {d nc ns : Nat} {x1 : Int32} {x2 : Int32} {x3 : Int32} {μ : ZM} {K : Option Value → ZM → Prop} (hS : Stat μ) (h :
  AW E l (d + 1) nc ns mX11_soldBy 6 [some (.ref 31), some (.int x1), some (.int x2), some (.int x3), some (.int 0), some (.int 0)] [] μ K) : AW E l (d + 1) nc ns mX11_soldBy 0 [some (.ref 31), some (.int x1), some (.int x2), some (.int x3), none, none] [] μ K := by
  refine aw_iconst (pc' := 1) (v := 0) (dt_X11_soldBy 0 (0, .iconst 0, 1) rfl) (by decide) rfl (aw_istore (pc' := 3) (ls' := [some (.ref 31), some (.int x1), some (.int x2), some (.int x3), some (.int 0), none]) (dt_X11_soldBy 1 (1, .istore 4, 2) rfl) (by decide) rfl rfl (aw_iconst (pc' := 4) (v := 0) (dt_X11_soldBy 2 (3, .iconst 0, 1) rfl) (by decide) rfl (aw_istore (pc' := 6) (ls' := [some (.ref 31), some (.int x1), some (.int x2), some (.int x3), some (.int 0), some (.int 0)]) (dt_X11_soldBy 3 (4, .istore 5, 2) rfl) (by decide) rfl rfl ?_)))
  exact h

theorem t_X11_soldBy_6 {E : ZE} {l : Launch} {d nc ns : Nat} {x1 : Int32} {x2 : Int32} {x3 : Int32} {x4 : Int32} {x5 : Int32} {μ : ZM} {K : Option Value → ZM → Prop} (hS : Stat μ) (h :
  ((zI μ 31 22) ≤ x5 →
    K (some (.int x4)) μ) ∧
  (¬ (zI μ 31 22) ≤ x5 →
    (vp_in x5 300) ∧
    (vp_in (zI μ 49 x5.toNatClampNeg) 60) ∧
    (¬ (zI μ 45 (zI μ 49 x5.toNatClampNeg).toNatClampNeg) = x1 →
      AW E l (d + 1) nc ns mX11_soldBy 6 [some (.ref 31), some (.int x1), some (.int x2), some (.int x3), some (.int (x4 + 0)), some (.int (x5 + 1))] [] μ K) ∧
    ((zI μ 45 (zI μ 49 x5.toNatClampNeg).toNatClampNeg) = x1 →
      (vp_in x5 300) ∧
      (x2 < ((zI μ 55 x5.toNatClampNeg) / 24) →
        AW E l (d + 1) nc ns mX11_soldBy 6 [some (.ref 31), some (.int x1), some (.int x2), some (.int x3), some (.int (x4 + 0)), some (.int (x5 + 1))] [] μ K) ∧
      (¬ x2 < ((zI μ 55 x5.toNatClampNeg) / 24) →
        (x3 = 0 →
          AW E l (d + 1) nc ns mX11_soldBy 6 [some (.ref 31), some (.int x1), some (.int x2), some (.int x3), some (.int (x4 + 1)), some (.int (x5 + 1))] [] μ K) ∧
        (¬ x3 = 0 →
          (vp_in x5 300) ∧
          ((zI μ 59 x5.toNatClampNeg) < 0 →
            AW E l (d + 1) nc ns mX11_soldBy 6 [some (.ref 31), some (.int x1), some (.int x2), some (.int x3), some (.int (x4 + 0)), some (.int (x5 + 1))] [] μ K) ∧
          (¬ (zI μ 59 x5.toNatClampNeg) < 0 →
            (vp_in x5 300) ∧
            (x2 < (zI μ 59 x5.toNatClampNeg) →
              AW E l (d + 1) nc ns mX11_soldBy 6 [some (.ref 31), some (.int x1), some (.int x2), some (.int x3), some (.int (x4 + 0)), some (.int (x5 + 1))] [] μ K) ∧
            (¬ x2 < (zI μ 59 x5.toNatClampNeg) →
              AW E l (d + 1) nc ns mX11_soldBy 6 [some (.ref 31), some (.int x1), some (.int x2), some (.int x3), some (.int (x4 + 1)), some (.int (x5 + 1))] [] μ K))))))) : AW E l (d + 1) nc ns mX11_soldBy 6 [some (.ref 31), some (.int x1), some (.int x2), some (.int x3), some (.int x4), some (.int x5)] [] μ K := by
  refine aw_iload (pc' := 8) (dt_X11_soldBy 4 (6, .iload 5, 2) rfl) rfl rfl (aw_aload_n (pc' := 9) (dt_X11_soldBy 5 (8, .aload_n 0, 1) rfl) rfl rfl (aw_getI (pc' := 12) (dt_X11_soldBy 6 (9, .getfield 215, 3) rfl) fl_ReturnDeskModel_215 rfl rfl (sk_31 hS) (aw_icmp_ge (pc' := 15) (tgt := 76) (dt_X11_soldBy 7 (12, .if_icmp .ge 64, 3) rfl) (by decide) rfl ?_ ?_)))
  · intro q1
    have h := h.1 q1
    refine aw_iload (pc' := 78) (dt_X11_soldBy 39 (76, .iload 4, 2) rfl) rfl rfl (aw_iret (dt_X11_soldBy 40 (78, .ireturn, 1) rfl) rfl rfl ?_)
    exact h
  · intro q1
    have h := h.2 q1
    obtain ⟨g2, h⟩ := h
    obtain ⟨g3, h⟩ := h
    refine aw_iload (pc' := 17) (dt_X11_soldBy 8 (15, .iload 4, 2) rfl) rfl rfl (aw_aload_n (pc' := 18) (dt_X11_soldBy 9 (17, .aload_n 0, 1) rfl) rfl rfl (aw_iload (pc' := 20) (dt_X11_soldBy 10 (18, .iload 5, 2) rfl) rfl rfl (aw_inV (pc' := 23) (nc1 := 0) (ns1 := 0) (nc := nc) (ns := ns) (ls' := [some (.ref 31), some (.int x5)]) (y2 := mX11_modelOf) (As := [.int x5]) (rest := [.int x4]) (a := 31) (dt_X11_soldBy 11 (20, .invokevirtual 231, 3) rfl) ok_X11_modelOf ln_ReturnDeskModel_231 im_X11_modelOf se_X11_modelOf pr_X11_modelOf (Or.inl ⟨by decide, rfl⟩) rfl (Nat.le_of_ble_eq_true rfl) (Nat.le_of_ble_eq_true rfl) rfl rfl (sk_31 hS) (aw_aload_n (pc' := 1) (dt_X11_modelOf 0 (0, .aload_n 0, 1) rfl) rfl rfl (aw_getAs (pc' := 4) (dt_X11_modelOf 1 (1, .getfield 50, 3) rfl) fl_ReturnDeskModel_50 rfl rfl (sk_31 hS) (sa_31_19 hS) (aw_aload_n (pc' := 5) (dt_X11_modelOf 2 (4, .aload_n 0, 1) rfl) rfl rfl (aw_getAs (pc' := 8) (dt_X11_modelOf 3 (5, .getfield 62, 3) rfl) fl_ReturnDeskModel_62 rfl rfl (sk_31 hS) (sa_31_24 hS) (aw_iload_n (pc' := 9) (dt_X11_modelOf 4 (8, .iload_n 1, 1) rfl) rfl rfl (aw_iald (pc' := 10) (dt_X11_modelOf 5 (9, .iaload, 1) rfl) rfl (sk_49 hS) (vin_eq (sl_49 hS) g2) (aw_iald (pc' := 11) (dt_X11_modelOf 6 (10, .iaload, 1) rfl) rfl (sk_45 hS) (vin_eq (sl_45 hS) g3) (aw_iret (dt_X11_modelOf 7 (11, .ireturn, 1) rfl) rfl rfl (aw_stk (st' := [.int (zI μ 45 (zI μ 49 x5.toNatClampNeg).toNatClampNeg), .int x4]) rfl (aw_iload_n (pc' := 24) (dt_X11_soldBy 12 (23, .iload_n 1, 1) rfl) rfl rfl (aw_icmp_ne (pc' := 27) (tgt := 66) (dt_X11_soldBy 13 (24, .if_icmp .ne 42, 3) rfl) (by decide) rfl ?_ ?_))))))))))))))
    · intro q4
      have h := h.1 q4
      refine aw_iconst (pc' := 67) (v := 0) (dt_X11_soldBy 34 (66, .iconst 0, 1) rfl) (by decide) rfl (aw_iadd (pc' := 68) (dt_X11_soldBy 35 (67, .iadd, 1) rfl) rfl (aw_istore (pc' := 70) (ls' := [some (.ref 31), some (.int x1), some (.int x2), some (.int x3), some (.int (x4 + 0)), some (.int x5)]) (dt_X11_soldBy 36 (68, .istore 4, 2) rfl) (by decide) rfl rfl (aw_iinc (pc' := 73) (v := 1) (ls' := [some (.ref 31), some (.int x1), some (.int x2), some (.int x3), some (.int (x4 + 0)), some (.int (x5 + 1))]) (dt_X11_soldBy 37 (70, .iinc 5 1, 3) rfl) rfl (by decide) (by decide) rfl rfl (aw_goto (tgt := 6) (dt_X11_soldBy 38 (73, .goto (-67), 3) rfl) (by decide) ?_))))
      exact h
    · intro q4
      have h := h.2 q4
      obtain ⟨g5, h⟩ := h
      refine aw_aload_n (pc' := 28) (dt_X11_soldBy 14 (27, .aload_n 0, 1) rfl) rfl rfl (aw_iload (pc' := 30) (dt_X11_soldBy 15 (28, .iload 5, 2) rfl) rfl rfl (aw_inV (pc' := 33) (nc1 := 0) (ns1 := 0) (nc := nc) (ns := ns) (ls' := [some (.ref 31), some (.int x5)]) (y2 := mX11_dayOf) (As := [.int x5]) (rest := [.int x4]) (a := 31) (dt_X11_soldBy 16 (30, .invokevirtual 350, 3) rfl) ok_X11_dayOf ln_ReturnDeskModel_350 im_X11_dayOf se_X11_dayOf pr_X11_dayOf (Or.inl ⟨by decide, rfl⟩) rfl (Nat.le_of_ble_eq_true rfl) (Nat.le_of_ble_eq_true rfl) rfl rfl (sk_31 hS) (aw_aload_n (pc' := 1) (dt_X11_dayOf 0 (0, .aload_n 0, 1) rfl) rfl rfl (aw_getAs (pc' := 4) (dt_X11_dayOf 1 (1, .getfield 80, 3) rfl) fl_ReturnDeskModel_80 rfl rfl (sk_31 hS) (sa_31_30 hS) (aw_iload_n (pc' := 5) (dt_X11_dayOf 2 (4, .iload_n 1, 1) rfl) rfl rfl (aw_iald (pc' := 6) (dt_X11_dayOf 3 (5, .iaload, 1) rfl) rfl (sk_55 hS) (vin_eq (sl_55 hS) g5) (aw_bipush (pc' := 8) (v := 24) (dt_X11_dayOf 4 (6, .bipush 24, 2) rfl) (by decide) rfl (aw_idiv (pc' := 9) (dt_X11_dayOf 5 (8, .idiv, 1) rfl) (by decide) rfl (aw_iret (dt_X11_dayOf 6 (9, .ireturn, 1) rfl) rfl rfl (aw_stk (st' := [.int ((zI μ 55 x5.toNatClampNeg) / 24), .int x4]) rfl (aw_iload_n (pc' := 34) (dt_X11_soldBy 17 (33, .iload_n 2, 1) rfl) rfl rfl (aw_icmp_gt (pc' := 37) (tgt := 66) (dt_X11_soldBy 18 (34, .if_icmp .gt 32, 3) rfl) (by decide) rfl ?_ ?_))))))))))))
      · intro q6
        have h := h.1 q6
        refine aw_iconst (pc' := 67) (v := 0) (dt_X11_soldBy 34 (66, .iconst 0, 1) rfl) (by decide) rfl (aw_iadd (pc' := 68) (dt_X11_soldBy 35 (67, .iadd, 1) rfl) rfl (aw_istore (pc' := 70) (ls' := [some (.ref 31), some (.int x1), some (.int x2), some (.int x3), some (.int (x4 + 0)), some (.int x5)]) (dt_X11_soldBy 36 (68, .istore 4, 2) rfl) (by decide) rfl rfl (aw_iinc (pc' := 73) (v := 1) (ls' := [some (.ref 31), some (.int x1), some (.int x2), some (.int x3), some (.int (x4 + 0)), some (.int (x5 + 1))]) (dt_X11_soldBy 37 (70, .iinc 5 1, 3) rfl) rfl (by decide) (by decide) rfl rfl (aw_goto (tgt := 6) (dt_X11_soldBy 38 (73, .goto (-67), 3) rfl) (by decide) ?_))))
        exact h
      · intro q6
        have h := h.2 q6
        refine aw_iload_n (pc' := 38) (dt_X11_soldBy 19 (37, .iload_n 3, 1) rfl) rfl rfl (aw_if_eq (pc' := 41) (tgt := 62) (dt_X11_soldBy 20 (38, .ifCond .eq 24, 3) rfl) (by decide) rfl ?_ ?_)
        · intro q7
          have h := h.1 q7
          refine aw_iconst (pc' := 63) (v := 1) (dt_X11_soldBy 32 (62, .iconst 1, 1) rfl) (by decide) rfl (aw_goto (tgt := 67) (dt_X11_soldBy 33 (63, .goto 4, 3) rfl) (by decide) (aw_iadd (pc' := 68) (dt_X11_soldBy 35 (67, .iadd, 1) rfl) rfl (aw_istore (pc' := 70) (ls' := [some (.ref 31), some (.int x1), some (.int x2), some (.int x3), some (.int (x4 + 1)), some (.int x5)]) (dt_X11_soldBy 36 (68, .istore 4, 2) rfl) (by decide) rfl rfl (aw_iinc (pc' := 73) (v := 1) (ls' := [some (.ref 31), some (.int x1), some (.int x2), some (.int x3), some (.int (x4 + 1)), some (.int (x5 + 1))]) (dt_X11_soldBy 37 (70, .iinc 5 1, 3) rfl) rfl (by decide) (by decide) rfl rfl (aw_goto (tgt := 6) (dt_X11_soldBy 38 (73, .goto (-67), 3) rfl) (by decide) ?_)))))
          exact h
        · intro q7
          have h := h.2 q7
          obtain ⟨g8, h⟩ := h
          refine aw_aload_n (pc' := 42) (dt_X11_soldBy 21 (41, .aload_n 0, 1) rfl) rfl rfl (aw_getAs (pc' := 45) (dt_X11_soldBy 22 (42, .getfield 92, 3) rfl) fl_ReturnDeskModel_92 rfl rfl (sk_31 hS) (sa_31_34 hS) (aw_iload (pc' := 47) (dt_X11_soldBy 23 (45, .iload 5, 2) rfl) rfl rfl (aw_iald (pc' := 48) (dt_X11_soldBy 24 (47, .iaload, 1) rfl) rfl (sk_59 hS) (vin_eq (sl_59 hS) g8) (aw_if_lt (pc' := 51) (tgt := 66) (dt_X11_soldBy 25 (48, .ifCond .lt 18, 3) rfl) (by decide) rfl ?_ ?_))))
          · intro q9
            have h := h.1 q9
            refine aw_iconst (pc' := 67) (v := 0) (dt_X11_soldBy 34 (66, .iconst 0, 1) rfl) (by decide) rfl (aw_iadd (pc' := 68) (dt_X11_soldBy 35 (67, .iadd, 1) rfl) rfl (aw_istore (pc' := 70) (ls' := [some (.ref 31), some (.int x1), some (.int x2), some (.int x3), some (.int (x4 + 0)), some (.int x5)]) (dt_X11_soldBy 36 (68, .istore 4, 2) rfl) (by decide) rfl rfl (aw_iinc (pc' := 73) (v := 1) (ls' := [some (.ref 31), some (.int x1), some (.int x2), some (.int x3), some (.int (x4 + 0)), some (.int (x5 + 1))]) (dt_X11_soldBy 37 (70, .iinc 5 1, 3) rfl) rfl (by decide) (by decide) rfl rfl (aw_goto (tgt := 6) (dt_X11_soldBy 38 (73, .goto (-67), 3) rfl) (by decide) ?_))))
            exact h
          · intro q9
            have h := h.2 q9
            obtain ⟨g10, h⟩ := h
            refine aw_aload_n (pc' := 52) (dt_X11_soldBy 26 (51, .aload_n 0, 1) rfl) rfl rfl (aw_getAs (pc' := 55) (dt_X11_soldBy 27 (52, .getfield 92, 3) rfl) fl_ReturnDeskModel_92 rfl rfl (sk_31 hS) (sa_31_34 hS) (aw_iload (pc' := 57) (dt_X11_soldBy 28 (55, .iload 5, 2) rfl) rfl rfl (aw_iald (pc' := 58) (dt_X11_soldBy 29 (57, .iaload, 1) rfl) rfl (sk_59 hS) (vin_eq (sl_59 hS) g10) (aw_iload_n (pc' := 59) (dt_X11_soldBy 30 (58, .iload_n 2, 1) rfl) rfl rfl (aw_icmp_gt (pc' := 62) (tgt := 66) (dt_X11_soldBy 31 (59, .if_icmp .gt 7, 3) rfl) (by decide) rfl ?_ ?_)))))
            · intro q11
              have h := h.1 q11
              refine aw_iconst (pc' := 67) (v := 0) (dt_X11_soldBy 34 (66, .iconst 0, 1) rfl) (by decide) rfl (aw_iadd (pc' := 68) (dt_X11_soldBy 35 (67, .iadd, 1) rfl) rfl (aw_istore (pc' := 70) (ls' := [some (.ref 31), some (.int x1), some (.int x2), some (.int x3), some (.int (x4 + 0)), some (.int x5)]) (dt_X11_soldBy 36 (68, .istore 4, 2) rfl) (by decide) rfl rfl (aw_iinc (pc' := 73) (v := 1) (ls' := [some (.ref 31), some (.int x1), some (.int x2), some (.int x3), some (.int (x4 + 0)), some (.int (x5 + 1))]) (dt_X11_soldBy 37 (70, .iinc 5 1, 3) rfl) rfl (by decide) (by decide) rfl rfl (aw_goto (tgt := 6) (dt_X11_soldBy 38 (73, .goto (-67), 3) rfl) (by decide) ?_))))
              exact h
            · intro q11
              have h := h.2 q11
              refine aw_iconst (pc' := 63) (v := 1) (dt_X11_soldBy 32 (62, .iconst 1, 1) rfl) (by decide) rfl (aw_goto (tgt := 67) (dt_X11_soldBy 33 (63, .goto 4, 3) rfl) (by decide) (aw_iadd (pc' := 68) (dt_X11_soldBy 35 (67, .iadd, 1) rfl) rfl (aw_istore (pc' := 70) (ls' := [some (.ref 31), some (.int x1), some (.int x2), some (.int x3), some (.int (x4 + 1)), some (.int x5)]) (dt_X11_soldBy 36 (68, .istore 4, 2) rfl) (by decide) rfl rfl (aw_iinc (pc' := 73) (v := 1) (ls' := [some (.ref 31), some (.int x1), some (.int x2), some (.int x3), some (.int (x4 + 1)), some (.int (x5 + 1))]) (dt_X11_soldBy 37 (70, .iinc 5 1, 3) rfl) rfl (by decide) (by decide) rfl rfl (aw_goto (tgt := 6) (dt_X11_soldBy 38 (73, .goto (-67), 3) rfl) (by decide) ?_)))))
              exact h

theorem t_X11_isBeyond {E : ZE} {l : Launch} {d nc ns : Nat} {x1 : Int32} {x2 : Int32} {x3 : Int32} {μ : ZM} {K : Option Value → ZM → Prop} (hS : Stat μ) (h :
  (vp_in x1 60) ∧
  AW E l (d + 2) 0 0 mX11_soldBy 0 (zargs 6 [.ref 31, .int (zI μ 45 x1.toNatClampNeg), .int x3, .int 0]) [] μ (fun v μ2 => ∃ r4 : Int32, v = some (.int r4) ∧ Stat μ2 ∧ 
    (r4 ≤ 60 →
      (vp_in x1 60) ∧
      AW E l (d + 2) 0 0 mX11_soldBy 0 (zargs 6 [.ref 31, .int (zI μ2 45 x1.toNatClampNeg), .int x3, .int 1]) [] μ2 (fun v μ7 => ∃ r9 : Int32, v = some (.int r9) ∧ Stat μ7 ∧ 
        AW E l (d + 2) 0 0 mX11_ofLot 0 (zargs 6 [.ref 31, .int x1, .int 0, .int x3]) [] μ7 (fun v μ10 => ∃ r12 : Int32, v = some (.int r12) ∧ Stat μ10 ∧ 
          AW E l (d + 2) 0 0 mX11_ofLot 0 (zargs 6 [.ref 31, .int x1, .int 1, .int x3]) [] μ10 (fun v μ13 => ∃ r15 : Int32, v = some (.int r15) ∧ Stat μ13 ∧ 
            AW E l (d + 3) nc ns mX11_isBeyond 63 [some (.ref 31), none, some (.int x2), none, some (.int r4), some (.int r9), some (.int r12), none, some (.long 0), none, some (.int r15), none, none, none] [] μ13 K)))) ∧
    (¬ r4 ≤ 60 →
      K (some (.int (-4))) μ2))) : AW E l (d + 3) nc ns mX11_isBeyond 0 [some (.ref 31), some (.int x1), some (.int x2), some (.int x3), none, none, none, none, none, none, none, none, none, none] [] μ K := by
  obtain ⟨g1, h⟩ := h
  refine aw_aload_n (pc' := 1) (dt_X11_isBeyond 0 (0, .aload_n 0, 1) rfl) rfl rfl (aw_aload_n (pc' := 2) (dt_X11_isBeyond 1 (1, .aload_n 0, 1) rfl) rfl rfl (aw_getAs (pc' := 5) (dt_X11_isBeyond 2 (2, .getfield 50, 3) rfl) fl_ReturnDeskModel_50 rfl rfl (sk_31 hS) (sa_31_19 hS) (aw_iload_n (pc' := 6) (dt_X11_isBeyond 3 (5, .iload_n 1, 1) rfl) rfl rfl (aw_iald (pc' := 7) (dt_X11_isBeyond 4 (6, .iaload, 1) rfl) rfl (sk_45 hS) (vin_eq (sl_45 hS) g1) (aw_iload_n (pc' := 8) (dt_X11_isBeyond 5 (7, .iload_n 3, 1) rfl) rfl rfl (aw_iconst (pc' := 9) (v := 0) (dt_X11_isBeyond 6 (8, .iconst 0, 1) rfl) (by decide) rfl (aw_callV0 (pc' := 12) (nc := nc) (ns := ns) (y2 := mX11_soldBy) (As := [.int (zI μ 45 x1.toNatClampNeg), .int x3, .int 0]) (rest := []) (a := 31) (dt_X11_isBeyond 7 (9, .invokevirtual 434, 3) rfl) ok_X11_soldBy ln_ReturnDeskModel_434 im_X11_soldBy se_X11_soldBy pr_X11_soldBy (Or.inl ⟨by decide, rfl⟩) rfl (Nat.le_of_ble_eq_true rfl) (Nat.le_of_ble_eq_true rfl) rfl (sk_31 hS) h ?_)))))))
  rintro v μ2 ⟨r4, rfl, hS3, h⟩
  refine aw_stk (st' := [.int r4]) rfl ?_
  refine aw_istore (pc' := 14) (ls' := [some (.ref 31), some (.int x1), some (.int x2), some (.int x3), some (.int r4), none, none, none, none, none, none, none, none, none]) (dt_X11_isBeyond 8 (12, .istore 4, 2) rfl) (by decide) rfl rfl (aw_iload (pc' := 16) (dt_X11_isBeyond 9 (14, .iload 4, 2) rfl) rfl rfl (aw_bipush (pc' := 18) (v := 60) (dt_X11_isBeyond 10 (16, .bipush 60, 2) rfl) (by decide) rfl (aw_icmp_le (pc' := 21) (tgt := 24) (dt_X11_isBeyond 11 (18, .if_icmp .le 6, 3) rfl) (by decide) rfl ?_ ?_)))
  · intro q5
    have h := h.1 q5
    obtain ⟨g6, h⟩ := h
    refine aw_aload_n (pc' := 25) (dt_X11_isBeyond 14 (24, .aload_n 0, 1) rfl) rfl rfl (aw_aload_n (pc' := 26) (dt_X11_isBeyond 15 (25, .aload_n 0, 1) rfl) rfl rfl (aw_getAs (pc' := 29) (dt_X11_isBeyond 16 (26, .getfield 50, 3) rfl) fl_ReturnDeskModel_50 rfl rfl (sk_31 hS3) (sa_31_19 hS3) (aw_iload_n (pc' := 30) (dt_X11_isBeyond 17 (29, .iload_n 1, 1) rfl) rfl rfl (aw_iald (pc' := 31) (dt_X11_isBeyond 18 (30, .iaload, 1) rfl) rfl (sk_45 hS3) (vin_eq (sl_45 hS3) g6) (aw_iload_n (pc' := 32) (dt_X11_isBeyond 19 (31, .iload_n 3, 1) rfl) rfl rfl (aw_iconst (pc' := 33) (v := 1) (dt_X11_isBeyond 20 (32, .iconst 1, 1) rfl) (by decide) rfl (aw_callV0 (pc' := 36) (nc := nc) (ns := ns) (y2 := mX11_soldBy) (As := [.int (zI μ2 45 x1.toNatClampNeg), .int x3, .int 1]) (rest := []) (a := 31) (dt_X11_isBeyond 21 (33, .invokevirtual 434, 3) rfl) ok_X11_soldBy ln_ReturnDeskModel_434 im_X11_soldBy se_X11_soldBy pr_X11_soldBy (Or.inl ⟨by decide, rfl⟩) rfl (Nat.le_of_ble_eq_true rfl) (Nat.le_of_ble_eq_true rfl) rfl (sk_31 hS3) h ?_)))))))
    rintro v μ7 ⟨r9, rfl, hS8, h⟩
    refine aw_stk (st' := [.int r9]) rfl ?_
    refine aw_istore (pc' := 38) (ls' := [some (.ref 31), some (.int x1), some (.int x2), some (.int x3), some (.int r4), some (.int r9), none, none, none, none, none, none, none, none]) (dt_X11_isBeyond 22 (36, .istore 5, 2) rfl) (by decide) rfl rfl (aw_aload_n (pc' := 39) (dt_X11_isBeyond 23 (38, .aload_n 0, 1) rfl) rfl rfl (aw_iload_n (pc' := 40) (dt_X11_isBeyond 24 (39, .iload_n 1, 1) rfl) rfl rfl (aw_iconst (pc' := 41) (v := 0) (dt_X11_isBeyond 25 (40, .iconst 0, 1) rfl) (by decide) rfl (aw_iload_n (pc' := 42) (dt_X11_isBeyond 26 (41, .iload_n 3, 1) rfl) rfl rfl (aw_callV0 (pc' := 45) (nc := nc) (ns := ns) (y2 := mX11_ofLot) (As := [.int x1, .int 0, .int x3]) (rest := []) (a := 31) (dt_X11_isBeyond 27 (42, .invokevirtual 438, 3) rfl) ok_X11_ofLot ln_ReturnDeskModel_438 im_X11_ofLot se_X11_ofLot pr_X11_ofLot (Or.inl ⟨by decide, rfl⟩) rfl (Nat.le_of_ble_eq_true rfl) (Nat.le_of_ble_eq_true rfl) rfl (sk_31 hS8) h ?_)))))
    rintro v μ10 ⟨r12, rfl, hS11, h⟩
    refine aw_stk (st' := [.int r12]) rfl ?_
    refine aw_istore (pc' := 47) (ls' := [some (.ref 31), some (.int x1), some (.int x2), some (.int x3), some (.int r4), some (.int r9), some (.int r12), none, none, none, none, none, none, none]) (dt_X11_isBeyond 28 (45, .istore 6, 2) rfl) (by decide) rfl rfl (aw_aload_n (pc' := 48) (dt_X11_isBeyond 29 (47, .aload_n 0, 1) rfl) rfl rfl (aw_iload_n (pc' := 49) (dt_X11_isBeyond 30 (48, .iload_n 1, 1) rfl) rfl rfl (aw_iconst (pc' := 50) (v := 1) (dt_X11_isBeyond 31 (49, .iconst 1, 1) rfl) (by decide) rfl (aw_iload_n (pc' := 51) (dt_X11_isBeyond 32 (50, .iload_n 3, 1) rfl) rfl rfl (aw_callV0 (pc' := 54) (nc := nc) (ns := ns) (y2 := mX11_ofLot) (As := [.int x1, .int 1, .int x3]) (rest := []) (a := 31) (dt_X11_isBeyond 33 (51, .invokevirtual 438, 3) rfl) ok_X11_ofLot ln_ReturnDeskModel_438 im_X11_ofLot se_X11_ofLot pr_X11_ofLot (Or.inl ⟨by decide, rfl⟩) rfl (Nat.le_of_ble_eq_true rfl) (Nat.le_of_ble_eq_true rfl) rfl (sk_31 hS11) h ?_)))))
    rintro v μ13 ⟨r15, rfl, hS14, h⟩
    refine aw_stk (st' := [.int r15]) rfl ?_
    refine aw_istore (pc' := 56) (ls' := [some (.ref 31), some (.int x1), some (.int x2), some (.int x3), some (.int r4), some (.int r9), some (.int r12), some (.int r15), none, none, none, none, none, none]) (dt_X11_isBeyond 34 (54, .istore 7, 2) rfl) (by decide) rfl rfl (aw_lconst (pc' := 57) (v := 0) (dt_X11_isBeyond 35 (56, .lconst 0, 1) rfl) (by decide) rfl (aw_lstore (pc' := 59) (ls' := [some (.ref 31), some (.int x1), some (.int x2), some (.int x3), some (.int r4), some (.int r9), some (.int r12), some (.int r15), some (.long 0), none, none, none, none, none]) (dt_X11_isBeyond 36 (57, .lstore 8, 2) rfl) (by decide) rfl rfl (aw_iload (pc' := 61) (dt_X11_isBeyond 37 (59, .iload 7, 2) rfl) rfl rfl (aw_istore (pc' := 63) (ls' := [some (.ref 31), some (.int x1), some (.int x2), some (.int x3), some (.int r4), some (.int r9), some (.int r12), some (.int r15), some (.long 0), none, some (.int r15), none, none, none]) (dt_X11_isBeyond 38 (61, .istore 10, 2) rfl) (by decide) rfl rfl (aw_drop (ls' := [some (.ref 31), none, some (.int x2), none, some (.int r4), some (.int r9), some (.int r12), none, some (.long 0), none, some (.int r15), none, none, none]) ⟨rfl, rfl, rfl, rfl, rfl, rfl, rfl, trivial⟩ ?_)))))
    exact h
  · intro q5
    have h := h.2 q5
    refine aw_bipush (pc' := 23) (v := (-4)) (dt_X11_isBeyond 12 (21, .bipush (-4), 2) rfl) (by decide) rfl (aw_iret (dt_X11_isBeyond 13 (23, .ireturn, 1) rfl) rfl rfl ?_)
    exact h

theorem t_X11_isBeyond_63 {E : ZE} {l : Launch} {d nc ns : Nat} {x2 : Int32} {x4 : Int32} {x5 : Int32} {x6 : Int32} {x8 : Int64} {x10 : Int32} {μ : ZM} {K : Option Value → ZM → Prop} (hS : Stat μ) (h :
  (x6 < x10 →
    AW E l (d + 2) 0 0 mX11_choose 0 (zargs 5 [.ref 31, .int x4, .int x6]) [] μ (fun v μ2 => ∃ r4 : Int64, v = some (.long r4) ∧ Stat μ2 ∧ 
      (0 ≤ (lg_cmp (x8 - ((x2).toInt64 * (r4 / 10000))) (0 : Int64)) →
        (0 ≤ (lg_cmp (x8 - ((x2).toInt64 * (r4 / 10000))) (10000 : Int64)) →
          K (some (.int 0)) μ2) ∧
        (¬ 0 ≤ (lg_cmp (x8 - ((x2).toInt64 * (r4 / 10000))) (10000 : Int64)) →
          (0 ≤ (lg_cmp ((10000 : Int64) * (x8 - ((x2).toInt64 * (r4 / 10000)))) ((x2).toInt64 * (r4 - r4 / 10000 * 10000))) →
            K (some (.int 0)) μ2) ∧
          (¬ 0 ≤ (lg_cmp ((10000 : Int64) * (x8 - ((x2).toInt64 * (r4 / 10000)))) ((x2).toInt64 * (r4 - r4 / 10000 * 10000))) →
            K (some (.int 1)) μ2))) ∧
      (¬ 0 ≤ (lg_cmp (x8 - ((x2).toInt64 * (r4 / 10000))) (0 : Int64)) →
        K (some (.int 1)) μ2))) ∧
  (¬ x6 < x10 →
    AW E l (d + 2) 0 0 mX11_choose 0 (zargs 5 [.ref 31, .int x5, .int x10]) [] μ (fun v μ8 => ∃ r10 : Int64, v = some (.long r10) ∧ Stat μ8 ∧ 
      AW E l (d + 2) 0 0 mX11_choose 0 (zargs 5 [.ref 31, .int (x4 - x5), .int (x6 - x10)]) [] μ8 (fun v μ11 => ∃ r13 : Int64, v = some (.long r13) ∧ Stat μ11 ∧ 
        AW E l (d + 3) nc ns mX11_isBeyond 63 [some (.ref 31), none, some (.int x2), none, some (.int x4), some (.int x5), some (.int x6), none, some (.long (x8 + (r10 * r13))), none, some (.int (x10 + 1)), none, none, none] [] μ11 K)))) : AW E l (d + 3) nc ns mX11_isBeyond 63 [some (.ref 31), none, some (.int x2), none, some (.int x4), some (.int x5), some (.int x6), none, some (.long x8), none, some (.int x10), none, none, none] [] μ K := by
  refine aw_iload (pc' := 65) (dt_X11_isBeyond 39 (63, .iload 10, 2) rfl) rfl rfl (aw_iload (pc' := 67) (dt_X11_isBeyond 40 (65, .iload 6, 2) rfl) rfl rfl (aw_icmp_gt (pc' := 70) (tgt := 104) (dt_X11_isBeyond 41 (67, .if_icmp .gt 37, 3) rfl) (by decide) rfl ?_ ?_))
  · intro q1
    have h := h.1 q1
    refine aw_aload_n (pc' := 105) (dt_X11_isBeyond 60 (104, .aload_n 0, 1) rfl) rfl rfl (aw_iload (pc' := 107) (dt_X11_isBeyond 61 (105, .iload 4, 2) rfl) rfl rfl (aw_iload (pc' := 109) (dt_X11_isBeyond 62 (107, .iload 6, 2) rfl) rfl rfl (aw_callV0 (pc' := 112) (nc := nc) (ns := ns) (y2 := mX11_choose) (As := [.int x4, .int x6]) (rest := []) (a := 31) (dt_X11_isBeyond 63 (109, .invokevirtual 441, 3) rfl) ok_X11_choose ln_ReturnDeskModel_441 im_X11_choose se_X11_choose pr_X11_choose (Or.inl ⟨by decide, rfl⟩) rfl (Nat.le_of_ble_eq_true rfl) (Nat.le_of_ble_eq_true rfl) rfl (sk_31 hS) h ?_)))
    rintro v μ2 ⟨r4, rfl, hS3, h⟩
    refine aw_stk (st' := [.long r4]) rfl ?_
    refine aw_lstore (pc' := 114) (ls' := [some (.ref 31), none, some (.int x2), none, some (.int x4), some (.int x5), some (.int x6), none, some (.long x8), none, some (.long r4), none, none, none]) (dt_X11_isBeyond 64 (112, .lstore 10, 2) rfl) (by decide) rfl rfl (aw_lload (pc' := 116) (dt_X11_isBeyond 65 (114, .lload 8, 2) rfl) rfl rfl (aw_iload_n (pc' := 117) (dt_X11_isBeyond 66 (116, .iload_n 2, 1) rfl) rfl rfl (aw_i2l (pc' := 118) (dt_X11_isBeyond 67 (117, .i2l, 1) rfl) rfl (aw_lload (pc' := 120) (dt_X11_isBeyond 68 (118, .lload 10, 2) rfl) rfl rfl (aw_ldc2 (pc' := 123) (dt_X11_isBeyond 69 (120, .ldc2_w 445, 3) rfl) ct_ReturnDeskModel_445 rfl (aw_ldiv (pc' := 124) (dt_X11_isBeyond 70 (123, .ldiv, 1) rfl) (by decide) rfl (aw_lmul (pc' := 125) (dt_X11_isBeyond 71 (124, .lmul, 1) rfl) rfl (aw_lsub (pc' := 126) (dt_X11_isBeyond 72 (125, .lsub, 1) rfl) rfl (aw_lstore (pc' := 128) (ls' := [some (.ref 31), none, some (.int x2), none, some (.int x4), some (.int x5), some (.int x6), none, some (.long x8), none, some (.long r4), none, some (.long (x8 - ((x2).toInt64 * (r4 / 10000)))), none]) (dt_X11_isBeyond 73 (126, .lstore 12, 2) rfl) (by decide) rfl rfl (aw_lload (pc' := 130) (dt_X11_isBeyond 74 (128, .lload 12, 2) rfl) rfl rfl (aw_lconst (pc' := 131) (v := 0) (dt_X11_isBeyond 75 (130, .lconst 0, 1) rfl) (by decide) rfl (aw_lcmp (pc' := 132) (dt_X11_isBeyond 76 (131, .lcmp, 1) rfl) rfl (aw_if_ge (pc' := 135) (tgt := 137) (dt_X11_isBeyond 77 (132, .ifCond .ge 5, 3) rfl) (by decide) rfl ?_ ?_)))))))))))))
    · intro q5
      have h := h.1 q5
      refine aw_lload (pc' := 139) (dt_X11_isBeyond 80 (137, .lload 12, 2) rfl) rfl rfl (aw_ldc2 (pc' := 142) (dt_X11_isBeyond 81 (139, .ldc2_w 445, 3) rfl) ct_ReturnDeskModel_445 rfl (aw_lcmp (pc' := 143) (dt_X11_isBeyond 82 (142, .lcmp, 1) rfl) rfl (aw_if_ge (pc' := 146) (tgt := 169) (dt_X11_isBeyond 83 (143, .ifCond .ge 26, 3) rfl) (by decide) rfl ?_ ?_)))
      · intro q6
        have h := h.1 q6
        refine aw_iconst (pc' := 170) (v := 0) (dt_X11_isBeyond 97 (169, .iconst 0, 1) rfl) (by decide) rfl (aw_iret (dt_X11_isBeyond 98 (170, .ireturn, 1) rfl) rfl rfl ?_)
        exact h
      · intro q6
        have h := h.2 q6
        refine aw_ldc2 (pc' := 149) (dt_X11_isBeyond 84 (146, .ldc2_w 445, 3) rfl) ct_ReturnDeskModel_445 rfl (aw_lload (pc' := 151) (dt_X11_isBeyond 85 (149, .lload 12, 2) rfl) rfl rfl (aw_lmul (pc' := 152) (dt_X11_isBeyond 86 (151, .lmul, 1) rfl) rfl (aw_iload_n (pc' := 153) (dt_X11_isBeyond 87 (152, .iload_n 2, 1) rfl) rfl rfl (aw_i2l (pc' := 154) (dt_X11_isBeyond 88 (153, .i2l, 1) rfl) rfl (aw_lload (pc' := 156) (dt_X11_isBeyond 89 (154, .lload 10, 2) rfl) rfl rfl (aw_ldc2 (pc' := 159) (dt_X11_isBeyond 90 (156, .ldc2_w 445, 3) rfl) ct_ReturnDeskModel_445 rfl (aw_lrem (pc' := 160) (dt_X11_isBeyond 91 (159, .lrem, 1) rfl) (by decide) rfl (aw_lmul (pc' := 161) (dt_X11_isBeyond 92 (160, .lmul, 1) rfl) rfl (aw_lcmp (pc' := 162) (dt_X11_isBeyond 93 (161, .lcmp, 1) rfl) rfl (aw_if_ge (pc' := 165) (tgt := 169) (dt_X11_isBeyond 94 (162, .ifCond .ge 7, 3) rfl) (by decide) rfl ?_ ?_))))))))))
        · intro q7
          have h := h.1 q7
          refine aw_iconst (pc' := 170) (v := 0) (dt_X11_isBeyond 97 (169, .iconst 0, 1) rfl) (by decide) rfl (aw_iret (dt_X11_isBeyond 98 (170, .ireturn, 1) rfl) rfl rfl ?_)
          exact h
        · intro q7
          have h := h.2 q7
          refine aw_iconst (pc' := 166) (v := 1) (dt_X11_isBeyond 95 (165, .iconst 1, 1) rfl) (by decide) rfl (aw_goto (tgt := 170) (dt_X11_isBeyond 96 (166, .goto 4, 3) rfl) (by decide) (aw_iret (dt_X11_isBeyond 98 (170, .ireturn, 1) rfl) rfl rfl ?_))
          exact h
    · intro q5
      have h := h.2 q5
      refine aw_iconst (pc' := 136) (v := 1) (dt_X11_isBeyond 78 (135, .iconst 1, 1) rfl) (by decide) rfl (aw_iret (dt_X11_isBeyond 79 (136, .ireturn, 1) rfl) rfl rfl ?_)
      exact h
  · intro q1
    have h := h.2 q1
    refine aw_lload (pc' := 72) (dt_X11_isBeyond 42 (70, .lload 8, 2) rfl) rfl rfl (aw_aload_n (pc' := 73) (dt_X11_isBeyond 43 (72, .aload_n 0, 1) rfl) rfl rfl (aw_iload (pc' := 75) (dt_X11_isBeyond 44 (73, .iload 5, 2) rfl) rfl rfl (aw_iload (pc' := 77) (dt_X11_isBeyond 45 (75, .iload 10, 2) rfl) rfl rfl (aw_callV0 (pc' := 80) (nc := nc) (ns := ns) (y2 := mX11_choose) (As := [.int x5, .int x10]) (rest := [.long x8]) (a := 31) (dt_X11_isBeyond 46 (77, .invokevirtual 441, 3) rfl) ok_X11_choose ln_ReturnDeskModel_441 im_X11_choose se_X11_choose pr_X11_choose (Or.inl ⟨by decide, rfl⟩) rfl (Nat.le_of_ble_eq_true rfl) (Nat.le_of_ble_eq_true rfl) rfl (sk_31 hS) h ?_))))
    rintro v μ8 ⟨r10, rfl, hS9, h⟩
    refine aw_stk (st' := [.long r10, .long x8]) rfl ?_
    refine aw_aload_n (pc' := 81) (dt_X11_isBeyond 47 (80, .aload_n 0, 1) rfl) rfl rfl (aw_iload (pc' := 83) (dt_X11_isBeyond 48 (81, .iload 4, 2) rfl) rfl rfl (aw_iload (pc' := 85) (dt_X11_isBeyond 49 (83, .iload 5, 2) rfl) rfl rfl (aw_isub (pc' := 86) (dt_X11_isBeyond 50 (85, .isub, 1) rfl) rfl (aw_iload (pc' := 88) (dt_X11_isBeyond 51 (86, .iload 6, 2) rfl) rfl rfl (aw_iload (pc' := 90) (dt_X11_isBeyond 52 (88, .iload 10, 2) rfl) rfl rfl (aw_isub (pc' := 91) (dt_X11_isBeyond 53 (90, .isub, 1) rfl) rfl (aw_callV0 (pc' := 94) (nc := nc) (ns := ns) (y2 := mX11_choose) (As := [.int (x4 - x5), .int (x6 - x10)]) (rest := [.long r10, .long x8]) (a := 31) (dt_X11_isBeyond 54 (91, .invokevirtual 441, 3) rfl) ok_X11_choose ln_ReturnDeskModel_441 im_X11_choose se_X11_choose pr_X11_choose (Or.inl ⟨by decide, rfl⟩) rfl (Nat.le_of_ble_eq_true rfl) (Nat.le_of_ble_eq_true rfl) rfl (sk_31 hS9) h ?_)))))))
    rintro v μ11 ⟨r13, rfl, hS12, h⟩
    refine aw_stk (st' := [.long r13, .long r10, .long x8]) rfl ?_
    refine aw_lmul (pc' := 95) (dt_X11_isBeyond 55 (94, .lmul, 1) rfl) rfl (aw_ladd (pc' := 96) (dt_X11_isBeyond 56 (95, .ladd, 1) rfl) rfl (aw_lstore (pc' := 98) (ls' := [some (.ref 31), none, some (.int x2), none, some (.int x4), some (.int x5), some (.int x6), none, some (.long (x8 + (r10 * r13))), none, some (.int x10), none, none, none]) (dt_X11_isBeyond 57 (96, .lstore 8, 2) rfl) (by decide) rfl rfl (aw_iinc (pc' := 101) (v := 1) (ls' := [some (.ref 31), none, some (.int x2), none, some (.int x4), some (.int x5), some (.int x6), none, some (.long (x8 + (r10 * r13))), none, some (.int (x10 + 1)), none, none, none]) (dt_X11_isBeyond 58 (98, .iinc 10 1, 3) rfl) rfl (by decide) (by decide) rfl rfl (aw_goto (tgt := 63) (dt_X11_isBeyond 59 (101, .goto (-38), 3) rfl) (by decide) ?_))))
    exact h

theorem t_X11_beyond {E : ZE} {l : Launch} {d nc ns : Nat} {x1 : Int32} {x2 : Int32} {x3 : Int32} {μ : ZM} {K : Option Value → ZM → Prop} (hS : Stat μ) (h :
  (x1 < 0 →
    K (some (.int (-1))) μ) ∧
  (¬ x1 < 0 →
    (((zI μ 31 18) - 1) < x1 →
      K (some (.int (-1))) μ) ∧
    (¬ ((zI μ 31 18) - 1) < x1 →
      (x2 < 1 →
        K (some (.int (-1))) μ) ∧
      (¬ x2 < 1 →
        (9999 < x2 →
          K (some (.int (-1))) μ) ∧
        (¬ 9999 < x2 →
          (x3 < 0 →
            K (some (.int (-1))) μ) ∧
          (¬ x3 < 0 →
            (2999 < x3 →
              K (some (.int (-1))) μ) ∧
            (¬ 2999 < x3 →
              AW E l (d + 3) 0 0 mX11_isBeyond 0 (zargs 14 [.ref 31, .int x1, .int x2, .int x3]) [] μ (fun v μ7 => ∃ r9 : Int32, v = some (.int r9) ∧ Stat μ7 ∧ 
                K (some (.int r9)) μ7)))))))) : AW E l (d + 4) nc ns mX11_beyond 0 [some (.ref 31), some (.int x1), some (.int x2), some (.int x3)] [] μ K := by
  refine aw_aload_n (pc' := 1) (dt_X11_beyond 0 (0, .aload_n 0, 1) rfl) rfl rfl (aw_iload_n (pc' := 2) (dt_X11_beyond 1 (1, .iload_n 1, 1) rfl) rfl rfl (aw_inV (pc' := 5) (nc1 := 0) (ns1 := 0) (nc := nc) (ns := ns) (ls' := [some (.ref 31), some (.int x1)]) (y2 := mX11_isLot) (As := [.int x1]) (rest := []) (a := 31) (dt_X11_beyond 2 (2, .invokevirtual 218, 3) rfl) ok_X11_isLot ln_ReturnDeskModel_218 im_X11_isLot se_X11_isLot pr_X11_isLot (Or.inl ⟨by decide, rfl⟩) rfl (Nat.le_of_ble_eq_true rfl) (Nat.le_of_ble_eq_true rfl) rfl rfl (sk_31 hS) (aw_iload_n (pc' := 1) (dt_X11_isLot 0 (0, .iload_n 1, 1) rfl) rfl rfl (aw_iconst (pc' := 2) (v := 0) (dt_X11_isLot 1 (1, .iconst 0, 1) rfl) (by decide) rfl (aw_aload_n (pc' := 3) (dt_X11_isLot 2 (2, .aload_n 0, 1) rfl) rfl rfl (aw_getI (pc' := 6) (dt_X11_isLot 3 (3, .getfield 195, 3) rfl) fl_ReturnDeskModel_195 rfl rfl (sk_31 hS) (aw_iconst (pc' := 7) (v := 1) (dt_X11_isLot 4 (6, .iconst 1, 1) rfl) (by decide) rfl (aw_isub (pc' := 8) (dt_X11_isLot 5 (7, .isub, 1) rfl) rfl (aw_inS (pc' := 11) (nc1 := 0) (ns1 := 0) (nc := 0) (ns := 0) (ls' := [some (.int x1), some (.int 0), some (.int ((zI μ 31 18) - 1))]) (y2 := mX11_in) (As := [.int x1, .int 0, .int ((zI μ 31 18) - 1)]) (rest := []) (dt_X11_isLot 6 (8, .invokestatic 185, 3) rfl) ok_X11_in ln_ReturnDeskModel_185 sm_X11_in pr_X11_in rfl (Nat.le_of_ble_eq_true rfl) (Nat.le_of_ble_eq_true rfl) rfl rfl (aw_iload_n (pc' := 1) (dt_X11_in 0 (0, .iload_n 0, 1) rfl) rfl rfl (aw_iload_n (pc' := 2) (dt_X11_in 1 (1, .iload_n 1, 1) rfl) rfl rfl (aw_icmp_lt (pc' := 5) (tgt := 14) (dt_X11_in 2 (2, .if_icmp .lt 12, 3) rfl) (by decide) rfl ?_ ?_))))))))))))
  · intro q1
    have h := h.1 q1
    refine aw_iconst (pc' := 15) (v := 0) (dt_X11_in 8 (14, .iconst 0, 1) rfl) (by decide) rfl (aw_iret (dt_X11_in 9 (15, .ireturn, 1) rfl) rfl rfl (aw_stk (st' := [.int 0]) rfl (aw_iret (dt_X11_isLot 7 (11, .ireturn, 1) rfl) rfl rfl (aw_stk (st' := [.int 0]) rfl (aw_if_eq_T (pc' := 8) (tgt := 36) (dt_X11_beyond 3 (5, .ifCond .eq 31, 3) rfl) (by decide) rfl (by decide) (aw_iconst (pc' := 37) (v := (-1)) (dt_X11_beyond 18 (36, .iconst (-1), 1) rfl) (by decide) rfl (aw_iret (dt_X11_beyond 19 (37, .ireturn, 1) rfl) rfl rfl ?_)))))))
    exact h
  · intro q1
    have h := h.2 q1
    refine aw_iload_n (pc' := 6) (dt_X11_in 3 (5, .iload_n 0, 1) rfl) rfl rfl (aw_iload_n (pc' := 7) (dt_X11_in 4 (6, .iload_n 2, 1) rfl) rfl rfl (aw_icmp_gt (pc' := 10) (tgt := 14) (dt_X11_in 5 (7, .if_icmp .gt 7, 3) rfl) (by decide) rfl ?_ ?_))
    · intro q2
      have h := h.1 q2
      refine aw_iconst (pc' := 15) (v := 0) (dt_X11_in 8 (14, .iconst 0, 1) rfl) (by decide) rfl (aw_iret (dt_X11_in 9 (15, .ireturn, 1) rfl) rfl rfl (aw_stk (st' := [.int 0]) rfl (aw_iret (dt_X11_isLot 7 (11, .ireturn, 1) rfl) rfl rfl (aw_stk (st' := [.int 0]) rfl (aw_if_eq_T (pc' := 8) (tgt := 36) (dt_X11_beyond 3 (5, .ifCond .eq 31, 3) rfl) (by decide) rfl (by decide) (aw_iconst (pc' := 37) (v := (-1)) (dt_X11_beyond 18 (36, .iconst (-1), 1) rfl) (by decide) rfl (aw_iret (dt_X11_beyond 19 (37, .ireturn, 1) rfl) rfl rfl ?_)))))))
      exact h
    · intro q2
      have h := h.2 q2
      refine aw_iconst (pc' := 11) (v := 1) (dt_X11_in 6 (10, .iconst 1, 1) rfl) (by decide) rfl (aw_goto (tgt := 15) (dt_X11_in 7 (11, .goto 4, 3) rfl) (by decide) (aw_iret (dt_X11_in 9 (15, .ireturn, 1) rfl) rfl rfl (aw_stk (st' := [.int 1]) rfl (aw_iret (dt_X11_isLot 7 (11, .ireturn, 1) rfl) rfl rfl (aw_stk (st' := [.int 1]) rfl (aw_if_eq_F (pc' := 8) (tgt := 36) (dt_X11_beyond 3 (5, .ifCond .eq 31, 3) rfl) (by decide) rfl (by decide) (aw_iload_n (pc' := 9) (dt_X11_beyond 4 (8, .iload_n 2, 1) rfl) rfl rfl (aw_iconst (pc' := 10) (v := 1) (dt_X11_beyond 5 (9, .iconst 1, 1) rfl) (by decide) rfl (aw_sipush (pc' := 13) (v := 9999) (dt_X11_beyond 6 (10, .sipush 9999, 3) rfl) (by decide) rfl (aw_inS (pc' := 16) (nc1 := 0) (ns1 := 0) (nc := nc) (ns := ns) (ls' := [some (.int x2), some (.int 1), some (.int 9999)]) (y2 := mX11_in) (As := [.int x2, .int 1, .int 9999]) (rest := []) (dt_X11_beyond 7 (13, .invokestatic 185, 3) rfl) ok_X11_in ln_ReturnDeskModel_185 sm_X11_in pr_X11_in rfl (Nat.le_of_ble_eq_true rfl) (Nat.le_of_ble_eq_true rfl) rfl rfl (aw_iload_n (pc' := 1) (dt_X11_in 0 (0, .iload_n 0, 1) rfl) rfl rfl (aw_iload_n (pc' := 2) (dt_X11_in 1 (1, .iload_n 1, 1) rfl) rfl rfl (aw_icmp_lt (pc' := 5) (tgt := 14) (dt_X11_in 2 (2, .if_icmp .lt 12, 3) rfl) (by decide) rfl ?_ ?_)))))))))))))
      · intro q3
        have h := h.1 q3
        refine aw_iconst (pc' := 15) (v := 0) (dt_X11_in 8 (14, .iconst 0, 1) rfl) (by decide) rfl (aw_iret (dt_X11_in 9 (15, .ireturn, 1) rfl) rfl rfl (aw_stk (st' := [.int 0]) rfl (aw_if_eq_T (pc' := 19) (tgt := 36) (dt_X11_beyond 8 (16, .ifCond .eq 20, 3) rfl) (by decide) rfl (by decide) (aw_iconst (pc' := 37) (v := (-1)) (dt_X11_beyond 18 (36, .iconst (-1), 1) rfl) (by decide) rfl (aw_iret (dt_X11_beyond 19 (37, .ireturn, 1) rfl) rfl rfl ?_)))))
        exact h
      · intro q3
        have h := h.2 q3
        refine aw_iload_n (pc' := 6) (dt_X11_in 3 (5, .iload_n 0, 1) rfl) rfl rfl (aw_iload_n (pc' := 7) (dt_X11_in 4 (6, .iload_n 2, 1) rfl) rfl rfl (aw_icmp_gt (pc' := 10) (tgt := 14) (dt_X11_in 5 (7, .if_icmp .gt 7, 3) rfl) (by decide) rfl ?_ ?_))
        · intro q4
          have h := h.1 q4
          refine aw_iconst (pc' := 15) (v := 0) (dt_X11_in 8 (14, .iconst 0, 1) rfl) (by decide) rfl (aw_iret (dt_X11_in 9 (15, .ireturn, 1) rfl) rfl rfl (aw_stk (st' := [.int 0]) rfl (aw_if_eq_T (pc' := 19) (tgt := 36) (dt_X11_beyond 8 (16, .ifCond .eq 20, 3) rfl) (by decide) rfl (by decide) (aw_iconst (pc' := 37) (v := (-1)) (dt_X11_beyond 18 (36, .iconst (-1), 1) rfl) (by decide) rfl (aw_iret (dt_X11_beyond 19 (37, .ireturn, 1) rfl) rfl rfl ?_)))))
          exact h
        · intro q4
          have h := h.2 q4
          refine aw_iconst (pc' := 11) (v := 1) (dt_X11_in 6 (10, .iconst 1, 1) rfl) (by decide) rfl (aw_goto (tgt := 15) (dt_X11_in 7 (11, .goto 4, 3) rfl) (by decide) (aw_iret (dt_X11_in 9 (15, .ireturn, 1) rfl) rfl rfl (aw_stk (st' := [.int 1]) rfl (aw_if_eq_F (pc' := 19) (tgt := 36) (dt_X11_beyond 8 (16, .ifCond .eq 20, 3) rfl) (by decide) rfl (by decide) (aw_iload_n (pc' := 20) (dt_X11_beyond 9 (19, .iload_n 3, 1) rfl) rfl rfl (aw_inS (pc' := 23) (nc1 := 0) (ns1 := 0) (nc := nc) (ns := ns) (ls' := [some (.int x3)]) (y2 := mX11_isDay) (As := [.int x3]) (rest := []) (dt_X11_beyond 10 (20, .invokestatic 203, 3) rfl) ok_X11_isDay ln_ReturnDeskModel_203 sm_X11_isDay pr_X11_isDay rfl (Nat.le_of_ble_eq_true rfl) (Nat.le_of_ble_eq_true rfl) rfl rfl (aw_iload_n (pc' := 1) (dt_X11_isDay 0 (0, .iload_n 0, 1) rfl) rfl rfl (aw_iconst (pc' := 2) (v := 0) (dt_X11_isDay 1 (1, .iconst 0, 1) rfl) (by decide) rfl (aw_sipush (pc' := 5) (v := 2999) (dt_X11_isDay 2 (2, .sipush 2999, 3) rfl) (by decide) rfl (aw_inS (pc' := 8) (nc1 := 0) (ns1 := 0) (nc := 0) (ns := 0) (ls' := [some (.int x3), some (.int 0), some (.int 2999)]) (y2 := mX11_in) (As := [.int x3, .int 0, .int 2999]) (rest := []) (dt_X11_isDay 3 (5, .invokestatic 185, 3) rfl) ok_X11_in ln_ReturnDeskModel_185 sm_X11_in pr_X11_in rfl (Nat.le_of_ble_eq_true rfl) (Nat.le_of_ble_eq_true rfl) rfl rfl (aw_iload_n (pc' := 1) (dt_X11_in 0 (0, .iload_n 0, 1) rfl) rfl rfl (aw_iload_n (pc' := 2) (dt_X11_in 1 (1, .iload_n 1, 1) rfl) rfl rfl (aw_icmp_lt (pc' := 5) (tgt := 14) (dt_X11_in 2 (2, .if_icmp .lt 12, 3) rfl) (by decide) rfl ?_ ?_)))))))))))))
          · intro q5
            have h := h.1 q5
            refine aw_iconst (pc' := 15) (v := 0) (dt_X11_in 8 (14, .iconst 0, 1) rfl) (by decide) rfl (aw_iret (dt_X11_in 9 (15, .ireturn, 1) rfl) rfl rfl (aw_stk (st' := [.int 0]) rfl (aw_iret (dt_X11_isDay 4 (8, .ireturn, 1) rfl) rfl rfl (aw_stk (st' := [.int 0]) rfl (aw_if_eq_T (pc' := 26) (tgt := 36) (dt_X11_beyond 11 (23, .ifCond .eq 13, 3) rfl) (by decide) rfl (by decide) (aw_iconst (pc' := 37) (v := (-1)) (dt_X11_beyond 18 (36, .iconst (-1), 1) rfl) (by decide) rfl (aw_iret (dt_X11_beyond 19 (37, .ireturn, 1) rfl) rfl rfl ?_)))))))
            exact h
          · intro q5
            have h := h.2 q5
            refine aw_iload_n (pc' := 6) (dt_X11_in 3 (5, .iload_n 0, 1) rfl) rfl rfl (aw_iload_n (pc' := 7) (dt_X11_in 4 (6, .iload_n 2, 1) rfl) rfl rfl (aw_icmp_gt (pc' := 10) (tgt := 14) (dt_X11_in 5 (7, .if_icmp .gt 7, 3) rfl) (by decide) rfl ?_ ?_))
            · intro q6
              have h := h.1 q6
              refine aw_iconst (pc' := 15) (v := 0) (dt_X11_in 8 (14, .iconst 0, 1) rfl) (by decide) rfl (aw_iret (dt_X11_in 9 (15, .ireturn, 1) rfl) rfl rfl (aw_stk (st' := [.int 0]) rfl (aw_iret (dt_X11_isDay 4 (8, .ireturn, 1) rfl) rfl rfl (aw_stk (st' := [.int 0]) rfl (aw_if_eq_T (pc' := 26) (tgt := 36) (dt_X11_beyond 11 (23, .ifCond .eq 13, 3) rfl) (by decide) rfl (by decide) (aw_iconst (pc' := 37) (v := (-1)) (dt_X11_beyond 18 (36, .iconst (-1), 1) rfl) (by decide) rfl (aw_iret (dt_X11_beyond 19 (37, .ireturn, 1) rfl) rfl rfl ?_)))))))
              exact h
            · intro q6
              have h := h.2 q6
              refine aw_iconst (pc' := 11) (v := 1) (dt_X11_in 6 (10, .iconst 1, 1) rfl) (by decide) rfl (aw_goto (tgt := 15) (dt_X11_in 7 (11, .goto 4, 3) rfl) (by decide) (aw_iret (dt_X11_in 9 (15, .ireturn, 1) rfl) rfl rfl (aw_stk (st' := [.int 1]) rfl (aw_iret (dt_X11_isDay 4 (8, .ireturn, 1) rfl) rfl rfl (aw_stk (st' := [.int 1]) rfl (aw_if_eq_F (pc' := 26) (tgt := 36) (dt_X11_beyond 11 (23, .ifCond .eq 13, 3) rfl) (by decide) rfl (by decide) (aw_aload_n (pc' := 27) (dt_X11_beyond 12 (26, .aload_n 0, 1) rfl) rfl rfl (aw_iload_n (pc' := 28) (dt_X11_beyond 13 (27, .iload_n 1, 1) rfl) rfl rfl (aw_iload_n (pc' := 29) (dt_X11_beyond 14 (28, .iload_n 2, 1) rfl) rfl rfl (aw_iload_n (pc' := 30) (dt_X11_beyond 15 (29, .iload_n 3, 1) rfl) rfl rfl (aw_callV0 (pc' := 33) (nc := nc) (ns := ns) (y2 := mX11_isBeyond) (As := [.int x1, .int x2, .int x3]) (rest := []) (a := 31) (dt_X11_beyond 16 (30, .invokevirtual 447, 3) rfl) ok_X11_isBeyond ln_ReturnDeskModel_447 im_X11_isBeyond se_X11_isBeyond pr_X11_isBeyond (Or.inl ⟨by decide, rfl⟩) rfl (Nat.le_of_ble_eq_true rfl) (Nat.le_of_ble_eq_true rfl) rfl (sk_31 hS) h ?_)))))))))))
              rintro v μ7 ⟨r9, rfl, hS8, h⟩
              refine aw_stk (st' := [.int r9]) rfl ?_
              refine aw_goto (tgt := 37) (dt_X11_beyond 17 (33, .goto 4, 3) rfl) (by decide) (aw_iret (dt_X11_beyond 19 (37, .ireturn, 1) rfl) rfl rfl ?_)
              exact h

theorem t_X11_since {E : ZE} {l : Launch} {d nc ns : Nat} {x1 : Int32} {x2 : Int32} {μ : ZM} {K : Option Value → ZM → Prop} (hS : Stat μ) (h :
  (x1 < 0 →
    K (some (.int (-1))) μ) ∧
  (¬ x1 < 0 →
    (((zI μ 31 18) - 1) < x1 →
      K (some (.int (-1))) μ) ∧
    (¬ ((zI μ 31 18) - 1) < x1 →
      (x2 < 1 →
        K (some (.int (-1))) μ) ∧
      (¬ x2 < 1 →
        (9999 < x2 →
          K (some (.int (-1))) μ) ∧
        (¬ 9999 < x2 →
          AW E l (d + 4) nc ns mX11_since 23 [some (.ref 31), some (.int x1), some (.int x2), some (.int 0), none] [] μ K))))) : AW E l (d + 4) nc ns mX11_since 0 [some (.ref 31), some (.int x1), some (.int x2), none, none] [] μ K := by
  refine aw_aload_n (pc' := 1) (dt_X11_since 0 (0, .aload_n 0, 1) rfl) rfl rfl (aw_iload_n (pc' := 2) (dt_X11_since 1 (1, .iload_n 1, 1) rfl) rfl rfl (aw_inV (pc' := 5) (nc1 := 0) (ns1 := 0) (nc := nc) (ns := ns) (ls' := [some (.ref 31), some (.int x1)]) (y2 := mX11_isLot) (As := [.int x1]) (rest := []) (a := 31) (dt_X11_since 2 (2, .invokevirtual 218, 3) rfl) ok_X11_isLot ln_ReturnDeskModel_218 im_X11_isLot se_X11_isLot pr_X11_isLot (Or.inl ⟨by decide, rfl⟩) rfl (Nat.le_of_ble_eq_true rfl) (Nat.le_of_ble_eq_true rfl) rfl rfl (sk_31 hS) (aw_iload_n (pc' := 1) (dt_X11_isLot 0 (0, .iload_n 1, 1) rfl) rfl rfl (aw_iconst (pc' := 2) (v := 0) (dt_X11_isLot 1 (1, .iconst 0, 1) rfl) (by decide) rfl (aw_aload_n (pc' := 3) (dt_X11_isLot 2 (2, .aload_n 0, 1) rfl) rfl rfl (aw_getI (pc' := 6) (dt_X11_isLot 3 (3, .getfield 195, 3) rfl) fl_ReturnDeskModel_195 rfl rfl (sk_31 hS) (aw_iconst (pc' := 7) (v := 1) (dt_X11_isLot 4 (6, .iconst 1, 1) rfl) (by decide) rfl (aw_isub (pc' := 8) (dt_X11_isLot 5 (7, .isub, 1) rfl) rfl (aw_inS (pc' := 11) (nc1 := 0) (ns1 := 0) (nc := 0) (ns := 0) (ls' := [some (.int x1), some (.int 0), some (.int ((zI μ 31 18) - 1))]) (y2 := mX11_in) (As := [.int x1, .int 0, .int ((zI μ 31 18) - 1)]) (rest := []) (dt_X11_isLot 6 (8, .invokestatic 185, 3) rfl) ok_X11_in ln_ReturnDeskModel_185 sm_X11_in pr_X11_in rfl (Nat.le_of_ble_eq_true rfl) (Nat.le_of_ble_eq_true rfl) rfl rfl (aw_iload_n (pc' := 1) (dt_X11_in 0 (0, .iload_n 0, 1) rfl) rfl rfl (aw_iload_n (pc' := 2) (dt_X11_in 1 (1, .iload_n 1, 1) rfl) rfl rfl (aw_icmp_lt (pc' := 5) (tgt := 14) (dt_X11_in 2 (2, .if_icmp .lt 12, 3) rfl) (by decide) rfl ?_ ?_))))))))))))
  · intro q1
    have h := h.1 q1
    refine aw_iconst (pc' := 15) (v := 0) (dt_X11_in 8 (14, .iconst 0, 1) rfl) (by decide) rfl (aw_iret (dt_X11_in 9 (15, .ireturn, 1) rfl) rfl rfl (aw_stk (st' := [.int 0]) rfl (aw_iret (dt_X11_isLot 7 (11, .ireturn, 1) rfl) rfl rfl (aw_stk (st' := [.int 0]) rfl (aw_if_eq_T (pc' := 8) (tgt := 19) (dt_X11_since 3 (5, .ifCond .eq 14, 3) rfl) (by decide) rfl (by decide) (aw_iconst (pc' := 20) (v := (-1)) (dt_X11_since 9 (19, .iconst (-1), 1) rfl) (by decide) rfl (aw_iret (dt_X11_since 10 (20, .ireturn, 1) rfl) rfl rfl ?_)))))))
    exact h
  · intro q1
    have h := h.2 q1
    refine aw_iload_n (pc' := 6) (dt_X11_in 3 (5, .iload_n 0, 1) rfl) rfl rfl (aw_iload_n (pc' := 7) (dt_X11_in 4 (6, .iload_n 2, 1) rfl) rfl rfl (aw_icmp_gt (pc' := 10) (tgt := 14) (dt_X11_in 5 (7, .if_icmp .gt 7, 3) rfl) (by decide) rfl ?_ ?_))
    · intro q2
      have h := h.1 q2
      refine aw_iconst (pc' := 15) (v := 0) (dt_X11_in 8 (14, .iconst 0, 1) rfl) (by decide) rfl (aw_iret (dt_X11_in 9 (15, .ireturn, 1) rfl) rfl rfl (aw_stk (st' := [.int 0]) rfl (aw_iret (dt_X11_isLot 7 (11, .ireturn, 1) rfl) rfl rfl (aw_stk (st' := [.int 0]) rfl (aw_if_eq_T (pc' := 8) (tgt := 19) (dt_X11_since 3 (5, .ifCond .eq 14, 3) rfl) (by decide) rfl (by decide) (aw_iconst (pc' := 20) (v := (-1)) (dt_X11_since 9 (19, .iconst (-1), 1) rfl) (by decide) rfl (aw_iret (dt_X11_since 10 (20, .ireturn, 1) rfl) rfl rfl ?_)))))))
      exact h
    · intro q2
      have h := h.2 q2
      refine aw_iconst (pc' := 11) (v := 1) (dt_X11_in 6 (10, .iconst 1, 1) rfl) (by decide) rfl (aw_goto (tgt := 15) (dt_X11_in 7 (11, .goto 4, 3) rfl) (by decide) (aw_iret (dt_X11_in 9 (15, .ireturn, 1) rfl) rfl rfl (aw_stk (st' := [.int 1]) rfl (aw_iret (dt_X11_isLot 7 (11, .ireturn, 1) rfl) rfl rfl (aw_stk (st' := [.int 1]) rfl (aw_if_eq_F (pc' := 8) (tgt := 19) (dt_X11_since 3 (5, .ifCond .eq 14, 3) rfl) (by decide) rfl (by decide) (aw_iload_n (pc' := 9) (dt_X11_since 4 (8, .iload_n 2, 1) rfl) rfl rfl (aw_iconst (pc' := 10) (v := 1) (dt_X11_since 5 (9, .iconst 1, 1) rfl) (by decide) rfl (aw_sipush (pc' := 13) (v := 9999) (dt_X11_since 6 (10, .sipush 9999, 3) rfl) (by decide) rfl (aw_inS (pc' := 16) (nc1 := 0) (ns1 := 0) (nc := nc) (ns := ns) (ls' := [some (.int x2), some (.int 1), some (.int 9999)]) (y2 := mX11_in) (As := [.int x2, .int 1, .int 9999]) (rest := []) (dt_X11_since 7 (13, .invokestatic 185, 3) rfl) ok_X11_in ln_ReturnDeskModel_185 sm_X11_in pr_X11_in rfl (Nat.le_of_ble_eq_true rfl) (Nat.le_of_ble_eq_true rfl) rfl rfl (aw_iload_n (pc' := 1) (dt_X11_in 0 (0, .iload_n 0, 1) rfl) rfl rfl (aw_iload_n (pc' := 2) (dt_X11_in 1 (1, .iload_n 1, 1) rfl) rfl rfl (aw_icmp_lt (pc' := 5) (tgt := 14) (dt_X11_in 2 (2, .if_icmp .lt 12, 3) rfl) (by decide) rfl ?_ ?_)))))))))))))
      · intro q3
        have h := h.1 q3
        refine aw_iconst (pc' := 15) (v := 0) (dt_X11_in 8 (14, .iconst 0, 1) rfl) (by decide) rfl (aw_iret (dt_X11_in 9 (15, .ireturn, 1) rfl) rfl rfl (aw_stk (st' := [.int 0]) rfl (aw_if_ne_F (pc' := 19) (tgt := 21) (dt_X11_since 8 (16, .ifCond .ne 5, 3) rfl) (by decide) rfl (by decide) (aw_iconst (pc' := 20) (v := (-1)) (dt_X11_since 9 (19, .iconst (-1), 1) rfl) (by decide) rfl (aw_iret (dt_X11_since 10 (20, .ireturn, 1) rfl) rfl rfl ?_)))))
        exact h
      · intro q3
        have h := h.2 q3
        refine aw_iload_n (pc' := 6) (dt_X11_in 3 (5, .iload_n 0, 1) rfl) rfl rfl (aw_iload_n (pc' := 7) (dt_X11_in 4 (6, .iload_n 2, 1) rfl) rfl rfl (aw_icmp_gt (pc' := 10) (tgt := 14) (dt_X11_in 5 (7, .if_icmp .gt 7, 3) rfl) (by decide) rfl ?_ ?_))
        · intro q4
          have h := h.1 q4
          refine aw_iconst (pc' := 15) (v := 0) (dt_X11_in 8 (14, .iconst 0, 1) rfl) (by decide) rfl (aw_iret (dt_X11_in 9 (15, .ireturn, 1) rfl) rfl rfl (aw_stk (st' := [.int 0]) rfl (aw_if_ne_F (pc' := 19) (tgt := 21) (dt_X11_since 8 (16, .ifCond .ne 5, 3) rfl) (by decide) rfl (by decide) (aw_iconst (pc' := 20) (v := (-1)) (dt_X11_since 9 (19, .iconst (-1), 1) rfl) (by decide) rfl (aw_iret (dt_X11_since 10 (20, .ireturn, 1) rfl) rfl rfl ?_)))))
          exact h
        · intro q4
          have h := h.2 q4
          refine aw_iconst (pc' := 11) (v := 1) (dt_X11_in 6 (10, .iconst 1, 1) rfl) (by decide) rfl (aw_goto (tgt := 15) (dt_X11_in 7 (11, .goto 4, 3) rfl) (by decide) (aw_iret (dt_X11_in 9 (15, .ireturn, 1) rfl) rfl rfl (aw_stk (st' := [.int 1]) rfl (aw_if_ne_T (pc' := 19) (tgt := 21) (dt_X11_since 8 (16, .ifCond .ne 5, 3) rfl) (by decide) rfl (by decide) (aw_iconst (pc' := 22) (v := 0) (dt_X11_since 11 (21, .iconst 0, 1) rfl) (by decide) rfl (aw_istore_n (pc' := 23) (ls' := [some (.ref 31), some (.int x1), some (.int x2), some (.int 0), none]) (dt_X11_since 12 (22, .istore_n 3, 1) rfl) (by decide) rfl rfl ?_))))))
          exact h

theorem t_X11_since_23 {E : ZE} {l : Launch} {d nc ns : Nat} {x1 : Int32} {x2 : Int32} {x3 : Int32} {μ : ZM} {K : Option Value → ZM → Prop} (hS : Stat μ) (h :
  (((zI μ 31 1) / 24) < x3 →
    K (some (.int (-2))) μ) ∧
  (¬ ((zI μ 31 1) / 24) < x3 →
    AW E l (d + 3) 0 0 mX11_isBeyond 0 (zargs 14 [.ref 31, .int x1, .int x2, .int x3]) [] μ (fun v μ2 => ∃ r4 : Int32, v = some (.int r4) ∧ Stat μ2 ∧ 
      (¬ r4 = (-4) →
        (¬ r4 = 1 →
          AW E l (d + 4) nc ns mX11_since 23 [some (.ref 31), some (.int x1), some (.int x2), some (.int (x3 + 1)), none] [] μ2 K) ∧
        (r4 = 1 →
          K (some (.int x3)) μ2)) ∧
      (r4 = (-4) →
        K (some (.int (-4))) μ2)))) : AW E l (d + 4) nc ns mX11_since 23 [some (.ref 31), some (.int x1), some (.int x2), some (.int x3), none] [] μ K := by
  refine aw_iload_n (pc' := 24) (dt_X11_since 13 (23, .iload_n 3, 1) rfl) rfl rfl (aw_aload_n (pc' := 25) (dt_X11_since 14 (24, .aload_n 0, 1) rfl) rfl rfl (aw_inV (pc' := 28) (nc1 := 0) (ns1 := 0) (nc := nc) (ns := ns) (ls' := [some (.ref 31)]) (y2 := mX11_today) (As := []) (rest := [.int x3]) (a := 31) (dt_X11_since 15 (25, .invokevirtual 224, 3) rfl) ok_X11_today ln_ReturnDeskModel_224 im_X11_today se_X11_today pr_X11_today (Or.inl ⟨by decide, rfl⟩) rfl (Nat.le_of_ble_eq_true rfl) (Nat.le_of_ble_eq_true rfl) rfl rfl (sk_31 hS) (aw_aload_n (pc' := 1) (dt_X11_today 0 (0, .aload_n 0, 1) rfl) rfl rfl (aw_getI (pc' := 4) (dt_X11_today 1 (1, .getfield 189, 3) rfl) fl_ReturnDeskModel_189 rfl rfl (sk_31 hS) (aw_bipush (pc' := 6) (v := 24) (dt_X11_today 2 (4, .bipush 24, 2) rfl) (by decide) rfl (aw_idiv (pc' := 7) (dt_X11_today 3 (6, .idiv, 1) rfl) (by decide) rfl (aw_iret (dt_X11_today 4 (7, .ireturn, 1) rfl) rfl rfl (aw_stk (st' := [.int ((zI μ 31 1) / 24), .int x3]) rfl (aw_icmp_gt (pc' := 31) (tgt := 64) (dt_X11_since 16 (28, .if_icmp .gt 36, 3) rfl) (by decide) rfl ?_ ?_)))))))))
  · intro q1
    have h := h.1 q1
    refine aw_bipush (pc' := 66) (v := (-2)) (dt_X11_since 35 (64, .bipush (-2), 2) rfl) (by decide) rfl (aw_iret (dt_X11_since 36 (66, .ireturn, 1) rfl) rfl rfl ?_)
    exact h
  · intro q1
    have h := h.2 q1
    refine aw_aload_n (pc' := 32) (dt_X11_since 17 (31, .aload_n 0, 1) rfl) rfl rfl (aw_iload_n (pc' := 33) (dt_X11_since 18 (32, .iload_n 1, 1) rfl) rfl rfl (aw_iload_n (pc' := 34) (dt_X11_since 19 (33, .iload_n 2, 1) rfl) rfl rfl (aw_iload_n (pc' := 35) (dt_X11_since 20 (34, .iload_n 3, 1) rfl) rfl rfl (aw_callV0 (pc' := 38) (nc := nc) (ns := ns) (y2 := mX11_isBeyond) (As := [.int x1, .int x2, .int x3]) (rest := []) (a := 31) (dt_X11_since 21 (35, .invokevirtual 447, 3) rfl) ok_X11_isBeyond ln_ReturnDeskModel_447 im_X11_isBeyond se_X11_isBeyond pr_X11_isBeyond (Or.inl ⟨by decide, rfl⟩) rfl (Nat.le_of_ble_eq_true rfl) (Nat.le_of_ble_eq_true rfl) rfl (sk_31 hS) h ?_))))
    rintro v μ2 ⟨r4, rfl, hS3, h⟩
    refine aw_stk (st' := [.int r4]) rfl ?_
    refine aw_istore (pc' := 40) (ls' := [some (.ref 31), some (.int x1), some (.int x2), some (.int x3), some (.int r4)]) (dt_X11_since 22 (38, .istore 4, 2) rfl) (by decide) rfl rfl (aw_iload (pc' := 42) (dt_X11_since 23 (40, .iload 4, 2) rfl) rfl rfl (aw_bipush (pc' := 44) (v := (-4)) (dt_X11_since 24 (42, .bipush (-4), 2) rfl) (by decide) rfl (aw_icmp_ne (pc' := 47) (tgt := 50) (dt_X11_since 25 (44, .if_icmp .ne 6, 3) rfl) (by decide) rfl ?_ ?_)))
    · intro q5
      have h := h.1 q5
      refine aw_iload (pc' := 52) (dt_X11_since 28 (50, .iload 4, 2) rfl) rfl rfl (aw_iconst (pc' := 53) (v := 1) (dt_X11_since 29 (52, .iconst 1, 1) rfl) (by decide) rfl (aw_icmp_ne (pc' := 56) (tgt := 58) (dt_X11_since 30 (53, .if_icmp .ne 5, 3) rfl) (by decide) rfl ?_ ?_))
      · intro q6
        have h := h.1 q6
        refine aw_iinc (pc' := 61) (v := 1) (ls' := [some (.ref 31), some (.int x1), some (.int x2), some (.int (x3 + 1)), some (.int r4)]) (dt_X11_since 33 (58, .iinc 3 1, 3) rfl) rfl (by decide) (by decide) rfl rfl (aw_goto (tgt := 23) (dt_X11_since 34 (61, .goto (-38), 3) rfl) (by decide) (aw_drop (ls' := [some (.ref 31), some (.int x1), some (.int x2), some (.int (x3 + 1)), none]) ⟨rfl, rfl, rfl, rfl, trivial⟩ ?_))
        exact h
      · intro q6
        have h := h.2 q6
        refine aw_iload_n (pc' := 57) (dt_X11_since 31 (56, .iload_n 3, 1) rfl) rfl rfl (aw_iret (dt_X11_since 32 (57, .ireturn, 1) rfl) rfl rfl ?_)
        exact h
    · intro q5
      have h := h.2 q5
      refine aw_bipush (pc' := 49) (v := (-4)) (dt_X11_since 26 (47, .bipush (-4), 2) rfl) (by decide) rfl (aw_iret (dt_X11_since 27 (49, .ireturn, 1) rfl) rfl rfl ?_)
      exact h

theorem t_X11_honest {E : ZE} {l : Launch} {d nc ns : Nat} {x1 : Int32} {x2 : Int32} {μ : ZM} {K : Option Value → ZM → Prop} (hS : Stat μ) (h :
  (x1 < 0 →
    K (some (.int (-1))) μ) ∧
  (¬ x1 < 0 →
    (59 < x1 →
      K (some (.int (-1))) μ) ∧
    (¬ 59 < x1 →
      (x2 < 0 →
        K (some (.int (-1))) μ) ∧
      (¬ x2 < 0 →
        (2 < x2 →
          K (some (.int (-1))) μ) ∧
        (¬ 2 < x2 →
          (vp_in x1 60) ∧
          (¬ (zI μ 87 x1.toNatClampNeg) = 0 →
            (vp_in x1 60) ∧
            (¬ x2 = 2 →
              (vp_in x1 60) ∧
              K (some (.int ((zI μ 87 x1.toNatClampNeg) - 1))) (sI μ 87 x1.toNatClampNeg (x2 + 1))) ∧
            (x2 = 2 →
              (vp_in x1 60) ∧
              K (some (.int ((zI μ 87 x1.toNatClampNeg) - 1))) (sI μ 87 x1.toNatClampNeg 0))) ∧
          ((zI μ 87 x1.toNatClampNeg) = 0 →
            (¬ x2 = 2 →
              (vp_in x1 60) ∧
              K (some (.int 2)) (sI μ 87 x1.toNatClampNeg (x2 + 1))) ∧
            (x2 = 2 →
              (vp_in x1 60) ∧
              K (some (.int 2)) (sI μ 87 x1.toNatClampNeg 0)))))))) : AW E l (d + 2) nc ns mX11_honest 0 [some (.ref 31), some (.int x1), some (.int x2), none] [] μ K := by
  refine aw_iload_n (pc' := 1) (dt_X11_honest 0 (0, .iload_n 1, 1) rfl) rfl rfl (aw_inS (pc' := 4) (nc1 := 0) (ns1 := 0) (nc := nc) (ns := ns) (ls' := [some (.int x1)]) (y2 := mX11_isBuyer) (As := [.int x1]) (rest := []) (dt_X11_honest 1 (1, .invokestatic 450, 3) rfl) ok_X11_isBuyer ln_ReturnDeskModel_450 sm_X11_isBuyer pr_X11_isBuyer rfl (Nat.le_of_ble_eq_true rfl) (Nat.le_of_ble_eq_true rfl) rfl rfl (aw_iload_n (pc' := 1) (dt_X11_isBuyer 0 (0, .iload_n 0, 1) rfl) rfl rfl (aw_iconst (pc' := 2) (v := 0) (dt_X11_isBuyer 1 (1, .iconst 0, 1) rfl) (by decide) rfl (aw_bipush (pc' := 4) (v := 59) (dt_X11_isBuyer 2 (2, .bipush 59, 2) rfl) (by decide) rfl (aw_inS (pc' := 7) (nc1 := 0) (ns1 := 0) (nc := 0) (ns := 0) (ls' := [some (.int x1), some (.int 0), some (.int 59)]) (y2 := mX11_in) (As := [.int x1, .int 0, .int 59]) (rest := []) (dt_X11_isBuyer 3 (4, .invokestatic 185, 3) rfl) ok_X11_in ln_ReturnDeskModel_185 sm_X11_in pr_X11_in rfl (Nat.le_of_ble_eq_true rfl) (Nat.le_of_ble_eq_true rfl) rfl rfl (aw_iload_n (pc' := 1) (dt_X11_in 0 (0, .iload_n 0, 1) rfl) rfl rfl (aw_iload_n (pc' := 2) (dt_X11_in 1 (1, .iload_n 1, 1) rfl) rfl rfl (aw_icmp_lt (pc' := 5) (tgt := 14) (dt_X11_in 2 (2, .if_icmp .lt 12, 3) rfl) (by decide) rfl ?_ ?_))))))))
  · intro q1
    have h := h.1 q1
    refine aw_iconst (pc' := 15) (v := 0) (dt_X11_in 8 (14, .iconst 0, 1) rfl) (by decide) rfl (aw_iret (dt_X11_in 9 (15, .ireturn, 1) rfl) rfl rfl (aw_stk (st' := [.int 0]) rfl (aw_iret (dt_X11_isBuyer 4 (7, .ireturn, 1) rfl) rfl rfl (aw_stk (st' := [.int 0]) rfl (aw_if_eq_T (pc' := 7) (tgt := 16) (dt_X11_honest 2 (4, .ifCond .eq 12, 3) rfl) (by decide) rfl (by decide) (aw_iconst (pc' := 17) (v := (-1)) (dt_X11_honest 8 (16, .iconst (-1), 1) rfl) (by decide) rfl (aw_iret (dt_X11_honest 9 (17, .ireturn, 1) rfl) rfl rfl ?_)))))))
    exact h
  · intro q1
    have h := h.2 q1
    refine aw_iload_n (pc' := 6) (dt_X11_in 3 (5, .iload_n 0, 1) rfl) rfl rfl (aw_iload_n (pc' := 7) (dt_X11_in 4 (6, .iload_n 2, 1) rfl) rfl rfl (aw_icmp_gt (pc' := 10) (tgt := 14) (dt_X11_in 5 (7, .if_icmp .gt 7, 3) rfl) (by decide) rfl ?_ ?_))
    · intro q2
      have h := h.1 q2
      refine aw_iconst (pc' := 15) (v := 0) (dt_X11_in 8 (14, .iconst 0, 1) rfl) (by decide) rfl (aw_iret (dt_X11_in 9 (15, .ireturn, 1) rfl) rfl rfl (aw_stk (st' := [.int 0]) rfl (aw_iret (dt_X11_isBuyer 4 (7, .ireturn, 1) rfl) rfl rfl (aw_stk (st' := [.int 0]) rfl (aw_if_eq_T (pc' := 7) (tgt := 16) (dt_X11_honest 2 (4, .ifCond .eq 12, 3) rfl) (by decide) rfl (by decide) (aw_iconst (pc' := 17) (v := (-1)) (dt_X11_honest 8 (16, .iconst (-1), 1) rfl) (by decide) rfl (aw_iret (dt_X11_honest 9 (17, .ireturn, 1) rfl) rfl rfl ?_)))))))
      exact h
    · intro q2
      have h := h.2 q2
      refine aw_iconst (pc' := 11) (v := 1) (dt_X11_in 6 (10, .iconst 1, 1) rfl) (by decide) rfl (aw_goto (tgt := 15) (dt_X11_in 7 (11, .goto 4, 3) rfl) (by decide) (aw_iret (dt_X11_in 9 (15, .ireturn, 1) rfl) rfl rfl (aw_stk (st' := [.int 1]) rfl (aw_iret (dt_X11_isBuyer 4 (7, .ireturn, 1) rfl) rfl rfl (aw_stk (st' := [.int 1]) rfl (aw_if_eq_F (pc' := 7) (tgt := 16) (dt_X11_honest 2 (4, .ifCond .eq 12, 3) rfl) (by decide) rfl (by decide) (aw_iload_n (pc' := 8) (dt_X11_honest 3 (7, .iload_n 2, 1) rfl) rfl rfl (aw_iconst (pc' := 9) (v := 0) (dt_X11_honest 4 (8, .iconst 0, 1) rfl) (by decide) rfl (aw_iconst (pc' := 10) (v := 2) (dt_X11_honest 5 (9, .iconst 2, 1) rfl) (by decide) rfl (aw_inS (pc' := 13) (nc1 := 0) (ns1 := 0) (nc := nc) (ns := ns) (ls' := [some (.int x2), some (.int 0), some (.int 2)]) (y2 := mX11_in) (As := [.int x2, .int 0, .int 2]) (rest := []) (dt_X11_honest 6 (10, .invokestatic 185, 3) rfl) ok_X11_in ln_ReturnDeskModel_185 sm_X11_in pr_X11_in rfl (Nat.le_of_ble_eq_true rfl) (Nat.le_of_ble_eq_true rfl) rfl rfl (aw_iload_n (pc' := 1) (dt_X11_in 0 (0, .iload_n 0, 1) rfl) rfl rfl (aw_iload_n (pc' := 2) (dt_X11_in 1 (1, .iload_n 1, 1) rfl) rfl rfl (aw_icmp_lt (pc' := 5) (tgt := 14) (dt_X11_in 2 (2, .if_icmp .lt 12, 3) rfl) (by decide) rfl ?_ ?_)))))))))))))
      · intro q3
        have h := h.1 q3
        refine aw_iconst (pc' := 15) (v := 0) (dt_X11_in 8 (14, .iconst 0, 1) rfl) (by decide) rfl (aw_iret (dt_X11_in 9 (15, .ireturn, 1) rfl) rfl rfl (aw_stk (st' := [.int 0]) rfl (aw_if_ne_F (pc' := 16) (tgt := 18) (dt_X11_honest 7 (13, .ifCond .ne 5, 3) rfl) (by decide) rfl (by decide) (aw_iconst (pc' := 17) (v := (-1)) (dt_X11_honest 8 (16, .iconst (-1), 1) rfl) (by decide) rfl (aw_iret (dt_X11_honest 9 (17, .ireturn, 1) rfl) rfl rfl ?_)))))
        exact h
      · intro q3
        have h := h.2 q3
        refine aw_iload_n (pc' := 6) (dt_X11_in 3 (5, .iload_n 0, 1) rfl) rfl rfl (aw_iload_n (pc' := 7) (dt_X11_in 4 (6, .iload_n 2, 1) rfl) rfl rfl (aw_icmp_gt (pc' := 10) (tgt := 14) (dt_X11_in 5 (7, .if_icmp .gt 7, 3) rfl) (by decide) rfl ?_ ?_))
        · intro q4
          have h := h.1 q4
          refine aw_iconst (pc' := 15) (v := 0) (dt_X11_in 8 (14, .iconst 0, 1) rfl) (by decide) rfl (aw_iret (dt_X11_in 9 (15, .ireturn, 1) rfl) rfl rfl (aw_stk (st' := [.int 0]) rfl (aw_if_ne_F (pc' := 16) (tgt := 18) (dt_X11_honest 7 (13, .ifCond .ne 5, 3) rfl) (by decide) rfl (by decide) (aw_iconst (pc' := 17) (v := (-1)) (dt_X11_honest 8 (16, .iconst (-1), 1) rfl) (by decide) rfl (aw_iret (dt_X11_honest 9 (17, .ireturn, 1) rfl) rfl rfl ?_)))))
          exact h
        · intro q4
          have h := h.2 q4
          obtain ⟨g5, h⟩ := h
          refine aw_iconst (pc' := 11) (v := 1) (dt_X11_in 6 (10, .iconst 1, 1) rfl) (by decide) rfl (aw_goto (tgt := 15) (dt_X11_in 7 (11, .goto 4, 3) rfl) (by decide) (aw_iret (dt_X11_in 9 (15, .ireturn, 1) rfl) rfl rfl (aw_stk (st' := [.int 1]) rfl (aw_if_ne_T (pc' := 16) (tgt := 18) (dt_X11_honest 7 (13, .ifCond .ne 5, 3) rfl) (by decide) rfl (by decide) (aw_aload_n (pc' := 19) (dt_X11_honest 10 (18, .aload_n 0, 1) rfl) rfl rfl (aw_getAs (pc' := 22) (dt_X11_honest 11 (19, .getfield 178, 3) rfl) fl_ReturnDeskModel_178 rfl rfl (sk_31 hS) (sa_31_80 hS) (aw_iload_n (pc' := 23) (dt_X11_honest 12 (22, .iload_n 1, 1) rfl) rfl rfl (aw_iald (pc' := 24) (dt_X11_honest 13 (23, .iaload, 1) rfl) rfl (sk_87 hS) (vin_eq (sl_87 hS) g5) (aw_if_ne (pc' := 27) (tgt := 31) (dt_X11_honest 14 (24, .ifCond .ne 7, 3) rfl) (by decide) rfl ?_ ?_)))))))))
          · intro q6
            have h := h.1 q6
            obtain ⟨g7, h⟩ := h
            refine aw_aload_n (pc' := 32) (dt_X11_honest 17 (31, .aload_n 0, 1) rfl) rfl rfl (aw_getAs (pc' := 35) (dt_X11_honest 18 (32, .getfield 178, 3) rfl) fl_ReturnDeskModel_178 rfl rfl (sk_31 hS) (sa_31_80 hS) (aw_iload_n (pc' := 36) (dt_X11_honest 19 (35, .iload_n 1, 1) rfl) rfl rfl (aw_iald (pc' := 37) (dt_X11_honest 20 (36, .iaload, 1) rfl) rfl (sk_87 hS) (vin_eq (sl_87 hS) g7) (aw_iconst (pc' := 38) (v := 1) (dt_X11_honest 21 (37, .iconst 1, 1) rfl) (by decide) rfl (aw_isub (pc' := 39) (dt_X11_honest 22 (38, .isub, 1) rfl) rfl (aw_istore_n (pc' := 40) (ls' := [some (.ref 31), some (.int x1), some (.int x2), some (.int ((zI μ 87 x1.toNatClampNeg) - 1))]) (dt_X11_honest 23 (39, .istore_n 3, 1) rfl) (by decide) rfl rfl (aw_aload_n (pc' := 41) (dt_X11_honest 24 (40, .aload_n 0, 1) rfl) rfl rfl (aw_getAs (pc' := 44) (dt_X11_honest 25 (41, .getfield 178, 3) rfl) fl_ReturnDeskModel_178 rfl rfl (sk_31 hS) (sa_31_80 hS) (aw_iload_n (pc' := 45) (dt_X11_honest 26 (44, .iload_n 1, 1) rfl) rfl rfl (aw_iload_n (pc' := 46) (dt_X11_honest 27 (45, .iload_n 2, 1) rfl) rfl rfl (aw_iconst (pc' := 47) (v := 2) (dt_X11_honest 28 (46, .iconst 2, 1) rfl) (by decide) rfl (aw_icmp_ne (pc' := 50) (tgt := 54) (dt_X11_honest 29 (47, .if_icmp .ne 7, 3) rfl) (by decide) rfl ?_ ?_))))))))))))
            · intro q8
              have h := h.1 q8
              obtain ⟨g9, h⟩ := h
              refine aw_iload_n (pc' := 55) (dt_X11_honest 32 (54, .iload_n 2, 1) rfl) rfl rfl (aw_iconst (pc' := 56) (v := 1) (dt_X11_honest 33 (55, .iconst 1, 1) rfl) (by decide) rfl (aw_iadd (pc' := 57) (dt_X11_honest 34 (56, .iadd, 1) rfl) rfl (aw_iast (pc' := 58) (dt_X11_honest 35 (57, .iastore, 1) rfl) rfl (sk_87 hS) (by decide) (vin_eq (sl_87 hS) g9) (aw_iload_n (pc' := 59) (dt_X11_honest 36 (58, .iload_n 3, 1) rfl) rfl rfl (aw_iret (dt_X11_honest 37 (59, .ireturn, 1) rfl) rfl rfl ?_)))))
              exact h
            · intro q8
              have h := h.2 q8
              obtain ⟨g10, h⟩ := h
              refine aw_iconst (pc' := 51) (v := 0) (dt_X11_honest 30 (50, .iconst 0, 1) rfl) (by decide) rfl (aw_goto (tgt := 57) (dt_X11_honest 31 (51, .goto 6, 3) rfl) (by decide) (aw_iast (pc' := 58) (dt_X11_honest 35 (57, .iastore, 1) rfl) rfl (sk_87 hS) (by decide) (vin_eq (sl_87 hS) g10) (aw_iload_n (pc' := 59) (dt_X11_honest 36 (58, .iload_n 3, 1) rfl) rfl rfl (aw_iret (dt_X11_honest 37 (59, .ireturn, 1) rfl) rfl rfl ?_))))
              exact h
          · intro q6
            have h := h.2 q6
            refine aw_iconst (pc' := 28) (v := 2) (dt_X11_honest 15 (27, .iconst 2, 1) rfl) (by decide) rfl (aw_goto (tgt := 39) (dt_X11_honest 16 (28, .goto 11, 3) rfl) (by decide) (aw_istore_n (pc' := 40) (ls' := [some (.ref 31), some (.int x1), some (.int x2), some (.int 2)]) (dt_X11_honest 23 (39, .istore_n 3, 1) rfl) (by decide) rfl rfl (aw_aload_n (pc' := 41) (dt_X11_honest 24 (40, .aload_n 0, 1) rfl) rfl rfl (aw_getAs (pc' := 44) (dt_X11_honest 25 (41, .getfield 178, 3) rfl) fl_ReturnDeskModel_178 rfl rfl (sk_31 hS) (sa_31_80 hS) (aw_iload_n (pc' := 45) (dt_X11_honest 26 (44, .iload_n 1, 1) rfl) rfl rfl (aw_iload_n (pc' := 46) (dt_X11_honest 27 (45, .iload_n 2, 1) rfl) rfl rfl (aw_iconst (pc' := 47) (v := 2) (dt_X11_honest 28 (46, .iconst 2, 1) rfl) (by decide) rfl (aw_icmp_ne (pc' := 50) (tgt := 54) (dt_X11_honest 29 (47, .if_icmp .ne 7, 3) rfl) (by decide) rfl ?_ ?_))))))))
            · intro q11
              have h := h.1 q11
              obtain ⟨g12, h⟩ := h
              refine aw_iload_n (pc' := 55) (dt_X11_honest 32 (54, .iload_n 2, 1) rfl) rfl rfl (aw_iconst (pc' := 56) (v := 1) (dt_X11_honest 33 (55, .iconst 1, 1) rfl) (by decide) rfl (aw_iadd (pc' := 57) (dt_X11_honest 34 (56, .iadd, 1) rfl) rfl (aw_iast (pc' := 58) (dt_X11_honest 35 (57, .iastore, 1) rfl) rfl (sk_87 hS) (by decide) (vin_eq (sl_87 hS) g12) (aw_iload_n (pc' := 59) (dt_X11_honest 36 (58, .iload_n 3, 1) rfl) rfl rfl (aw_iret (dt_X11_honest 37 (59, .ireturn, 1) rfl) rfl rfl ?_)))))
              exact h
            · intro q11
              have h := h.2 q11
              obtain ⟨g13, h⟩ := h
              refine aw_iconst (pc' := 51) (v := 0) (dt_X11_honest 30 (50, .iconst 0, 1) rfl) (by decide) rfl (aw_goto (tgt := 57) (dt_X11_honest 31 (51, .goto 6, 3) rfl) (by decide) (aw_iast (pc' := 58) (dt_X11_honest 35 (57, .iastore, 1) rfl) rfl (sk_87 hS) (by decide) (vin_eq (sl_87 hS) g13) (aw_iload_n (pc' := 59) (dt_X11_honest 36 (58, .iload_n 3, 1) rfl) rfl rfl (aw_iret (dt_X11_honest 37 (59, .ireturn, 1) rfl) rfl rfl ?_))))
              exact h

theorem t_X11_limit {E : ZE} {l : Launch} {d nc ns : Nat}  {μ : ZM} {K : Option Value → ZM → Prop} (hS : Stat μ) (h :
  AW E l (d + 3) 0 0 mX11_begin 0 (zargs 2 [.ref 31, .int 21]) [] μ (fun v μ1 => v = none ∧ Stat μ1 ∧ 
    AW E l (d + 3) 0 0 mX11_question 0 (zargs 2 [.ref 31, .int 1]) [] μ1 (fun v μ3 => v = none ∧ Stat μ3 ∧ 
      (0 ≤ (zI μ3 31 54) →
        ((zI (sI μ3 31 41 0) 31 54) < 0 →
          AW E l (d + 4) nc ns mX11_limit 51 [some (.ref 31), some (.int 0)] [] (sI μ3 31 41 0) K) ∧
        (¬ (zI (sI μ3 31 41 0) 31 54) < 0 →
          K (some (.int ((-100) - (zI (sI μ3 31 41 0) 31 54)))) (sI μ3 31 41 0))) ∧
      (¬ 0 ≤ (zI μ3 31 54) →
        ((zI μ3 31 52) = 0 →
          ((zI (sI μ3 31 41 0) 31 54) < 0 →
            AW E l (d + 4) nc ns mX11_limit 51 [some (.ref 31), some (.int 0)] [] (sI μ3 31 41 0) K) ∧
          (¬ (zI (sI μ3 31 41 0) 31 54) < 0 →
            K (some (.int ((-100) - (zI (sI μ3 31 41 0) 31 54)))) (sI μ3 31 41 0))) ∧
        (¬ (zI μ3 31 52) = 0 →
          (0 ≤ (zI μ3 31 54) →
            ((zI (sI μ3 31 41 0) 31 54) < 0 →
              AW E l (d + 4) nc ns mX11_limit 51 [some (.ref 31), some (.int 0)] [] (sI μ3 31 41 0) K) ∧
            (¬ (zI (sI μ3 31 41 0) 31 54) < 0 →
              K (some (.int ((-100) - (zI (sI μ3 31 41 0) 31 54)))) (sI μ3 31 41 0))) ∧
          (¬ 0 ≤ (zI μ3 31 54) →
            ((zI (sI (sI μ3 31 54 (zI μ3 31 50)) 31 41 0) 31 54) < 0 →
              AW E l (d + 4) nc ns mX11_limit 51 [some (.ref 31), some (.int 0)] [] (sI (sI μ3 31 54 (zI μ3 31 50)) 31 41 0) K) ∧
            (¬ (zI (sI (sI μ3 31 54 (zI μ3 31 50)) 31 41 0) 31 54) < 0 →
              K (some (.int ((-100) - (zI (sI (sI μ3 31 54 (zI μ3 31 50)) 31 41 0) 31 54)))) (sI (sI μ3 31 54 (zI μ3 31 50)) 31 41 0)))))))) : AW E l (d + 4) nc ns mX11_limit 0 [some (.ref 31), none] [] μ K := by
  refine aw_aload_n (pc' := 1) (dt_X11_limit 0 (0, .aload_n 0, 1) rfl) rfl rfl (aw_bipush (pc' := 3) (v := 21) (dt_X11_limit 1 (1, .bipush 21, 2) rfl) (by decide) rfl (aw_callV0 (pc' := 6) (nc := nc) (ns := ns) (y2 := mX11_begin) (As := [.int 21]) (rest := []) (a := 31) (dt_X11_limit 2 (3, .invokevirtual 344, 3) rfl) ok_X11_begin ln_ReturnDeskModel_344 im_X11_begin se_X11_begin pr_X11_begin (Or.inl ⟨by decide, rfl⟩) rfl (Nat.le_of_ble_eq_true rfl) (Nat.le_of_ble_eq_true rfl) rfl (sk_31 hS) h ?_))
  rintro v μ1 ⟨rfl, hS2, h⟩
  refine aw_stk (st' := []) rfl ?_
  refine aw_aload_n (pc' := 7) (dt_X11_limit 3 (6, .aload_n 0, 1) rfl) rfl rfl (aw_iconst (pc' := 8) (v := 1) (dt_X11_limit 4 (7, .iconst 1, 1) rfl) (by decide) rfl (aw_callV0 (pc' := 11) (nc := nc) (ns := ns) (y2 := mX11_question) (As := [.int 1]) (rest := []) (a := 31) (dt_X11_limit 5 (8, .invokevirtual 301, 3) rfl) ok_X11_question ln_ReturnDeskModel_301 im_X11_question se_X11_question pr_X11_question (Or.inl ⟨by decide, rfl⟩) rfl (Nat.le_of_ble_eq_true rfl) (Nat.le_of_ble_eq_true rfl) rfl (sk_31 hS2) h ?_))
  rintro v μ3 ⟨rfl, hS4, h⟩
  refine aw_stk (st' := []) rfl ?_
  refine aw_aload_n (pc' := 12) (dt_X11_limit 6 (11, .aload_n 0, 1) rfl) rfl rfl (aw_getI (pc' := 15) (dt_X11_limit 7 (12, .getfield 268, 3) rfl) fl_ReturnDeskModel_268 rfl rfl (sk_31 hS4) (aw_if_ge (pc' := 18) (tgt := 29) (dt_X11_limit 8 (15, .ifCond .ge 14, 3) rfl) (by decide) rfl ?_ ?_))
  · intro q5
    have h := h.1 q5
    refine aw_aload_n (pc' := 30) (dt_X11_limit 14 (29, .aload_n 0, 1) rfl) rfl rfl (aw_iconst (pc' := 31) (v := 0) (dt_X11_limit 15 (30, .iconst 0, 1) rfl) (by decide) rfl (aw_putI (pc' := 34) (dt_X11_limit 16 (31, .putfield 239, 3) rfl) fl_ReturnDeskModel_239 rfl (by decide +kernel) rfl (sk_31 hS4) (aw_aload_n (pc' := 35) (dt_X11_limit 17 (34, .aload_n 0, 1) rfl) rfl rfl (aw_getI (pc' := 38) (dt_X11_limit 18 (35, .getfield 268, 3) rfl) fl_ReturnDeskModel_268 rfl rfl (sk_31 hS4.wI) (aw_if_lt (pc' := 41) (tgt := 49) (dt_X11_limit 19 (38, .ifCond .lt 11, 3) rfl) (by decide) rfl ?_ ?_)))))
    · intro q6
      have h := h.1 q6
      refine aw_iconst (pc' := 50) (v := 0) (dt_X11_limit 25 (49, .iconst 0, 1) rfl) (by decide) rfl (aw_istore_n (pc' := 51) (ls' := [some (.ref 31), some (.int 0)]) (dt_X11_limit 26 (50, .istore_n 1, 1) rfl) (by decide) rfl rfl ?_)
      exact h
    · intro q6
      have h := h.2 q6
      refine aw_bipush (pc' := 43) (v := (-100)) (dt_X11_limit 20 (41, .bipush (-100), 2) rfl) (by decide) rfl (aw_aload_n (pc' := 44) (dt_X11_limit 21 (43, .aload_n 0, 1) rfl) rfl rfl (aw_getI (pc' := 47) (dt_X11_limit 22 (44, .getfield 268, 3) rfl) fl_ReturnDeskModel_268 rfl rfl (sk_31 hS4.wI) (aw_isub (pc' := 48) (dt_X11_limit 23 (47, .isub, 1) rfl) rfl (aw_iret (dt_X11_limit 24 (48, .ireturn, 1) rfl) rfl rfl ?_))))
      exact h
  · intro q5
    have h := h.2 q5
    refine aw_aload_n (pc' := 19) (dt_X11_limit 9 (18, .aload_n 0, 1) rfl) rfl rfl (aw_getI (pc' := 22) (dt_X11_limit 10 (19, .getfield 252, 3) rfl) fl_ReturnDeskModel_252 rfl rfl (sk_31 hS4) (aw_if_eq (pc' := 25) (tgt := 29) (dt_X11_limit 11 (22, .ifCond .eq 7, 3) rfl) (by decide) rfl ?_ ?_))
    · intro q7
      have h := h.1 q7
      refine aw_aload_n (pc' := 30) (dt_X11_limit 14 (29, .aload_n 0, 1) rfl) rfl rfl (aw_iconst (pc' := 31) (v := 0) (dt_X11_limit 15 (30, .iconst 0, 1) rfl) (by decide) rfl (aw_putI (pc' := 34) (dt_X11_limit 16 (31, .putfield 239, 3) rfl) fl_ReturnDeskModel_239 rfl (by decide +kernel) rfl (sk_31 hS4) (aw_aload_n (pc' := 35) (dt_X11_limit 17 (34, .aload_n 0, 1) rfl) rfl rfl (aw_getI (pc' := 38) (dt_X11_limit 18 (35, .getfield 268, 3) rfl) fl_ReturnDeskModel_268 rfl rfl (sk_31 hS4.wI) (aw_if_lt (pc' := 41) (tgt := 49) (dt_X11_limit 19 (38, .ifCond .lt 11, 3) rfl) (by decide) rfl ?_ ?_)))))
      · intro q8
        have h := h.1 q8
        refine aw_iconst (pc' := 50) (v := 0) (dt_X11_limit 25 (49, .iconst 0, 1) rfl) (by decide) rfl (aw_istore_n (pc' := 51) (ls' := [some (.ref 31), some (.int 0)]) (dt_X11_limit 26 (50, .istore_n 1, 1) rfl) (by decide) rfl rfl ?_)
        exact h
      · intro q8
        have h := h.2 q8
        refine aw_bipush (pc' := 43) (v := (-100)) (dt_X11_limit 20 (41, .bipush (-100), 2) rfl) (by decide) rfl (aw_aload_n (pc' := 44) (dt_X11_limit 21 (43, .aload_n 0, 1) rfl) rfl rfl (aw_getI (pc' := 47) (dt_X11_limit 22 (44, .getfield 268, 3) rfl) fl_ReturnDeskModel_268 rfl rfl (sk_31 hS4.wI) (aw_isub (pc' := 48) (dt_X11_limit 23 (47, .isub, 1) rfl) rfl (aw_iret (dt_X11_limit 24 (48, .ireturn, 1) rfl) rfl rfl ?_))))
        exact h
    · intro q7
      have h := h.2 q7
      refine aw_aload_n (pc' := 26) (dt_X11_limit 12 (25, .aload_n 0, 1) rfl) rfl rfl (aw_inV (pc' := 29) (nc1 := 0) (ns1 := 0) (nc := nc) (ns := ns) (ls' := [some (.ref 31)]) (y2 := mX11_wrong) (As := []) (rest := []) (a := 31) (dt_X11_limit 13 (26, .invokevirtual 280, 3) rfl) ok_X11_wrong ln_ReturnDeskModel_280 im_X11_wrong se_X11_wrong pr_X11_wrong (Or.inl ⟨by decide, rfl⟩) rfl (Nat.le_of_ble_eq_true rfl) (Nat.le_of_ble_eq_true rfl) rfl rfl (sk_31 hS4) (aw_aload_n (pc' := 1) (dt_X11_wrong 0 (0, .aload_n 0, 1) rfl) rfl rfl (aw_getI (pc' := 4) (dt_X11_wrong 1 (1, .getfield 268, 3) rfl) fl_ReturnDeskModel_268 rfl rfl (sk_31 hS4) (aw_if_ge (pc' := 7) (tgt := 15) (dt_X11_wrong 2 (4, .ifCond .ge 11, 3) rfl) (by decide) rfl ?_ ?_))))
      · intro q9
        have h := h.1 q9
        refine aw_ret (dt_X11_wrong 7 (15, .return_, 1) rfl) rfl (aw_stk (st' := []) rfl (aw_aload_n (pc' := 30) (dt_X11_limit 14 (29, .aload_n 0, 1) rfl) rfl rfl (aw_iconst (pc' := 31) (v := 0) (dt_X11_limit 15 (30, .iconst 0, 1) rfl) (by decide) rfl (aw_putI (pc' := 34) (dt_X11_limit 16 (31, .putfield 239, 3) rfl) fl_ReturnDeskModel_239 rfl (by decide +kernel) rfl (sk_31 hS4) (aw_aload_n (pc' := 35) (dt_X11_limit 17 (34, .aload_n 0, 1) rfl) rfl rfl (aw_getI (pc' := 38) (dt_X11_limit 18 (35, .getfield 268, 3) rfl) fl_ReturnDeskModel_268 rfl rfl (sk_31 hS4.wI) (aw_if_lt (pc' := 41) (tgt := 49) (dt_X11_limit 19 (38, .ifCond .lt 11, 3) rfl) (by decide) rfl ?_ ?_)))))))
        · intro q10
          have h := h.1 q10
          refine aw_iconst (pc' := 50) (v := 0) (dt_X11_limit 25 (49, .iconst 0, 1) rfl) (by decide) rfl (aw_istore_n (pc' := 51) (ls' := [some (.ref 31), some (.int 0)]) (dt_X11_limit 26 (50, .istore_n 1, 1) rfl) (by decide) rfl rfl ?_)
          exact h
        · intro q10
          have h := h.2 q10
          refine aw_bipush (pc' := 43) (v := (-100)) (dt_X11_limit 20 (41, .bipush (-100), 2) rfl) (by decide) rfl (aw_aload_n (pc' := 44) (dt_X11_limit 21 (43, .aload_n 0, 1) rfl) rfl rfl (aw_getI (pc' := 47) (dt_X11_limit 22 (44, .getfield 268, 3) rfl) fl_ReturnDeskModel_268 rfl rfl (sk_31 hS4.wI) (aw_isub (pc' := 48) (dt_X11_limit 23 (47, .isub, 1) rfl) rfl (aw_iret (dt_X11_limit 24 (48, .ireturn, 1) rfl) rfl rfl ?_))))
          exact h
      · intro q9
        have h := h.2 q9
        refine aw_aload_n (pc' := 8) (dt_X11_wrong 3 (7, .aload_n 0, 1) rfl) rfl rfl (aw_aload_n (pc' := 9) (dt_X11_wrong 4 (8, .aload_n 0, 1) rfl) rfl rfl (aw_getI (pc' := 12) (dt_X11_wrong 5 (9, .getfield 249, 3) rfl) fl_ReturnDeskModel_249 rfl rfl (sk_31 hS4) (aw_putI (pc' := 15) (dt_X11_wrong 6 (12, .putfield 268, 3) rfl) fl_ReturnDeskModel_268 rfl (by decide +kernel) rfl (sk_31 hS4) (aw_ret (dt_X11_wrong 7 (15, .return_, 1) rfl) rfl (aw_stk (st' := []) rfl (aw_aload_n (pc' := 30) (dt_X11_limit 14 (29, .aload_n 0, 1) rfl) rfl rfl (aw_iconst (pc' := 31) (v := 0) (dt_X11_limit 15 (30, .iconst 0, 1) rfl) (by decide) rfl (aw_putI (pc' := 34) (dt_X11_limit 16 (31, .putfield 239, 3) rfl) fl_ReturnDeskModel_239 rfl (by decide +kernel) rfl (sk_31 hS4.wI) (aw_aload_n (pc' := 35) (dt_X11_limit 17 (34, .aload_n 0, 1) rfl) rfl rfl (aw_getI (pc' := 38) (dt_X11_limit 18 (35, .getfield 268, 3) rfl) fl_ReturnDeskModel_268 rfl rfl (sk_31 hS4.wI.wI) (aw_if_lt (pc' := 41) (tgt := 49) (dt_X11_limit 19 (38, .ifCond .lt 11, 3) rfl) (by decide) rfl ?_ ?_)))))))))))
        · intro q11
          have h := h.1 q11
          refine aw_iconst (pc' := 50) (v := 0) (dt_X11_limit 25 (49, .iconst 0, 1) rfl) (by decide) rfl (aw_istore_n (pc' := 51) (ls' := [some (.ref 31), some (.int 0)]) (dt_X11_limit 26 (50, .istore_n 1, 1) rfl) (by decide) rfl rfl ?_)
          exact h
        · intro q11
          have h := h.2 q11
          refine aw_bipush (pc' := 43) (v := (-100)) (dt_X11_limit 20 (41, .bipush (-100), 2) rfl) (by decide) rfl (aw_aload_n (pc' := 44) (dt_X11_limit 21 (43, .aload_n 0, 1) rfl) rfl rfl (aw_getI (pc' := 47) (dt_X11_limit 22 (44, .getfield 268, 3) rfl) fl_ReturnDeskModel_268 rfl rfl (sk_31 hS4.wI.wI) (aw_isub (pc' := 48) (dt_X11_limit 23 (47, .isub, 1) rfl) rfl (aw_iret (dt_X11_limit 24 (48, .ireturn, 1) rfl) rfl rfl ?_))))
          exact h

theorem t_X11_limit_51 {E : ZE} {l : Launch} {d nc ns : Nat} {x1 : Int32} {μ : ZM} {K : Option Value → ZM → Prop} (hS : Stat μ) (h :
  ((zI μ 31 57) ≤ x1 →
    K (some (.int 1)) (sI (sI μ 69 20 (zI μ 31 57)) 31 49 1)) ∧
  (¬ (zI μ 31 57) ≤ x1 →
    (vp_in (4200 + x1) 4400) ∧
    (vp_in (4000 + x1) 4400) ∧
    (vp_in (4200 + x1) 4400) ∧
    (vp_in (4000 + x1) 4400) ∧
    AW E l (d + 4) nc ns mX11_limit 51 [some (.ref 31), some (.int (x1 + 1))] [] (sI (sI μ 70 (4000 + x1).toNatClampNeg (zI μ 70 (4200 + x1).toNatClampNeg)) 71 (4000 + x1).toNatClampNeg (zI (sI μ 70 (4000 + x1).toNatClampNeg (zI μ 70 (4200 + x1).toNatClampNeg)) 71 (4200 + x1).toNatClampNeg)) K)) : AW E l (d + 4) nc ns mX11_limit 51 [some (.ref 31), some (.int x1)] [] μ K := by
  refine aw_iload_n (pc' := 52) (dt_X11_limit 27 (51, .iload_n 1, 1) rfl) rfl rfl (aw_aload_n (pc' := 53) (dt_X11_limit 28 (52, .aload_n 0, 1) rfl) rfl rfl (aw_getI (pc' := 56) (dt_X11_limit 29 (53, .getfield 274, 3) rfl) fl_ReturnDeskModel_274 rfl rfl (sk_31 hS) (aw_icmp_ge (pc' := 59) (tgt := 105) (dt_X11_limit 30 (56, .if_icmp .ge 49, 3) rfl) (by decide) rfl ?_ ?_)))
  · intro q1
    have h := h.1 q1
    refine aw_aload_n (pc' := 106) (dt_X11_limit 57 (105, .aload_n 0, 1) rfl) rfl rfl (aw_getAs (pc' := 109) (dt_X11_limit 58 (106, .getfield 123, 3) rfl) fl_ReturnDeskModel_123 rfl rfl (sk_31 hS) (sa_31_46 hS) (aw_bipush (pc' := 111) (v := 20) (dt_X11_limit 59 (109, .bipush 20, 2) rfl) (by decide) rfl (aw_aload_n (pc' := 112) (dt_X11_limit 60 (111, .aload_n 0, 1) rfl) rfl rfl (aw_getI (pc' := 115) (dt_X11_limit 61 (112, .getfield 274, 3) rfl) fl_ReturnDeskModel_274 rfl rfl (sk_31 hS) (aw_iast (pc' := 116) (dt_X11_limit 62 (115, .iastore, 1) rfl) rfl (sk_69 hS) (by decide) (vin_eq (sl_69 hS) (vlit (by decide))) (aw_aload_n (pc' := 117) (dt_X11_limit 63 (116, .aload_n 0, 1) rfl) rfl rfl (aw_iconst (pc' := 118) (v := 1) (dt_X11_limit 64 (117, .iconst 1, 1) rfl) (by decide) rfl (aw_putZ (pc' := 121) (dt_X11_limit 65 (118, .putfield 453, 3) rfl) fl_ReturnDeskModel_453 rfl (by decide +kernel) rfl (sk_31 hS.wI) (by decide) (aw_iconst (pc' := 122) (v := 1) (dt_X11_limit 66 (121, .iconst 1, 1) rfl) (by decide) rfl (aw_iret (dt_X11_limit 67 (122, .ireturn, 1) rfl) rfl rfl ?_))))))))))
    exact h
  · intro q1
    have h := h.2 q1
    obtain ⟨g2, h⟩ := h
    obtain ⟨g3, h⟩ := h
    obtain ⟨g4, h⟩ := h
    obtain ⟨g5, h⟩ := h
    refine aw_aload_n (pc' := 60) (dt_X11_limit 31 (59, .aload_n 0, 1) rfl) rfl rfl (aw_getAs (pc' := 63) (dt_X11_limit 32 (60, .getfield 126, 3) rfl) fl_ReturnDeskModel_126 rfl rfl (sk_31 hS) (sa_31_47 hS) (aw_sipush (pc' := 66) (v := 4000) (dt_X11_limit 33 (63, .sipush 4000, 3) rfl) (by decide) rfl (aw_iload_n (pc' := 67) (dt_X11_limit 34 (66, .iload_n 1, 1) rfl) rfl rfl (aw_iadd (pc' := 68) (dt_X11_limit 35 (67, .iadd, 1) rfl) rfl (aw_aload_n (pc' := 69) (dt_X11_limit 36 (68, .aload_n 0, 1) rfl) rfl rfl (aw_getAs (pc' := 72) (dt_X11_limit 37 (69, .getfield 126, 3) rfl) fl_ReturnDeskModel_126 rfl rfl (sk_31 hS) (sa_31_47 hS) (aw_sipush (pc' := 75) (v := 4200) (dt_X11_limit 38 (72, .sipush 4200, 3) rfl) (by decide) rfl (aw_iload_n (pc' := 76) (dt_X11_limit 39 (75, .iload_n 1, 1) rfl) rfl rfl (aw_iadd (pc' := 77) (dt_X11_limit 40 (76, .iadd, 1) rfl) rfl (aw_iald (pc' := 78) (dt_X11_limit 41 (77, .iaload, 1) rfl) rfl (sk_70 hS) (vin_eq (sl_70 hS) g2) (aw_iast (pc' := 79) (dt_X11_limit 42 (78, .iastore, 1) rfl) rfl (sk_70 hS) (by decide) (vin_eq (sl_70 hS) g3) (aw_aload_n (pc' := 80) (dt_X11_limit 43 (79, .aload_n 0, 1) rfl) rfl rfl (aw_getAs (pc' := 83) (dt_X11_limit 44 (80, .getfield 129, 3) rfl) fl_ReturnDeskModel_129 rfl rfl (sk_31 hS.wI) (sa_31_48 hS.wI) (aw_sipush (pc' := 86) (v := 4000) (dt_X11_limit 45 (83, .sipush 4000, 3) rfl) (by decide) rfl (aw_iload_n (pc' := 87) (dt_X11_limit 46 (86, .iload_n 1, 1) rfl) rfl rfl (aw_iadd (pc' := 88) (dt_X11_limit 47 (87, .iadd, 1) rfl) rfl (aw_aload_n (pc' := 89) (dt_X11_limit 48 (88, .aload_n 0, 1) rfl) rfl rfl (aw_getAs (pc' := 92) (dt_X11_limit 49 (89, .getfield 129, 3) rfl) fl_ReturnDeskModel_129 rfl rfl (sk_31 hS.wI) (sa_31_48 hS.wI) (aw_sipush (pc' := 95) (v := 4200) (dt_X11_limit 50 (92, .sipush 4200, 3) rfl) (by decide) rfl (aw_iload_n (pc' := 96) (dt_X11_limit 51 (95, .iload_n 1, 1) rfl) rfl rfl (aw_iadd (pc' := 97) (dt_X11_limit 52 (96, .iadd, 1) rfl) rfl (aw_iald (pc' := 98) (dt_X11_limit 53 (97, .iaload, 1) rfl) rfl (sk_71 hS.wI) (vin_eq (sl_71 hS.wI) g4) (aw_iast (pc' := 99) (dt_X11_limit 54 (98, .iastore, 1) rfl) rfl (sk_71 hS.wI) (by decide) (vin_eq (sl_71 hS.wI) g5) (aw_iinc (pc' := 102) (v := 1) (ls' := [some (.ref 31), some (.int (x1 + 1))]) (dt_X11_limit 55 (99, .iinc 1 1, 3) rfl) rfl (by decide) (by decide) rfl rfl (aw_goto (tgt := 51) (dt_X11_limit 56 (102, .goto (-51), 3) rfl) (by decide) ?_)))))))))))))))))))))))))
    exact h

theorem t_X11_isHit {E : ZE} {l : Launch} {d nc ns : Nat} {x1 : Int32} {μ : ZM} {K : Option Value → ZM → Prop} (hS : Stat μ) (h :
  AW E l (d + 2) nc ns mX11_isHit 3 [some (.ref 31), some (.int x1), some (.int 12)] [] μ K) : AW E l (d + 2) nc ns mX11_isHit 0 [some (.ref 31), some (.int x1), none] [] μ K := by
  refine aw_bipush (pc' := 2) (v := 12) (dt_X11_isHit 0 (0, .bipush 12, 2) rfl) (by decide) rfl (aw_istore_n (pc' := 3) (ls' := [some (.ref 31), some (.int x1), some (.int 12)]) (dt_X11_isHit 1 (2, .istore_n 2, 1) rfl) (by decide) rfl rfl ?_)
  exact h

theorem t_X11_isHit_3 {E : ZE} {l : Launch} {d nc ns : Nat} {x1 : Int32} {x2 : Int32} {μ : ZM} {K : Option Value → ZM → Prop} (hS : Stat μ) (h :
  (17 ≤ x2 →
    AW E l (d + 2) nc ns mX11_isHit 24 [some (.ref 31), some (.int x1), some (.int 0)] [] μ K) ∧
  (¬ 17 ≤ x2 →
    (vp_in x2 17) ∧
    AW E l (d + 2) nc ns mX11_isHit 3 [some (.ref 31), some (.int x1), some (.int (x2 + 1))] [] (sI μ 72 x2.toNatClampNeg 0) K)) : AW E l (d + 2) nc ns mX11_isHit 3 [some (.ref 31), some (.int x1), some (.int x2)] [] μ K := by
  refine aw_iload_n (pc' := 4) (dt_X11_isHit 2 (3, .iload_n 2, 1) rfl) rfl rfl (aw_bipush (pc' := 6) (v := 17) (dt_X11_isHit 3 (4, .bipush 17, 2) rfl) (by decide) rfl (aw_icmp_ge (pc' := 9) (tgt := 22) (dt_X11_isHit 4 (6, .if_icmp .ge 16, 3) rfl) (by decide) rfl ?_ ?_))
  · intro q1
    have h := h.1 q1
    refine aw_iconst (pc' := 23) (v := 0) (dt_X11_isHit 12 (22, .iconst 0, 1) rfl) (by decide) rfl (aw_istore_n (pc' := 24) (ls' := [some (.ref 31), some (.int x1), some (.int 0)]) (dt_X11_isHit 13 (23, .istore_n 2, 1) rfl) (by decide) rfl rfl ?_)
    exact h
  · intro q1
    have h := h.2 q1
    obtain ⟨g2, h⟩ := h
    refine aw_aload_n (pc' := 10) (dt_X11_isHit 5 (9, .aload_n 0, 1) rfl) rfl rfl (aw_getAs (pc' := 13) (dt_X11_isHit 6 (10, .getfield 132, 3) rfl) fl_ReturnDeskModel_132 rfl rfl (sk_31 hS) (sa_31_58 hS) (aw_iload_n (pc' := 14) (dt_X11_isHit 7 (13, .iload_n 2, 1) rfl) rfl rfl (aw_iconst (pc' := 15) (v := 0) (dt_X11_isHit 8 (14, .iconst 0, 1) rfl) (by decide) rfl (aw_iast (pc' := 16) (dt_X11_isHit 9 (15, .iastore, 1) rfl) rfl (sk_72 hS) (by decide) (vin_eq (sl_72 hS) g2) (aw_iinc (pc' := 19) (v := 1) (ls' := [some (.ref 31), some (.int x1), some (.int (x2 + 1))]) (dt_X11_isHit 10 (16, .iinc 2 1, 3) rfl) rfl (by decide) (by decide) rfl rfl (aw_goto (tgt := 3) (dt_X11_isHit 11 (19, .goto (-16), 3) rfl) (by decide) ?_))))))
    exact h

theorem t_X11_isHit_24 {E : ZE} {l : Launch} {d nc ns : Nat} {x1 : Int32} {x2 : Int32} {μ : ZM} {K : Option Value → ZM → Prop} (hS : Stat μ) (h :
  ((zI μ 31 22) ≤ x2 →
    (¬ (zI μ 72 12) = 0 →
      (¬ (zI μ 72 12) = 0) ∧
      AW E l (d + 1) 0 0 mX11_works 0 (zargs 7 [.ref 31, .int 20]) [] (sI μ 72 14 ((100 * (zI μ 72 13)) / (zI μ 72 12))) (fun v μ4 => ∃ r6 : Int32, v = some (.int r6) ∧ Stat μ4 ∧ 
        (r6 = 0 →
          K (some (.int 0)) μ4) ∧
        (¬ r6 = 0 →
          K (some (.int 1)) μ4))) ∧
    ((zI μ 72 12) = 0 →
      AW E l (d + 1) 0 0 mX11_works 0 (zargs 7 [.ref 31, .int 20]) [] (sI μ 72 14 0) (fun v μ8 => ∃ r10 : Int32, v = some (.int r10) ∧ Stat μ8 ∧ 
        (r10 = 0 →
          K (some (.int 0)) μ8) ∧
        (¬ r10 = 0 →
          K (some (.int 1)) μ8)))) ∧
  (¬ (zI μ 31 22) ≤ x2 →
    (vp_in x2 300) ∧
    ((zI μ 53 x2.toNatClampNeg) = x1 →
      (vp_in x2 300) ∧
      (vp_in x2 300) ∧
      ((zI (sI (sI μ 72 12 ((zI μ 72 12) + 1)) 72 15 ((zI (sI μ 72 12 ((zI μ 72 12) + 1)) 72 15) + (zI (sI μ 72 12 ((zI μ 72 12) + 1)) 56 x2.toNatClampNeg))) 48 x2.toNatClampNeg) = 2 →
        ∀ μ17, μ17 = (sI (sI (sI μ 72 12 ((zI μ 72 12) + 1)) 72 15 ((zI (sI μ 72 12 ((zI μ 72 12) + 1)) 72 15) + (zI (sI μ 72 12 ((zI μ 72 12) + 1)) 56 x2.toNatClampNeg))) 72 13 ((zI (sI (sI μ 72 12 ((zI μ 72 12) + 1)) 72 15 ((zI (sI μ 72 12 ((zI μ 72 12) + 1)) 72 15) + (zI (sI μ 72 12 ((zI μ 72 12) + 1)) 56 x2.toNatClampNeg))) 72 13) + 1)) →
        (vp_in x2 300) ∧
        (30 ≤ (((zI μ17 31 1) / 24) - (zI μ17 58 x2.toNatClampNeg)) →
          AW E l (d + 2) nc ns mX11_isHit 24 [some (.ref 31), some (.int x1), some (.int (x2 + 1))] [] (sI μ17 72 16 ((zI μ17 72 16) + 0)) K) ∧
        (¬ 30 ≤ (((zI μ17 31 1) / 24) - (zI μ17 58 x2.toNatClampNeg)) →
          AW E l (d + 2) nc ns mX11_isHit 24 [some (.ref 31), some (.int x1), some (.int (x2 + 1))] [] (sI μ17 72 16 ((zI μ17 72 16) + 1)) K)) ∧
      (¬ (zI (sI (sI μ 72 12 ((zI μ 72 12) + 1)) 72 15 ((zI (sI μ 72 12 ((zI μ 72 12) + 1)) 72 15) + (zI (sI μ 72 12 ((zI μ 72 12) + 1)) 56 x2.toNatClampNeg))) 48 x2.toNatClampNeg) = 2 →
        AW E l (d + 2) nc ns mX11_isHit 24 [some (.ref 31), some (.int x1), some (.int (x2 + 1))] [] (sI (sI μ 72 12 ((zI μ 72 12) + 1)) 72 15 ((zI (sI μ 72 12 ((zI μ 72 12) + 1)) 72 15) + (zI (sI μ 72 12 ((zI μ 72 12) + 1)) 56 x2.toNatClampNeg))) K)) ∧
    (¬ (zI μ 53 x2.toNatClampNeg) = x1 →
      AW E l (d + 2) nc ns mX11_isHit 24 [some (.ref 31), some (.int x1), some (.int (x2 + 1))] [] μ K))) : AW E l (d + 2) nc ns mX11_isHit 24 [some (.ref 31), some (.int x1), some (.int x2)] [] μ K := by
  refine aw_iload_n (pc' := 25) (dt_X11_isHit 14 (24, .iload_n 2, 1) rfl) rfl rfl (aw_aload_n (pc' := 26) (dt_X11_isHit 15 (25, .aload_n 0, 1) rfl) rfl rfl (aw_getI (pc' := 29) (dt_X11_isHit 16 (26, .getfield 215, 3) rfl) fl_ReturnDeskModel_215 rfl rfl (sk_31 hS) (aw_icmp_ge (pc' := 32) (tgt := 133) (dt_X11_isHit 17 (29, .if_icmp .ge 104, 3) rfl) (by decide) rfl ?_ ?_)))
  · intro q1
    have h := h.1 q1
    refine aw_aload_n (pc' := 134) (dt_X11_isHit 80 (133, .aload_n 0, 1) rfl) rfl rfl (aw_getAs (pc' := 137) (dt_X11_isHit 81 (134, .getfield 132, 3) rfl) fl_ReturnDeskModel_132 rfl rfl (sk_31 hS) (sa_31_58 hS) (aw_bipush (pc' := 139) (v := 14) (dt_X11_isHit 82 (137, .bipush 14, 2) rfl) (by decide) rfl (aw_aload_n (pc' := 140) (dt_X11_isHit 83 (139, .aload_n 0, 1) rfl) rfl rfl (aw_getAs (pc' := 143) (dt_X11_isHit 84 (140, .getfield 132, 3) rfl) fl_ReturnDeskModel_132 rfl rfl (sk_31 hS) (sa_31_58 hS) (aw_bipush (pc' := 145) (v := 12) (dt_X11_isHit 85 (143, .bipush 12, 2) rfl) (by decide) rfl (aw_iald (pc' := 146) (dt_X11_isHit 86 (145, .iaload, 1) rfl) rfl (sk_72 hS) (vin_eq (sl_72 hS) (vlit (by decide))) (aw_if_ne (pc' := 149) (tgt := 153) (dt_X11_isHit 87 (146, .ifCond .ne 7, 3) rfl) (by decide) rfl ?_ ?_)))))))
    · intro q2
      have h := h.1 q2
      obtain ⟨g3, h⟩ := h
      refine aw_bipush (pc' := 155) (v := 100) (dt_X11_isHit 90 (153, .bipush 100, 2) rfl) (by decide) rfl (aw_aload_n (pc' := 156) (dt_X11_isHit 91 (155, .aload_n 0, 1) rfl) rfl rfl (aw_getAs (pc' := 159) (dt_X11_isHit 92 (156, .getfield 132, 3) rfl) fl_ReturnDeskModel_132 rfl rfl (sk_31 hS) (sa_31_58 hS) (aw_bipush (pc' := 161) (v := 13) (dt_X11_isHit 93 (159, .bipush 13, 2) rfl) (by decide) rfl (aw_iald (pc' := 162) (dt_X11_isHit 94 (161, .iaload, 1) rfl) rfl (sk_72 hS) (vin_eq (sl_72 hS) (vlit (by decide))) (aw_imul (pc' := 163) (dt_X11_isHit 95 (162, .imul, 1) rfl) rfl (aw_aload_n (pc' := 164) (dt_X11_isHit 96 (163, .aload_n 0, 1) rfl) rfl rfl (aw_getAs (pc' := 167) (dt_X11_isHit 97 (164, .getfield 132, 3) rfl) fl_ReturnDeskModel_132 rfl rfl (sk_31 hS) (sa_31_58 hS) (aw_bipush (pc' := 169) (v := 12) (dt_X11_isHit 98 (167, .bipush 12, 2) rfl) (by decide) rfl (aw_iald (pc' := 170) (dt_X11_isHit 99 (169, .iaload, 1) rfl) rfl (sk_72 hS) (vin_eq (sl_72 hS) (vlit (by decide))) (aw_idiv (pc' := 171) (dt_X11_isHit 100 (170, .idiv, 1) rfl) g3 rfl (aw_iast (pc' := 172) (dt_X11_isHit 101 (171, .iastore, 1) rfl) rfl (sk_72 hS) (by decide) (vin_eq (sl_72 hS) (vlit (by decide))) (aw_aload_n (pc' := 173) (dt_X11_isHit 102 (172, .aload_n 0, 1) rfl) rfl rfl (aw_bipush (pc' := 175) (v := 20) (dt_X11_isHit 103 (173, .bipush 20, 2) rfl) (by decide) rfl (aw_callV0 (pc' := 178) (nc := nc) (ns := ns) (y2 := mX11_works) (As := [.int 20]) (rest := []) (a := 31) (dt_X11_isHit 104 (175, .invokevirtual 363, 3) rfl) ok_X11_works ln_ReturnDeskModel_363 im_X11_works se_X11_works pr_X11_works (Or.inl ⟨by decide, rfl⟩) rfl (Nat.le_of_ble_eq_true rfl) (Nat.le_of_ble_eq_true rfl) rfl (sk_31 hS.wI) h ?_))))))))))))))
      rintro v μ4 ⟨r6, rfl, hS5, h⟩
      refine aw_stk (st' := [.int r6]) rfl ?_
      refine aw_if_eq (pc' := 181) (tgt := 185) (dt_X11_isHit 105 (178, .ifCond .eq 7, 3) rfl) (by decide) rfl ?_ ?_
      · intro q7
        have h := h.1 q7
        refine aw_iconst (pc' := 186) (v := 0) (dt_X11_isHit 108 (185, .iconst 0, 1) rfl) (by decide) rfl (aw_iret (dt_X11_isHit 109 (186, .ireturn, 1) rfl) rfl rfl ?_)
        exact h
      · intro q7
        have h := h.2 q7
        refine aw_iconst (pc' := 182) (v := 1) (dt_X11_isHit 106 (181, .iconst 1, 1) rfl) (by decide) rfl (aw_goto (tgt := 186) (dt_X11_isHit 107 (182, .goto 4, 3) rfl) (by decide) (aw_iret (dt_X11_isHit 109 (186, .ireturn, 1) rfl) rfl rfl ?_))
        exact h
    · intro q2
      have h := h.2 q2
      refine aw_iconst (pc' := 150) (v := 0) (dt_X11_isHit 88 (149, .iconst 0, 1) rfl) (by decide) rfl (aw_goto (tgt := 171) (dt_X11_isHit 89 (150, .goto 21, 3) rfl) (by decide) (aw_iast (pc' := 172) (dt_X11_isHit 101 (171, .iastore, 1) rfl) rfl (sk_72 hS) (by decide) (vin_eq (sl_72 hS) (vlit (by decide))) (aw_aload_n (pc' := 173) (dt_X11_isHit 102 (172, .aload_n 0, 1) rfl) rfl rfl (aw_bipush (pc' := 175) (v := 20) (dt_X11_isHit 103 (173, .bipush 20, 2) rfl) (by decide) rfl (aw_callV0 (pc' := 178) (nc := nc) (ns := ns) (y2 := mX11_works) (As := [.int 20]) (rest := []) (a := 31) (dt_X11_isHit 104 (175, .invokevirtual 363, 3) rfl) ok_X11_works ln_ReturnDeskModel_363 im_X11_works se_X11_works pr_X11_works (Or.inl ⟨by decide, rfl⟩) rfl (Nat.le_of_ble_eq_true rfl) (Nat.le_of_ble_eq_true rfl) rfl (sk_31 hS.wI) h ?_)))))
      rintro v μ8 ⟨r10, rfl, hS9, h⟩
      refine aw_stk (st' := [.int r10]) rfl ?_
      refine aw_if_eq (pc' := 181) (tgt := 185) (dt_X11_isHit 105 (178, .ifCond .eq 7, 3) rfl) (by decide) rfl ?_ ?_
      · intro q11
        have h := h.1 q11
        refine aw_iconst (pc' := 186) (v := 0) (dt_X11_isHit 108 (185, .iconst 0, 1) rfl) (by decide) rfl (aw_iret (dt_X11_isHit 109 (186, .ireturn, 1) rfl) rfl rfl ?_)
        exact h
      · intro q11
        have h := h.2 q11
        refine aw_iconst (pc' := 182) (v := 1) (dt_X11_isHit 106 (181, .iconst 1, 1) rfl) (by decide) rfl (aw_goto (tgt := 186) (dt_X11_isHit 107 (182, .goto 4, 3) rfl) (by decide) (aw_iret (dt_X11_isHit 109 (186, .ireturn, 1) rfl) rfl rfl ?_))
        exact h
  · intro q1
    have h := h.2 q1
    obtain ⟨g12, h⟩ := h
    refine aw_aload_n (pc' := 33) (dt_X11_isHit 18 (32, .aload_n 0, 1) rfl) rfl rfl (aw_getAs (pc' := 36) (dt_X11_isHit 19 (33, .getfield 74, 3) rfl) fl_ReturnDeskModel_74 rfl rfl (sk_31 hS) (sa_31_28 hS) (aw_iload_n (pc' := 37) (dt_X11_isHit 20 (36, .iload_n 2, 1) rfl) rfl rfl (aw_iald (pc' := 38) (dt_X11_isHit 21 (37, .iaload, 1) rfl) rfl (sk_53 hS) (vin_eq (sl_53 hS) g12) (aw_iload_n (pc' := 39) (dt_X11_isHit 22 (38, .iload_n 1, 1) rfl) rfl rfl (aw_icmp_eq (pc' := 42) (tgt := 45) (dt_X11_isHit 23 (39, .if_icmp .eq 6, 3) rfl) (by decide) rfl ?_ ?_)))))
    · intro q13
      have h := h.1 q13
      obtain ⟨g14, h⟩ := h
      obtain ⟨g15, h⟩ := h
      refine aw_aload_n (pc' := 46) (dt_X11_isHit 25 (45, .aload_n 0, 1) rfl) rfl rfl (aw_getAs (pc' := 49) (dt_X11_isHit 26 (46, .getfield 132, 3) rfl) fl_ReturnDeskModel_132 rfl rfl (sk_31 hS) (sa_31_58 hS) (aw_bipush (pc' := 51) (v := 12) (dt_X11_isHit 27 (49, .bipush 12, 2) rfl) (by decide) rfl (aw_dup2 (pc' := 52) (dt_X11_isHit 28 (51, .dup2, 1) rfl) rfl rfl rfl (aw_iald (pc' := 53) (dt_X11_isHit 29 (52, .iaload, 1) rfl) rfl (sk_72 hS) (vin_eq (sl_72 hS) (vlit (by decide))) (aw_iconst (pc' := 54) (v := 1) (dt_X11_isHit 30 (53, .iconst 1, 1) rfl) (by decide) rfl (aw_iadd (pc' := 55) (dt_X11_isHit 31 (54, .iadd, 1) rfl) rfl (aw_iast (pc' := 56) (dt_X11_isHit 32 (55, .iastore, 1) rfl) rfl (sk_72 hS) (by decide) (vin_eq (sl_72 hS) (vlit (by decide))) (aw_aload_n (pc' := 57) (dt_X11_isHit 33 (56, .aload_n 0, 1) rfl) rfl rfl (aw_getAs (pc' := 60) (dt_X11_isHit 34 (57, .getfield 132, 3) rfl) fl_ReturnDeskModel_132 rfl rfl (sk_31 hS.wI) (sa_31_58 hS.wI) (aw_bipush (pc' := 62) (v := 15) (dt_X11_isHit 35 (60, .bipush 15, 2) rfl) (by decide) rfl (aw_dup2 (pc' := 63) (dt_X11_isHit 36 (62, .dup2, 1) rfl) rfl rfl rfl (aw_iald (pc' := 64) (dt_X11_isHit 37 (63, .iaload, 1) rfl) rfl (sk_72 hS.wI) (vin_eq (sl_72 hS.wI) (vlit (by decide))) (aw_aload_n (pc' := 65) (dt_X11_isHit 38 (64, .aload_n 0, 1) rfl) rfl rfl (aw_getAs (pc' := 68) (dt_X11_isHit 39 (65, .getfield 83, 3) rfl) fl_ReturnDeskModel_83 rfl rfl (sk_31 hS.wI) (sa_31_31 hS.wI) (aw_iload_n (pc' := 69) (dt_X11_isHit 40 (68, .iload_n 2, 1) rfl) rfl rfl (aw_iald (pc' := 70) (dt_X11_isHit 41 (69, .iaload, 1) rfl) rfl (sk_56 hS.wI) (vin_eq (sl_56 hS.wI) g14) (aw_iadd (pc' := 71) (dt_X11_isHit 42 (70, .iadd, 1) rfl) rfl (aw_iast (pc' := 72) (dt_X11_isHit 43 (71, .iastore, 1) rfl) rfl (sk_72 hS.wI) (by decide) (vin_eq (sl_72 hS.wI) (vlit (by decide))) (aw_aload_n (pc' := 73) (dt_X11_isHit 44 (72, .aload_n 0, 1) rfl) rfl rfl (aw_getAs (pc' := 76) (dt_X11_isHit 45 (73, .getfield 59, 3) rfl) fl_ReturnDeskModel_59 rfl rfl (sk_31 hS.wI.wI) (sa_31_23 hS.wI.wI) (aw_iload_n (pc' := 77) (dt_X11_isHit 46 (76, .iload_n 2, 1) rfl) rfl rfl (aw_iald (pc' := 78) (dt_X11_isHit 47 (77, .iaload, 1) rfl) rfl (sk_48 hS.wI.wI) (vin_eq (sl_48 hS.wI.wI) g15) (aw_iconst (pc' := 79) (v := 2) (dt_X11_isHit 48 (78, .iconst 2, 1) rfl) (by decide) rfl (aw_icmp_eq (pc' := 82) (tgt := 85) (dt_X11_isHit 49 (79, .if_icmp .eq 6, 3) rfl) (by decide) rfl ?_ ?_))))))))))))))))))))))))
      · intro q16
        have h := h.1 q16
        refine aw_aload_n (pc' := 86) (dt_X11_isHit 51 (85, .aload_n 0, 1) rfl) rfl rfl (aw_getAs (pc' := 89) (dt_X11_isHit 52 (86, .getfield 132, 3) rfl) fl_ReturnDeskModel_132 rfl rfl (sk_31 hS.wI.wI) (sa_31_58 hS.wI.wI) (aw_bipush (pc' := 91) (v := 13) (dt_X11_isHit 53 (89, .bipush 13, 2) rfl) (by decide) rfl (aw_dup2 (pc' := 92) (dt_X11_isHit 54 (91, .dup2, 1) rfl) rfl rfl rfl (aw_iald (pc' := 93) (dt_X11_isHit 55 (92, .iaload, 1) rfl) rfl (sk_72 hS.wI.wI) (vin_eq (sl_72 hS.wI.wI) (vlit (by decide))) (aw_iconst (pc' := 94) (v := 1) (dt_X11_isHit 56 (93, .iconst 1, 1) rfl) (by decide) rfl (aw_iadd (pc' := 95) (dt_X11_isHit 57 (94, .iadd, 1) rfl) rfl (aw_iast (pc' := 96) (dt_X11_isHit 58 (95, .iastore, 1) rfl) rfl (sk_72 hS.wI.wI) (by decide) (vin_eq (sl_72 hS.wI.wI) (vlit (by decide))) ?_)))))))
        refine aw_mem (fun μ17 eμ18 => ?_)
        have h := h μ17 eμ18
        have hS19 : Stat μ17 := by rw [eμ18]; exact hS.wI.wI.wI
        obtain ⟨g20, h⟩ := h
        refine aw_aload_n (pc' := 97) (dt_X11_isHit 59 (96, .aload_n 0, 1) rfl) rfl rfl (aw_getAs (pc' := 100) (dt_X11_isHit 60 (97, .getfield 132, 3) rfl) fl_ReturnDeskModel_132 rfl rfl (sk_31 hS19) (sa_31_58 hS19) (aw_bipush (pc' := 102) (v := 16) (dt_X11_isHit 61 (100, .bipush 16, 2) rfl) (by decide) rfl (aw_dup2 (pc' := 103) (dt_X11_isHit 62 (102, .dup2, 1) rfl) rfl rfl rfl (aw_iald (pc' := 104) (dt_X11_isHit 63 (103, .iaload, 1) rfl) rfl (sk_72 hS19) (vin_eq (sl_72 hS19) (vlit (by decide))) (aw_aload_n (pc' := 105) (dt_X11_isHit 64 (104, .aload_n 0, 1) rfl) rfl rfl (aw_inV (pc' := 108) (nc1 := 0) (ns1 := 0) (nc := nc) (ns := ns) (ls' := [some (.ref 31)]) (y2 := mX11_today) (As := []) (rest := [.int (zI μ17 72 16), .int 16, .ref 72]) (a := 31) (dt_X11_isHit 65 (105, .invokevirtual 224, 3) rfl) ok_X11_today ln_ReturnDeskModel_224 im_X11_today se_X11_today pr_X11_today (Or.inl ⟨by decide, rfl⟩) rfl (Nat.le_of_ble_eq_true rfl) (Nat.le_of_ble_eq_true rfl) rfl rfl (sk_31 hS19) (aw_aload_n (pc' := 1) (dt_X11_today 0 (0, .aload_n 0, 1) rfl) rfl rfl (aw_getI (pc' := 4) (dt_X11_today 1 (1, .getfield 189, 3) rfl) fl_ReturnDeskModel_189 rfl rfl (sk_31 hS19) (aw_bipush (pc' := 6) (v := 24) (dt_X11_today 2 (4, .bipush 24, 2) rfl) (by decide) rfl (aw_idiv (pc' := 7) (dt_X11_today 3 (6, .idiv, 1) rfl) (by decide) rfl (aw_iret (dt_X11_today 4 (7, .ireturn, 1) rfl) rfl rfl (aw_stk (st' := [.int ((zI μ17 31 1) / 24), .int (zI μ17 72 16), .int 16, .ref 72]) rfl (aw_aload_n (pc' := 109) (dt_X11_isHit 66 (108, .aload_n 0, 1) rfl) rfl rfl (aw_getAs (pc' := 112) (dt_X11_isHit 67 (109, .getfield 89, 3) rfl) fl_ReturnDeskModel_89 rfl rfl (sk_31 hS19) (sa_31_33 hS19) (aw_iload_n (pc' := 113) (dt_X11_isHit 68 (112, .iload_n 2, 1) rfl) rfl rfl (aw_iald (pc' := 114) (dt_X11_isHit 69 (113, .iaload, 1) rfl) rfl (sk_58 hS19) (vin_eq (sl_58 hS19) g20) (aw_isub (pc' := 115) (dt_X11_isHit 70 (114, .isub, 1) rfl) rfl (aw_bipush (pc' := 117) (v := 30) (dt_X11_isHit 71 (115, .bipush 30, 2) rfl) (by decide) rfl (aw_icmp_ge (pc' := 120) (tgt := 124) (dt_X11_isHit 72 (117, .if_icmp .ge 7, 3) rfl) (by decide) rfl ?_ ?_)))))))))))))))))))
        · intro q21
          have h := h.1 q21
          refine aw_iconst (pc' := 125) (v := 0) (dt_X11_isHit 75 (124, .iconst 0, 1) rfl) (by decide) rfl (aw_iadd (pc' := 126) (dt_X11_isHit 76 (125, .iadd, 1) rfl) rfl (aw_iast (pc' := 127) (dt_X11_isHit 77 (126, .iastore, 1) rfl) rfl (sk_72 hS19) (by decide) (vin_eq (sl_72 hS19) (vlit (by decide))) (aw_iinc (pc' := 130) (v := 1) (ls' := [some (.ref 31), some (.int x1), some (.int (x2 + 1))]) (dt_X11_isHit 78 (127, .iinc 2 1, 3) rfl) rfl (by decide) (by decide) rfl rfl (aw_goto (tgt := 24) (dt_X11_isHit 79 (130, .goto (-106), 3) rfl) (by decide) ?_))))
          exact h
        · intro q21
          have h := h.2 q21
          refine aw_iconst (pc' := 121) (v := 1) (dt_X11_isHit 73 (120, .iconst 1, 1) rfl) (by decide) rfl (aw_goto (tgt := 125) (dt_X11_isHit 74 (121, .goto 4, 3) rfl) (by decide) (aw_iadd (pc' := 126) (dt_X11_isHit 76 (125, .iadd, 1) rfl) rfl (aw_iast (pc' := 127) (dt_X11_isHit 77 (126, .iastore, 1) rfl) rfl (sk_72 hS19) (by decide) (vin_eq (sl_72 hS19) (vlit (by decide))) (aw_iinc (pc' := 130) (v := 1) (ls' := [some (.ref 31), some (.int x1), some (.int (x2 + 1))]) (dt_X11_isHit 78 (127, .iinc 2 1, 3) rfl) rfl (by decide) (by decide) rfl rfl (aw_goto (tgt := 24) (dt_X11_isHit 79 (130, .goto (-106), 3) rfl) (by decide) ?_)))))
          exact h
      · intro q16
        have h := h.2 q16
        refine aw_goto (tgt := 127) (dt_X11_isHit 50 (82, .goto 45, 3) rfl) (by decide) (aw_iinc (pc' := 130) (v := 1) (ls' := [some (.ref 31), some (.int x1), some (.int (x2 + 1))]) (dt_X11_isHit 78 (127, .iinc 2 1, 3) rfl) rfl (by decide) (by decide) rfl rfl (aw_goto (tgt := 24) (dt_X11_isHit 79 (130, .goto (-106), 3) rfl) (by decide) ?_))
        exact h
    · intro q13
      have h := h.2 q13
      refine aw_goto (tgt := 127) (dt_X11_isHit 24 (42, .goto 85, 3) rfl) (by decide) (aw_iinc (pc' := 130) (v := 1) (ls' := [some (.ref 31), some (.int x1), some (.int (x2 + 1))]) (dt_X11_isHit 78 (127, .iinc 2 1, 3) rfl) rfl (by decide) (by decide) rfl rfl (aw_goto (tgt := 24) (dt_X11_isHit 79 (130, .goto (-106), 3) rfl) (by decide) ?_))
      exact h

theorem t_X11_hits {E : ZE} {l : Launch} {d nc ns : Nat} {x1 : Int32} {μ : ZM} {K : Option Value → ZM → Prop} (hS : Stat μ) (h :
  (x1 < 0 →
    K (some (.int (-1))) μ) ∧
  (¬ x1 < 0 →
    (59 < x1 →
      K (some (.int (-1))) μ) ∧
    (¬ 59 < x1 →
      (¬ (zI μ 31 49) = 0 →
        AW E l (d + 2) 0 0 mX11_isHit 0 (zargs 3 [.ref 31, .int x1]) [] μ (fun v μ4 => ∃ r6 : Int32, v = some (.int r6) ∧ Stat μ4 ∧ 
          (r6 = 0 →
            K (some (.int 0)) μ4) ∧
          (¬ r6 = 0 →
            K (some (.int 1)) μ4))) ∧
      ((zI μ 31 49) = 0 →
        K (some (.int (-2))) μ)))) : AW E l (d + 3) nc ns mX11_hits 0 [some (.ref 31), some (.int x1)] [] μ K := by
  refine aw_iload_n (pc' := 1) (dt_X11_hits 0 (0, .iload_n 1, 1) rfl) rfl rfl (aw_inS (pc' := 4) (nc1 := 0) (ns1 := 0) (nc := nc) (ns := ns) (ls' := [some (.int x1)]) (y2 := mX11_isBuyer) (As := [.int x1]) (rest := []) (dt_X11_hits 1 (1, .invokestatic 450, 3) rfl) ok_X11_isBuyer ln_ReturnDeskModel_450 sm_X11_isBuyer pr_X11_isBuyer rfl (Nat.le_of_ble_eq_true rfl) (Nat.le_of_ble_eq_true rfl) rfl rfl (aw_iload_n (pc' := 1) (dt_X11_isBuyer 0 (0, .iload_n 0, 1) rfl) rfl rfl (aw_iconst (pc' := 2) (v := 0) (dt_X11_isBuyer 1 (1, .iconst 0, 1) rfl) (by decide) rfl (aw_bipush (pc' := 4) (v := 59) (dt_X11_isBuyer 2 (2, .bipush 59, 2) rfl) (by decide) rfl (aw_inS (pc' := 7) (nc1 := 0) (ns1 := 0) (nc := 0) (ns := 0) (ls' := [some (.int x1), some (.int 0), some (.int 59)]) (y2 := mX11_in) (As := [.int x1, .int 0, .int 59]) (rest := []) (dt_X11_isBuyer 3 (4, .invokestatic 185, 3) rfl) ok_X11_in ln_ReturnDeskModel_185 sm_X11_in pr_X11_in rfl (Nat.le_of_ble_eq_true rfl) (Nat.le_of_ble_eq_true rfl) rfl rfl (aw_iload_n (pc' := 1) (dt_X11_in 0 (0, .iload_n 0, 1) rfl) rfl rfl (aw_iload_n (pc' := 2) (dt_X11_in 1 (1, .iload_n 1, 1) rfl) rfl rfl (aw_icmp_lt (pc' := 5) (tgt := 14) (dt_X11_in 2 (2, .if_icmp .lt 12, 3) rfl) (by decide) rfl ?_ ?_))))))))
  · intro q1
    have h := h.1 q1
    refine aw_iconst (pc' := 15) (v := 0) (dt_X11_in 8 (14, .iconst 0, 1) rfl) (by decide) rfl (aw_iret (dt_X11_in 9 (15, .ireturn, 1) rfl) rfl rfl (aw_stk (st' := [.int 0]) rfl (aw_iret (dt_X11_isBuyer 4 (7, .ireturn, 1) rfl) rfl rfl (aw_stk (st' := [.int 0]) rfl (aw_if_ne_F (pc' := 7) (tgt := 11) (dt_X11_hits 2 (4, .ifCond .ne 7, 3) rfl) (by decide) rfl (by decide) (aw_iconst (pc' := 8) (v := (-1)) (dt_X11_hits 3 (7, .iconst (-1), 1) rfl) (by decide) rfl (aw_goto (tgt := 36) (dt_X11_hits 4 (8, .goto 28, 3) rfl) (by decide) (aw_iret (dt_X11_hits 17 (36, .ireturn, 1) rfl) rfl rfl ?_))))))))
    exact h
  · intro q1
    have h := h.2 q1
    refine aw_iload_n (pc' := 6) (dt_X11_in 3 (5, .iload_n 0, 1) rfl) rfl rfl (aw_iload_n (pc' := 7) (dt_X11_in 4 (6, .iload_n 2, 1) rfl) rfl rfl (aw_icmp_gt (pc' := 10) (tgt := 14) (dt_X11_in 5 (7, .if_icmp .gt 7, 3) rfl) (by decide) rfl ?_ ?_))
    · intro q2
      have h := h.1 q2
      refine aw_iconst (pc' := 15) (v := 0) (dt_X11_in 8 (14, .iconst 0, 1) rfl) (by decide) rfl (aw_iret (dt_X11_in 9 (15, .ireturn, 1) rfl) rfl rfl (aw_stk (st' := [.int 0]) rfl (aw_iret (dt_X11_isBuyer 4 (7, .ireturn, 1) rfl) rfl rfl (aw_stk (st' := [.int 0]) rfl (aw_if_ne_F (pc' := 7) (tgt := 11) (dt_X11_hits 2 (4, .ifCond .ne 7, 3) rfl) (by decide) rfl (by decide) (aw_iconst (pc' := 8) (v := (-1)) (dt_X11_hits 3 (7, .iconst (-1), 1) rfl) (by decide) rfl (aw_goto (tgt := 36) (dt_X11_hits 4 (8, .goto 28, 3) rfl) (by decide) (aw_iret (dt_X11_hits 17 (36, .ireturn, 1) rfl) rfl rfl ?_))))))))
      exact h
    · intro q2
      have h := h.2 q2
      refine aw_iconst (pc' := 11) (v := 1) (dt_X11_in 6 (10, .iconst 1, 1) rfl) (by decide) rfl (aw_goto (tgt := 15) (dt_X11_in 7 (11, .goto 4, 3) rfl) (by decide) (aw_iret (dt_X11_in 9 (15, .ireturn, 1) rfl) rfl rfl (aw_stk (st' := [.int 1]) rfl (aw_iret (dt_X11_isBuyer 4 (7, .ireturn, 1) rfl) rfl rfl (aw_stk (st' := [.int 1]) rfl (aw_if_ne_T (pc' := 7) (tgt := 11) (dt_X11_hits 2 (4, .ifCond .ne 7, 3) rfl) (by decide) rfl (by decide) (aw_aload_n (pc' := 12) (dt_X11_hits 5 (11, .aload_n 0, 1) rfl) rfl rfl (aw_getI (pc' := 15) (dt_X11_hits 6 (12, .getfield 453, 3) rfl) fl_ReturnDeskModel_453 rfl rfl (sk_31 hS) (aw_if_ne (pc' := 18) (tgt := 23) (dt_X11_hits 7 (15, .ifCond .ne 8, 3) rfl) (by decide) rfl ?_ ?_)))))))))
      · intro q3
        have h := h.1 q3
        refine aw_aload_n (pc' := 24) (dt_X11_hits 10 (23, .aload_n 0, 1) rfl) rfl rfl (aw_iload_n (pc' := 25) (dt_X11_hits 11 (24, .iload_n 1, 1) rfl) rfl rfl (aw_callV0 (pc' := 28) (nc := nc) (ns := ns) (y2 := mX11_isHit) (As := [.int x1]) (rest := []) (a := 31) (dt_X11_hits 12 (25, .invokevirtual 457, 3) rfl) ok_X11_isHit ln_ReturnDeskModel_457 im_X11_isHit se_X11_isHit pr_X11_isHit (Or.inl ⟨by decide, rfl⟩) rfl (Nat.le_of_ble_eq_true rfl) (Nat.le_of_ble_eq_true rfl) rfl (sk_31 hS) h ?_))
        rintro v μ4 ⟨r6, rfl, hS5, h⟩
        refine aw_stk (st' := [.int r6]) rfl ?_
        refine aw_if_eq (pc' := 31) (tgt := 35) (dt_X11_hits 13 (28, .ifCond .eq 7, 3) rfl) (by decide) rfl ?_ ?_
        · intro q7
          have h := h.1 q7
          refine aw_iconst (pc' := 36) (v := 0) (dt_X11_hits 16 (35, .iconst 0, 1) rfl) (by decide) rfl (aw_iret (dt_X11_hits 17 (36, .ireturn, 1) rfl) rfl rfl ?_)
          exact h
        · intro q7
          have h := h.2 q7
          refine aw_iconst (pc' := 32) (v := 1) (dt_X11_hits 14 (31, .iconst 1, 1) rfl) (by decide) rfl (aw_goto (tgt := 36) (dt_X11_hits 15 (32, .goto 4, 3) rfl) (by decide) (aw_iret (dt_X11_hits 17 (36, .ireturn, 1) rfl) rfl rfl ?_))
          exact h
      · intro q3
        have h := h.2 q3
        refine aw_bipush (pc' := 20) (v := (-2)) (dt_X11_hits 8 (18, .bipush (-2), 2) rfl) (by decide) rfl (aw_goto (tgt := 36) (dt_X11_hits 9 (20, .goto 16, 3) rfl) (by decide) (aw_iret (dt_X11_hits 17 (36, .ireturn, 1) rfl) rfl rfl ?_))
        exact h

theorem t_X11_hasBought {E : ZE} {l : Launch} {d nc ns : Nat} {x1 : Int32} {μ : ZM} {K : Option Value → ZM → Prop} (hS : Stat μ) (h :
  AW E l d nc ns mX11_hasBought 2 [some (.ref 31), some (.int x1), some (.int 0)] [] μ K) : AW E l d nc ns mX11_hasBought 0 [some (.ref 31), some (.int x1), none] [] μ K := by
  refine aw_iconst (pc' := 1) (v := 0) (dt_X11_hasBought 0 (0, .iconst 0, 1) rfl) (by decide) rfl (aw_istore_n (pc' := 2) (ls' := [some (.ref 31), some (.int x1), some (.int 0)]) (dt_X11_hasBought 1 (1, .istore_n 2, 1) rfl) (by decide) rfl rfl ?_)
  exact h

theorem t_X11_hasBought_2 {E : ZE} {l : Launch} {d nc ns : Nat} {x1 : Int32} {x2 : Int32} {μ : ZM} {K : Option Value → ZM → Prop} (hS : Stat μ) (h :
  ((zI μ 31 22) ≤ x2 →
    K (some (.int 0)) μ) ∧
  (¬ (zI μ 31 22) ≤ x2 →
    (vp_in x2 300) ∧
    (¬ (zI μ 53 x2.toNatClampNeg) = x1 →
      AW E l d nc ns mX11_hasBought 2 [some (.ref 31), some (.int x1), some (.int (x2 + 1))] [] μ K) ∧
    ((zI μ 53 x2.toNatClampNeg) = x1 →
      K (some (.int 1)) μ))) : AW E l d nc ns mX11_hasBought 2 [some (.ref 31), some (.int x1), some (.int x2)] [] μ K := by
  refine aw_iload_n (pc' := 3) (dt_X11_hasBought 2 (2, .iload_n 2, 1) rfl) rfl rfl (aw_aload_n (pc' := 4) (dt_X11_hasBought 3 (3, .aload_n 0, 1) rfl) rfl rfl (aw_getI (pc' := 7) (dt_X11_hasBought 4 (4, .getfield 215, 3) rfl) fl_ReturnDeskModel_215 rfl rfl (sk_31 hS) (aw_icmp_ge (pc' := 10) (tgt := 28) (dt_X11_hasBought 5 (7, .if_icmp .ge 21, 3) rfl) (by decide) rfl ?_ ?_)))
  · intro q1
    have h := h.1 q1
    refine aw_iconst (pc' := 29) (v := 0) (dt_X11_hasBought 16 (28, .iconst 0, 1) rfl) (by decide) rfl (aw_iret (dt_X11_hasBought 17 (29, .ireturn, 1) rfl) rfl rfl ?_)
    exact h
  · intro q1
    have h := h.2 q1
    obtain ⟨g2, h⟩ := h
    refine aw_aload_n (pc' := 11) (dt_X11_hasBought 6 (10, .aload_n 0, 1) rfl) rfl rfl (aw_getAs (pc' := 14) (dt_X11_hasBought 7 (11, .getfield 74, 3) rfl) fl_ReturnDeskModel_74 rfl rfl (sk_31 hS) (sa_31_28 hS) (aw_iload_n (pc' := 15) (dt_X11_hasBought 8 (14, .iload_n 2, 1) rfl) rfl rfl (aw_iald (pc' := 16) (dt_X11_hasBought 9 (15, .iaload, 1) rfl) rfl (sk_53 hS) (vin_eq (sl_53 hS) g2) (aw_iload_n (pc' := 17) (dt_X11_hasBought 10 (16, .iload_n 1, 1) rfl) rfl rfl (aw_icmp_ne (pc' := 20) (tgt := 22) (dt_X11_hasBought 11 (17, .if_icmp .ne 5, 3) rfl) (by decide) rfl ?_ ?_)))))
    · intro q3
      have h := h.1 q3
      refine aw_iinc (pc' := 25) (v := 1) (ls' := [some (.ref 31), some (.int x1), some (.int (x2 + 1))]) (dt_X11_hasBought 14 (22, .iinc 2 1, 3) rfl) rfl (by decide) (by decide) rfl rfl (aw_goto (tgt := 2) (dt_X11_hasBought 15 (25, .goto (-23), 3) rfl) (by decide) ?_)
      exact h
    · intro q3
      have h := h.2 q3
      refine aw_iconst (pc' := 21) (v := 1) (dt_X11_hasBought 12 (20, .iconst 1, 1) rfl) (by decide) rfl (aw_iret (dt_X11_hasBought 13 (21, .ireturn, 1) rfl) rfl rfl ?_)
      exact h

theorem t_X11_tried {E : ZE} {l : Launch} {d nc ns : Nat} {x1 : Int32} {μ : ZM} {K : Option Value → ZM → Prop} (hS : Stat μ) (h :
  (x1 < 0 →
    K (some (.int (-1))) μ) ∧
  (¬ x1 < 0 →
    (3 < x1 →
      K (some (.int (-1))) μ) ∧
    (¬ 3 < x1 →
      (¬ (zI μ 31 49) = 0 →
        AW E l (d + 3) nc ns mX11_tried 25 [some (.ref 31), some (.int x1), some (.int 0), some (.int 0), none] [] μ K) ∧
      ((zI μ 31 49) = 0 →
        K (some (.int (-2))) μ)))) : AW E l (d + 3) nc ns mX11_tried 0 [some (.ref 31), some (.int x1), none, none, none] [] μ K := by
  refine aw_iload_n (pc' := 1) (dt_X11_tried 0 (0, .iload_n 1, 1) rfl) rfl rfl (aw_iconst (pc' := 2) (v := 0) (dt_X11_tried 1 (1, .iconst 0, 1) rfl) (by decide) rfl (aw_iconst (pc' := 3) (v := 3) (dt_X11_tried 2 (2, .iconst 3, 1) rfl) (by decide) rfl (aw_inS (pc' := 6) (nc1 := 0) (ns1 := 0) (nc := nc) (ns := ns) (ls' := [some (.int x1), some (.int 0), some (.int 3)]) (y2 := mX11_in) (As := [.int x1, .int 0, .int 3]) (rest := []) (dt_X11_tried 3 (3, .invokestatic 185, 3) rfl) ok_X11_in ln_ReturnDeskModel_185 sm_X11_in pr_X11_in rfl (Nat.le_of_ble_eq_true rfl) (Nat.le_of_ble_eq_true rfl) rfl rfl (aw_iload_n (pc' := 1) (dt_X11_in 0 (0, .iload_n 0, 1) rfl) rfl rfl (aw_iload_n (pc' := 2) (dt_X11_in 1 (1, .iload_n 1, 1) rfl) rfl rfl (aw_icmp_lt (pc' := 5) (tgt := 14) (dt_X11_in 2 (2, .if_icmp .lt 12, 3) rfl) (by decide) rfl ?_ ?_))))))
  · intro q1
    have h := h.1 q1
    refine aw_iconst (pc' := 15) (v := 0) (dt_X11_in 8 (14, .iconst 0, 1) rfl) (by decide) rfl (aw_iret (dt_X11_in 9 (15, .ireturn, 1) rfl) rfl rfl (aw_stk (st' := [.int 0]) rfl (aw_if_ne_F (pc' := 9) (tgt := 11) (dt_X11_tried 4 (6, .ifCond .ne 5, 3) rfl) (by decide) rfl (by decide) (aw_iconst (pc' := 10) (v := (-1)) (dt_X11_tried 5 (9, .iconst (-1), 1) rfl) (by decide) rfl (aw_iret (dt_X11_tried 6 (10, .ireturn, 1) rfl) rfl rfl ?_)))))
    exact h
  · intro q1
    have h := h.2 q1
    refine aw_iload_n (pc' := 6) (dt_X11_in 3 (5, .iload_n 0, 1) rfl) rfl rfl (aw_iload_n (pc' := 7) (dt_X11_in 4 (6, .iload_n 2, 1) rfl) rfl rfl (aw_icmp_gt (pc' := 10) (tgt := 14) (dt_X11_in 5 (7, .if_icmp .gt 7, 3) rfl) (by decide) rfl ?_ ?_))
    · intro q2
      have h := h.1 q2
      refine aw_iconst (pc' := 15) (v := 0) (dt_X11_in 8 (14, .iconst 0, 1) rfl) (by decide) rfl (aw_iret (dt_X11_in 9 (15, .ireturn, 1) rfl) rfl rfl (aw_stk (st' := [.int 0]) rfl (aw_if_ne_F (pc' := 9) (tgt := 11) (dt_X11_tried 4 (6, .ifCond .ne 5, 3) rfl) (by decide) rfl (by decide) (aw_iconst (pc' := 10) (v := (-1)) (dt_X11_tried 5 (9, .iconst (-1), 1) rfl) (by decide) rfl (aw_iret (dt_X11_tried 6 (10, .ireturn, 1) rfl) rfl rfl ?_)))))
      exact h
    · intro q2
      have h := h.2 q2
      refine aw_iconst (pc' := 11) (v := 1) (dt_X11_in 6 (10, .iconst 1, 1) rfl) (by decide) rfl (aw_goto (tgt := 15) (dt_X11_in 7 (11, .goto 4, 3) rfl) (by decide) (aw_iret (dt_X11_in 9 (15, .ireturn, 1) rfl) rfl rfl (aw_stk (st' := [.int 1]) rfl (aw_if_ne_T (pc' := 9) (tgt := 11) (dt_X11_tried 4 (6, .ifCond .ne 5, 3) rfl) (by decide) rfl (by decide) (aw_aload_n (pc' := 12) (dt_X11_tried 7 (11, .aload_n 0, 1) rfl) rfl rfl (aw_getI (pc' := 15) (dt_X11_tried 8 (12, .getfield 453, 3) rfl) fl_ReturnDeskModel_453 rfl rfl (sk_31 hS) (aw_if_ne (pc' := 18) (tgt := 21) (dt_X11_tried 9 (15, .ifCond .ne 6, 3) rfl) (by decide) rfl ?_ ?_)))))))
      · intro q3
        have h := h.1 q3
        refine aw_iconst (pc' := 22) (v := 0) (dt_X11_tried 12 (21, .iconst 0, 1) rfl) (by decide) rfl (aw_istore_n (pc' := 23) (ls' := [some (.ref 31), some (.int x1), some (.int 0), none, none]) (dt_X11_tried 13 (22, .istore_n 2, 1) rfl) (by decide) rfl rfl (aw_iconst (pc' := 24) (v := 0) (dt_X11_tried 14 (23, .iconst 0, 1) rfl) (by decide) rfl (aw_istore_n (pc' := 25) (ls' := [some (.ref 31), some (.int x1), some (.int 0), some (.int 0), none]) (dt_X11_tried 15 (24, .istore_n 3, 1) rfl) (by decide) rfl rfl ?_)))
        exact h
      · intro q3
        have h := h.2 q3
        refine aw_bipush (pc' := 20) (v := (-2)) (dt_X11_tried 10 (18, .bipush (-2), 2) rfl) (by decide) rfl (aw_iret (dt_X11_tried 11 (20, .ireturn, 1) rfl) rfl rfl ?_)
        exact h

theorem t_X11_tried_25 {E : ZE} {l : Launch} {d nc ns : Nat} {x1 : Int32} {x2 : Int32} {x3 : Int32} {μ : ZM} {K : Option Value → ZM → Prop} (hS : Stat μ) (h :
  (60 ≤ x3 →
    K (some (.int x2)) μ) ∧
  (¬ 60 ≤ x3 →
    AW E l (d + 2) 0 0 mX11_hasBought 0 (zargs 3 [.ref 31, .int x3]) [] μ (fun v μ2 => ∃ r4 : Int32, v = some (.int r4) ∧ Stat μ2 ∧ 
      (r4 = 0 →
        AW E l (d + 3) nc ns mX11_tried 25 [some (.ref 31), some (.int x1), some (.int x2), some (.int (x3 + 1)), none] [] μ2 K) ∧
      (¬ r4 = 0 →
        AW E l (d + 2) 0 0 mX11_isHit 0 (zargs 3 [.ref 31, .int x3]) [] μ2 (fun v μ6 => ∃ r8 : Int32, v = some (.int r8) ∧ Stat μ6 ∧ 
          (¬ r8 = 0 →
            (vp_in x3 60) ∧
            (¬ (zI μ6 87 x3.toNatClampNeg) = 0 →
              (vp_in x3 60) ∧
              (¬ (zI μ6 87 x3.toNatClampNeg) = 2 →
                (x1 = 3 →
                  AW E l (d + 3) nc ns mX11_tried 25 [some (.ref 31), some (.int x1), some (.int (x2 + 1)), some (.int (x3 + 1)), none] [] μ6 K) ∧
                (¬ x1 = 3 →
                  (¬ x1 = 1 →
                    AW E l (d + 3) nc ns mX11_tried 25 [some (.ref 31), some (.int x1), some (.int (x2 + 0)), some (.int (x3 + 1)), none] [] μ6 K) ∧
                  (x1 = 1 →
                    AW E l (d + 3) nc ns mX11_tried 25 [some (.ref 31), some (.int x1), some (.int (x2 + 1)), some (.int (x3 + 1)), none] [] μ6 K))) ∧
              ((zI μ6 87 x3.toNatClampNeg) = 2 →
                (x1 = 3 →
                  AW E l (d + 3) nc ns mX11_tried 25 [some (.ref 31), some (.int x1), some (.int (x2 + 1)), some (.int (x3 + 1)), none] [] μ6 K) ∧
                (¬ x1 = 3 →
                  (¬ x1 = 0 →
                    AW E l (d + 3) nc ns mX11_tried 25 [some (.ref 31), some (.int x1), some (.int (x2 + 0)), some (.int (x3 + 1)), none] [] μ6 K) ∧
                  (x1 = 0 →
                    AW E l (d + 3) nc ns mX11_tried 25 [some (.ref 31), some (.int x1), some (.int (x2 + 1)), some (.int (x3 + 1)), none] [] μ6 K)))) ∧
            ((zI μ6 87 x3.toNatClampNeg) = 0 →
              (x1 = 3 →
                AW E l (d + 3) nc ns mX11_tried 25 [some (.ref 31), some (.int x1), some (.int (x2 + 1)), some (.int (x3 + 1)), none] [] μ6 K) ∧
              (¬ x1 = 3 →
                (¬ x1 = 2 →
                  AW E l (d + 3) nc ns mX11_tried 25 [some (.ref 31), some (.int x1), some (.int (x2 + 0)), some (.int (x3 + 1)), none] [] μ6 K) ∧
                (x1 = 2 →
                  AW E l (d + 3) nc ns mX11_tried 25 [some (.ref 31), some (.int x1), some (.int (x2 + 1)), some (.int (x3 + 1)), none] [] μ6 K)))) ∧
          (r8 = 0 →
            AW E l (d + 3) nc ns mX11_tried 25 [some (.ref 31), some (.int x1), some (.int x2), some (.int (x3 + 1)), none] [] μ6 K)))))) : AW E l (d + 3) nc ns mX11_tried 25 [some (.ref 31), some (.int x1), some (.int x2), some (.int x3), none] [] μ K := by
  refine aw_iload_n (pc' := 26) (dt_X11_tried 16 (25, .iload_n 3, 1) rfl) rfl rfl (aw_bipush (pc' := 28) (v := 60) (dt_X11_tried 17 (26, .bipush 60, 2) rfl) (by decide) rfl (aw_icmp_ge (pc' := 31) (tgt := 105) (dt_X11_tried 18 (28, .if_icmp .ge 77, 3) rfl) (by decide) rfl ?_ ?_))
  · intro q1
    have h := h.1 q1
    refine aw_iload_n (pc' := 106) (dt_X11_tried 59 (105, .iload_n 2, 1) rfl) rfl rfl (aw_iret (dt_X11_tried 60 (106, .ireturn, 1) rfl) rfl rfl ?_)
    exact h
  · intro q1
    have h := h.2 q1
    refine aw_aload_n (pc' := 32) (dt_X11_tried 19 (31, .aload_n 0, 1) rfl) rfl rfl (aw_iload_n (pc' := 33) (dt_X11_tried 20 (32, .iload_n 3, 1) rfl) rfl rfl (aw_callV0 (pc' := 36) (nc := nc) (ns := ns) (y2 := mX11_hasBought) (As := [.int x3]) (rest := []) (a := 31) (dt_X11_tried 21 (33, .invokevirtual 460, 3) rfl) ok_X11_hasBought ln_ReturnDeskModel_460 im_X11_hasBought se_X11_hasBought pr_X11_hasBought (Or.inl ⟨by decide, rfl⟩) rfl (Nat.le_of_ble_eq_true rfl) (Nat.le_of_ble_eq_true rfl) rfl (sk_31 hS) h ?_))
    rintro v μ2 ⟨r4, rfl, hS3, h⟩
    refine aw_stk (st' := [.int r4]) rfl ?_
    refine aw_if_eq (pc' := 39) (tgt := 99) (dt_X11_tried 22 (36, .ifCond .eq 63, 3) rfl) (by decide) rfl ?_ ?_
    · intro q5
      have h := h.1 q5
      refine aw_iinc (pc' := 102) (v := 1) (ls' := [some (.ref 31), some (.int x1), some (.int x2), some (.int (x3 + 1)), none]) (dt_X11_tried 57 (99, .iinc 3 1, 3) rfl) rfl (by decide) (by decide) rfl rfl (aw_goto (tgt := 25) (dt_X11_tried 58 (102, .goto (-77), 3) rfl) (by decide) ?_)
      exact h
    · intro q5
      have h := h.2 q5
      refine aw_aload_n (pc' := 40) (dt_X11_tried 23 (39, .aload_n 0, 1) rfl) rfl rfl (aw_iload_n (pc' := 41) (dt_X11_tried 24 (40, .iload_n 3, 1) rfl) rfl rfl (aw_callV0 (pc' := 44) (nc := nc) (ns := ns) (y2 := mX11_isHit) (As := [.int x3]) (rest := []) (a := 31) (dt_X11_tried 25 (41, .invokevirtual 457, 3) rfl) ok_X11_isHit ln_ReturnDeskModel_457 im_X11_isHit se_X11_isHit pr_X11_isHit (Or.inl ⟨by decide, rfl⟩) rfl (Nat.le_of_ble_eq_true rfl) (Nat.le_of_ble_eq_true rfl) rfl (sk_31 hS3) h ?_))
      rintro v μ6 ⟨r8, rfl, hS7, h⟩
      refine aw_stk (st' := [.int r8]) rfl ?_
      refine aw_if_ne (pc' := 47) (tgt := 50) (dt_X11_tried 26 (44, .ifCond .ne 6, 3) rfl) (by decide) rfl ?_ ?_
      · intro q9
        have h := h.1 q9
        obtain ⟨g10, h⟩ := h
        refine aw_aload_n (pc' := 51) (dt_X11_tried 28 (50, .aload_n 0, 1) rfl) rfl rfl (aw_getAs (pc' := 54) (dt_X11_tried 29 (51, .getfield 178, 3) rfl) fl_ReturnDeskModel_178 rfl rfl (sk_31 hS7) (sa_31_80 hS7) (aw_iload_n (pc' := 55) (dt_X11_tried 30 (54, .iload_n 3, 1) rfl) rfl rfl (aw_iald (pc' := 56) (dt_X11_tried 31 (55, .iaload, 1) rfl) rfl (sk_87 hS7) (vin_eq (sl_87 hS7) g10) (aw_if_ne (pc' := 59) (tgt := 63) (dt_X11_tried 32 (56, .ifCond .ne 7, 3) rfl) (by decide) rfl ?_ ?_))))
        · intro q11
          have h := h.1 q11
          obtain ⟨g12, h⟩ := h
          refine aw_aload_n (pc' := 64) (dt_X11_tried 35 (63, .aload_n 0, 1) rfl) rfl rfl (aw_getAs (pc' := 67) (dt_X11_tried 36 (64, .getfield 178, 3) rfl) fl_ReturnDeskModel_178 rfl rfl (sk_31 hS7) (sa_31_80 hS7) (aw_iload_n (pc' := 68) (dt_X11_tried 37 (67, .iload_n 3, 1) rfl) rfl rfl (aw_iald (pc' := 69) (dt_X11_tried 38 (68, .iaload, 1) rfl) rfl (sk_87 hS7) (vin_eq (sl_87 hS7) g12) (aw_iconst (pc' := 70) (v := 2) (dt_X11_tried 39 (69, .iconst 2, 1) rfl) (by decide) rfl (aw_icmp_ne (pc' := 73) (tgt := 77) (dt_X11_tried 40 (70, .if_icmp .ne 7, 3) rfl) (by decide) rfl ?_ ?_)))))
          · intro q13
            have h := h.1 q13
            refine aw_iconst (pc' := 78) (v := 1) (dt_X11_tried 43 (77, .iconst 1, 1) rfl) (by decide) rfl (aw_istore (pc' := 80) (ls' := [some (.ref 31), some (.int x1), some (.int x2), some (.int x3), some (.int 1)]) (dt_X11_tried 44 (78, .istore 4, 2) rfl) (by decide) rfl rfl (aw_iload_n (pc' := 81) (dt_X11_tried 45 (80, .iload_n 2, 1) rfl) rfl rfl (aw_iload_n (pc' := 82) (dt_X11_tried 46 (81, .iload_n 1, 1) rfl) rfl rfl (aw_iconst (pc' := 83) (v := 3) (dt_X11_tried 47 (82, .iconst 3, 1) rfl) (by decide) rfl (aw_icmp_eq (pc' := 86) (tgt := 92) (dt_X11_tried 48 (83, .if_icmp .eq 9, 3) rfl) (by decide) rfl ?_ ?_)))))
            · intro q14
              have h := h.1 q14
              refine aw_iconst (pc' := 93) (v := 1) (dt_X11_tried 52 (92, .iconst 1, 1) rfl) (by decide) rfl (aw_goto (tgt := 97) (dt_X11_tried 53 (93, .goto 4, 3) rfl) (by decide) (aw_iadd (pc' := 98) (dt_X11_tried 55 (97, .iadd, 1) rfl) rfl (aw_istore_n (pc' := 99) (ls' := [some (.ref 31), some (.int x1), some (.int (x2 + 1)), some (.int x3), some (.int 1)]) (dt_X11_tried 56 (98, .istore_n 2, 1) rfl) (by decide) rfl rfl (aw_iinc (pc' := 102) (v := 1) (ls' := [some (.ref 31), some (.int x1), some (.int (x2 + 1)), some (.int (x3 + 1)), some (.int 1)]) (dt_X11_tried 57 (99, .iinc 3 1, 3) rfl) rfl (by decide) (by decide) rfl rfl (aw_goto (tgt := 25) (dt_X11_tried 58 (102, .goto (-77), 3) rfl) (by decide) (aw_drop (ls' := [some (.ref 31), some (.int x1), some (.int (x2 + 1)), some (.int (x3 + 1)), none]) ⟨rfl, rfl, rfl, rfl, trivial⟩ ?_))))))
              exact h
            · intro q14
              have h := h.2 q14
              refine aw_iload_n (pc' := 87) (dt_X11_tried 49 (86, .iload_n 1, 1) rfl) rfl rfl (aw_iload (pc' := 89) (dt_X11_tried 50 (87, .iload 4, 2) rfl) rfl rfl (aw_icmp_ne (pc' := 92) (tgt := 96) (dt_X11_tried 51 (89, .if_icmp .ne 7, 3) rfl) (by decide) rfl ?_ ?_))
              · intro q15
                have h := h.1 q15
                refine aw_iconst (pc' := 97) (v := 0) (dt_X11_tried 54 (96, .iconst 0, 1) rfl) (by decide) rfl (aw_iadd (pc' := 98) (dt_X11_tried 55 (97, .iadd, 1) rfl) rfl (aw_istore_n (pc' := 99) (ls' := [some (.ref 31), some (.int x1), some (.int (x2 + 0)), some (.int x3), some (.int 1)]) (dt_X11_tried 56 (98, .istore_n 2, 1) rfl) (by decide) rfl rfl (aw_iinc (pc' := 102) (v := 1) (ls' := [some (.ref 31), some (.int x1), some (.int (x2 + 0)), some (.int (x3 + 1)), some (.int 1)]) (dt_X11_tried 57 (99, .iinc 3 1, 3) rfl) rfl (by decide) (by decide) rfl rfl (aw_goto (tgt := 25) (dt_X11_tried 58 (102, .goto (-77), 3) rfl) (by decide) (aw_drop (ls' := [some (.ref 31), some (.int x1), some (.int (x2 + 0)), some (.int (x3 + 1)), none]) ⟨rfl, rfl, rfl, rfl, trivial⟩ ?_)))))
                exact h
              · intro q15
                have h := h.2 q15
                refine aw_iconst (pc' := 93) (v := 1) (dt_X11_tried 52 (92, .iconst 1, 1) rfl) (by decide) rfl (aw_goto (tgt := 97) (dt_X11_tried 53 (93, .goto 4, 3) rfl) (by decide) (aw_iadd (pc' := 98) (dt_X11_tried 55 (97, .iadd, 1) rfl) rfl (aw_istore_n (pc' := 99) (ls' := [some (.ref 31), some (.int x1), some (.int (x2 + 1)), some (.int x3), some (.int 1)]) (dt_X11_tried 56 (98, .istore_n 2, 1) rfl) (by decide) rfl rfl (aw_iinc (pc' := 102) (v := 1) (ls' := [some (.ref 31), some (.int x1), some (.int (x2 + 1)), some (.int (x3 + 1)), some (.int 1)]) (dt_X11_tried 57 (99, .iinc 3 1, 3) rfl) rfl (by decide) (by decide) rfl rfl (aw_goto (tgt := 25) (dt_X11_tried 58 (102, .goto (-77), 3) rfl) (by decide) (aw_drop (ls' := [some (.ref 31), some (.int x1), some (.int (x2 + 1)), some (.int (x3 + 1)), none]) ⟨rfl, rfl, rfl, rfl, trivial⟩ ?_))))))
                exact h
          · intro q13
            have h := h.2 q13
            refine aw_iconst (pc' := 74) (v := 0) (dt_X11_tried 41 (73, .iconst 0, 1) rfl) (by decide) rfl (aw_goto (tgt := 78) (dt_X11_tried 42 (74, .goto 4, 3) rfl) (by decide) (aw_istore (pc' := 80) (ls' := [some (.ref 31), some (.int x1), some (.int x2), some (.int x3), some (.int 0)]) (dt_X11_tried 44 (78, .istore 4, 2) rfl) (by decide) rfl rfl (aw_iload_n (pc' := 81) (dt_X11_tried 45 (80, .iload_n 2, 1) rfl) rfl rfl (aw_iload_n (pc' := 82) (dt_X11_tried 46 (81, .iload_n 1, 1) rfl) rfl rfl (aw_iconst (pc' := 83) (v := 3) (dt_X11_tried 47 (82, .iconst 3, 1) rfl) (by decide) rfl (aw_icmp_eq (pc' := 86) (tgt := 92) (dt_X11_tried 48 (83, .if_icmp .eq 9, 3) rfl) (by decide) rfl ?_ ?_))))))
            · intro q16
              have h := h.1 q16
              refine aw_iconst (pc' := 93) (v := 1) (dt_X11_tried 52 (92, .iconst 1, 1) rfl) (by decide) rfl (aw_goto (tgt := 97) (dt_X11_tried 53 (93, .goto 4, 3) rfl) (by decide) (aw_iadd (pc' := 98) (dt_X11_tried 55 (97, .iadd, 1) rfl) rfl (aw_istore_n (pc' := 99) (ls' := [some (.ref 31), some (.int x1), some (.int (x2 + 1)), some (.int x3), some (.int 0)]) (dt_X11_tried 56 (98, .istore_n 2, 1) rfl) (by decide) rfl rfl (aw_iinc (pc' := 102) (v := 1) (ls' := [some (.ref 31), some (.int x1), some (.int (x2 + 1)), some (.int (x3 + 1)), some (.int 0)]) (dt_X11_tried 57 (99, .iinc 3 1, 3) rfl) rfl (by decide) (by decide) rfl rfl (aw_goto (tgt := 25) (dt_X11_tried 58 (102, .goto (-77), 3) rfl) (by decide) (aw_drop (ls' := [some (.ref 31), some (.int x1), some (.int (x2 + 1)), some (.int (x3 + 1)), none]) ⟨rfl, rfl, rfl, rfl, trivial⟩ ?_))))))
              exact h
            · intro q16
              have h := h.2 q16
              refine aw_iload_n (pc' := 87) (dt_X11_tried 49 (86, .iload_n 1, 1) rfl) rfl rfl (aw_iload (pc' := 89) (dt_X11_tried 50 (87, .iload 4, 2) rfl) rfl rfl (aw_icmp_ne (pc' := 92) (tgt := 96) (dt_X11_tried 51 (89, .if_icmp .ne 7, 3) rfl) (by decide) rfl ?_ ?_))
              · intro q17
                have h := h.1 q17
                refine aw_iconst (pc' := 97) (v := 0) (dt_X11_tried 54 (96, .iconst 0, 1) rfl) (by decide) rfl (aw_iadd (pc' := 98) (dt_X11_tried 55 (97, .iadd, 1) rfl) rfl (aw_istore_n (pc' := 99) (ls' := [some (.ref 31), some (.int x1), some (.int (x2 + 0)), some (.int x3), some (.int 0)]) (dt_X11_tried 56 (98, .istore_n 2, 1) rfl) (by decide) rfl rfl (aw_iinc (pc' := 102) (v := 1) (ls' := [some (.ref 31), some (.int x1), some (.int (x2 + 0)), some (.int (x3 + 1)), some (.int 0)]) (dt_X11_tried 57 (99, .iinc 3 1, 3) rfl) rfl (by decide) (by decide) rfl rfl (aw_goto (tgt := 25) (dt_X11_tried 58 (102, .goto (-77), 3) rfl) (by decide) (aw_drop (ls' := [some (.ref 31), some (.int x1), some (.int (x2 + 0)), some (.int (x3 + 1)), none]) ⟨rfl, rfl, rfl, rfl, trivial⟩ ?_)))))
                exact h
              · intro q17
                have h := h.2 q17
                refine aw_iconst (pc' := 93) (v := 1) (dt_X11_tried 52 (92, .iconst 1, 1) rfl) (by decide) rfl (aw_goto (tgt := 97) (dt_X11_tried 53 (93, .goto 4, 3) rfl) (by decide) (aw_iadd (pc' := 98) (dt_X11_tried 55 (97, .iadd, 1) rfl) rfl (aw_istore_n (pc' := 99) (ls' := [some (.ref 31), some (.int x1), some (.int (x2 + 1)), some (.int x3), some (.int 0)]) (dt_X11_tried 56 (98, .istore_n 2, 1) rfl) (by decide) rfl rfl (aw_iinc (pc' := 102) (v := 1) (ls' := [some (.ref 31), some (.int x1), some (.int (x2 + 1)), some (.int (x3 + 1)), some (.int 0)]) (dt_X11_tried 57 (99, .iinc 3 1, 3) rfl) rfl (by decide) (by decide) rfl rfl (aw_goto (tgt := 25) (dt_X11_tried 58 (102, .goto (-77), 3) rfl) (by decide) (aw_drop (ls' := [some (.ref 31), some (.int x1), some (.int (x2 + 1)), some (.int (x3 + 1)), none]) ⟨rfl, rfl, rfl, rfl, trivial⟩ ?_))))))
                exact h
        · intro q11
          have h := h.2 q11
          refine aw_iconst (pc' := 60) (v := 2) (dt_X11_tried 33 (59, .iconst 2, 1) rfl) (by decide) rfl (aw_goto (tgt := 78) (dt_X11_tried 34 (60, .goto 18, 3) rfl) (by decide) (aw_istore (pc' := 80) (ls' := [some (.ref 31), some (.int x1), some (.int x2), some (.int x3), some (.int 2)]) (dt_X11_tried 44 (78, .istore 4, 2) rfl) (by decide) rfl rfl (aw_iload_n (pc' := 81) (dt_X11_tried 45 (80, .iload_n 2, 1) rfl) rfl rfl (aw_iload_n (pc' := 82) (dt_X11_tried 46 (81, .iload_n 1, 1) rfl) rfl rfl (aw_iconst (pc' := 83) (v := 3) (dt_X11_tried 47 (82, .iconst 3, 1) rfl) (by decide) rfl (aw_icmp_eq (pc' := 86) (tgt := 92) (dt_X11_tried 48 (83, .if_icmp .eq 9, 3) rfl) (by decide) rfl ?_ ?_))))))
          · intro q18
            have h := h.1 q18
            refine aw_iconst (pc' := 93) (v := 1) (dt_X11_tried 52 (92, .iconst 1, 1) rfl) (by decide) rfl (aw_goto (tgt := 97) (dt_X11_tried 53 (93, .goto 4, 3) rfl) (by decide) (aw_iadd (pc' := 98) (dt_X11_tried 55 (97, .iadd, 1) rfl) rfl (aw_istore_n (pc' := 99) (ls' := [some (.ref 31), some (.int x1), some (.int (x2 + 1)), some (.int x3), some (.int 2)]) (dt_X11_tried 56 (98, .istore_n 2, 1) rfl) (by decide) rfl rfl (aw_iinc (pc' := 102) (v := 1) (ls' := [some (.ref 31), some (.int x1), some (.int (x2 + 1)), some (.int (x3 + 1)), some (.int 2)]) (dt_X11_tried 57 (99, .iinc 3 1, 3) rfl) rfl (by decide) (by decide) rfl rfl (aw_goto (tgt := 25) (dt_X11_tried 58 (102, .goto (-77), 3) rfl) (by decide) (aw_drop (ls' := [some (.ref 31), some (.int x1), some (.int (x2 + 1)), some (.int (x3 + 1)), none]) ⟨rfl, rfl, rfl, rfl, trivial⟩ ?_))))))
            exact h
          · intro q18
            have h := h.2 q18
            refine aw_iload_n (pc' := 87) (dt_X11_tried 49 (86, .iload_n 1, 1) rfl) rfl rfl (aw_iload (pc' := 89) (dt_X11_tried 50 (87, .iload 4, 2) rfl) rfl rfl (aw_icmp_ne (pc' := 92) (tgt := 96) (dt_X11_tried 51 (89, .if_icmp .ne 7, 3) rfl) (by decide) rfl ?_ ?_))
            · intro q19
              have h := h.1 q19
              refine aw_iconst (pc' := 97) (v := 0) (dt_X11_tried 54 (96, .iconst 0, 1) rfl) (by decide) rfl (aw_iadd (pc' := 98) (dt_X11_tried 55 (97, .iadd, 1) rfl) rfl (aw_istore_n (pc' := 99) (ls' := [some (.ref 31), some (.int x1), some (.int (x2 + 0)), some (.int x3), some (.int 2)]) (dt_X11_tried 56 (98, .istore_n 2, 1) rfl) (by decide) rfl rfl (aw_iinc (pc' := 102) (v := 1) (ls' := [some (.ref 31), some (.int x1), some (.int (x2 + 0)), some (.int (x3 + 1)), some (.int 2)]) (dt_X11_tried 57 (99, .iinc 3 1, 3) rfl) rfl (by decide) (by decide) rfl rfl (aw_goto (tgt := 25) (dt_X11_tried 58 (102, .goto (-77), 3) rfl) (by decide) (aw_drop (ls' := [some (.ref 31), some (.int x1), some (.int (x2 + 0)), some (.int (x3 + 1)), none]) ⟨rfl, rfl, rfl, rfl, trivial⟩ ?_)))))
              exact h
            · intro q19
              have h := h.2 q19
              refine aw_iconst (pc' := 93) (v := 1) (dt_X11_tried 52 (92, .iconst 1, 1) rfl) (by decide) rfl (aw_goto (tgt := 97) (dt_X11_tried 53 (93, .goto 4, 3) rfl) (by decide) (aw_iadd (pc' := 98) (dt_X11_tried 55 (97, .iadd, 1) rfl) rfl (aw_istore_n (pc' := 99) (ls' := [some (.ref 31), some (.int x1), some (.int (x2 + 1)), some (.int x3), some (.int 2)]) (dt_X11_tried 56 (98, .istore_n 2, 1) rfl) (by decide) rfl rfl (aw_iinc (pc' := 102) (v := 1) (ls' := [some (.ref 31), some (.int x1), some (.int (x2 + 1)), some (.int (x3 + 1)), some (.int 2)]) (dt_X11_tried 57 (99, .iinc 3 1, 3) rfl) rfl (by decide) (by decide) rfl rfl (aw_goto (tgt := 25) (dt_X11_tried 58 (102, .goto (-77), 3) rfl) (by decide) (aw_drop (ls' := [some (.ref 31), some (.int x1), some (.int (x2 + 1)), some (.int (x3 + 1)), none]) ⟨rfl, rfl, rfl, rfl, trivial⟩ ?_))))))
              exact h
      · intro q9
        have h := h.2 q9
        refine aw_goto (tgt := 99) (dt_X11_tried 27 (47, .goto 52, 3) rfl) (by decide) (aw_iinc (pc' := 102) (v := 1) (ls' := [some (.ref 31), some (.int x1), some (.int x2), some (.int (x3 + 1)), none]) (dt_X11_tried 57 (99, .iinc 3 1, 3) rfl) rfl (by decide) (by decide) rfl rfl (aw_goto (tgt := 25) (dt_X11_tried 58 (102, .goto (-77), 3) rfl) (by decide) ?_))
        exact h

theorem t_X11_size {E : ZE} {l : Launch} {d nc ns : Nat} {x1 : Int32} {x2 : Int32} {μ : ZM} {K : Option Value → ZM → Prop} (hS : Stat μ) (h :
  (x1 < 0 →
    K (some (.int (-1))) μ) ∧
  (¬ x1 < 0 →
    (((zI μ 31 22) - 1) < x1 →
      K (some (.int (-1))) μ) ∧
    (¬ ((zI μ 31 22) - 1) < x1 →
      (x2 < 0 →
        K (some (.int (-1))) μ) ∧
      (¬ x2 < 0 →
        (2 < x2 →
          K (some (.int (-1))) μ) ∧
        (¬ 2 < x2 →
          (vp_in x1 300) ∧
          ((zI μ 48 x1.toNatClampNeg) = 2 →
            (vp_in x1 300) ∧
            (vp_in x1 300) ∧
            K (some (.int (zI μ 62 x1.toNatClampNeg))) (sI μ 62 x1.toNatClampNeg x2)) ∧
          (¬ (zI μ 48 x1.toNatClampNeg) = 2 →
            K (some (.int (-2))) μ)))))) : AW E l (d + 2) nc ns mX11_size 0 [some (.ref 31), some (.int x1), some (.int x2), none] [] μ K := by
  refine aw_aload_n (pc' := 1) (dt_X11_size 0 (0, .aload_n 0, 1) rfl) rfl rfl (aw_iload_n (pc' := 2) (dt_X11_size 1 (1, .iload_n 1, 1) rfl) rfl rfl (aw_inV (pc' := 5) (nc1 := 0) (ns1 := 0) (nc := nc) (ns := ns) (ls' := [some (.ref 31), some (.int x1)]) (y2 := mX11_isSale) (As := [.int x1]) (rest := []) (a := 31) (dt_X11_size 2 (2, .invokevirtual 228, 3) rfl) ok_X11_isSale ln_ReturnDeskModel_228 im_X11_isSale se_X11_isSale pr_X11_isSale (Or.inl ⟨by decide, rfl⟩) rfl (Nat.le_of_ble_eq_true rfl) (Nat.le_of_ble_eq_true rfl) rfl rfl (sk_31 hS) (aw_iload_n (pc' := 1) (dt_X11_isSale 0 (0, .iload_n 1, 1) rfl) rfl rfl (aw_iconst (pc' := 2) (v := 0) (dt_X11_isSale 1 (1, .iconst 0, 1) rfl) (by decide) rfl (aw_aload_n (pc' := 3) (dt_X11_isSale 2 (2, .aload_n 0, 1) rfl) rfl rfl (aw_getI (pc' := 6) (dt_X11_isSale 3 (3, .getfield 215, 3) rfl) fl_ReturnDeskModel_215 rfl rfl (sk_31 hS) (aw_iconst (pc' := 7) (v := 1) (dt_X11_isSale 4 (6, .iconst 1, 1) rfl) (by decide) rfl (aw_isub (pc' := 8) (dt_X11_isSale 5 (7, .isub, 1) rfl) rfl (aw_inS (pc' := 11) (nc1 := 0) (ns1 := 0) (nc := 0) (ns := 0) (ls' := [some (.int x1), some (.int 0), some (.int ((zI μ 31 22) - 1))]) (y2 := mX11_in) (As := [.int x1, .int 0, .int ((zI μ 31 22) - 1)]) (rest := []) (dt_X11_isSale 6 (8, .invokestatic 185, 3) rfl) ok_X11_in ln_ReturnDeskModel_185 sm_X11_in pr_X11_in rfl (Nat.le_of_ble_eq_true rfl) (Nat.le_of_ble_eq_true rfl) rfl rfl (aw_iload_n (pc' := 1) (dt_X11_in 0 (0, .iload_n 0, 1) rfl) rfl rfl (aw_iload_n (pc' := 2) (dt_X11_in 1 (1, .iload_n 1, 1) rfl) rfl rfl (aw_icmp_lt (pc' := 5) (tgt := 14) (dt_X11_in 2 (2, .if_icmp .lt 12, 3) rfl) (by decide) rfl ?_ ?_))))))))))))
  · intro q1
    have h := h.1 q1
    refine aw_iconst (pc' := 15) (v := 0) (dt_X11_in 8 (14, .iconst 0, 1) rfl) (by decide) rfl (aw_iret (dt_X11_in 9 (15, .ireturn, 1) rfl) rfl rfl (aw_stk (st' := [.int 0]) rfl (aw_iret (dt_X11_isSale 7 (11, .ireturn, 1) rfl) rfl rfl (aw_stk (st' := [.int 0]) rfl (aw_if_eq_T (pc' := 8) (tgt := 17) (dt_X11_size 3 (5, .ifCond .eq 12, 3) rfl) (by decide) rfl (by decide) (aw_iconst (pc' := 18) (v := (-1)) (dt_X11_size 9 (17, .iconst (-1), 1) rfl) (by decide) rfl (aw_iret (dt_X11_size 10 (18, .ireturn, 1) rfl) rfl rfl ?_)))))))
    exact h
  · intro q1
    have h := h.2 q1
    refine aw_iload_n (pc' := 6) (dt_X11_in 3 (5, .iload_n 0, 1) rfl) rfl rfl (aw_iload_n (pc' := 7) (dt_X11_in 4 (6, .iload_n 2, 1) rfl) rfl rfl (aw_icmp_gt (pc' := 10) (tgt := 14) (dt_X11_in 5 (7, .if_icmp .gt 7, 3) rfl) (by decide) rfl ?_ ?_))
    · intro q2
      have h := h.1 q2
      refine aw_iconst (pc' := 15) (v := 0) (dt_X11_in 8 (14, .iconst 0, 1) rfl) (by decide) rfl (aw_iret (dt_X11_in 9 (15, .ireturn, 1) rfl) rfl rfl (aw_stk (st' := [.int 0]) rfl (aw_iret (dt_X11_isSale 7 (11, .ireturn, 1) rfl) rfl rfl (aw_stk (st' := [.int 0]) rfl (aw_if_eq_T (pc' := 8) (tgt := 17) (dt_X11_size 3 (5, .ifCond .eq 12, 3) rfl) (by decide) rfl (by decide) (aw_iconst (pc' := 18) (v := (-1)) (dt_X11_size 9 (17, .iconst (-1), 1) rfl) (by decide) rfl (aw_iret (dt_X11_size 10 (18, .ireturn, 1) rfl) rfl rfl ?_)))))))
      exact h
    · intro q2
      have h := h.2 q2
      refine aw_iconst (pc' := 11) (v := 1) (dt_X11_in 6 (10, .iconst 1, 1) rfl) (by decide) rfl (aw_goto (tgt := 15) (dt_X11_in 7 (11, .goto 4, 3) rfl) (by decide) (aw_iret (dt_X11_in 9 (15, .ireturn, 1) rfl) rfl rfl (aw_stk (st' := [.int 1]) rfl (aw_iret (dt_X11_isSale 7 (11, .ireturn, 1) rfl) rfl rfl (aw_stk (st' := [.int 1]) rfl (aw_if_eq_F (pc' := 8) (tgt := 17) (dt_X11_size 3 (5, .ifCond .eq 12, 3) rfl) (by decide) rfl (by decide) (aw_iload_n (pc' := 9) (dt_X11_size 4 (8, .iload_n 2, 1) rfl) rfl rfl (aw_iconst (pc' := 10) (v := 0) (dt_X11_size 5 (9, .iconst 0, 1) rfl) (by decide) rfl (aw_iconst (pc' := 11) (v := 2) (dt_X11_size 6 (10, .iconst 2, 1) rfl) (by decide) rfl (aw_inS (pc' := 14) (nc1 := 0) (ns1 := 0) (nc := nc) (ns := ns) (ls' := [some (.int x2), some (.int 0), some (.int 2)]) (y2 := mX11_in) (As := [.int x2, .int 0, .int 2]) (rest := []) (dt_X11_size 7 (11, .invokestatic 185, 3) rfl) ok_X11_in ln_ReturnDeskModel_185 sm_X11_in pr_X11_in rfl (Nat.le_of_ble_eq_true rfl) (Nat.le_of_ble_eq_true rfl) rfl rfl (aw_iload_n (pc' := 1) (dt_X11_in 0 (0, .iload_n 0, 1) rfl) rfl rfl (aw_iload_n (pc' := 2) (dt_X11_in 1 (1, .iload_n 1, 1) rfl) rfl rfl (aw_icmp_lt (pc' := 5) (tgt := 14) (dt_X11_in 2 (2, .if_icmp .lt 12, 3) rfl) (by decide) rfl ?_ ?_)))))))))))))
      · intro q3
        have h := h.1 q3
        refine aw_iconst (pc' := 15) (v := 0) (dt_X11_in 8 (14, .iconst 0, 1) rfl) (by decide) rfl (aw_iret (dt_X11_in 9 (15, .ireturn, 1) rfl) rfl rfl (aw_stk (st' := [.int 0]) rfl (aw_if_ne_F (pc' := 17) (tgt := 19) (dt_X11_size 8 (14, .ifCond .ne 5, 3) rfl) (by decide) rfl (by decide) (aw_iconst (pc' := 18) (v := (-1)) (dt_X11_size 9 (17, .iconst (-1), 1) rfl) (by decide) rfl (aw_iret (dt_X11_size 10 (18, .ireturn, 1) rfl) rfl rfl ?_)))))
        exact h
      · intro q3
        have h := h.2 q3
        refine aw_iload_n (pc' := 6) (dt_X11_in 3 (5, .iload_n 0, 1) rfl) rfl rfl (aw_iload_n (pc' := 7) (dt_X11_in 4 (6, .iload_n 2, 1) rfl) rfl rfl (aw_icmp_gt (pc' := 10) (tgt := 14) (dt_X11_in 5 (7, .if_icmp .gt 7, 3) rfl) (by decide) rfl ?_ ?_))
        · intro q4
          have h := h.1 q4
          refine aw_iconst (pc' := 15) (v := 0) (dt_X11_in 8 (14, .iconst 0, 1) rfl) (by decide) rfl (aw_iret (dt_X11_in 9 (15, .ireturn, 1) rfl) rfl rfl (aw_stk (st' := [.int 0]) rfl (aw_if_ne_F (pc' := 17) (tgt := 19) (dt_X11_size 8 (14, .ifCond .ne 5, 3) rfl) (by decide) rfl (by decide) (aw_iconst (pc' := 18) (v := (-1)) (dt_X11_size 9 (17, .iconst (-1), 1) rfl) (by decide) rfl (aw_iret (dt_X11_size 10 (18, .ireturn, 1) rfl) rfl rfl ?_)))))
          exact h
        · intro q4
          have h := h.2 q4
          obtain ⟨g5, h⟩ := h
          refine aw_iconst (pc' := 11) (v := 1) (dt_X11_in 6 (10, .iconst 1, 1) rfl) (by decide) rfl (aw_goto (tgt := 15) (dt_X11_in 7 (11, .goto 4, 3) rfl) (by decide) (aw_iret (dt_X11_in 9 (15, .ireturn, 1) rfl) rfl rfl (aw_stk (st' := [.int 1]) rfl (aw_if_ne_T (pc' := 17) (tgt := 19) (dt_X11_size 8 (14, .ifCond .ne 5, 3) rfl) (by decide) rfl (by decide) (aw_aload_n (pc' := 20) (dt_X11_size 11 (19, .aload_n 0, 1) rfl) rfl rfl (aw_getAs (pc' := 23) (dt_X11_size 12 (20, .getfield 59, 3) rfl) fl_ReturnDeskModel_59 rfl rfl (sk_31 hS) (sa_31_23 hS) (aw_iload_n (pc' := 24) (dt_X11_size 13 (23, .iload_n 1, 1) rfl) rfl rfl (aw_iald (pc' := 25) (dt_X11_size 14 (24, .iaload, 1) rfl) rfl (sk_48 hS) (vin_eq (sl_48 hS) g5) (aw_iconst (pc' := 26) (v := 2) (dt_X11_size 15 (25, .iconst 2, 1) rfl) (by decide) rfl (aw_icmp_eq (pc' := 29) (tgt := 32) (dt_X11_size 16 (26, .if_icmp .eq 6, 3) rfl) (by decide) rfl ?_ ?_))))))))))
          · intro q6
            have h := h.1 q6
            obtain ⟨g7, h⟩ := h
            obtain ⟨g8, h⟩ := h
            refine aw_aload_n (pc' := 33) (dt_X11_size 19 (32, .aload_n 0, 1) rfl) rfl rfl (aw_getAs (pc' := 36) (dt_X11_size 20 (33, .getfield 101, 3) rfl) fl_ReturnDeskModel_101 rfl rfl (sk_31 hS) (sa_31_37 hS) (aw_iload_n (pc' := 37) (dt_X11_size 21 (36, .iload_n 1, 1) rfl) rfl rfl (aw_iald (pc' := 38) (dt_X11_size 22 (37, .iaload, 1) rfl) rfl (sk_62 hS) (vin_eq (sl_62 hS) g7) (aw_istore_n (pc' := 39) (ls' := [some (.ref 31), some (.int x1), some (.int x2), some (.int (zI μ 62 x1.toNatClampNeg))]) (dt_X11_size 23 (38, .istore_n 3, 1) rfl) (by decide) rfl rfl (aw_aload_n (pc' := 40) (dt_X11_size 24 (39, .aload_n 0, 1) rfl) rfl rfl (aw_getAs (pc' := 43) (dt_X11_size 25 (40, .getfield 101, 3) rfl) fl_ReturnDeskModel_101 rfl rfl (sk_31 hS) (sa_31_37 hS) (aw_iload_n (pc' := 44) (dt_X11_size 26 (43, .iload_n 1, 1) rfl) rfl rfl (aw_iload_n (pc' := 45) (dt_X11_size 27 (44, .iload_n 2, 1) rfl) rfl rfl (aw_iast (pc' := 46) (dt_X11_size 28 (45, .iastore, 1) rfl) rfl (sk_62 hS) (by decide) (vin_eq (sl_62 hS) g8) (aw_iload_n (pc' := 47) (dt_X11_size 29 (46, .iload_n 3, 1) rfl) rfl rfl (aw_iret (dt_X11_size 30 (47, .ireturn, 1) rfl) rfl rfl ?_)))))))))))
            exact h
          · intro q6
            have h := h.2 q6
            refine aw_bipush (pc' := 31) (v := (-2)) (dt_X11_size 17 (29, .bipush (-2), 2) rfl) (by decide) rfl (aw_iret (dt_X11_size 18 (31, .ireturn, 1) rfl) rfl rfl ?_)
            exact h

theorem t_X11_hasOtherSize {E : ZE} {l : Launch} {d nc ns : Nat} {x1 : Int32} {μ : ZM} {K : Option Value → ZM → Prop} (hS : Stat μ) (h :
  (vp_in x1 300) ∧
  (¬ (zI μ 54 x1.toNatClampNeg) = 0 →
    AW E l (d + 1) nc ns mX11_hasOtherSize 13 [some (.ref 31), some (.int x1), some (.int 0)] [] μ K) ∧
  ((zI μ 54 x1.toNatClampNeg) = 0 →
    K (some (.int 0)) μ)) : AW E l (d + 1) nc ns mX11_hasOtherSize 0 [some (.ref 31), some (.int x1), none] [] μ K := by
  obtain ⟨g1, h⟩ := h
  refine aw_aload_n (pc' := 1) (dt_X11_hasOtherSize 0 (0, .aload_n 0, 1) rfl) rfl rfl (aw_getAs (pc' := 4) (dt_X11_hasOtherSize 1 (1, .getfield 77, 3) rfl) fl_ReturnDeskModel_77 rfl rfl (sk_31 hS) (sa_31_29 hS) (aw_iload_n (pc' := 5) (dt_X11_hasOtherSize 2 (4, .iload_n 1, 1) rfl) rfl rfl (aw_iald (pc' := 6) (dt_X11_hasOtherSize 3 (5, .iaload, 1) rfl) rfl (sk_54 hS) (vin_eq (sl_54 hS) g1) (aw_if_ne (pc' := 9) (tgt := 11) (dt_X11_hasOtherSize 4 (6, .ifCond .ne 5, 3) rfl) (by decide) rfl ?_ ?_))))
  · intro q2
    have h := h.1 q2
    refine aw_iconst (pc' := 12) (v := 0) (dt_X11_hasOtherSize 7 (11, .iconst 0, 1) rfl) (by decide) rfl (aw_istore_n (pc' := 13) (ls' := [some (.ref 31), some (.int x1), some (.int 0)]) (dt_X11_hasOtherSize 8 (12, .istore_n 2, 1) rfl) (by decide) rfl rfl ?_)
    exact h
  · intro q2
    have h := h.2 q2
    refine aw_iconst (pc' := 10) (v := 0) (dt_X11_hasOtherSize 5 (9, .iconst 0, 1) rfl) (by decide) rfl (aw_iret (dt_X11_hasOtherSize 6 (10, .ireturn, 1) rfl) rfl rfl ?_)
    exact h

theorem t_X11_hasOtherSize_13 {E : ZE} {l : Launch} {d nc ns : Nat} {x1 : Int32} {x2 : Int32} {μ : ZM} {K : Option Value → ZM → Prop} (hS : Stat μ) (h :
  ((zI μ 31 22) ≤ x2 →
    K (some (.int 0)) μ) ∧
  (¬ (zI μ 31 22) ≤ x2 →
    (vp_in x2 300) ∧
    (vp_in x1 300) ∧
    (¬ (zI μ 54 x2.toNatClampNeg) = (zI μ 54 x1.toNatClampNeg) →
      AW E l (d + 1) nc ns mX11_hasOtherSize 13 [some (.ref 31), some (.int x1), some (.int (x2 + 1))] [] μ K) ∧
    ((zI μ 54 x2.toNatClampNeg) = (zI μ 54 x1.toNatClampNeg) →
      (vp_in x2 300) ∧
      (vp_in (zI μ 49 x2.toNatClampNeg) 60) ∧
      (vp_in x1 300) ∧
      (vp_in (zI μ 49 x1.toNatClampNeg) 60) ∧
      (¬ (zI μ 45 (zI μ 49 x2.toNatClampNeg).toNatClampNeg) = (zI μ 45 (zI μ 49 x1.toNatClampNeg).toNatClampNeg) →
        AW E l (d + 1) nc ns mX11_hasOtherSize 13 [some (.ref 31), some (.int x1), some (.int (x2 + 1))] [] μ K) ∧
      ((zI μ 45 (zI μ 49 x2.toNatClampNeg).toNatClampNeg) = (zI μ 45 (zI μ 49 x1.toNatClampNeg).toNatClampNeg) →
        (vp_in x2 300) ∧
        (vp_in x1 300) ∧
        ((zI μ 50 x2.toNatClampNeg) = (zI μ 50 x1.toNatClampNeg) →
          AW E l (d + 1) nc ns mX11_hasOtherSize 13 [some (.ref 31), some (.int x1), some (.int (x2 + 1))] [] μ K) ∧
        (¬ (zI μ 50 x2.toNatClampNeg) = (zI μ 50 x1.toNatClampNeg) →
          K (some (.int 1)) μ))))) : AW E l (d + 1) nc ns mX11_hasOtherSize 13 [some (.ref 31), some (.int x1), some (.int x2)] [] μ K := by
  refine aw_iload_n (pc' := 14) (dt_X11_hasOtherSize 9 (13, .iload_n 2, 1) rfl) rfl rfl (aw_aload_n (pc' := 15) (dt_X11_hasOtherSize 10 (14, .aload_n 0, 1) rfl) rfl rfl (aw_getI (pc' := 18) (dt_X11_hasOtherSize 11 (15, .getfield 215, 3) rfl) fl_ReturnDeskModel_215 rfl rfl (sk_31 hS) (aw_icmp_ge (pc' := 21) (tgt := 72) (dt_X11_hasOtherSize 12 (18, .if_icmp .ge 54, 3) rfl) (by decide) rfl ?_ ?_)))
  · intro q1
    have h := h.1 q1
    refine aw_iconst (pc' := 73) (v := 0) (dt_X11_hasOtherSize 42 (72, .iconst 0, 1) rfl) (by decide) rfl (aw_iret (dt_X11_hasOtherSize 43 (73, .ireturn, 1) rfl) rfl rfl ?_)
    exact h
  · intro q1
    have h := h.2 q1
    obtain ⟨g2, h⟩ := h
    obtain ⟨g3, h⟩ := h
    refine aw_aload_n (pc' := 22) (dt_X11_hasOtherSize 13 (21, .aload_n 0, 1) rfl) rfl rfl (aw_getAs (pc' := 25) (dt_X11_hasOtherSize 14 (22, .getfield 77, 3) rfl) fl_ReturnDeskModel_77 rfl rfl (sk_31 hS) (sa_31_29 hS) (aw_iload_n (pc' := 26) (dt_X11_hasOtherSize 15 (25, .iload_n 2, 1) rfl) rfl rfl (aw_iald (pc' := 27) (dt_X11_hasOtherSize 16 (26, .iaload, 1) rfl) rfl (sk_54 hS) (vin_eq (sl_54 hS) g2) (aw_aload_n (pc' := 28) (dt_X11_hasOtherSize 17 (27, .aload_n 0, 1) rfl) rfl rfl (aw_getAs (pc' := 31) (dt_X11_hasOtherSize 18 (28, .getfield 77, 3) rfl) fl_ReturnDeskModel_77 rfl rfl (sk_31 hS) (sa_31_29 hS) (aw_iload_n (pc' := 32) (dt_X11_hasOtherSize 19 (31, .iload_n 1, 1) rfl) rfl rfl (aw_iald (pc' := 33) (dt_X11_hasOtherSize 20 (32, .iaload, 1) rfl) rfl (sk_54 hS) (vin_eq (sl_54 hS) g3) (aw_icmp_ne (pc' := 36) (tgt := 66) (dt_X11_hasOtherSize 21 (33, .if_icmp .ne 33, 3) rfl) (by decide) rfl ?_ ?_))))))))
    · intro q4
      have h := h.1 q4
      refine aw_iinc (pc' := 69) (v := 1) (ls' := [some (.ref 31), some (.int x1), some (.int (x2 + 1))]) (dt_X11_hasOtherSize 40 (66, .iinc 2 1, 3) rfl) rfl (by decide) (by decide) rfl rfl (aw_goto (tgt := 13) (dt_X11_hasOtherSize 41 (69, .goto (-56), 3) rfl) (by decide) ?_)
      exact h
    · intro q4
      have h := h.2 q4
      obtain ⟨g5, h⟩ := h
      obtain ⟨g6, h⟩ := h
      obtain ⟨g7, h⟩ := h
      obtain ⟨g8, h⟩ := h
      refine aw_aload_n (pc' := 37) (dt_X11_hasOtherSize 22 (36, .aload_n 0, 1) rfl) rfl rfl (aw_iload_n (pc' := 38) (dt_X11_hasOtherSize 23 (37, .iload_n 2, 1) rfl) rfl rfl (aw_inV (pc' := 41) (nc1 := 0) (ns1 := 0) (nc := nc) (ns := ns) (ls' := [some (.ref 31), some (.int x2)]) (y2 := mX11_modelOf) (As := [.int x2]) (rest := []) (a := 31) (dt_X11_hasOtherSize 24 (38, .invokevirtual 231, 3) rfl) ok_X11_modelOf ln_ReturnDeskModel_231 im_X11_modelOf se_X11_modelOf pr_X11_modelOf (Or.inl ⟨by decide, rfl⟩) rfl (Nat.le_of_ble_eq_true rfl) (Nat.le_of_ble_eq_true rfl) rfl rfl (sk_31 hS) (aw_aload_n (pc' := 1) (dt_X11_modelOf 0 (0, .aload_n 0, 1) rfl) rfl rfl (aw_getAs (pc' := 4) (dt_X11_modelOf 1 (1, .getfield 50, 3) rfl) fl_ReturnDeskModel_50 rfl rfl (sk_31 hS) (sa_31_19 hS) (aw_aload_n (pc' := 5) (dt_X11_modelOf 2 (4, .aload_n 0, 1) rfl) rfl rfl (aw_getAs (pc' := 8) (dt_X11_modelOf 3 (5, .getfield 62, 3) rfl) fl_ReturnDeskModel_62 rfl rfl (sk_31 hS) (sa_31_24 hS) (aw_iload_n (pc' := 9) (dt_X11_modelOf 4 (8, .iload_n 1, 1) rfl) rfl rfl (aw_iald (pc' := 10) (dt_X11_modelOf 5 (9, .iaload, 1) rfl) rfl (sk_49 hS) (vin_eq (sl_49 hS) g5) (aw_iald (pc' := 11) (dt_X11_modelOf 6 (10, .iaload, 1) rfl) rfl (sk_45 hS) (vin_eq (sl_45 hS) g6) (aw_iret (dt_X11_modelOf 7 (11, .ireturn, 1) rfl) rfl rfl (aw_stk (st' := [.int (zI μ 45 (zI μ 49 x2.toNatClampNeg).toNatClampNeg)]) rfl (aw_aload_n (pc' := 42) (dt_X11_hasOtherSize 25 (41, .aload_n 0, 1) rfl) rfl rfl (aw_iload_n (pc' := 43) (dt_X11_hasOtherSize 26 (42, .iload_n 1, 1) rfl) rfl rfl (aw_inV (pc' := 46) (nc1 := 0) (ns1 := 0) (nc := nc) (ns := ns) (ls' := [some (.ref 31), some (.int x1)]) (y2 := mX11_modelOf) (As := [.int x1]) (rest := [.int (zI μ 45 (zI μ 49 x2.toNatClampNeg).toNatClampNeg)]) (a := 31) (dt_X11_hasOtherSize 27 (43, .invokevirtual 231, 3) rfl) ok_X11_modelOf ln_ReturnDeskModel_231 im_X11_modelOf se_X11_modelOf pr_X11_modelOf (Or.inl ⟨by decide, rfl⟩) rfl (Nat.le_of_ble_eq_true rfl) (Nat.le_of_ble_eq_true rfl) rfl rfl (sk_31 hS) (aw_aload_n (pc' := 1) (dt_X11_modelOf 0 (0, .aload_n 0, 1) rfl) rfl rfl (aw_getAs (pc' := 4) (dt_X11_modelOf 1 (1, .getfield 50, 3) rfl) fl_ReturnDeskModel_50 rfl rfl (sk_31 hS) (sa_31_19 hS) (aw_aload_n (pc' := 5) (dt_X11_modelOf 2 (4, .aload_n 0, 1) rfl) rfl rfl (aw_getAs (pc' := 8) (dt_X11_modelOf 3 (5, .getfield 62, 3) rfl) fl_ReturnDeskModel_62 rfl rfl (sk_31 hS) (sa_31_24 hS) (aw_iload_n (pc' := 9) (dt_X11_modelOf 4 (8, .iload_n 1, 1) rfl) rfl rfl (aw_iald (pc' := 10) (dt_X11_modelOf 5 (9, .iaload, 1) rfl) rfl (sk_49 hS) (vin_eq (sl_49 hS) g7) (aw_iald (pc' := 11) (dt_X11_modelOf 6 (10, .iaload, 1) rfl) rfl (sk_45 hS) (vin_eq (sl_45 hS) g8) (aw_iret (dt_X11_modelOf 7 (11, .ireturn, 1) rfl) rfl rfl (aw_stk (st' := [.int (zI μ 45 (zI μ 49 x1.toNatClampNeg).toNatClampNeg), .int (zI μ 45 (zI μ 49 x2.toNatClampNeg).toNatClampNeg)]) rfl (aw_icmp_ne (pc' := 49) (tgt := 66) (dt_X11_hasOtherSize 28 (46, .if_icmp .ne 20, 3) rfl) (by decide) rfl ?_ ?_))))))))))))))))))))))))
      · intro q9
        have h := h.1 q9
        refine aw_iinc (pc' := 69) (v := 1) (ls' := [some (.ref 31), some (.int x1), some (.int (x2 + 1))]) (dt_X11_hasOtherSize 40 (66, .iinc 2 1, 3) rfl) rfl (by decide) (by decide) rfl rfl (aw_goto (tgt := 13) (dt_X11_hasOtherSize 41 (69, .goto (-56), 3) rfl) (by decide) ?_)
        exact h
      · intro q9
        have h := h.2 q9
        obtain ⟨g10, h⟩ := h
        obtain ⟨g11, h⟩ := h
        refine aw_aload_n (pc' := 50) (dt_X11_hasOtherSize 29 (49, .aload_n 0, 1) rfl) rfl rfl (aw_getAs (pc' := 53) (dt_X11_hasOtherSize 30 (50, .getfield 65, 3) rfl) fl_ReturnDeskModel_65 rfl rfl (sk_31 hS) (sa_31_25 hS) (aw_iload_n (pc' := 54) (dt_X11_hasOtherSize 31 (53, .iload_n 2, 1) rfl) rfl rfl (aw_iald (pc' := 55) (dt_X11_hasOtherSize 32 (54, .iaload, 1) rfl) rfl (sk_50 hS) (vin_eq (sl_50 hS) g10) (aw_aload_n (pc' := 56) (dt_X11_hasOtherSize 33 (55, .aload_n 0, 1) rfl) rfl rfl (aw_getAs (pc' := 59) (dt_X11_hasOtherSize 34 (56, .getfield 65, 3) rfl) fl_ReturnDeskModel_65 rfl rfl (sk_31 hS) (sa_31_25 hS) (aw_iload_n (pc' := 60) (dt_X11_hasOtherSize 35 (59, .iload_n 1, 1) rfl) rfl rfl (aw_iald (pc' := 61) (dt_X11_hasOtherSize 36 (60, .iaload, 1) rfl) rfl (sk_50 hS) (vin_eq (sl_50 hS) g11) (aw_icmp_eq (pc' := 64) (tgt := 66) (dt_X11_hasOtherSize 37 (61, .if_icmp .eq 5, 3) rfl) (by decide) rfl ?_ ?_))))))))
        · intro q12
          have h := h.1 q12
          refine aw_iinc (pc' := 69) (v := 1) (ls' := [some (.ref 31), some (.int x1), some (.int (x2 + 1))]) (dt_X11_hasOtherSize 40 (66, .iinc 2 1, 3) rfl) rfl (by decide) (by decide) rfl rfl (aw_goto (tgt := 13) (dt_X11_hasOtherSize 41 (69, .goto (-56), 3) rfl) (by decide) ?_)
          exact h
        · intro q12
          have h := h.2 q12
          refine aw_iconst (pc' := 65) (v := 1) (dt_X11_hasOtherSize 38 (64, .iconst 1, 1) rfl) (by decide) rfl (aw_iret (dt_X11_hasOtherSize 39 (65, .ireturn, 1) rfl) rfl rfl ?_)
          exact h

theorem t_X11_shift {E : ZE} {l : Launch} {d nc ns : Nat} {x1 : Int32} {μ : ZM} {K : Option Value → ZM → Prop} (hS : Stat μ) (h :
  (x1 < 0 →
    K (some (.int (-9))) μ) ∧
  (¬ x1 < 0 →
    (((zI μ 31 3) - 1) < x1 →
      K (some (.int (-9))) μ) ∧
    (¬ ((zI μ 31 3) - 1) < x1 →
      AW E l (d + 2) nc ns mX11_shift 15 [some (.ref 31), some (.int x1), some (.int 0), some (.int 0)] [] μ K))) : AW E l (d + 2) nc ns mX11_shift 0 [some (.ref 31), some (.int x1), none, none] [] μ K := by
  refine aw_aload_n (pc' := 1) (dt_X11_shift 0 (0, .aload_n 0, 1) rfl) rfl rfl (aw_iload_n (pc' := 2) (dt_X11_shift 1 (1, .iload_n 1, 1) rfl) rfl rfl (aw_inV (pc' := 5) (nc1 := 0) (ns1 := 0) (nc := nc) (ns := ns) (ls' := [some (.ref 31), some (.int x1)]) (y2 := mX11_isModel) (As := [.int x1]) (rest := []) (a := 31) (dt_X11_shift 2 (2, .invokevirtual 199, 3) rfl) ok_X11_isModel ln_ReturnDeskModel_199 im_X11_isModel se_X11_isModel pr_X11_isModel (Or.inl ⟨by decide, rfl⟩) rfl (Nat.le_of_ble_eq_true rfl) (Nat.le_of_ble_eq_true rfl) rfl rfl (sk_31 hS) (aw_iload_n (pc' := 1) (dt_X11_isModel 0 (0, .iload_n 1, 1) rfl) rfl rfl (aw_iconst (pc' := 2) (v := 0) (dt_X11_isModel 1 (1, .iconst 0, 1) rfl) (by decide) rfl (aw_aload_n (pc' := 3) (dt_X11_isModel 2 (2, .aload_n 0, 1) rfl) rfl rfl (aw_getI (pc' := 6) (dt_X11_isModel 3 (3, .getfield 192, 3) rfl) fl_ReturnDeskModel_192 rfl rfl (sk_31 hS) (aw_iconst (pc' := 7) (v := 1) (dt_X11_isModel 4 (6, .iconst 1, 1) rfl) (by decide) rfl (aw_isub (pc' := 8) (dt_X11_isModel 5 (7, .isub, 1) rfl) rfl (aw_inS (pc' := 11) (nc1 := 0) (ns1 := 0) (nc := 0) (ns := 0) (ls' := [some (.int x1), some (.int 0), some (.int ((zI μ 31 3) - 1))]) (y2 := mX11_in) (As := [.int x1, .int 0, .int ((zI μ 31 3) - 1)]) (rest := []) (dt_X11_isModel 6 (8, .invokestatic 185, 3) rfl) ok_X11_in ln_ReturnDeskModel_185 sm_X11_in pr_X11_in rfl (Nat.le_of_ble_eq_true rfl) (Nat.le_of_ble_eq_true rfl) rfl rfl (aw_iload_n (pc' := 1) (dt_X11_in 0 (0, .iload_n 0, 1) rfl) rfl rfl (aw_iload_n (pc' := 2) (dt_X11_in 1 (1, .iload_n 1, 1) rfl) rfl rfl (aw_icmp_lt (pc' := 5) (tgt := 14) (dt_X11_in 2 (2, .if_icmp .lt 12, 3) rfl) (by decide) rfl ?_ ?_))))))))))))
  · intro q1
    have h := h.1 q1
    refine aw_iconst (pc' := 15) (v := 0) (dt_X11_in 8 (14, .iconst 0, 1) rfl) (by decide) rfl (aw_iret (dt_X11_in 9 (15, .ireturn, 1) rfl) rfl rfl (aw_stk (st' := [.int 0]) rfl (aw_iret (dt_X11_isModel 7 (11, .ireturn, 1) rfl) rfl rfl (aw_stk (st' := [.int 0]) rfl (aw_if_ne_F (pc' := 8) (tgt := 11) (dt_X11_shift 3 (5, .ifCond .ne 6, 3) rfl) (by decide) rfl (by decide) (aw_bipush (pc' := 10) (v := (-9)) (dt_X11_shift 4 (8, .bipush (-9), 2) rfl) (by decide) rfl (aw_iret (dt_X11_shift 5 (10, .ireturn, 1) rfl) rfl rfl ?_)))))))
    exact h
  · intro q1
    have h := h.2 q1
    refine aw_iload_n (pc' := 6) (dt_X11_in 3 (5, .iload_n 0, 1) rfl) rfl rfl (aw_iload_n (pc' := 7) (dt_X11_in 4 (6, .iload_n 2, 1) rfl) rfl rfl (aw_icmp_gt (pc' := 10) (tgt := 14) (dt_X11_in 5 (7, .if_icmp .gt 7, 3) rfl) (by decide) rfl ?_ ?_))
    · intro q2
      have h := h.1 q2
      refine aw_iconst (pc' := 15) (v := 0) (dt_X11_in 8 (14, .iconst 0, 1) rfl) (by decide) rfl (aw_iret (dt_X11_in 9 (15, .ireturn, 1) rfl) rfl rfl (aw_stk (st' := [.int 0]) rfl (aw_iret (dt_X11_isModel 7 (11, .ireturn, 1) rfl) rfl rfl (aw_stk (st' := [.int 0]) rfl (aw_if_ne_F (pc' := 8) (tgt := 11) (dt_X11_shift 3 (5, .ifCond .ne 6, 3) rfl) (by decide) rfl (by decide) (aw_bipush (pc' := 10) (v := (-9)) (dt_X11_shift 4 (8, .bipush (-9), 2) rfl) (by decide) rfl (aw_iret (dt_X11_shift 5 (10, .ireturn, 1) rfl) rfl rfl ?_)))))))
      exact h
    · intro q2
      have h := h.2 q2
      refine aw_iconst (pc' := 11) (v := 1) (dt_X11_in 6 (10, .iconst 1, 1) rfl) (by decide) rfl (aw_goto (tgt := 15) (dt_X11_in 7 (11, .goto 4, 3) rfl) (by decide) (aw_iret (dt_X11_in 9 (15, .ireturn, 1) rfl) rfl rfl (aw_stk (st' := [.int 1]) rfl (aw_iret (dt_X11_isModel 7 (11, .ireturn, 1) rfl) rfl rfl (aw_stk (st' := [.int 1]) rfl (aw_if_ne_T (pc' := 8) (tgt := 11) (dt_X11_shift 3 (5, .ifCond .ne 6, 3) rfl) (by decide) rfl (by decide) (aw_iconst (pc' := 12) (v := 0) (dt_X11_shift 6 (11, .iconst 0, 1) rfl) (by decide) rfl (aw_istore_n (pc' := 13) (ls' := [some (.ref 31), some (.int x1), some (.int 0), none]) (dt_X11_shift 7 (12, .istore_n 2, 1) rfl) (by decide) rfl rfl (aw_iconst (pc' := 14) (v := 0) (dt_X11_shift 8 (13, .iconst 0, 1) rfl) (by decide) rfl (aw_istore_n (pc' := 15) (ls' := [some (.ref 31), some (.int x1), some (.int 0), some (.int 0)]) (dt_X11_shift 9 (14, .istore_n 3, 1) rfl) (by decide) rfl rfl ?_))))))))))
      exact h

theorem t_X11_shift_15 {E : ZE} {l : Launch} {d nc ns : Nat} {x1 : Int32} {x2 : Int32} {x3 : Int32} {μ : ZM} {K : Option Value → ZM → Prop} (hS : Stat μ) (h :
  ((zI μ 31 22) ≤ x3 →
    (x2 < 3 →
      ((-3) < x2 →
        K (some (.int 0)) μ) ∧
      (¬ (-3) < x2 →
        K (some (.int (-1))) μ)) ∧
    (¬ x2 < 3 →
      K (some (.int 1)) μ)) ∧
  (¬ (zI μ 31 22) ≤ x3 →
    (vp_in x3 300) ∧
    (vp_in (zI μ 49 x3.toNatClampNeg) 60) ∧
    (¬ (zI μ 45 (zI μ 49 x3.toNatClampNeg).toNatClampNeg) = x1 →
      AW E l (d + 2) nc ns mX11_shift 15 [some (.ref 31), some (.int x1), some (.int x2), some (.int (x3 + 1))] [] μ K) ∧
    ((zI μ 45 (zI μ 49 x3.toNatClampNeg).toNatClampNeg) = x1 →
      (vp_in x3 300) ∧
      (¬ (zI μ 48 x3.toNatClampNeg) = 2 →
        AW E l (d + 2) nc ns mX11_shift 15 [some (.ref 31), some (.int x1), some (.int x2), some (.int (x3 + 1))] [] μ K) ∧
      ((zI μ 48 x3.toNatClampNeg) = 2 →
        AW E l (d + 1) 0 0 mX11_hasOtherSize 0 (zargs 3 [.ref 31, .int x3]) [] μ (fun v μ9 => ∃ r11 : Int32, v = some (.int r11) ∧ Stat μ9 ∧ 
          (¬ r11 = 0 →
            (vp_in x3 300) ∧
            (¬ (zI μ9 62 x3.toNatClampNeg) = 1 →
              (vp_in x3 300) ∧
              (¬ (zI μ9 62 x3.toNatClampNeg) = 2 →
                AW E l (d + 2) nc ns mX11_shift 15 [some (.ref 31), some (.int x1), some (.int (x2 + 0)), some (.int (x3 + 1))] [] μ9 K) ∧
              ((zI μ9 62 x3.toNatClampNeg) = 2 →
                AW E l (d + 2) nc ns mX11_shift 15 [some (.ref 31), some (.int x1), some (.int (x2 + (-1))), some (.int (x3 + 1))] [] μ9 K)) ∧
            ((zI μ9 62 x3.toNatClampNeg) = 1 →
              AW E l (d + 2) nc ns mX11_shift 15 [some (.ref 31), some (.int x1), some (.int (x2 + 1)), some (.int (x3 + 1))] [] μ9 K)) ∧
          (r11 = 0 →
            AW E l (d + 2) nc ns mX11_shift 15 [some (.ref 31), some (.int x1), some (.int x2), some (.int (x3 + 1))] [] μ9 K)))))) : AW E l (d + 2) nc ns mX11_shift 15 [some (.ref 31), some (.int x1), some (.int x2), some (.int x3)] [] μ K := by
  refine aw_iload_n (pc' := 16) (dt_X11_shift 10 (15, .iload_n 3, 1) rfl) rfl rfl (aw_aload_n (pc' := 17) (dt_X11_shift 11 (16, .aload_n 0, 1) rfl) rfl rfl (aw_getI (pc' := 20) (dt_X11_shift 12 (17, .getfield 215, 3) rfl) fl_ReturnDeskModel_215 rfl rfl (sk_31 hS) (aw_icmp_ge (pc' := 23) (tgt := 91) (dt_X11_shift 13 (20, .if_icmp .ge 71, 3) rfl) (by decide) rfl ?_ ?_)))
  · intro q1
    have h := h.1 q1
    refine aw_iload_n (pc' := 92) (dt_X11_shift 52 (91, .iload_n 2, 1) rfl) rfl rfl (aw_iconst (pc' := 93) (v := 3) (dt_X11_shift 53 (92, .iconst 3, 1) rfl) (by decide) rfl (aw_icmp_lt (pc' := 96) (tgt := 100) (dt_X11_shift 54 (93, .if_icmp .lt 7, 3) rfl) (by decide) rfl ?_ ?_))
    · intro q2
      have h := h.1 q2
      refine aw_iload_n (pc' := 101) (dt_X11_shift 57 (100, .iload_n 2, 1) rfl) rfl rfl (aw_bipush (pc' := 103) (v := (-3)) (dt_X11_shift 58 (101, .bipush (-3), 2) rfl) (by decide) rfl (aw_icmp_gt (pc' := 106) (tgt := 110) (dt_X11_shift 59 (103, .if_icmp .gt 7, 3) rfl) (by decide) rfl ?_ ?_))
      · intro q3
        have h := h.1 q3
        refine aw_iconst (pc' := 111) (v := 0) (dt_X11_shift 62 (110, .iconst 0, 1) rfl) (by decide) rfl (aw_iret (dt_X11_shift 63 (111, .ireturn, 1) rfl) rfl rfl ?_)
        exact h
      · intro q3
        have h := h.2 q3
        refine aw_iconst (pc' := 107) (v := (-1)) (dt_X11_shift 60 (106, .iconst (-1), 1) rfl) (by decide) rfl (aw_goto (tgt := 111) (dt_X11_shift 61 (107, .goto 4, 3) rfl) (by decide) (aw_iret (dt_X11_shift 63 (111, .ireturn, 1) rfl) rfl rfl ?_))
        exact h
    · intro q2
      have h := h.2 q2
      refine aw_iconst (pc' := 97) (v := 1) (dt_X11_shift 55 (96, .iconst 1, 1) rfl) (by decide) rfl (aw_goto (tgt := 111) (dt_X11_shift 56 (97, .goto 14, 3) rfl) (by decide) (aw_iret (dt_X11_shift 63 (111, .ireturn, 1) rfl) rfl rfl ?_))
      exact h
  · intro q1
    have h := h.2 q1
    obtain ⟨g4, h⟩ := h
    obtain ⟨g5, h⟩ := h
    refine aw_aload_n (pc' := 24) (dt_X11_shift 14 (23, .aload_n 0, 1) rfl) rfl rfl (aw_iload_n (pc' := 25) (dt_X11_shift 15 (24, .iload_n 3, 1) rfl) rfl rfl (aw_inV (pc' := 28) (nc1 := 0) (ns1 := 0) (nc := nc) (ns := ns) (ls' := [some (.ref 31), some (.int x3)]) (y2 := mX11_modelOf) (As := [.int x3]) (rest := []) (a := 31) (dt_X11_shift 16 (25, .invokevirtual 231, 3) rfl) ok_X11_modelOf ln_ReturnDeskModel_231 im_X11_modelOf se_X11_modelOf pr_X11_modelOf (Or.inl ⟨by decide, rfl⟩) rfl (Nat.le_of_ble_eq_true rfl) (Nat.le_of_ble_eq_true rfl) rfl rfl (sk_31 hS) (aw_aload_n (pc' := 1) (dt_X11_modelOf 0 (0, .aload_n 0, 1) rfl) rfl rfl (aw_getAs (pc' := 4) (dt_X11_modelOf 1 (1, .getfield 50, 3) rfl) fl_ReturnDeskModel_50 rfl rfl (sk_31 hS) (sa_31_19 hS) (aw_aload_n (pc' := 5) (dt_X11_modelOf 2 (4, .aload_n 0, 1) rfl) rfl rfl (aw_getAs (pc' := 8) (dt_X11_modelOf 3 (5, .getfield 62, 3) rfl) fl_ReturnDeskModel_62 rfl rfl (sk_31 hS) (sa_31_24 hS) (aw_iload_n (pc' := 9) (dt_X11_modelOf 4 (8, .iload_n 1, 1) rfl) rfl rfl (aw_iald (pc' := 10) (dt_X11_modelOf 5 (9, .iaload, 1) rfl) rfl (sk_49 hS) (vin_eq (sl_49 hS) g4) (aw_iald (pc' := 11) (dt_X11_modelOf 6 (10, .iaload, 1) rfl) rfl (sk_45 hS) (vin_eq (sl_45 hS) g5) (aw_iret (dt_X11_modelOf 7 (11, .ireturn, 1) rfl) rfl rfl (aw_stk (st' := [.int (zI μ 45 (zI μ 49 x3.toNatClampNeg).toNatClampNeg)]) rfl (aw_iload_n (pc' := 29) (dt_X11_shift 17 (28, .iload_n 1, 1) rfl) rfl rfl (aw_icmp_ne (pc' := 32) (tgt := 85) (dt_X11_shift 18 (29, .if_icmp .ne 56, 3) rfl) (by decide) rfl ?_ ?_)))))))))))))
    · intro q6
      have h := h.1 q6
      refine aw_iinc (pc' := 88) (v := 1) (ls' := [some (.ref 31), some (.int x1), some (.int x2), some (.int (x3 + 1))]) (dt_X11_shift 50 (85, .iinc 3 1, 3) rfl) rfl (by decide) (by decide) rfl rfl (aw_goto (tgt := 15) (dt_X11_shift 51 (88, .goto (-73), 3) rfl) (by decide) ?_)
      exact h
    · intro q6
      have h := h.2 q6
      obtain ⟨g7, h⟩ := h
      refine aw_aload_n (pc' := 33) (dt_X11_shift 19 (32, .aload_n 0, 1) rfl) rfl rfl (aw_getAs (pc' := 36) (dt_X11_shift 20 (33, .getfield 59, 3) rfl) fl_ReturnDeskModel_59 rfl rfl (sk_31 hS) (sa_31_23 hS) (aw_iload_n (pc' := 37) (dt_X11_shift 21 (36, .iload_n 3, 1) rfl) rfl rfl (aw_iald (pc' := 38) (dt_X11_shift 22 (37, .iaload, 1) rfl) rfl (sk_48 hS) (vin_eq (sl_48 hS) g7) (aw_iconst (pc' := 39) (v := 2) (dt_X11_shift 23 (38, .iconst 2, 1) rfl) (by decide) rfl (aw_icmp_ne (pc' := 42) (tgt := 85) (dt_X11_shift 24 (39, .if_icmp .ne 46, 3) rfl) (by decide) rfl ?_ ?_)))))
      · intro q8
        have h := h.1 q8
        refine aw_iinc (pc' := 88) (v := 1) (ls' := [some (.ref 31), some (.int x1), some (.int x2), some (.int (x3 + 1))]) (dt_X11_shift 50 (85, .iinc 3 1, 3) rfl) rfl (by decide) (by decide) rfl rfl (aw_goto (tgt := 15) (dt_X11_shift 51 (88, .goto (-73), 3) rfl) (by decide) ?_)
        exact h
      · intro q8
        have h := h.2 q8
        refine aw_aload_n (pc' := 43) (dt_X11_shift 25 (42, .aload_n 0, 1) rfl) rfl rfl (aw_iload_n (pc' := 44) (dt_X11_shift 26 (43, .iload_n 3, 1) rfl) rfl rfl (aw_callV0 (pc' := 47) (nc := nc) (ns := ns) (y2 := mX11_hasOtherSize) (As := [.int x3]) (rest := []) (a := 31) (dt_X11_shift 27 (44, .invokevirtual 463, 3) rfl) ok_X11_hasOtherSize ln_ReturnDeskModel_463 im_X11_hasOtherSize se_X11_hasOtherSize pr_X11_hasOtherSize (Or.inl ⟨by decide, rfl⟩) rfl (Nat.le_of_ble_eq_true rfl) (Nat.le_of_ble_eq_true rfl) rfl (sk_31 hS) h ?_))
        rintro v μ9 ⟨r11, rfl, hS10, h⟩
        refine aw_stk (st' := [.int r11]) rfl ?_
        refine aw_if_ne (pc' := 50) (tgt := 53) (dt_X11_shift 28 (47, .ifCond .ne 6, 3) rfl) (by decide) rfl ?_ ?_
        · intro q12
          have h := h.1 q12
          obtain ⟨g13, h⟩ := h
          refine aw_iload_n (pc' := 54) (dt_X11_shift 30 (53, .iload_n 2, 1) rfl) rfl rfl (aw_aload_n (pc' := 55) (dt_X11_shift 31 (54, .aload_n 0, 1) rfl) rfl rfl (aw_getAs (pc' := 58) (dt_X11_shift 32 (55, .getfield 101, 3) rfl) fl_ReturnDeskModel_101 rfl rfl (sk_31 hS10) (sa_31_37 hS10) (aw_iload_n (pc' := 59) (dt_X11_shift 33 (58, .iload_n 3, 1) rfl) rfl rfl (aw_iald (pc' := 60) (dt_X11_shift 34 (59, .iaload, 1) rfl) rfl (sk_62 hS10) (vin_eq (sl_62 hS10) g13) (aw_iconst (pc' := 61) (v := 1) (dt_X11_shift 35 (60, .iconst 1, 1) rfl) (by decide) rfl (aw_icmp_ne (pc' := 64) (tgt := 68) (dt_X11_shift 36 (61, .if_icmp .ne 7, 3) rfl) (by decide) rfl ?_ ?_))))))
          · intro q14
            have h := h.1 q14
            obtain ⟨g15, h⟩ := h
            refine aw_aload_n (pc' := 69) (dt_X11_shift 39 (68, .aload_n 0, 1) rfl) rfl rfl (aw_getAs (pc' := 72) (dt_X11_shift 40 (69, .getfield 101, 3) rfl) fl_ReturnDeskModel_101 rfl rfl (sk_31 hS10) (sa_31_37 hS10) (aw_iload_n (pc' := 73) (dt_X11_shift 41 (72, .iload_n 3, 1) rfl) rfl rfl (aw_iald (pc' := 74) (dt_X11_shift 42 (73, .iaload, 1) rfl) rfl (sk_62 hS10) (vin_eq (sl_62 hS10) g15) (aw_iconst (pc' := 75) (v := 2) (dt_X11_shift 43 (74, .iconst 2, 1) rfl) (by decide) rfl (aw_icmp_ne (pc' := 78) (tgt := 82) (dt_X11_shift 44 (75, .if_icmp .ne 7, 3) rfl) (by decide) rfl ?_ ?_)))))
            · intro q16
              have h := h.1 q16
              refine aw_iconst (pc' := 83) (v := 0) (dt_X11_shift 47 (82, .iconst 0, 1) rfl) (by decide) rfl (aw_iadd (pc' := 84) (dt_X11_shift 48 (83, .iadd, 1) rfl) rfl (aw_istore_n (pc' := 85) (ls' := [some (.ref 31), some (.int x1), some (.int (x2 + 0)), some (.int x3)]) (dt_X11_shift 49 (84, .istore_n 2, 1) rfl) (by decide) rfl rfl (aw_iinc (pc' := 88) (v := 1) (ls' := [some (.ref 31), some (.int x1), some (.int (x2 + 0)), some (.int (x3 + 1))]) (dt_X11_shift 50 (85, .iinc 3 1, 3) rfl) rfl (by decide) (by decide) rfl rfl (aw_goto (tgt := 15) (dt_X11_shift 51 (88, .goto (-73), 3) rfl) (by decide) ?_))))
              exact h
            · intro q16
              have h := h.2 q16
              refine aw_iconst (pc' := 79) (v := (-1)) (dt_X11_shift 45 (78, .iconst (-1), 1) rfl) (by decide) rfl (aw_goto (tgt := 83) (dt_X11_shift 46 (79, .goto 4, 3) rfl) (by decide) (aw_iadd (pc' := 84) (dt_X11_shift 48 (83, .iadd, 1) rfl) rfl (aw_istore_n (pc' := 85) (ls' := [some (.ref 31), some (.int x1), some (.int (x2 + (-1))), some (.int x3)]) (dt_X11_shift 49 (84, .istore_n 2, 1) rfl) (by decide) rfl rfl (aw_iinc (pc' := 88) (v := 1) (ls' := [some (.ref 31), some (.int x1), some (.int (x2 + (-1))), some (.int (x3 + 1))]) (dt_X11_shift 50 (85, .iinc 3 1, 3) rfl) rfl (by decide) (by decide) rfl rfl (aw_goto (tgt := 15) (dt_X11_shift 51 (88, .goto (-73), 3) rfl) (by decide) ?_)))))
              exact h
          · intro q14
            have h := h.2 q14
            refine aw_iconst (pc' := 65) (v := 1) (dt_X11_shift 37 (64, .iconst 1, 1) rfl) (by decide) rfl (aw_goto (tgt := 83) (dt_X11_shift 38 (65, .goto 18, 3) rfl) (by decide) (aw_iadd (pc' := 84) (dt_X11_shift 48 (83, .iadd, 1) rfl) rfl (aw_istore_n (pc' := 85) (ls' := [some (.ref 31), some (.int x1), some (.int (x2 + 1)), some (.int x3)]) (dt_X11_shift 49 (84, .istore_n 2, 1) rfl) (by decide) rfl rfl (aw_iinc (pc' := 88) (v := 1) (ls' := [some (.ref 31), some (.int x1), some (.int (x2 + 1)), some (.int (x3 + 1))]) (dt_X11_shift 50 (85, .iinc 3 1, 3) rfl) rfl (by decide) (by decide) rfl rfl (aw_goto (tgt := 15) (dt_X11_shift 51 (88, .goto (-73), 3) rfl) (by decide) ?_)))))
            exact h
        · intro q12
          have h := h.2 q12
          refine aw_goto (tgt := 85) (dt_X11_shift 29 (50, .goto 35, 3) rfl) (by decide) (aw_iinc (pc' := 88) (v := 1) (ls' := [some (.ref 31), some (.int x1), some (.int x2), some (.int (x3 + 1))]) (dt_X11_shift 50 (85, .iinc 3 1, 3) rfl) rfl (by decide) (by decide) rfl rfl (aw_goto (tgt := 15) (dt_X11_shift 51 (88, .goto (-73), 3) rfl) (by decide) ?_))
          exact h

theorem t_X11_brought {E : ZE} {l : Launch} {d nc ns : Nat} {x1 : Int32} {x2 : Int32} {μ : ZM} {K : Option Value → ZM → Prop} (hS : Stat μ) (h :
  (x1 < 0 →
    K (some (.int (-1))) μ) ∧
  (¬ x1 < 0 →
    (((zI μ 31 22) - 1) < x1 →
      K (some (.int (-1))) μ) ∧
    (¬ ((zI μ 31 22) - 1) < x1 →
      (x2 < 0 →
        K (some (.int (-1))) μ) ∧
      (¬ x2 < 0 →
        (4 < x2 →
          K (some (.int (-1))) μ) ∧
        (¬ 4 < x2 →
          (vp_in x1 300) ∧
          ((zI μ 63 x1.toNatClampNeg) < 0 →
            (vp_in x1 300) ∧
            K (some (.int 1)) (sI μ 63 x1.toNatClampNeg x2)) ∧
          (¬ (zI μ 63 x1.toNatClampNeg) < 0 →
            K (some (.int (-2))) μ)))))) : AW E l (d + 2) nc ns mX11_brought 0 [some (.ref 31), some (.int x1), some (.int x2)] [] μ K := by
  refine aw_aload_n (pc' := 1) (dt_X11_brought 0 (0, .aload_n 0, 1) rfl) rfl rfl (aw_iload_n (pc' := 2) (dt_X11_brought 1 (1, .iload_n 1, 1) rfl) rfl rfl (aw_inV (pc' := 5) (nc1 := 0) (ns1 := 0) (nc := nc) (ns := ns) (ls' := [some (.ref 31), some (.int x1)]) (y2 := mX11_isSale) (As := [.int x1]) (rest := []) (a := 31) (dt_X11_brought 2 (2, .invokevirtual 228, 3) rfl) ok_X11_isSale ln_ReturnDeskModel_228 im_X11_isSale se_X11_isSale pr_X11_isSale (Or.inl ⟨by decide, rfl⟩) rfl (Nat.le_of_ble_eq_true rfl) (Nat.le_of_ble_eq_true rfl) rfl rfl (sk_31 hS) (aw_iload_n (pc' := 1) (dt_X11_isSale 0 (0, .iload_n 1, 1) rfl) rfl rfl (aw_iconst (pc' := 2) (v := 0) (dt_X11_isSale 1 (1, .iconst 0, 1) rfl) (by decide) rfl (aw_aload_n (pc' := 3) (dt_X11_isSale 2 (2, .aload_n 0, 1) rfl) rfl rfl (aw_getI (pc' := 6) (dt_X11_isSale 3 (3, .getfield 215, 3) rfl) fl_ReturnDeskModel_215 rfl rfl (sk_31 hS) (aw_iconst (pc' := 7) (v := 1) (dt_X11_isSale 4 (6, .iconst 1, 1) rfl) (by decide) rfl (aw_isub (pc' := 8) (dt_X11_isSale 5 (7, .isub, 1) rfl) rfl (aw_inS (pc' := 11) (nc1 := 0) (ns1 := 0) (nc := 0) (ns := 0) (ls' := [some (.int x1), some (.int 0), some (.int ((zI μ 31 22) - 1))]) (y2 := mX11_in) (As := [.int x1, .int 0, .int ((zI μ 31 22) - 1)]) (rest := []) (dt_X11_isSale 6 (8, .invokestatic 185, 3) rfl) ok_X11_in ln_ReturnDeskModel_185 sm_X11_in pr_X11_in rfl (Nat.le_of_ble_eq_true rfl) (Nat.le_of_ble_eq_true rfl) rfl rfl (aw_iload_n (pc' := 1) (dt_X11_in 0 (0, .iload_n 0, 1) rfl) rfl rfl (aw_iload_n (pc' := 2) (dt_X11_in 1 (1, .iload_n 1, 1) rfl) rfl rfl (aw_icmp_lt (pc' := 5) (tgt := 14) (dt_X11_in 2 (2, .if_icmp .lt 12, 3) rfl) (by decide) rfl ?_ ?_))))))))))))
  · intro q1
    have h := h.1 q1
    refine aw_iconst (pc' := 15) (v := 0) (dt_X11_in 8 (14, .iconst 0, 1) rfl) (by decide) rfl (aw_iret (dt_X11_in 9 (15, .ireturn, 1) rfl) rfl rfl (aw_stk (st' := [.int 0]) rfl (aw_iret (dt_X11_isSale 7 (11, .ireturn, 1) rfl) rfl rfl (aw_stk (st' := [.int 0]) rfl (aw_if_eq_T (pc' := 8) (tgt := 17) (dt_X11_brought 3 (5, .ifCond .eq 12, 3) rfl) (by decide) rfl (by decide) (aw_iconst (pc' := 18) (v := (-1)) (dt_X11_brought 9 (17, .iconst (-1), 1) rfl) (by decide) rfl (aw_iret (dt_X11_brought 10 (18, .ireturn, 1) rfl) rfl rfl ?_)))))))
    exact h
  · intro q1
    have h := h.2 q1
    refine aw_iload_n (pc' := 6) (dt_X11_in 3 (5, .iload_n 0, 1) rfl) rfl rfl (aw_iload_n (pc' := 7) (dt_X11_in 4 (6, .iload_n 2, 1) rfl) rfl rfl (aw_icmp_gt (pc' := 10) (tgt := 14) (dt_X11_in 5 (7, .if_icmp .gt 7, 3) rfl) (by decide) rfl ?_ ?_))
    · intro q2
      have h := h.1 q2
      refine aw_iconst (pc' := 15) (v := 0) (dt_X11_in 8 (14, .iconst 0, 1) rfl) (by decide) rfl (aw_iret (dt_X11_in 9 (15, .ireturn, 1) rfl) rfl rfl (aw_stk (st' := [.int 0]) rfl (aw_iret (dt_X11_isSale 7 (11, .ireturn, 1) rfl) rfl rfl (aw_stk (st' := [.int 0]) rfl (aw_if_eq_T (pc' := 8) (tgt := 17) (dt_X11_brought 3 (5, .ifCond .eq 12, 3) rfl) (by decide) rfl (by decide) (aw_iconst (pc' := 18) (v := (-1)) (dt_X11_brought 9 (17, .iconst (-1), 1) rfl) (by decide) rfl (aw_iret (dt_X11_brought 10 (18, .ireturn, 1) rfl) rfl rfl ?_)))))))
      exact h
    · intro q2
      have h := h.2 q2
      refine aw_iconst (pc' := 11) (v := 1) (dt_X11_in 6 (10, .iconst 1, 1) rfl) (by decide) rfl (aw_goto (tgt := 15) (dt_X11_in 7 (11, .goto 4, 3) rfl) (by decide) (aw_iret (dt_X11_in 9 (15, .ireturn, 1) rfl) rfl rfl (aw_stk (st' := [.int 1]) rfl (aw_iret (dt_X11_isSale 7 (11, .ireturn, 1) rfl) rfl rfl (aw_stk (st' := [.int 1]) rfl (aw_if_eq_F (pc' := 8) (tgt := 17) (dt_X11_brought 3 (5, .ifCond .eq 12, 3) rfl) (by decide) rfl (by decide) (aw_iload_n (pc' := 9) (dt_X11_brought 4 (8, .iload_n 2, 1) rfl) rfl rfl (aw_iconst (pc' := 10) (v := 0) (dt_X11_brought 5 (9, .iconst 0, 1) rfl) (by decide) rfl (aw_iconst (pc' := 11) (v := 4) (dt_X11_brought 6 (10, .iconst 4, 1) rfl) (by decide) rfl (aw_inS (pc' := 14) (nc1 := 0) (ns1 := 0) (nc := nc) (ns := ns) (ls' := [some (.int x2), some (.int 0), some (.int 4)]) (y2 := mX11_in) (As := [.int x2, .int 0, .int 4]) (rest := []) (dt_X11_brought 7 (11, .invokestatic 185, 3) rfl) ok_X11_in ln_ReturnDeskModel_185 sm_X11_in pr_X11_in rfl (Nat.le_of_ble_eq_true rfl) (Nat.le_of_ble_eq_true rfl) rfl rfl (aw_iload_n (pc' := 1) (dt_X11_in 0 (0, .iload_n 0, 1) rfl) rfl rfl (aw_iload_n (pc' := 2) (dt_X11_in 1 (1, .iload_n 1, 1) rfl) rfl rfl (aw_icmp_lt (pc' := 5) (tgt := 14) (dt_X11_in 2 (2, .if_icmp .lt 12, 3) rfl) (by decide) rfl ?_ ?_)))))))))))))
      · intro q3
        have h := h.1 q3
        refine aw_iconst (pc' := 15) (v := 0) (dt_X11_in 8 (14, .iconst 0, 1) rfl) (by decide) rfl (aw_iret (dt_X11_in 9 (15, .ireturn, 1) rfl) rfl rfl (aw_stk (st' := [.int 0]) rfl (aw_if_ne_F (pc' := 17) (tgt := 19) (dt_X11_brought 8 (14, .ifCond .ne 5, 3) rfl) (by decide) rfl (by decide) (aw_iconst (pc' := 18) (v := (-1)) (dt_X11_brought 9 (17, .iconst (-1), 1) rfl) (by decide) rfl (aw_iret (dt_X11_brought 10 (18, .ireturn, 1) rfl) rfl rfl ?_)))))
        exact h
      · intro q3
        have h := h.2 q3
        refine aw_iload_n (pc' := 6) (dt_X11_in 3 (5, .iload_n 0, 1) rfl) rfl rfl (aw_iload_n (pc' := 7) (dt_X11_in 4 (6, .iload_n 2, 1) rfl) rfl rfl (aw_icmp_gt (pc' := 10) (tgt := 14) (dt_X11_in 5 (7, .if_icmp .gt 7, 3) rfl) (by decide) rfl ?_ ?_))
        · intro q4
          have h := h.1 q4
          refine aw_iconst (pc' := 15) (v := 0) (dt_X11_in 8 (14, .iconst 0, 1) rfl) (by decide) rfl (aw_iret (dt_X11_in 9 (15, .ireturn, 1) rfl) rfl rfl (aw_stk (st' := [.int 0]) rfl (aw_if_ne_F (pc' := 17) (tgt := 19) (dt_X11_brought 8 (14, .ifCond .ne 5, 3) rfl) (by decide) rfl (by decide) (aw_iconst (pc' := 18) (v := (-1)) (dt_X11_brought 9 (17, .iconst (-1), 1) rfl) (by decide) rfl (aw_iret (dt_X11_brought 10 (18, .ireturn, 1) rfl) rfl rfl ?_)))))
          exact h
        · intro q4
          have h := h.2 q4
          obtain ⟨g5, h⟩ := h
          refine aw_iconst (pc' := 11) (v := 1) (dt_X11_in 6 (10, .iconst 1, 1) rfl) (by decide) rfl (aw_goto (tgt := 15) (dt_X11_in 7 (11, .goto 4, 3) rfl) (by decide) (aw_iret (dt_X11_in 9 (15, .ireturn, 1) rfl) rfl rfl (aw_stk (st' := [.int 1]) rfl (aw_if_ne_T (pc' := 17) (tgt := 19) (dt_X11_brought 8 (14, .ifCond .ne 5, 3) rfl) (by decide) rfl (by decide) (aw_aload_n (pc' := 20) (dt_X11_brought 11 (19, .aload_n 0, 1) rfl) rfl rfl (aw_getAs (pc' := 23) (dt_X11_brought 12 (20, .getfield 104, 3) rfl) fl_ReturnDeskModel_104 rfl rfl (sk_31 hS) (sa_31_38 hS) (aw_iload_n (pc' := 24) (dt_X11_brought 13 (23, .iload_n 1, 1) rfl) rfl rfl (aw_iald (pc' := 25) (dt_X11_brought 14 (24, .iaload, 1) rfl) rfl (sk_63 hS) (vin_eq (sl_63 hS) g5) (aw_if_lt (pc' := 28) (tgt := 31) (dt_X11_brought 15 (25, .ifCond .lt 6, 3) rfl) (by decide) rfl ?_ ?_)))))))))
          · intro q6
            have h := h.1 q6
            obtain ⟨g7, h⟩ := h
            refine aw_aload_n (pc' := 32) (dt_X11_brought 18 (31, .aload_n 0, 1) rfl) rfl rfl (aw_getAs (pc' := 35) (dt_X11_brought 19 (32, .getfield 104, 3) rfl) fl_ReturnDeskModel_104 rfl rfl (sk_31 hS) (sa_31_38 hS) (aw_iload_n (pc' := 36) (dt_X11_brought 20 (35, .iload_n 1, 1) rfl) rfl rfl (aw_iload_n (pc' := 37) (dt_X11_brought 21 (36, .iload_n 2, 1) rfl) rfl rfl (aw_iast (pc' := 38) (dt_X11_brought 22 (37, .iastore, 1) rfl) rfl (sk_63 hS) (by decide) (vin_eq (sl_63 hS) g7) (aw_iconst (pc' := 39) (v := 1) (dt_X11_brought 23 (38, .iconst 1, 1) rfl) (by decide) rfl (aw_iret (dt_X11_brought 24 (39, .ireturn, 1) rfl) rfl rfl ?_))))))
            exact h
          · intro q6
            have h := h.2 q6
            refine aw_bipush (pc' := 30) (v := (-2)) (dt_X11_brought 16 (28, .bipush (-2), 2) rfl) (by decide) rfl (aw_iret (dt_X11_brought 17 (30, .ireturn, 1) rfl) rfl rfl ?_)
            exact h

theorem t_X11_damage {E : ZE} {l : Launch} {d nc ns : Nat} {x1 : Int32} {μ : ZM} {K : Option Value → ZM → Prop} (hS : Stat μ) (h :
  (x1 < 0 →
    K (some (.int (-1))) μ) ∧
  (¬ x1 < 0 →
    (((zI μ 31 22) - 1) < x1 →
      K (some (.int (-1))) μ) ∧
    (¬ ((zI μ 31 22) - 1) < x1 →
      (vp_in x1 300) ∧
      ((zI μ 63 x1.toNatClampNeg) < 0 →
        K (some (.int (-2))) μ) ∧
      (¬ (zI μ 63 x1.toNatClampNeg) < 0 →
        (vp_in x1 300) ∧
        ((zI μ 64 x1.toNatClampNeg) ≤ 0 →
          (vp_in x1 300) ∧
          (3 < (((zI μ 31 1) / 24) - ((zI μ 55 x1.toNatClampNeg) / 24)) →
            (vp_in x1 300) ∧
            (vp_in x1 300) ∧
            (¬ (zI (sI μ 64 x1.toNatClampNeg 2) 64 x1.toNatClampNeg) = 1 →
              K (some (.int 0)) (sI μ 64 x1.toNatClampNeg 2)) ∧
            ((zI (sI μ 64 x1.toNatClampNeg 2) 64 x1.toNatClampNeg) = 1 →
              K (some (.int 1)) (sI μ 64 x1.toNatClampNeg 2))) ∧
          (¬ 3 < (((zI μ 31 1) / 24) - ((zI μ 55 x1.toNatClampNeg) / 24)) →
            (vp_in x1 300) ∧
            (vp_in x1 300) ∧
            (¬ (zI (sI μ 64 x1.toNatClampNeg 1) 64 x1.toNatClampNeg) = 1 →
              K (some (.int 0)) (sI μ 64 x1.toNatClampNeg 1)) ∧
            ((zI (sI μ 64 x1.toNatClampNeg 1) 64 x1.toNatClampNeg) = 1 →
              K (some (.int 1)) (sI μ 64 x1.toNatClampNeg 1)))) ∧
        (¬ (zI μ 64 x1.toNatClampNeg) ≤ 0 →
          K (some (.int (-2))) μ))))) : AW E l (d + 2) nc ns mX11_damage 0 [some (.ref 31), some (.int x1)] [] μ K := by
  refine aw_aload_n (pc' := 1) (dt_X11_damage 0 (0, .aload_n 0, 1) rfl) rfl rfl (aw_iload_n (pc' := 2) (dt_X11_damage 1 (1, .iload_n 1, 1) rfl) rfl rfl (aw_inV (pc' := 5) (nc1 := 0) (ns1 := 0) (nc := nc) (ns := ns) (ls' := [some (.ref 31), some (.int x1)]) (y2 := mX11_isSale) (As := [.int x1]) (rest := []) (a := 31) (dt_X11_damage 2 (2, .invokevirtual 228, 3) rfl) ok_X11_isSale ln_ReturnDeskModel_228 im_X11_isSale se_X11_isSale pr_X11_isSale (Or.inl ⟨by decide, rfl⟩) rfl (Nat.le_of_ble_eq_true rfl) (Nat.le_of_ble_eq_true rfl) rfl rfl (sk_31 hS) (aw_iload_n (pc' := 1) (dt_X11_isSale 0 (0, .iload_n 1, 1) rfl) rfl rfl (aw_iconst (pc' := 2) (v := 0) (dt_X11_isSale 1 (1, .iconst 0, 1) rfl) (by decide) rfl (aw_aload_n (pc' := 3) (dt_X11_isSale 2 (2, .aload_n 0, 1) rfl) rfl rfl (aw_getI (pc' := 6) (dt_X11_isSale 3 (3, .getfield 215, 3) rfl) fl_ReturnDeskModel_215 rfl rfl (sk_31 hS) (aw_iconst (pc' := 7) (v := 1) (dt_X11_isSale 4 (6, .iconst 1, 1) rfl) (by decide) rfl (aw_isub (pc' := 8) (dt_X11_isSale 5 (7, .isub, 1) rfl) rfl (aw_inS (pc' := 11) (nc1 := 0) (ns1 := 0) (nc := 0) (ns := 0) (ls' := [some (.int x1), some (.int 0), some (.int ((zI μ 31 22) - 1))]) (y2 := mX11_in) (As := [.int x1, .int 0, .int ((zI μ 31 22) - 1)]) (rest := []) (dt_X11_isSale 6 (8, .invokestatic 185, 3) rfl) ok_X11_in ln_ReturnDeskModel_185 sm_X11_in pr_X11_in rfl (Nat.le_of_ble_eq_true rfl) (Nat.le_of_ble_eq_true rfl) rfl rfl (aw_iload_n (pc' := 1) (dt_X11_in 0 (0, .iload_n 0, 1) rfl) rfl rfl (aw_iload_n (pc' := 2) (dt_X11_in 1 (1, .iload_n 1, 1) rfl) rfl rfl (aw_icmp_lt (pc' := 5) (tgt := 14) (dt_X11_in 2 (2, .if_icmp .lt 12, 3) rfl) (by decide) rfl ?_ ?_))))))))))))
  · intro q1
    have h := h.1 q1
    refine aw_iconst (pc' := 15) (v := 0) (dt_X11_in 8 (14, .iconst 0, 1) rfl) (by decide) rfl (aw_iret (dt_X11_in 9 (15, .ireturn, 1) rfl) rfl rfl (aw_stk (st' := [.int 0]) rfl (aw_iret (dt_X11_isSale 7 (11, .ireturn, 1) rfl) rfl rfl (aw_stk (st' := [.int 0]) rfl (aw_if_ne_F (pc' := 8) (tgt := 10) (dt_X11_damage 3 (5, .ifCond .ne 5, 3) rfl) (by decide) rfl (by decide) (aw_iconst (pc' := 9) (v := (-1)) (dt_X11_damage 4 (8, .iconst (-1), 1) rfl) (by decide) rfl (aw_iret (dt_X11_damage 5 (9, .ireturn, 1) rfl) rfl rfl ?_)))))))
    exact h
  · intro q1
    have h := h.2 q1
    refine aw_iload_n (pc' := 6) (dt_X11_in 3 (5, .iload_n 0, 1) rfl) rfl rfl (aw_iload_n (pc' := 7) (dt_X11_in 4 (6, .iload_n 2, 1) rfl) rfl rfl (aw_icmp_gt (pc' := 10) (tgt := 14) (dt_X11_in 5 (7, .if_icmp .gt 7, 3) rfl) (by decide) rfl ?_ ?_))
    · intro q2
      have h := h.1 q2
      refine aw_iconst (pc' := 15) (v := 0) (dt_X11_in 8 (14, .iconst 0, 1) rfl) (by decide) rfl (aw_iret (dt_X11_in 9 (15, .ireturn, 1) rfl) rfl rfl (aw_stk (st' := [.int 0]) rfl (aw_iret (dt_X11_isSale 7 (11, .ireturn, 1) rfl) rfl rfl (aw_stk (st' := [.int 0]) rfl (aw_if_ne_F (pc' := 8) (tgt := 10) (dt_X11_damage 3 (5, .ifCond .ne 5, 3) rfl) (by decide) rfl (by decide) (aw_iconst (pc' := 9) (v := (-1)) (dt_X11_damage 4 (8, .iconst (-1), 1) rfl) (by decide) rfl (aw_iret (dt_X11_damage 5 (9, .ireturn, 1) rfl) rfl rfl ?_)))))))
      exact h
    · intro q2
      have h := h.2 q2
      obtain ⟨g3, h⟩ := h
      refine aw_iconst (pc' := 11) (v := 1) (dt_X11_in 6 (10, .iconst 1, 1) rfl) (by decide) rfl (aw_goto (tgt := 15) (dt_X11_in 7 (11, .goto 4, 3) rfl) (by decide) (aw_iret (dt_X11_in 9 (15, .ireturn, 1) rfl) rfl rfl (aw_stk (st' := [.int 1]) rfl (aw_iret (dt_X11_isSale 7 (11, .ireturn, 1) rfl) rfl rfl (aw_stk (st' := [.int 1]) rfl (aw_if_ne_T (pc' := 8) (tgt := 10) (dt_X11_damage 3 (5, .ifCond .ne 5, 3) rfl) (by decide) rfl (by decide) (aw_aload_n (pc' := 11) (dt_X11_damage 6 (10, .aload_n 0, 1) rfl) rfl rfl (aw_getAs (pc' := 14) (dt_X11_damage 7 (11, .getfield 104, 3) rfl) fl_ReturnDeskModel_104 rfl rfl (sk_31 hS) (sa_31_38 hS) (aw_iload_n (pc' := 15) (dt_X11_damage 8 (14, .iload_n 1, 1) rfl) rfl rfl (aw_iald (pc' := 16) (dt_X11_damage 9 (15, .iaload, 1) rfl) rfl (sk_63 hS) (vin_eq (sl_63 hS) g3) (aw_if_lt (pc' := 19) (tgt := 28) (dt_X11_damage 10 (16, .ifCond .lt 12, 3) rfl) (by decide) rfl ?_ ?_)))))))))))
      · intro q4
        have h := h.1 q4
        refine aw_bipush (pc' := 30) (v := (-2)) (dt_X11_damage 16 (28, .bipush (-2), 2) rfl) (by decide) rfl (aw_iret (dt_X11_damage 17 (30, .ireturn, 1) rfl) rfl rfl ?_)
        exact h
      · intro q4
        have h := h.2 q4
        obtain ⟨g5, h⟩ := h
        refine aw_aload_n (pc' := 20) (dt_X11_damage 11 (19, .aload_n 0, 1) rfl) rfl rfl (aw_getAs (pc' := 23) (dt_X11_damage 12 (20, .getfield 107, 3) rfl) fl_ReturnDeskModel_107 rfl rfl (sk_31 hS) (sa_31_39 hS) (aw_iload_n (pc' := 24) (dt_X11_damage 13 (23, .iload_n 1, 1) rfl) rfl rfl (aw_iald (pc' := 25) (dt_X11_damage 14 (24, .iaload, 1) rfl) rfl (sk_64 hS) (vin_eq (sl_64 hS) g5) (aw_if_le (pc' := 28) (tgt := 31) (dt_X11_damage 15 (25, .ifCond .le 6, 3) rfl) (by decide) rfl ?_ ?_))))
        · intro q6
          have h := h.1 q6
          obtain ⟨g7, h⟩ := h
          refine aw_aload_n (pc' := 32) (dt_X11_damage 18 (31, .aload_n 0, 1) rfl) rfl rfl (aw_getAs (pc' := 35) (dt_X11_damage 19 (32, .getfield 107, 3) rfl) fl_ReturnDeskModel_107 rfl rfl (sk_31 hS) (sa_31_39 hS) (aw_iload_n (pc' := 36) (dt_X11_damage 20 (35, .iload_n 1, 1) rfl) rfl rfl (aw_aload_n (pc' := 37) (dt_X11_damage 21 (36, .aload_n 0, 1) rfl) rfl rfl (aw_inV (pc' := 40) (nc1 := 0) (ns1 := 0) (nc := nc) (ns := ns) (ls' := [some (.ref 31)]) (y2 := mX11_today) (As := []) (rest := [.int x1, .ref 64]) (a := 31) (dt_X11_damage 22 (37, .invokevirtual 224, 3) rfl) ok_X11_today ln_ReturnDeskModel_224 im_X11_today se_X11_today pr_X11_today (Or.inl ⟨by decide, rfl⟩) rfl (Nat.le_of_ble_eq_true rfl) (Nat.le_of_ble_eq_true rfl) rfl rfl (sk_31 hS) (aw_aload_n (pc' := 1) (dt_X11_today 0 (0, .aload_n 0, 1) rfl) rfl rfl (aw_getI (pc' := 4) (dt_X11_today 1 (1, .getfield 189, 3) rfl) fl_ReturnDeskModel_189 rfl rfl (sk_31 hS) (aw_bipush (pc' := 6) (v := 24) (dt_X11_today 2 (4, .bipush 24, 2) rfl) (by decide) rfl (aw_idiv (pc' := 7) (dt_X11_today 3 (6, .idiv, 1) rfl) (by decide) rfl (aw_iret (dt_X11_today 4 (7, .ireturn, 1) rfl) rfl rfl (aw_stk (st' := [.int ((zI μ 31 1) / 24), .int x1, .ref 64]) rfl (aw_aload_n (pc' := 41) (dt_X11_damage 23 (40, .aload_n 0, 1) rfl) rfl rfl (aw_iload_n (pc' := 42) (dt_X11_damage 24 (41, .iload_n 1, 1) rfl) rfl rfl (aw_inV (pc' := 45) (nc1 := 0) (ns1 := 0) (nc := nc) (ns := ns) (ls' := [some (.ref 31), some (.int x1)]) (y2 := mX11_dayOf) (As := [.int x1]) (rest := [.int ((zI μ 31 1) / 24), .int x1, .ref 64]) (a := 31) (dt_X11_damage 25 (42, .invokevirtual 350, 3) rfl) ok_X11_dayOf ln_ReturnDeskModel_350 im_X11_dayOf se_X11_dayOf pr_X11_dayOf (Or.inl ⟨by decide, rfl⟩) rfl (Nat.le_of_ble_eq_true rfl) (Nat.le_of_ble_eq_true rfl) rfl rfl (sk_31 hS) (aw_aload_n (pc' := 1) (dt_X11_dayOf 0 (0, .aload_n 0, 1) rfl) rfl rfl (aw_getAs (pc' := 4) (dt_X11_dayOf 1 (1, .getfield 80, 3) rfl) fl_ReturnDeskModel_80 rfl rfl (sk_31 hS) (sa_31_30 hS) (aw_iload_n (pc' := 5) (dt_X11_dayOf 2 (4, .iload_n 1, 1) rfl) rfl rfl (aw_iald (pc' := 6) (dt_X11_dayOf 3 (5, .iaload, 1) rfl) rfl (sk_55 hS) (vin_eq (sl_55 hS) g7) (aw_bipush (pc' := 8) (v := 24) (dt_X11_dayOf 4 (6, .bipush 24, 2) rfl) (by decide) rfl (aw_idiv (pc' := 9) (dt_X11_dayOf 5 (8, .idiv, 1) rfl) (by decide) rfl (aw_iret (dt_X11_dayOf 6 (9, .ireturn, 1) rfl) rfl rfl (aw_stk (st' := [.int ((zI μ 55 x1.toNatClampNeg) / 24), .int ((zI μ 31 1) / 24), .int x1, .ref 64]) rfl (aw_isub (pc' := 46) (dt_X11_damage 26 (45, .isub, 1) rfl) rfl (aw_iconst (pc' := 47) (v := 3) (dt_X11_damage 27 (46, .iconst 3, 1) rfl) (by decide) rfl (aw_icmp_gt (pc' := 50) (tgt := 54) (dt_X11_damage 28 (47, .if_icmp .gt 7, 3) rfl) (by decide) rfl ?_ ?_))))))))))))))))))))))))
          · intro q8
            have h := h.1 q8
            obtain ⟨g9, h⟩ := h
            obtain ⟨g10, h⟩ := h
            refine aw_iconst (pc' := 55) (v := 2) (dt_X11_damage 31 (54, .iconst 2, 1) rfl) (by decide) rfl (aw_iast (pc' := 56) (dt_X11_damage 32 (55, .iastore, 1) rfl) rfl (sk_64 hS) (by decide) (vin_eq (sl_64 hS) g9) (aw_aload_n (pc' := 57) (dt_X11_damage 33 (56, .aload_n 0, 1) rfl) rfl rfl (aw_getAs (pc' := 60) (dt_X11_damage 34 (57, .getfield 107, 3) rfl) fl_ReturnDeskModel_107 rfl rfl (sk_31 hS.wI) (sa_31_39 hS.wI) (aw_iload_n (pc' := 61) (dt_X11_damage 35 (60, .iload_n 1, 1) rfl) rfl rfl (aw_iald (pc' := 62) (dt_X11_damage 36 (61, .iaload, 1) rfl) rfl (sk_64 hS.wI) (vin_eq (sl_64 hS.wI) g10) (aw_iconst (pc' := 63) (v := 1) (dt_X11_damage 37 (62, .iconst 1, 1) rfl) (by decide) rfl (aw_icmp_ne (pc' := 66) (tgt := 70) (dt_X11_damage 38 (63, .if_icmp .ne 7, 3) rfl) (by decide) rfl ?_ ?_)))))))
            · intro q11
              have h := h.1 q11
              refine aw_iconst (pc' := 71) (v := 0) (dt_X11_damage 41 (70, .iconst 0, 1) rfl) (by decide) rfl (aw_iret (dt_X11_damage 42 (71, .ireturn, 1) rfl) rfl rfl ?_)
              exact h
            · intro q11
              have h := h.2 q11
              refine aw_iconst (pc' := 67) (v := 1) (dt_X11_damage 39 (66, .iconst 1, 1) rfl) (by decide) rfl (aw_goto (tgt := 71) (dt_X11_damage 40 (67, .goto 4, 3) rfl) (by decide) (aw_iret (dt_X11_damage 42 (71, .ireturn, 1) rfl) rfl rfl ?_))
              exact h
          · intro q8
            have h := h.2 q8
            obtain ⟨g12, h⟩ := h
            obtain ⟨g13, h⟩ := h
            refine aw_iconst (pc' := 51) (v := 1) (dt_X11_damage 29 (50, .iconst 1, 1) rfl) (by decide) rfl (aw_goto (tgt := 55) (dt_X11_damage 30 (51, .goto 4, 3) rfl) (by decide) (aw_iast (pc' := 56) (dt_X11_damage 32 (55, .iastore, 1) rfl) rfl (sk_64 hS) (by decide) (vin_eq (sl_64 hS) g12) (aw_aload_n (pc' := 57) (dt_X11_damage 33 (56, .aload_n 0, 1) rfl) rfl rfl (aw_getAs (pc' := 60) (dt_X11_damage 34 (57, .getfield 107, 3) rfl) fl_ReturnDeskModel_107 rfl rfl (sk_31 hS.wI) (sa_31_39 hS.wI) (aw_iload_n (pc' := 61) (dt_X11_damage 35 (60, .iload_n 1, 1) rfl) rfl rfl (aw_iald (pc' := 62) (dt_X11_damage 36 (61, .iaload, 1) rfl) rfl (sk_64 hS.wI) (vin_eq (sl_64 hS.wI) g13) (aw_iconst (pc' := 63) (v := 1) (dt_X11_damage 37 (62, .iconst 1, 1) rfl) (by decide) rfl (aw_icmp_ne (pc' := 66) (tgt := 70) (dt_X11_damage 38 (63, .if_icmp .ne 7, 3) rfl) (by decide) rfl ?_ ?_))))))))
            · intro q14
              have h := h.1 q14
              refine aw_iconst (pc' := 71) (v := 0) (dt_X11_damage 41 (70, .iconst 0, 1) rfl) (by decide) rfl (aw_iret (dt_X11_damage 42 (71, .ireturn, 1) rfl) rfl rfl ?_)
              exact h
            · intro q14
              have h := h.2 q14
              refine aw_iconst (pc' := 67) (v := 1) (dt_X11_damage 39 (66, .iconst 1, 1) rfl) (by decide) rfl (aw_goto (tgt := 71) (dt_X11_damage 40 (67, .goto 4, 3) rfl) (by decide) (aw_iret (dt_X11_damage 42 (71, .ireturn, 1) rfl) rfl rfl ?_))
              exact h
        · intro q6
          have h := h.2 q6
          refine aw_bipush (pc' := 30) (v := (-2)) (dt_X11_damage 16 (28, .bipush (-2), 2) rfl) (by decide) rfl (aw_iret (dt_X11_damage 17 (30, .ireturn, 1) rfl) rfl rfl ?_)
          exact h

theorem t_X11_carrier {E : ZE} {l : Launch} {d nc ns : Nat} {x1 : Int32} {x2 : Int32} {μ : ZM} {K : Option Value → ZM → Prop} (hS : Stat μ) (h :
  (x1 < 0 →
    K (some (.int (-1))) μ) ∧
  (¬ x1 < 0 →
    (4 < x1 →
      K (some (.int (-1))) μ) ∧
    (¬ 4 < x1 →
      (x2 < 0 →
        K (some (.int (-1))) μ) ∧
      (¬ x2 < 0 →
        (1 < x2 →
          K (some (.int (-1))) μ) ∧
        (¬ 1 < x2 →
          AW E l (d + 1) nc ns mX11_carrier 25 [some (.ref 31), some (.int x1), some (.int x2), some (.int 0), some (.int 0)] [] μ K))))) : AW E l (d + 1) nc ns mX11_carrier 0 [some (.ref 31), some (.int x1), some (.int x2), none, none] [] μ K := by
  refine aw_iload_n (pc' := 1) (dt_X11_carrier 0 (0, .iload_n 1, 1) rfl) rfl rfl (aw_iconst (pc' := 2) (v := 0) (dt_X11_carrier 1 (1, .iconst 0, 1) rfl) (by decide) rfl (aw_iconst (pc' := 3) (v := 4) (dt_X11_carrier 2 (2, .iconst 4, 1) rfl) (by decide) rfl (aw_inS (pc' := 6) (nc1 := 0) (ns1 := 0) (nc := nc) (ns := ns) (ls' := [some (.int x1), some (.int 0), some (.int 4)]) (y2 := mX11_in) (As := [.int x1, .int 0, .int 4]) (rest := []) (dt_X11_carrier 3 (3, .invokestatic 185, 3) rfl) ok_X11_in ln_ReturnDeskModel_185 sm_X11_in pr_X11_in rfl (Nat.le_of_ble_eq_true rfl) (Nat.le_of_ble_eq_true rfl) rfl rfl (aw_iload_n (pc' := 1) (dt_X11_in 0 (0, .iload_n 0, 1) rfl) rfl rfl (aw_iload_n (pc' := 2) (dt_X11_in 1 (1, .iload_n 1, 1) rfl) rfl rfl (aw_icmp_lt (pc' := 5) (tgt := 14) (dt_X11_in 2 (2, .if_icmp .lt 12, 3) rfl) (by decide) rfl ?_ ?_))))))
  · intro q1
    have h := h.1 q1
    refine aw_iconst (pc' := 15) (v := 0) (dt_X11_in 8 (14, .iconst 0, 1) rfl) (by decide) rfl (aw_iret (dt_X11_in 9 (15, .ireturn, 1) rfl) rfl rfl (aw_stk (st' := [.int 0]) rfl (aw_if_eq_T (pc' := 9) (tgt := 18) (dt_X11_carrier 4 (6, .ifCond .eq 12, 3) rfl) (by decide) rfl (by decide) (aw_iconst (pc' := 19) (v := (-1)) (dt_X11_carrier 10 (18, .iconst (-1), 1) rfl) (by decide) rfl (aw_iret (dt_X11_carrier 11 (19, .ireturn, 1) rfl) rfl rfl ?_)))))
    exact h
  · intro q1
    have h := h.2 q1
    refine aw_iload_n (pc' := 6) (dt_X11_in 3 (5, .iload_n 0, 1) rfl) rfl rfl (aw_iload_n (pc' := 7) (dt_X11_in 4 (6, .iload_n 2, 1) rfl) rfl rfl (aw_icmp_gt (pc' := 10) (tgt := 14) (dt_X11_in 5 (7, .if_icmp .gt 7, 3) rfl) (by decide) rfl ?_ ?_))
    · intro q2
      have h := h.1 q2
      refine aw_iconst (pc' := 15) (v := 0) (dt_X11_in 8 (14, .iconst 0, 1) rfl) (by decide) rfl (aw_iret (dt_X11_in 9 (15, .ireturn, 1) rfl) rfl rfl (aw_stk (st' := [.int 0]) rfl (aw_if_eq_T (pc' := 9) (tgt := 18) (dt_X11_carrier 4 (6, .ifCond .eq 12, 3) rfl) (by decide) rfl (by decide) (aw_iconst (pc' := 19) (v := (-1)) (dt_X11_carrier 10 (18, .iconst (-1), 1) rfl) (by decide) rfl (aw_iret (dt_X11_carrier 11 (19, .ireturn, 1) rfl) rfl rfl ?_)))))
      exact h
    · intro q2
      have h := h.2 q2
      refine aw_iconst (pc' := 11) (v := 1) (dt_X11_in 6 (10, .iconst 1, 1) rfl) (by decide) rfl (aw_goto (tgt := 15) (dt_X11_in 7 (11, .goto 4, 3) rfl) (by decide) (aw_iret (dt_X11_in 9 (15, .ireturn, 1) rfl) rfl rfl (aw_stk (st' := [.int 1]) rfl (aw_if_eq_F (pc' := 9) (tgt := 18) (dt_X11_carrier 4 (6, .ifCond .eq 12, 3) rfl) (by decide) rfl (by decide) (aw_iload_n (pc' := 10) (dt_X11_carrier 5 (9, .iload_n 2, 1) rfl) rfl rfl (aw_iconst (pc' := 11) (v := 0) (dt_X11_carrier 6 (10, .iconst 0, 1) rfl) (by decide) rfl (aw_iconst (pc' := 12) (v := 1) (dt_X11_carrier 7 (11, .iconst 1, 1) rfl) (by decide) rfl (aw_inS (pc' := 15) (nc1 := 0) (ns1 := 0) (nc := nc) (ns := ns) (ls' := [some (.int x2), some (.int 0), some (.int 1)]) (y2 := mX11_in) (As := [.int x2, .int 0, .int 1]) (rest := []) (dt_X11_carrier 8 (12, .invokestatic 185, 3) rfl) ok_X11_in ln_ReturnDeskModel_185 sm_X11_in pr_X11_in rfl (Nat.le_of_ble_eq_true rfl) (Nat.le_of_ble_eq_true rfl) rfl rfl (aw_iload_n (pc' := 1) (dt_X11_in 0 (0, .iload_n 0, 1) rfl) rfl rfl (aw_iload_n (pc' := 2) (dt_X11_in 1 (1, .iload_n 1, 1) rfl) rfl rfl (aw_icmp_lt (pc' := 5) (tgt := 14) (dt_X11_in 2 (2, .if_icmp .lt 12, 3) rfl) (by decide) rfl ?_ ?_)))))))))))
      · intro q3
        have h := h.1 q3
        refine aw_iconst (pc' := 15) (v := 0) (dt_X11_in 8 (14, .iconst 0, 1) rfl) (by decide) rfl (aw_iret (dt_X11_in 9 (15, .ireturn, 1) rfl) rfl rfl (aw_stk (st' := [.int 0]) rfl (aw_if_ne_F (pc' := 18) (tgt := 20) (dt_X11_carrier 9 (15, .ifCond .ne 5, 3) rfl) (by decide) rfl (by decide) (aw_iconst (pc' := 19) (v := (-1)) (dt_X11_carrier 10 (18, .iconst (-1), 1) rfl) (by decide) rfl (aw_iret (dt_X11_carrier 11 (19, .ireturn, 1) rfl) rfl rfl ?_)))))
        exact h
      · intro q3
        have h := h.2 q3
        refine aw_iload_n (pc' := 6) (dt_X11_in 3 (5, .iload_n 0, 1) rfl) rfl rfl (aw_iload_n (pc' := 7) (dt_X11_in 4 (6, .iload_n 2, 1) rfl) rfl rfl (aw_icmp_gt (pc' := 10) (tgt := 14) (dt_X11_in 5 (7, .if_icmp .gt 7, 3) rfl) (by decide) rfl ?_ ?_))
        · intro q4
          have h := h.1 q4
          refine aw_iconst (pc' := 15) (v := 0) (dt_X11_in 8 (14, .iconst 0, 1) rfl) (by decide) rfl (aw_iret (dt_X11_in 9 (15, .ireturn, 1) rfl) rfl rfl (aw_stk (st' := [.int 0]) rfl (aw_if_ne_F (pc' := 18) (tgt := 20) (dt_X11_carrier 9 (15, .ifCond .ne 5, 3) rfl) (by decide) rfl (by decide) (aw_iconst (pc' := 19) (v := (-1)) (dt_X11_carrier 10 (18, .iconst (-1), 1) rfl) (by decide) rfl (aw_iret (dt_X11_carrier 11 (19, .ireturn, 1) rfl) rfl rfl ?_)))))
          exact h
        · intro q4
          have h := h.2 q4
          refine aw_iconst (pc' := 11) (v := 1) (dt_X11_in 6 (10, .iconst 1, 1) rfl) (by decide) rfl (aw_goto (tgt := 15) (dt_X11_in 7 (11, .goto 4, 3) rfl) (by decide) (aw_iret (dt_X11_in 9 (15, .ireturn, 1) rfl) rfl rfl (aw_stk (st' := [.int 1]) rfl (aw_if_ne_T (pc' := 18) (tgt := 20) (dt_X11_carrier 9 (15, .ifCond .ne 5, 3) rfl) (by decide) rfl (by decide) (aw_iconst (pc' := 21) (v := 0) (dt_X11_carrier 12 (20, .iconst 0, 1) rfl) (by decide) rfl (aw_istore_n (pc' := 22) (ls' := [some (.ref 31), some (.int x1), some (.int x2), some (.int 0), none]) (dt_X11_carrier 13 (21, .istore_n 3, 1) rfl) (by decide) rfl rfl (aw_iconst (pc' := 23) (v := 0) (dt_X11_carrier 14 (22, .iconst 0, 1) rfl) (by decide) rfl (aw_istore (pc' := 25) (ls' := [some (.ref 31), some (.int x1), some (.int x2), some (.int 0), some (.int 0)]) (dt_X11_carrier 15 (23, .istore 4, 2) rfl) (by decide) rfl rfl ?_))))))))
          exact h

theorem t_X11_carrier_25 {E : ZE} {l : Launch} {d nc ns : Nat} {x1 : Int32} {x2 : Int32} {x3 : Int32} {x4 : Int32} {μ : ZM} {K : Option Value → ZM → Prop} (hS : Stat μ) (h :
  ((zI μ 31 22) ≤ x4 →
    K (some (.int x3)) μ) ∧
  (¬ (zI μ 31 22) ≤ x4 →
    (vp_in x4 300) ∧
    (¬ (zI μ 63 x4.toNatClampNeg) = x1 →
      AW E l (d + 1) nc ns mX11_carrier 25 [some (.ref 31), some (.int x1), some (.int x2), some (.int (x3 + 0)), some (.int (x4 + 1))] [] μ K) ∧
    ((zI μ 63 x4.toNatClampNeg) = x1 →
      (x2 = 0 →
        AW E l (d + 1) nc ns mX11_carrier 25 [some (.ref 31), some (.int x1), some (.int x2), some (.int (x3 + 1)), some (.int (x4 + 1))] [] μ K) ∧
      (¬ x2 = 0 →
        (vp_in x4 300) ∧
        (¬ (zI μ 64 x4.toNatClampNeg) = 1 →
          AW E l (d + 1) nc ns mX11_carrier 25 [some (.ref 31), some (.int x1), some (.int x2), some (.int (x3 + 0)), some (.int (x4 + 1))] [] μ K) ∧
        ((zI μ 64 x4.toNatClampNeg) = 1 →
          AW E l (d + 1) nc ns mX11_carrier 25 [some (.ref 31), some (.int x1), some (.int x2), some (.int (x3 + 1)), some (.int (x4 + 1))] [] μ K))))) : AW E l (d + 1) nc ns mX11_carrier 25 [some (.ref 31), some (.int x1), some (.int x2), some (.int x3), some (.int x4)] [] μ K := by
  refine aw_iload (pc' := 27) (dt_X11_carrier 16 (25, .iload 4, 2) rfl) rfl rfl (aw_aload_n (pc' := 28) (dt_X11_carrier 17 (27, .aload_n 0, 1) rfl) rfl rfl (aw_getI (pc' := 31) (dt_X11_carrier 18 (28, .getfield 215, 3) rfl) fl_ReturnDeskModel_215 rfl rfl (sk_31 hS) (aw_icmp_ge (pc' := 34) (tgt := 74) (dt_X11_carrier 19 (31, .if_icmp .ge 43, 3) rfl) (by decide) rfl ?_ ?_)))
  · intro q1
    have h := h.1 q1
    refine aw_iload_n (pc' := 75) (dt_X11_carrier 42 (74, .iload_n 3, 1) rfl) rfl rfl (aw_iret (dt_X11_carrier 43 (75, .ireturn, 1) rfl) rfl rfl ?_)
    exact h
  · intro q1
    have h := h.2 q1
    obtain ⟨g2, h⟩ := h
    refine aw_iload_n (pc' := 35) (dt_X11_carrier 20 (34, .iload_n 3, 1) rfl) rfl rfl (aw_aload_n (pc' := 36) (dt_X11_carrier 21 (35, .aload_n 0, 1) rfl) rfl rfl (aw_getAs (pc' := 39) (dt_X11_carrier 22 (36, .getfield 104, 3) rfl) fl_ReturnDeskModel_104 rfl rfl (sk_31 hS) (sa_31_38 hS) (aw_iload (pc' := 41) (dt_X11_carrier 23 (39, .iload 4, 2) rfl) rfl rfl (aw_iald (pc' := 42) (dt_X11_carrier 24 (41, .iaload, 1) rfl) rfl (sk_63 hS) (vin_eq (sl_63 hS) g2) (aw_iload_n (pc' := 43) (dt_X11_carrier 25 (42, .iload_n 1, 1) rfl) rfl rfl (aw_icmp_ne (pc' := 46) (tgt := 65) (dt_X11_carrier 26 (43, .if_icmp .ne 22, 3) rfl) (by decide) rfl ?_ ?_))))))
    · intro q3
      have h := h.1 q3
      refine aw_iconst (pc' := 66) (v := 0) (dt_X11_carrier 37 (65, .iconst 0, 1) rfl) (by decide) rfl (aw_iadd (pc' := 67) (dt_X11_carrier 38 (66, .iadd, 1) rfl) rfl (aw_istore_n (pc' := 68) (ls' := [some (.ref 31), some (.int x1), some (.int x2), some (.int (x3 + 0)), some (.int x4)]) (dt_X11_carrier 39 (67, .istore_n 3, 1) rfl) (by decide) rfl rfl (aw_iinc (pc' := 71) (v := 1) (ls' := [some (.ref 31), some (.int x1), some (.int x2), some (.int (x3 + 0)), some (.int (x4 + 1))]) (dt_X11_carrier 40 (68, .iinc 4 1, 3) rfl) rfl (by decide) (by decide) rfl rfl (aw_goto (tgt := 25) (dt_X11_carrier 41 (71, .goto (-46), 3) rfl) (by decide) ?_))))
      exact h
    · intro q3
      have h := h.2 q3
      refine aw_iload_n (pc' := 47) (dt_X11_carrier 27 (46, .iload_n 2, 1) rfl) rfl rfl (aw_if_eq (pc' := 50) (tgt := 61) (dt_X11_carrier 28 (47, .ifCond .eq 14, 3) rfl) (by decide) rfl ?_ ?_)
      · intro q4
        have h := h.1 q4
        refine aw_iconst (pc' := 62) (v := 1) (dt_X11_carrier 35 (61, .iconst 1, 1) rfl) (by decide) rfl (aw_goto (tgt := 66) (dt_X11_carrier 36 (62, .goto 4, 3) rfl) (by decide) (aw_iadd (pc' := 67) (dt_X11_carrier 38 (66, .iadd, 1) rfl) rfl (aw_istore_n (pc' := 68) (ls' := [some (.ref 31), some (.int x1), some (.int x2), some (.int (x3 + 1)), some (.int x4)]) (dt_X11_carrier 39 (67, .istore_n 3, 1) rfl) (by decide) rfl rfl (aw_iinc (pc' := 71) (v := 1) (ls' := [some (.ref 31), some (.int x1), some (.int x2), some (.int (x3 + 1)), some (.int (x4 + 1))]) (dt_X11_carrier 40 (68, .iinc 4 1, 3) rfl) rfl (by decide) (by decide) rfl rfl (aw_goto (tgt := 25) (dt_X11_carrier 41 (71, .goto (-46), 3) rfl) (by decide) ?_)))))
        exact h
      · intro q4
        have h := h.2 q4
        obtain ⟨g5, h⟩ := h
        refine aw_aload_n (pc' := 51) (dt_X11_carrier 29 (50, .aload_n 0, 1) rfl) rfl rfl (aw_getAs (pc' := 54) (dt_X11_carrier 30 (51, .getfield 107, 3) rfl) fl_ReturnDeskModel_107 rfl rfl (sk_31 hS) (sa_31_39 hS) (aw_iload (pc' := 56) (dt_X11_carrier 31 (54, .iload 4, 2) rfl) rfl rfl (aw_iald (pc' := 57) (dt_X11_carrier 32 (56, .iaload, 1) rfl) rfl (sk_64 hS) (vin_eq (sl_64 hS) g5) (aw_iconst (pc' := 58) (v := 1) (dt_X11_carrier 33 (57, .iconst 1, 1) rfl) (by decide) rfl (aw_icmp_ne (pc' := 61) (tgt := 65) (dt_X11_carrier 34 (58, .if_icmp .ne 7, 3) rfl) (by decide) rfl ?_ ?_)))))
        · intro q6
          have h := h.1 q6
          refine aw_iconst (pc' := 66) (v := 0) (dt_X11_carrier 37 (65, .iconst 0, 1) rfl) (by decide) rfl (aw_iadd (pc' := 67) (dt_X11_carrier 38 (66, .iadd, 1) rfl) rfl (aw_istore_n (pc' := 68) (ls' := [some (.ref 31), some (.int x1), some (.int x2), some (.int (x3 + 0)), some (.int x4)]) (dt_X11_carrier 39 (67, .istore_n 3, 1) rfl) (by decide) rfl rfl (aw_iinc (pc' := 71) (v := 1) (ls' := [some (.ref 31), some (.int x1), some (.int x2), some (.int (x3 + 0)), some (.int (x4 + 1))]) (dt_X11_carrier 40 (68, .iinc 4 1, 3) rfl) rfl (by decide) (by decide) rfl rfl (aw_goto (tgt := 25) (dt_X11_carrier 41 (71, .goto (-46), 3) rfl) (by decide) ?_))))
          exact h
        · intro q6
          have h := h.2 q6
          refine aw_iconst (pc' := 62) (v := 1) (dt_X11_carrier 35 (61, .iconst 1, 1) rfl) (by decide) rfl (aw_goto (tgt := 66) (dt_X11_carrier 36 (62, .goto 4, 3) rfl) (by decide) (aw_iadd (pc' := 67) (dt_X11_carrier 38 (66, .iadd, 1) rfl) rfl (aw_istore_n (pc' := 68) (ls' := [some (.ref 31), some (.int x1), some (.int x2), some (.int (x3 + 1)), some (.int x4)]) (dt_X11_carrier 39 (67, .istore_n 3, 1) rfl) (by decide) rfl rfl (aw_iinc (pc' := 71) (v := 1) (ls' := [some (.ref 31), some (.int x1), some (.int x2), some (.int (x3 + 1)), some (.int (x4 + 1))]) (dt_X11_carrier 40 (68, .iinc 4 1, 3) rfl) rfl (by decide) (by decide) rfl rfl (aw_goto (tgt := 25) (dt_X11_carrier 41 (71, .goto (-46), 3) rfl) (by decide) ?_)))))
          exact h

theorem t_X11_count {E : ZE} {l : Launch} {d nc ns : Nat} {x1 : Int32} {μ : ZM} {K : Option Value → ZM → Prop} (hS : Stat μ) (h :
  (x1 = 0 →
    K (some (.int (zI μ 31 3))) μ) ∧
  (x1 = 1 →
    K (some (.int (zI μ 31 18))) μ) ∧
  (x1 = 2 →
    K (some (.int (zI μ 31 22))) μ) ∧
  (x1 = 3 →
    K (some (.int (zI μ 31 60))) μ) ∧
  (x1 = 4 →
    K (some (.int (zI μ 31 74))) μ) ∧
  (x1 = 5 →
    K (some (.int (zI μ 31 2))) μ) ∧
  (x1 = 6 →
    AW E l d nc ns mX11_count 96 [some (.ref 31), none, some (.int 0), some (.int 0)] [] μ K) ∧
  (x1 = 7 →
    K (some (.int (zI μ 31 1))) μ) ∧
  (x1 = 8 →
    K (some (.int (zI μ 31 42))) μ) ∧
  (x1 = 9 →
    K (some (.int (zI μ 31 41))) μ) ∧
  (x1 = 10 →
    K (some (.int (zI μ 31 72))) μ) ∧
  (x1 = 11 →
    K (some (.int (zI μ 31 73))) μ) ∧
  ((¬ x1 = 0 ∧ ¬ x1 = 1 ∧ ¬ x1 = 2 ∧ ¬ x1 = 3 ∧ ¬ x1 = 4 ∧ ¬ x1 = 5 ∧ ¬ x1 = 6 ∧ ¬ x1 = 7 ∧ ¬ x1 = 8 ∧ ¬ x1 = 9 ∧ ¬ x1 = 10 ∧ ¬ x1 = 11) →
  K (some (.int (-1))) μ)) : AW E l d nc ns mX11_count 0 [some (.ref 31), some (.int x1), none, none] [] μ K := by
  refine aw_iconst (pc' := 1) (v := 0) (dt_X11_count 0 (0, .iconst 0, 1) rfl) (by decide) rfl (aw_istore_n (pc' := 2) (ls' := [some (.ref 31), some (.int x1), some (.int 0), none]) (dt_X11_count 1 (1, .istore_n 2, 1) rfl) (by decide) rfl rfl (aw_iload_n (pc' := 3) (dt_X11_count 2 (2, .iload_n 1, 1) rfl) rfl rfl ?_))
  by_cases q1 : x1 = 0
  · have h := h.1 q1
    refine aw_tableE (tgt := 64) (off := 61) (dt_X11_count 3 (3, .tableswitch 143 0 11 #[61, 66, 71, 76, 81, 86, 91, 118, 123, 128, 133, 138], 61) rfl) q1 (by decide) (by decide) (by decide) (by decide) ?_
    refine aw_aload_n (pc' := 65) (dt_X11_count 4 (64, .aload_n 0, 1) rfl) rfl rfl (aw_getI (pc' := 68) (dt_X11_count 5 (65, .getfield 192, 3) rfl) fl_ReturnDeskModel_192 rfl rfl (sk_31 hS) (aw_iret (dt_X11_count 6 (68, .ireturn, 1) rfl) rfl rfl ?_))
    exact h
  by_cases q2 : x1 = 1
  · have h := h.2.1 q2
    refine aw_tableE (tgt := 69) (off := 66) (dt_X11_count 3 (3, .tableswitch 143 0 11 #[61, 66, 71, 76, 81, 86, 91, 118, 123, 128, 133, 138], 61) rfl) q2 (by decide) (by decide) (by decide) (by decide) ?_
    refine aw_aload_n (pc' := 70) (dt_X11_count 7 (69, .aload_n 0, 1) rfl) rfl rfl (aw_getI (pc' := 73) (dt_X11_count 8 (70, .getfield 195, 3) rfl) fl_ReturnDeskModel_195 rfl rfl (sk_31 hS) (aw_iret (dt_X11_count 9 (73, .ireturn, 1) rfl) rfl rfl ?_))
    exact h
  by_cases q3 : x1 = 2
  · have h := h.2.2.1 q3
    refine aw_tableE (tgt := 74) (off := 71) (dt_X11_count 3 (3, .tableswitch 143 0 11 #[61, 66, 71, 76, 81, 86, 91, 118, 123, 128, 133, 138], 61) rfl) q3 (by decide) (by decide) (by decide) (by decide) ?_
    refine aw_aload_n (pc' := 75) (dt_X11_count 10 (74, .aload_n 0, 1) rfl) rfl rfl (aw_getI (pc' := 78) (dt_X11_count 11 (75, .getfield 215, 3) rfl) fl_ReturnDeskModel_215 rfl rfl (sk_31 hS) (aw_iret (dt_X11_count 12 (78, .ireturn, 1) rfl) rfl rfl ?_))
    exact h
  by_cases q4 : x1 = 3
  · have h := h.2.2.2.1 q4
    refine aw_tableE (tgt := 79) (off := 76) (dt_X11_count 3 (3, .tableswitch 143 0 11 #[61, 66, 71, 76, 81, 86, 91, 118, 123, 128, 133, 138], 61) rfl) q4 (by decide) (by decide) (by decide) (by decide) ?_
    refine aw_aload_n (pc' := 80) (dt_X11_count 13 (79, .aload_n 0, 1) rfl) rfl rfl (aw_getI (pc' := 83) (dt_X11_count 14 (80, .getfield 384, 3) rfl) fl_ReturnDeskModel_384 rfl rfl (sk_31 hS) (aw_iret (dt_X11_count 15 (83, .ireturn, 1) rfl) rfl rfl ?_))
    exact h
  by_cases q5 : x1 = 4
  · have h := h.2.2.2.2.1 q5
    refine aw_tableE (tgt := 84) (off := 81) (dt_X11_count 3 (3, .tableswitch 143 0 11 #[61, 66, 71, 76, 81, 86, 91, 118, 123, 128, 133, 138], 61) rfl) q5 (by decide) (by decide) (by decide) (by decide) ?_
    refine aw_aload_n (pc' := 85) (dt_X11_count 16 (84, .aload_n 0, 1) rfl) rfl rfl (aw_getI (pc' := 88) (dt_X11_count 17 (85, .getfield 221, 3) rfl) fl_ReturnDeskModel_221 rfl rfl (sk_31 hS) (aw_iret (dt_X11_count 18 (88, .ireturn, 1) rfl) rfl rfl ?_))
    exact h
  by_cases q6 : x1 = 5
  · have h := h.2.2.2.2.2.1 q6
    refine aw_tableE (tgt := 89) (off := 86) (dt_X11_count 3 (3, .tableswitch 143 0 11 #[61, 66, 71, 76, 81, 86, 91, 118, 123, 128, 133, 138], 61) rfl) q6 (by decide) (by decide) (by decide) (by decide) ?_
    refine aw_aload_n (pc' := 90) (dt_X11_count 19 (89, .aload_n 0, 1) rfl) rfl rfl (aw_getI (pc' := 93) (dt_X11_count 20 (90, .getfield 212, 3) rfl) fl_ReturnDeskModel_212 rfl rfl (sk_31 hS) (aw_iret (dt_X11_count 21 (93, .ireturn, 1) rfl) rfl rfl ?_))
    exact h
  by_cases q7 : x1 = 6
  · have h := h.2.2.2.2.2.2.1 q7
    refine aw_tableE (tgt := 94) (off := 91) (dt_X11_count 3 (3, .tableswitch 143 0 11 #[61, 66, 71, 76, 81, 86, 91, 118, 123, 128, 133, 138], 61) rfl) q7 (by decide) (by decide) (by decide) (by decide) ?_
    refine aw_iconst (pc' := 95) (v := 0) (dt_X11_count 22 (94, .iconst 0, 1) rfl) (by decide) rfl (aw_istore_n (pc' := 96) (ls' := [some (.ref 31), some (.int x1), some (.int 0), some (.int 0)]) (dt_X11_count 23 (95, .istore_n 3, 1) rfl) (by decide) rfl rfl (aw_drop (ls' := [some (.ref 31), none, some (.int 0), some (.int 0)]) ⟨rfl, rfl, rfl, trivial⟩ ?_))
    exact h
  by_cases q8 : x1 = 7
  · have h := h.2.2.2.2.2.2.2.1 q8
    refine aw_tableE (tgt := 121) (off := 118) (dt_X11_count 3 (3, .tableswitch 143 0 11 #[61, 66, 71, 76, 81, 86, 91, 118, 123, 128, 133, 138], 61) rfl) q8 (by decide) (by decide) (by decide) (by decide) ?_
    refine aw_aload_n (pc' := 122) (dt_X11_count 39 (121, .aload_n 0, 1) rfl) rfl rfl (aw_getI (pc' := 125) (dt_X11_count 40 (122, .getfield 189, 3) rfl) fl_ReturnDeskModel_189 rfl rfl (sk_31 hS) (aw_iret (dt_X11_count 41 (125, .ireturn, 1) rfl) rfl rfl ?_))
    exact h
  by_cases q9 : x1 = 8
  · have h := h.2.2.2.2.2.2.2.2.1 q9
    refine aw_tableE (tgt := 126) (off := 123) (dt_X11_count 3 (3, .tableswitch 143 0 11 #[61, 66, 71, 76, 81, 86, 91, 118, 123, 128, 133, 138], 61) rfl) q9 (by decide) (by decide) (by decide) (by decide) ?_
    refine aw_aload_n (pc' := 127) (dt_X11_count 42 (126, .aload_n 0, 1) rfl) rfl rfl (aw_getI (pc' := 130) (dt_X11_count 43 (127, .getfield 341, 3) rfl) fl_ReturnDeskModel_341 rfl rfl (sk_31 hS) (aw_iret (dt_X11_count 44 (130, .ireturn, 1) rfl) rfl rfl ?_))
    exact h
  by_cases q10 : x1 = 9
  · have h := h.2.2.2.2.2.2.2.2.2.1 q10
    refine aw_tableE (tgt := 131) (off := 128) (dt_X11_count 3 (3, .tableswitch 143 0 11 #[61, 66, 71, 76, 81, 86, 91, 118, 123, 128, 133, 138], 61) rfl) q10 (by decide) (by decide) (by decide) (by decide) ?_
    refine aw_aload_n (pc' := 132) (dt_X11_count 45 (131, .aload_n 0, 1) rfl) rfl rfl (aw_getI (pc' := 135) (dt_X11_count 46 (132, .getfield 239, 3) rfl) fl_ReturnDeskModel_239 rfl rfl (sk_31 hS) (aw_iret (dt_X11_count 47 (135, .ireturn, 1) rfl) rfl rfl ?_))
    exact h
  by_cases q11 : x1 = 10
  · have h := h.2.2.2.2.2.2.2.2.2.2.1 q11
    refine aw_tableE (tgt := 136) (off := 133) (dt_X11_count 3 (3, .tableswitch 143 0 11 #[61, 66, 71, 76, 81, 86, 91, 118, 123, 128, 133, 138], 61) rfl) q11 (by decide) (by decide) (by decide) (by decide) ?_
    refine aw_aload_n (pc' := 137) (dt_X11_count 48 (136, .aload_n 0, 1) rfl) rfl rfl (aw_getI (pc' := 140) (dt_X11_count 49 (137, .getfield 416, 3) rfl) fl_ReturnDeskModel_416 rfl rfl (sk_31 hS) (aw_iret (dt_X11_count 50 (140, .ireturn, 1) rfl) rfl rfl ?_))
    exact h
  by_cases q12 : x1 = 11
  · have h := h.2.2.2.2.2.2.2.2.2.2.2.1 q12
    refine aw_tableE (tgt := 141) (off := 138) (dt_X11_count 3 (3, .tableswitch 143 0 11 #[61, 66, 71, 76, 81, 86, 91, 118, 123, 128, 133, 138], 61) rfl) q12 (by decide) (by decide) (by decide) (by decide) ?_
    refine aw_aload_n (pc' := 142) (dt_X11_count 51 (141, .aload_n 0, 1) rfl) rfl rfl (aw_getI (pc' := 145) (dt_X11_count 52 (142, .getfield 410, 3) rfl) fl_ReturnDeskModel_410 rfl rfl (sk_31 hS) (aw_iret (dt_X11_count 53 (145, .ireturn, 1) rfl) rfl rfl ?_))
    exact h
  have h := h.2.2.2.2.2.2.2.2.2.2.2.2 ⟨q1, q2, q3, q4, q5, q6, q7, q8, q9, q10, q11, q12⟩
  refine aw_tableOut (tgt := 146) (dt_X11_count 3 (3, .tableswitch 143 0 11 #[61, 66, 71, 76, 81, 86, 91, 118, 123, 128, 133, 138], 61) rfl) (tab_out (lo := 0) (n := 12) (by decide) (by decide) (by decide) (by
      intro k hk
      match k, hk with
      | 0, _ => exact q1
      | 1, _ => exact q2
      | 2, _ => exact q3
      | 3, _ => exact q4
      | 4, _ => exact q5
      | 5, _ => exact q6
      | 6, _ => exact q7
      | 7, _ => exact q8
      | 8, _ => exact q9
      | 9, _ => exact q10
      | 10, _ => exact q11
      | 11, _ => exact q12
      | k + 12, hk => omega)) (by decide) ?_
  refine aw_iconst (pc' := 147) (v := (-1)) (dt_X11_count 54 (146, .iconst (-1), 1) rfl) (by decide) rfl (aw_iret (dt_X11_count 55 (147, .ireturn, 1) rfl) rfl rfl ?_)
  exact h

theorem t_X11_count_96 {E : ZE} {l : Launch} {d nc ns : Nat} {x2 : Int32} {x3 : Int32} {μ : ZM} {K : Option Value → ZM → Prop} (hS : Stat μ) (h :
  ((zI μ 31 74) ≤ x3 →
    K (some (.int x2)) μ) ∧
  (¬ (zI μ 31 74) ≤ x3 →
    (vp_in x3 200) ∧
    AW E l d nc ns mX11_count 96 [some (.ref 31), none, some (.int (x2 + (zI μ 85 x3.toNatClampNeg))), some (.int (x3 + 1))] [] μ K)) : AW E l d nc ns mX11_count 96 [some (.ref 31), none, some (.int x2), some (.int x3)] [] μ K := by
  refine aw_iload_n (pc' := 97) (dt_X11_count 24 (96, .iload_n 3, 1) rfl) rfl rfl (aw_aload_n (pc' := 98) (dt_X11_count 25 (97, .aload_n 0, 1) rfl) rfl rfl (aw_getI (pc' := 101) (dt_X11_count 26 (98, .getfield 221, 3) rfl) fl_ReturnDeskModel_221 rfl rfl (sk_31 hS) (aw_icmp_ge (pc' := 104) (tgt := 119) (dt_X11_count 27 (101, .if_icmp .ge 18, 3) rfl) (by decide) rfl ?_ ?_)))
  · intro q1
    have h := h.1 q1
    refine aw_iload_n (pc' := 120) (dt_X11_count 37 (119, .iload_n 2, 1) rfl) rfl rfl (aw_iret (dt_X11_count 38 (120, .ireturn, 1) rfl) rfl rfl ?_)
    exact h
  · intro q1
    have h := h.2 q1
    obtain ⟨g2, h⟩ := h
    refine aw_iload_n (pc' := 105) (dt_X11_count 28 (104, .iload_n 2, 1) rfl) rfl rfl (aw_aload_n (pc' := 106) (dt_X11_count 29 (105, .aload_n 0, 1) rfl) rfl rfl (aw_getAs (pc' := 109) (dt_X11_count 30 (106, .getfield 171, 3) rfl) fl_ReturnDeskModel_171 rfl rfl (sk_31 hS) (sa_31_75 hS) (aw_iload_n (pc' := 110) (dt_X11_count 31 (109, .iload_n 3, 1) rfl) rfl rfl (aw_iald (pc' := 111) (dt_X11_count 32 (110, .iaload, 1) rfl) rfl (sk_85 hS) (vin_eq (sl_85 hS) g2) (aw_iadd (pc' := 112) (dt_X11_count 33 (111, .iadd, 1) rfl) rfl (aw_istore_n (pc' := 113) (ls' := [some (.ref 31), none, some (.int (x2 + (zI μ 85 x3.toNatClampNeg))), some (.int x3)]) (dt_X11_count 34 (112, .istore_n 2, 1) rfl) (by decide) rfl rfl (aw_iinc (pc' := 116) (v := 1) (ls' := [some (.ref 31), none, some (.int (x2 + (zI μ 85 x3.toNatClampNeg))), some (.int (x3 + 1))]) (dt_X11_count 35 (113, .iinc 3 1, 3) rfl) rfl (by decide) (by decide) rfl rfl (aw_goto (tgt := 96) (dt_X11_count 36 (116, .goto (-20), 3) rfl) (by decide) ?_))))))))
    exact h

