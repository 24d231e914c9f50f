section RowsB
variable {E : ZE} {l : Launch} {d nc ns nc1 ns1 : Nat} {y y2 : MTH} {pc pc' tgt : Nat} {ls ls' : List (Option Value)} {st rest As : List Value} {μ : ZM} {K K1 : Option Value → ZM → Prop}
theorem aw_callVB {idx a ci : Nat} (hd : decode y.2.1 pc = .ok (.invokevirtual idx, 3)) (hy : zMok y2) (hlink : Cond.methodLink y.1.cls idx y2.1 ∈ tables_1) (hinst : Cond.instanceMethod y2.1 ∈ tables_1) (hsel : Cond.selects y2.1.cls y2.1 y2.1 ∈ lw_tbl) (hpar : (parseMethodDescriptor y2.1.desc).map (fun d => d.parameters.length) = some As.length) (hcls : (ci < 12 ∧ (clC ci).1 = y2.1.cls) ∨ (ci = 21 ∧ y2.1.cls = "java/lang/String"))
    (hst : As.reverse ++ .ref a :: rest = st) (hlen : (zaf (.ref a :: As)).length ≤ y2.2.2.1) (hrm : (rest.map fun v => v.category).sum ≤ 16) (hp : pc + 3 = pc') (hk : zK μ a = ci) (h : AW E l d nc1 ns1 y2 0 (zargs y2.2.2.1 (.ref a :: As)) [] μ K1)
    (kk : ∀ v μ1, K1 v μ1 → AW E l (d + 1) nc ns y pc' ls (v.toList ++ rest) μ1 K) : AW E l (d + 1) (nc + nc1) (ns + ns1) y pc ls st μ K := by
  have := aw_callV (nc := nc) (ns := ns) hd hy hlink hinst hsel hpar hcls hst hlen hrm hp hk h kk
  rw [Nat.add_comm nc, Nat.add_comm ns]
  exact this
end RowsB
theorem t_L_law_18 {E : ZE} {l : Launch} {d nc ns : Nat} {x3 : Int32} {μ : ZM} {K : Option Value → ZM → Prop} (hS : Stat μ) (h :
  (((nI (zL μ 0)) - 7) < x3 →
    K (some (.int 1)) μ) ∧
  (¬ ((nI (zL μ 0)) - 7) < x3 →
    (vp_in x3 (zL μ 0)) ∧
    (((zI μ 0 x3.toNatClampNeg) &&& 63) = 0 →
      (vp_in (x3 + 1) (zL μ 0)) ∧
      (vp_in (x3 + 2) (zL μ 0)) ∧
      (vp_in (x3 + 3) (zL μ 0)) ∧
      AW E l (d + 299) 4 460 mX10_model 0 (zargs 4 [.ref 11, .int (zI μ 0 (x3 + 1).toNatClampNeg), .int (zI μ 0 (x3 + 2).toNatClampNeg), .int (zI μ 0 (x3 + 3).toNatClampNeg)]) [] μ (fun v μ7 => ∃ r9 : Int32, v = some (.int r9) ∧ Stat μ7 ∧ 
        (vp_in (x3 + 1) (zL μ7 0)) ∧
        (vp_in (x3 + 2) (zL μ7 0)) ∧
        (vp_in (x3 + 3) (zL μ7 0)) ∧
        AW E l (d + 299) 0 0 mX11_model 0 (zargs 4 [.ref 31, .int (zI μ7 0 (x3 + 1).toNatClampNeg), .int (zI μ7 0 (x3 + 2).toNatClampNeg), .int (zI μ7 0 (x3 + 3).toNatClampNeg)]) [] μ7 (fun v μ13 => ∃ r15 : Int32, v = some (.int r15) ∧ Stat μ13 ∧ 
          (r9 = r15 →
            AW E l (d + 300) nc ns mL_law 18 [some (.ref 0), some (.ref 11), some (.ref 31), some (.int (x3 + 7))] [] μ13 K) ∧
          (¬ r9 = r15 →
            K (some (.int 0)) μ13)))) ∧
    (((zI μ 0 x3.toNatClampNeg) &&& 63) = 1 →
      (vp_in (x3 + 1) (zL μ 0)) ∧
      (vp_in (x3 + 2) (zL μ 0)) ∧
      (vp_in (x3 + 3) (zL μ 0)) ∧
      AW E l (d + 299) 4 460 mX10_price 0 (zargs 5 [.ref 11, .int (zI μ 0 (x3 + 1).toNatClampNeg), .int (zI μ 0 (x3 + 2).toNatClampNeg), .int (zI μ 0 (x3 + 3).toNatClampNeg)]) [] μ (fun v μ21 => ∃ r23 : Int32, v = some (.int r23) ∧ Stat μ21 ∧ 
        (vp_in (x3 + 1) (zL μ21 0)) ∧
        (vp_in (x3 + 2) (zL μ21 0)) ∧
        (vp_in (x3 + 3) (zL μ21 0)) ∧
        AW E l (d + 299) 0 0 mX11_price 0 (zargs 4 [.ref 31, .int (zI μ21 0 (x3 + 1).toNatClampNeg), .int (zI μ21 0 (x3 + 2).toNatClampNeg), .int (zI μ21 0 (x3 + 3).toNatClampNeg)]) [] μ21 (fun v μ27 => ∃ r29 : Int32, v = some (.int r29) ∧ Stat μ27 ∧ 
          (r23 = r29 →
            AW E l (d + 300) nc ns mL_law 18 [some (.ref 0), some (.ref 11), some (.ref 31), some (.int (x3 + 7))] [] μ27 K) ∧
          (¬ r23 = r29 →
            K (some (.int 0)) μ27)))) ∧
    (((zI μ 0 x3.toNatClampNeg) &&& 63) = 2 →
      (vp_in (x3 + 1) (zL μ 0)) ∧
      (vp_in (x3 + 2) (zL μ 0)) ∧
      AW E l (d + 299) 4 460 mX10_priceOn 0 (zargs 4 [.ref 11, .int (zI μ 0 (x3 + 1).toNatClampNeg), .int (zI μ 0 (x3 + 2).toNatClampNeg)]) [] μ (fun v μ34 => ∃ r36 : Int32, v = some (.int r36) ∧ Stat μ34 ∧ 
        (vp_in (x3 + 1) (zL μ34 0)) ∧
        (vp_in (x3 + 2) (zL μ34 0)) ∧
        AW E l (d + 299) 0 0 mX11_priceOn 0 (zargs 3 [.ref 31, .int (zI μ34 0 (x3 + 1).toNatClampNeg), .int (zI μ34 0 (x3 + 2).toNatClampNeg)]) [] μ34 (fun v μ39 => ∃ r41 : Int32, v = some (.int r41) ∧ Stat μ39 ∧ 
          (r36 = r41 →
            AW E l (d + 300) nc ns mL_law 18 [some (.ref 0), some (.ref 11), some (.ref 31), some (.int (x3 + 7))] [] μ39 K) ∧
          (¬ r36 = r41 →
            K (some (.int 0)) μ39)))) ∧
    (((zI μ 0 x3.toNatClampNeg) &&& 63) = 3 →
      (vp_in (x3 + 1) (zL μ 0)) ∧
      (vp_in (x3 + 2) (zL μ 0)) ∧
      (vp_in (x3 + 3) (zL μ 0)) ∧
      AW E l (d + 299) 4 460 mX10_lot 0 (zargs 5 [.ref 11, .int (zI μ 0 (x3 + 1).toNatClampNeg), .int (zI μ 0 (x3 + 2).toNatClampNeg), .int (zI μ 0 (x3 + 3).toNatClampNeg)]) [] μ (fun v μ47 => ∃ r49 : Int32, v = some (.int r49) ∧ Stat μ47 ∧ 
        (vp_in (x3 + 1) (zL μ47 0)) ∧
        (vp_in (x3 + 2) (zL μ47 0)) ∧
        (vp_in (x3 + 3) (zL μ47 0)) ∧
        AW E l (d + 299) 0 0 mX11_lot 0 (zargs 4 [.ref 31, .int (zI μ47 0 (x3 + 1).toNatClampNeg), .int (zI μ47 0 (x3 + 2).toNatClampNeg), .int (zI μ47 0 (x3 + 3).toNatClampNeg)]) [] μ47 (fun v μ53 => ∃ r55 : Int32, v = some (.int r55) ∧ Stat μ53 ∧ 
          (r49 = r55 →
            AW E l (d + 300) nc ns mL_law 18 [some (.ref 0), some (.ref 11), some (.ref 31), some (.int (x3 + 7))] [] μ53 K) ∧
          (¬ r49 = r55 →
            K (some (.int 0)) μ53)))) ∧
    (((zI μ 0 x3.toNatClampNeg) &&& 63) = 4 →
      (vp_in (x3 + 1) (zL μ 0)) ∧
      AW E l (d + 299) 4 460 mX10_hours 0 (zargs 2 [.ref 11, .int (zI μ 0 (x3 + 1).toNatClampNeg)]) [] μ (fun v μ59 => ∃ r61 : Int32, v = some (.int r61) ∧ Stat μ59 ∧ 
        (vp_in (x3 + 1) (zL μ59 0)) ∧
        AW E l (d + 299) 0 0 mX11_hours 0 (zargs 2 [.ref 31, .int (zI μ59 0 (x3 + 1).toNatClampNeg)]) [] μ59 (fun v μ63 => ∃ r65 : Int32, v = some (.int r65) ∧ Stat μ63 ∧ 
          (r61 = r65 →
            AW E l (d + 300) nc ns mL_law 18 [some (.ref 0), some (.ref 11), some (.ref 31), some (.int (x3 + 7))] [] μ63 K) ∧
          (¬ r61 = r65 →
            K (some (.int 0)) μ63)))) ∧
    (((zI μ 0 x3.toNatClampNeg) &&& 63) = 5 →
      (vp_in (x3 + 1) (zL μ 0)) ∧
      AW E l (d + 299) 4 460 mX10_till 0 (zargs 2 [.ref 11, .int (zI μ 0 (x3 + 1).toNatClampNeg)]) [] μ (fun v μ69 => ∃ r71 : Int32, v = some (.int r71) ∧ Stat μ69 ∧ 
        (vp_in (x3 + 1) (zL μ69 0)) ∧
        AW E l (d + 299) 0 0 mX11_till 0 (zargs 2 [.ref 31, .int (zI μ69 0 (x3 + 1).toNatClampNeg)]) [] μ69 (fun v μ73 => ∃ r75 : Int32, v = some (.int r75) ∧ Stat μ73 ∧ 
          (r71 = r75 →
            AW E l (d + 300) nc ns mL_law 18 [some (.ref 0), some (.ref 11), some (.ref 31), some (.int (x3 + 7))] [] μ73 K) ∧
          (¬ r71 = r75 →
            K (some (.int 0)) μ73)))) ∧
    (((zI μ 0 x3.toNatClampNeg) &&& 63) = 6 →
      (vp_in (x3 + 1) (zL μ 0)) ∧
      (vp_in (x3 + 2) (zL μ 0)) ∧
      (vp_in (x3 + 3) (zL μ 0)) ∧
      (vp_in (x3 + 4) (zL μ 0)) ∧
      (vp_in (x3 + 5) (zL μ 0)) ∧
      AW E l (d + 299) 4 460 mX10_sell 0 (zargs 8 [.ref 11, .int (zI μ 0 (x3 + 1).toNatClampNeg), .int (zI μ 0 (x3 + 2).toNatClampNeg), .int (zI μ 0 (x3 + 3).toNatClampNeg), .int (zI μ 0 (x3 + 4).toNatClampNeg), .int (zI μ 0 (x3 + 5).toNatClampNeg)]) [] μ (fun v μ83 => ∃ r85 : Int32, v = some (.int r85) ∧ Stat μ83 ∧ 
        (vp_in (x3 + 1) (zL μ83 0)) ∧
        (vp_in (x3 + 2) (zL μ83 0)) ∧
        (vp_in (x3 + 3) (zL μ83 0)) ∧
        (vp_in (x3 + 4) (zL μ83 0)) ∧
        (vp_in (x3 + 5) (zL μ83 0)) ∧
        AW E l (d + 299) 0 0 mX11_sell 0 (zargs 9 [.ref 31, .int (zI μ83 0 (x3 + 1).toNatClampNeg), .int (zI μ83 0 (x3 + 2).toNatClampNeg), .int (zI μ83 0 (x3 + 3).toNatClampNeg), .int (zI μ83 0 (x3 + 4).toNatClampNeg), .int (zI μ83 0 (x3 + 5).toNatClampNeg)]) [] μ83 (fun v μ91 => ∃ r93 : Int32, v = some (.int r93) ∧ Stat μ91 ∧ 
          (r85 = r93 →
            AW E l (d + 300) nc ns mL_law 18 [some (.ref 0), some (.ref 11), some (.ref 31), some (.int (x3 + 7))] [] μ91 K) ∧
          (¬ r85 = r93 →
            K (some (.int 0)) μ91)))) ∧
    (((zI μ 0 x3.toNatClampNeg) &&& 63) = 7 →
      (vp_in (x3 + 1) (zL μ 0)) ∧
      (vp_in (x3 + 2) (zL μ 0)) ∧
      AW E l (d + 299) 4 460 mX10_gift 0 (zargs 5 [.ref 11, .int (zI μ 0 (x3 + 1).toNatClampNeg), .int (zI μ 0 (x3 + 2).toNatClampNeg)]) [] μ (fun v μ98 => ∃ r100 : Int32, v = some (.int r100) ∧ Stat μ98 ∧ 
        (vp_in (x3 + 1) (zL μ98 0)) ∧
        (vp_in (x3 + 2) (zL μ98 0)) ∧
        AW E l (d + 299) 0 0 mX11_gift 0 (zargs 4 [.ref 31, .int (zI μ98 0 (x3 + 1).toNatClampNeg), .int (zI μ98 0 (x3 + 2).toNatClampNeg)]) [] μ98 (fun v μ103 => ∃ r105 : Int32, v = some (.int r105) ∧ Stat μ103 ∧ 
          (r100 = r105 →
            AW E l (d + 300) nc ns mL_law 18 [some (.ref 0), some (.ref 11), some (.ref 31), some (.int (x3 + 7))] [] μ103 K) ∧
          (¬ r100 = r105 →
            K (some (.int 0)) μ103)))) ∧
    (((zI μ 0 x3.toNatClampNeg) &&& 63) = 8 →
      (vp_in (x3 + 1) (zL μ 0)) ∧
      (vp_in (x3 + 2) (zL μ 0)) ∧
      AW E l (d + 299) 4 460 mX10_ofSale 0 (zargs 4 [.ref 11, .int (zI μ 0 (x3 + 1).toNatClampNeg), .int (zI μ 0 (x3 + 2).toNatClampNeg)]) [] μ (fun v μ110 => ∃ r112 : Int32, v = some (.int r112) ∧ Stat μ110 ∧ 
        (vp_in (x3 + 1) (zL μ110 0)) ∧
        (vp_in (x3 + 2) (zL μ110 0)) ∧
        AW E l (d + 299) 0 0 mX11_ofSale 0 (zargs 3 [.ref 31, .int (zI μ110 0 (x3 + 1).toNatClampNeg), .int (zI μ110 0 (x3 + 2).toNatClampNeg)]) [] μ110 (fun v μ115 => ∃ r117 : Int32, v = some (.int r117) ∧ Stat μ115 ∧ 
          (r112 = r117 →
            AW E l (d + 300) nc ns mL_law 18 [some (.ref 0), some (.ref 11), some (.ref 31), some (.int (x3 + 7))] [] μ115 K) ∧
          (¬ r112 = r117 →
            K (some (.int 0)) μ115)))) ∧
    (((zI μ 0 x3.toNatClampNeg) &&& 63) = 9 →
      (vp_in (x3 + 1) (zL μ 0)) ∧
      (vp_in (x3 + 2) (zL μ 0)) ∧
      (vp_in (x3 + 3) (zL μ 0)) ∧
      (vp_in (x3 + 4) (zL μ 0)) ∧
      AW E l (d + 299) 4 460 mX10_join 0 (zargs 10 [.ref 11, .int (zI μ 0 (x3 + 1).toNatClampNeg), .int (zI μ 0 (x3 + 2).toNatClampNeg), .int (zI μ 0 (x3 + 3).toNatClampNeg), .int (zI μ 0 (x3 + 4).toNatClampNeg)]) [] μ (fun v μ124 => ∃ r126 : Int32, v = some (.int r126) ∧ Stat μ124 ∧ 
        (vp_in (x3 + 1) (zL μ124 0)) ∧
        (vp_in (x3 + 2) (zL μ124 0)) ∧
        (vp_in (x3 + 3) (zL μ124 0)) ∧
        (vp_in (x3 + 4) (zL μ124 0)) ∧
        AW E l (d + 299) 0 0 mX11_join 0 (zargs 8 [.ref 31, .int (zI μ124 0 (x3 + 1).toNatClampNeg), .int (zI μ124 0 (x3 + 2).toNatClampNeg), .int (zI μ124 0 (x3 + 3).toNatClampNeg), .int (zI μ124 0 (x3 + 4).toNatClampNeg)]) [] μ124 (fun v μ131 => ∃ r133 : Int32, v = some (.int r133) ∧ Stat μ131 ∧ 
          (r126 = r133 →
            AW E l (d + 300) nc ns mL_law 18 [some (.ref 0), some (.ref 11), some (.ref 31), some (.int (x3 + 7))] [] μ131 K) ∧
          (¬ r126 = r133 →
            K (some (.int 0)) μ131)))) ∧
    (((zI μ 0 x3.toNatClampNeg) &&& 63) = 10 →
      (vp_in (x3 + 1) (zL μ 0)) ∧
      AW E l (d + 299) 4 460 mX10_keep 0 (zargs 3 [.ref 11, .int (zI μ 0 (x3 + 1).toNatClampNeg)]) [] μ (fun v μ137 => ∃ r139 : Int32, v = some (.int r139) ∧ Stat μ137 ∧ 
        (vp_in (x3 + 1) (zL μ137 0)) ∧
        AW E l (d + 299) 0 0 mX11_keep 0 (zargs 2 [.ref 31, .int (zI μ137 0 (x3 + 1).toNatClampNeg)]) [] μ137 (fun v μ141 => ∃ r143 : Int32, v = some (.int r143) ∧ Stat μ141 ∧ 
          (r139 = r143 →
            AW E l (d + 300) nc ns mL_law 18 [some (.ref 0), some (.ref 11), some (.ref 31), some (.int (x3 + 7))] [] μ141 K) ∧
          (¬ r139 = r143 →
            K (some (.int 0)) μ141)))) ∧
    (((zI μ 0 x3.toNatClampNeg) &&& 63) = 11 →
      (vp_in (x3 + 1) (zL μ 0)) ∧
      (vp_in (x3 + 2) (zL μ 0)) ∧
      (vp_in (x3 + 3) (zL μ 0)) ∧
      (vp_in (x3 + 4) (zL μ 0)) ∧
      (vp_in (x3 + 5) (zL μ 0)) ∧
      AW E l (d + 299) 4 460 mX10_feed 0 (zargs 6 [.ref 11, .int (zI μ 0 (x3 + 1).toNatClampNeg), .int (zI μ 0 (x3 + 2).toNatClampNeg), .int (zI μ 0 (x3 + 3).toNatClampNeg), .int (zI μ 0 (x3 + 4).toNatClampNeg), .int (zI μ 0 (x3 + 5).toNatClampNeg)]) [] μ (fun v μ151 => ∃ r153 : Int32, v = some (.int r153) ∧ Stat μ151 ∧ 
        (vp_in (x3 + 1) (zL μ151 0)) ∧
        (vp_in (x3 + 2) (zL μ151 0)) ∧
        (vp_in (x3 + 3) (zL μ151 0)) ∧
        (vp_in (x3 + 4) (zL μ151 0)) ∧
        (vp_in (x3 + 5) (zL μ151 0)) ∧
        AW E l (d + 299) 0 0 mX11_feed 0 (zargs 6 [.ref 31, .int (zI μ151 0 (x3 + 1).toNatClampNeg), .int (zI μ151 0 (x3 + 2).toNatClampNeg), .int (zI μ151 0 (x3 + 3).toNatClampNeg), .int (zI μ151 0 (x3 + 4).toNatClampNeg), .int (zI μ151 0 (x3 + 5).toNatClampNeg)]) [] μ151 (fun v μ159 => ∃ r161 : Int32, v = some (.int r161) ∧ Stat μ159 ∧ 
          (r153 = r161 →
            AW E l (d + 300) nc ns mL_law 18 [some (.ref 0), some (.ref 11), some (.ref 31), some (.int (x3 + 7))] [] μ159 K) ∧
          (¬ r153 = r161 →
            K (some (.int 0)) μ159)))) ∧
    (((zI μ 0 x3.toNatClampNeg) &&& 63) = 12 →
      (vp_in (x3 + 1) (zL μ 0)) ∧
      AW E l (d + 299) 4 460 mX10_end 0 (zargs 2 [.ref 11, .int (zI μ 0 (x3 + 1).toNatClampNeg)]) [] μ (fun v μ165 => ∃ r167 : Int32, v = some (.int r167) ∧ Stat μ165 ∧ 
        (vp_in (x3 + 1) (zL μ165 0)) ∧
        AW E l (d + 299) 0 0 mX11_end 0 (zargs 2 [.ref 31, .int (zI μ165 0 (x3 + 1).toNatClampNeg)]) [] μ165 (fun v μ169 => ∃ r171 : Int32, v = some (.int r171) ∧ Stat μ169 ∧ 
          (r167 = r171 →
            AW E l (d + 300) nc ns mL_law 18 [some (.ref 0), some (.ref 11), some (.ref 31), some (.int (x3 + 7))] [] μ169 K) ∧
          (¬ r167 = r171 →
            K (some (.int 0)) μ169)))) ∧
    (((zI μ 0 x3.toNatClampNeg) &&& 63) = 13 →
      (vp_in (x3 + 1) (zL μ 0)) ∧
      (vp_in (x3 + 2) (zL μ 0)) ∧
      AW E l (d + 299) 4 460 mX10_text 0 (zargs 4 [.ref 11, .int (zI μ 0 (x3 + 1).toNatClampNeg), .int (zI μ 0 (x3 + 2).toNatClampNeg)]) [] μ (fun v μ176 => ∃ r178 : Int32, v = some (.int r178) ∧ Stat μ176 ∧ 
        (vp_in (x3 + 1) (zL μ176 0)) ∧
        (vp_in (x3 + 2) (zL μ176 0)) ∧
        AW E l (d + 299) 0 0 mX11_text 0 (zargs 3 [.ref 31, .int (zI μ176 0 (x3 + 1).toNatClampNeg), .int (zI μ176 0 (x3 + 2).toNatClampNeg)]) [] μ176 (fun v μ181 => ∃ r183 : Int32, v = some (.int r183) ∧ Stat μ181 ∧ 
          (r178 = r183 →
            AW E l (d + 300) nc ns mL_law 18 [some (.ref 0), some (.ref 11), some (.ref 31), some (.int (x3 + 7))] [] μ181 K) ∧
          (¬ r178 = r183 →
            K (some (.int 0)) μ181)))) ∧
    (((zI μ 0 x3.toNatClampNeg) &&& 63) = 14 →
      (vp_in (x3 + 1) (zL μ 0)) ∧
      (vp_in (x3 + 2) (zL μ 0)) ∧
      (vp_in (x3 + 3) (zL μ 0)) ∧
      AW E l (d + 299) 4 460 mX10_inForce 0 (zargs 6 [.ref 11, .int (zI μ 0 (x3 + 1).toNatClampNeg), .int (zI μ 0 (x3 + 2).toNatClampNeg), .int (zI μ 0 (x3 + 3).toNatClampNeg)]) [] μ (fun v μ189 => ∃ r191 : Int32, v = some (.int r191) ∧ Stat μ189 ∧ 
        (vp_in (x3 + 1) (zL μ189 0)) ∧
        (vp_in (x3 + 2) (zL μ189 0)) ∧
        (vp_in (x3 + 3) (zL μ189 0)) ∧
        AW E l (d + 299) 0 0 mX11_inForce 0 (zargs 4 [.ref 31, .int (zI μ189 0 (x3 + 1).toNatClampNeg), .int (zI μ189 0 (x3 + 2).toNatClampNeg), .int (zI μ189 0 (x3 + 3).toNatClampNeg)]) [] μ189 (fun v μ195 => ∃ r197 : Int32, v = some (.int r197) ∧ Stat μ195 ∧ 
          (r191 = r197 →
            AW E l (d + 300) nc ns mL_law 18 [some (.ref 0), some (.ref 11), some (.ref 31), some (.int (x3 + 7))] [] μ195 K) ∧
          (¬ r191 = r197 →
            K (some (.int 0)) μ195)))) ∧
    (((zI μ 0 x3.toNatClampNeg) &&& 63) = 15 →
      (vp_in (x3 + 1) (zL μ 0)) ∧
      (vp_in (x3 + 2) (zL μ 0)) ∧
      (vp_in (x3 + 3) (zL μ 0)) ∧
      (vp_in (x3 + 4) (zL μ 0)) ∧
      AW E l (d + 299) 4 460 mX10_says 0 (zargs 8 [.ref 11, .int (zI μ 0 (x3 + 1).toNatClampNeg), .int (zI μ 0 (x3 + 2).toNatClampNeg), .int (zI μ 0 (x3 + 3).toNatClampNeg), .int (zI μ 0 (x3 + 4).toNatClampNeg)]) [] μ (fun v μ204 => ∃ r206 : Int32, v = some (.int r206) ∧ Stat μ204 ∧ 
        (vp_in (x3 + 1) (zL μ204 0)) ∧
        (vp_in (x3 + 2) (zL μ204 0)) ∧
        (vp_in (x3 + 3) (zL μ204 0)) ∧
        (vp_in (x3 + 4) (zL μ204 0)) ∧
        AW E l (d + 299) 0 0 mX11_says 0 (zargs 5 [.ref 31, .int (zI μ204 0 (x3 + 1).toNatClampNeg), .int (zI μ204 0 (x3 + 2).toNatClampNeg), .int (zI μ204 0 (x3 + 3).toNatClampNeg), .int (zI μ204 0 (x3 + 4).toNatClampNeg)]) [] μ204 (fun v μ211 => ∃ r213 : Int32, v = some (.int r213) ∧ Stat μ211 ∧ 
          (r206 = r213 →
            AW E l (d + 300) nc ns mL_law 18 [some (.ref 0), some (.ref 11), some (.ref 31), some (.int (x3 + 7))] [] μ211 K) ∧
          (¬ r206 = r213 →
            K (some (.int 0)) μ211)))) ∧
    (((zI μ 0 x3.toNatClampNeg) &&& 63) = 16 →
      (vp_in (x3 + 1) (zL μ 0)) ∧
      (vp_in (x3 + 2) (zL μ 0)) ∧
      (vp_in (x3 + 3) (zL μ 0)) ∧
      (vp_in (x3 + 4) (zL μ 0)) ∧
      (vp_in (x3 + 5) (zL μ 0)) ∧
      (vp_in (x3 + 6) (zL μ 0)) ∧
      AW E l (d + 299) 4 460 mX10_ask 0 (zargs 8 [.ref 11, .int (zI μ 0 (x3 + 1).toNatClampNeg), .int (zI μ 0 (x3 + 2).toNatClampNeg), .int (zI μ 0 (x3 + 3).toNatClampNeg), .int (zI μ 0 (x3 + 4).toNatClampNeg), .int (zI μ 0 (x3 + 5).toNatClampNeg), .int (zI μ 0 (x3 + 6).toNatClampNeg)]) [] μ (fun v μ222 => ∃ r224 : Int32, v = some (.int r224) ∧ Stat μ222 ∧ 
        (vp_in (x3 + 1) (zL μ222 0)) ∧
        (vp_in (x3 + 2) (zL μ222 0)) ∧
        (vp_in (x3 + 3) (zL μ222 0)) ∧
        (vp_in (x3 + 4) (zL μ222 0)) ∧
        (vp_in (x3 + 5) (zL μ222 0)) ∧
        (vp_in (x3 + 6) (zL μ222 0)) ∧
        AW E l (d + 299) 0 0 mX11_ask 0 (zargs 10 [.ref 31, .int (zI μ222 0 (x3 + 1).toNatClampNeg), .int (zI μ222 0 (x3 + 2).toNatClampNeg), .int (zI μ222 0 (x3 + 3).toNatClampNeg), .int (zI μ222 0 (x3 + 4).toNatClampNeg), .int (zI μ222 0 (x3 + 5).toNatClampNeg), .int (zI μ222 0 (x3 + 6).toNatClampNeg)]) [] μ222 (fun v μ231 => ∃ r233 : Int32, v = some (.int r233) ∧ Stat μ231 ∧ 
          (r224 = r233 →
            AW E l (d + 300) nc ns mL_law 18 [some (.ref 0), some (.ref 11), some (.ref 31), some (.int (x3 + 7))] [] μ231 K) ∧
          (¬ r224 = r233 →
            K (some (.int 0)) μ231)))) ∧
    (((zI μ 0 x3.toNatClampNeg) &&& 63) = 17 →
      (vp_in (x3 + 1) (zL μ 0)) ∧
      (vp_in (x3 + 2) (zL μ 0)) ∧
      (vp_in (x3 + 3) (zL μ 0)) ∧
      AW E l (d + 299) 4 460 mX10_judged 0 (zargs 5 [.ref 11, .int (zI μ 0 (x3 + 1).toNatClampNeg), .int (zI μ 0 (x3 + 2).toNatClampNeg), .int (zI μ 0 (x3 + 3).toNatClampNeg)]) [] μ (fun v μ239 => ∃ r241 : Int32, v = some (.int r241) ∧ Stat μ239 ∧ 
        (vp_in (x3 + 1) (zL μ239 0)) ∧
        (vp_in (x3 + 2) (zL μ239 0)) ∧
        (vp_in (x3 + 3) (zL μ239 0)) ∧
        AW E l (d + 299) 0 0 mX11_judged 0 (zargs 4 [.ref 31, .int (zI μ239 0 (x3 + 1).toNatClampNeg), .int (zI μ239 0 (x3 + 2).toNatClampNeg), .int (zI μ239 0 (x3 + 3).toNatClampNeg)]) [] μ239 (fun v μ245 => ∃ r247 : Int32, v = some (.int r247) ∧ Stat μ245 ∧ 
          (r241 = r247 →
            AW E l (d + 300) nc ns mL_law 18 [some (.ref 0), some (.ref 11), some (.ref 31), some (.int (x3 + 7))] [] μ245 K) ∧
          (¬ r241 = r247 →
            K (some (.int 0)) μ245)))) ∧
    (((zI μ 0 x3.toNatClampNeg) &&& 63) = 18 →
      (vp_in (x3 + 1) (zL μ 0)) ∧
      (vp_in (x3 + 2) (zL μ 0)) ∧
      AW E l (d + 299) 4 460 mX10_ofAsking 0 (zargs 4 [.ref 11, .int (zI μ 0 (x3 + 1).toNatClampNeg), .int (zI μ 0 (x3 + 2).toNatClampNeg)]) [] μ (fun v μ252 => ∃ r254 : Int32, v = some (.int r254) ∧ Stat μ252 ∧ 
        (vp_in (x3 + 1) (zL μ252 0)) ∧
        (vp_in (x3 + 2) (zL μ252 0)) ∧
        AW E l (d + 299) 0 0 mX11_ofAsking 0 (zargs 3 [.ref 31, .int (zI μ252 0 (x3 + 1).toNatClampNeg), .int (zI μ252 0 (x3 + 2).toNatClampNeg)]) [] μ252 (fun v μ257 => ∃ r259 : Int32, v = some (.int r259) ∧ Stat μ257 ∧ 
          (r254 = r259 →
            AW E l (d + 300) nc ns mL_law 18 [some (.ref 0), some (.ref 11), some (.ref 31), some (.int (x3 + 7))] [] μ257 K) ∧
          (¬ r254 = r259 →
            K (some (.int 0)) μ257)))) ∧
    (((zI μ 0 x3.toNatClampNeg) &&& 63) = 19 →
      (vp_in (x3 + 1) (zL μ 0)) ∧
      AW E l (d + 299) 4 460 mX10_take 0 (zargs 5 [.ref 11, .int (zI μ 0 (x3 + 1).toNatClampNeg)]) [] μ (fun v μ263 => ∃ r265 : Int32, v = some (.int r265) ∧ Stat μ263 ∧ 
        (vp_in (x3 + 1) (zL μ263 0)) ∧
        AW E l (d + 299) 0 0 mX11_take 0 (zargs 8 [.ref 31, .int (zI μ263 0 (x3 + 1).toNatClampNeg)]) [] μ263 (fun v μ267 => ∃ r269 : Int32, v = some (.int r269) ∧ Stat μ267 ∧ 
          (r265 = r269 →
            AW E l (d + 300) nc ns mL_law 18 [some (.ref 0), some (.ref 11), some (.ref 31), some (.int (x3 + 7))] [] μ267 K) ∧
          (¬ r265 = r269 →
            K (some (.int 0)) μ267)))) ∧
    (((zI μ 0 x3.toNatClampNeg) &&& 63) = 20 →
      (vp_in (x3 + 1) (zL μ 0)) ∧
      AW E l (d + 299) 4 460 mX10_leave 0 (zargs 3 [.ref 11, .int (zI μ 0 (x3 + 1).toNatClampNeg)]) [] μ (fun v μ273 => ∃ r275 : Int32, v = some (.int r275) ∧ Stat μ273 ∧ 
        (vp_in (x3 + 1) (zL μ273 0)) ∧
        AW E l (d + 299) 0 0 mX11_leave 0 (zargs 2 [.ref 31, .int (zI μ273 0 (x3 + 1).toNatClampNeg)]) [] μ273 (fun v μ277 => ∃ r279 : Int32, v = some (.int r279) ∧ Stat μ277 ∧ 
          (r275 = r279 →
            AW E l (d + 300) nc ns mL_law 18 [some (.ref 0), some (.ref 11), some (.ref 31), some (.int (x3 + 7))] [] μ277 K) ∧
          (¬ r275 = r279 →
            K (some (.int 0)) μ277)))) ∧
    (((zI μ 0 x3.toNatClampNeg) &&& 63) = 21 →
      (vp_in (x3 + 1) (zL μ 0)) ∧
      AW E l (d + 299) 4 460 mX10_note 0 (zargs 2 [.ref 11, .int (zI μ 0 (x3 + 1).toNatClampNeg)]) [] μ (fun v μ283 => ∃ r285 : Int32, v = some (.int r285) ∧ Stat μ283 ∧ 
        (vp_in (x3 + 1) (zL μ283 0)) ∧
        AW E l (d + 299) 0 0 mX11_note 0 (zargs 2 [.ref 31, .int (zI μ283 0 (x3 + 1).toNatClampNeg)]) [] μ283 (fun v μ287 => ∃ r289 : Int32, v = some (.int r289) ∧ Stat μ287 ∧ 
          (r285 = r289 →
            AW E l (d + 300) nc ns mL_law 18 [some (.ref 0), some (.ref 11), some (.ref 31), some (.int (x3 + 7))] [] μ287 K) ∧
          (¬ r285 = r289 →
            K (some (.int 0)) μ287)))) ∧
    (((zI μ 0 x3.toNatClampNeg) &&& 63) = 22 →
      (vp_in (x3 + 1) (zL μ 0)) ∧
      (vp_in (x3 + 2) (zL μ 0)) ∧
      AW E l (d + 299) 4 460 mX10_stock 0 (zargs 4 [.ref 11, .int (zI μ 0 (x3 + 1).toNatClampNeg), .int (zI μ 0 (x3 + 2).toNatClampNeg)]) [] μ (fun v μ294 => ∃ r296 : Int32, v = some (.int r296) ∧ Stat μ294 ∧ 
        (vp_in (x3 + 1) (zL μ294 0)) ∧
        (vp_in (x3 + 2) (zL μ294 0)) ∧
        AW E l (d + 299) 0 0 mX11_stock 0 (zargs 5 [.ref 31, .int (zI μ294 0 (x3 + 1).toNatClampNeg), .int (zI μ294 0 (x3 + 2).toNatClampNeg)]) [] μ294 (fun v μ299 => ∃ r301 : Int32, v = some (.int r301) ∧ Stat μ299 ∧ 
          (r296 = r301 →
            AW E l (d + 300) nc ns mL_law 18 [some (.ref 0), some (.ref 11), some (.ref 31), some (.int (x3 + 7))] [] μ299 K) ∧
          (¬ r296 = r301 →
            K (some (.int 0)) μ299)))) ∧
    (((zI μ 0 x3.toNatClampNeg) &&& 63) = 23 →
      (vp_in (x3 + 1) (zL μ 0)) ∧
      (vp_in (x3 + 2) (zL μ 0)) ∧
      AW E l (d + 299) 4 460 mX10_worth 0 (zargs 4 [.ref 11, .int (zI μ 0 (x3 + 1).toNatClampNeg), .int (zI μ 0 (x3 + 2).toNatClampNeg)]) [] μ (fun v μ306 => ∃ r308 : Int32, v = some (.int r308) ∧ Stat μ306 ∧ 
        (vp_in (x3 + 1) (zL μ306 0)) ∧
        (vp_in (x3 + 2) (zL μ306 0)) ∧
        AW E l (d + 299) 0 0 mX11_worth 0 (zargs 3 [.ref 31, .int (zI μ306 0 (x3 + 1).toNatClampNeg), .int (zI μ306 0 (x3 + 2).toNatClampNeg)]) [] μ306 (fun v μ311 => ∃ r313 : Int32, v = some (.int r313) ∧ Stat μ311 ∧ 
          (r308 = r313 →
            AW E l (d + 300) nc ns mL_law 18 [some (.ref 0), some (.ref 11), some (.ref 31), some (.int (x3 + 7))] [] μ311 K) ∧
          (¬ r308 = r313 →
            K (some (.int 0)) μ311)))) ∧
    (((zI μ 0 x3.toNatClampNeg) &&& 63) = 24 →
      (vp_in (x3 + 1) (zL μ 0)) ∧
      AW E l (d + 299) 4 460 mX10_sort 0 (zargs 4 [.ref 11, .int (zI μ 0 (x3 + 1).toNatClampNeg)]) [] μ (fun v μ317 => ∃ r319 : Int32, v = some (.int r319) ∧ Stat μ317 ∧ 
        (vp_in (x3 + 1) (zL μ317 0)) ∧
        AW E l (d + 299) 0 0 mX11_sort 0 (zargs 4 [.ref 31, .int (zI μ317 0 (x3 + 1).toNatClampNeg)]) [] μ317 (fun v μ321 => ∃ r323 : Int32, v = some (.int r323) ∧ Stat μ321 ∧ 
          (r319 = r323 →
            AW E l (d + 300) nc ns mL_law 18 [some (.ref 0), some (.ref 11), some (.ref 31), some (.int (x3 + 7))] [] μ321 K) ∧
          (¬ r319 = r323 →
            K (some (.int 0)) μ321)))) ∧
    (((zI μ 0 x3.toNatClampNeg) &&& 63) = 25 →
      (vp_in (x3 + 1) (zL μ 0)) ∧
      AW E l (d + 299) 4 460 mX10_sellUsed 0 (zargs 5 [.ref 11, .int (zI μ 0 (x3 + 1).toNatClampNeg)]) [] μ (fun v μ327 => ∃ r329 : Int32, v = some (.int r329) ∧ Stat μ327 ∧ 
        (vp_in (x3 + 1) (zL μ327 0)) ∧
        AW E l (d + 299) 0 0 mX11_sellUsed 0 (zargs 4 [.ref 31, .int (zI μ327 0 (x3 + 1).toNatClampNeg)]) [] μ327 (fun v μ331 => ∃ r333 : Int32, v = some (.int r333) ∧ Stat μ331 ∧ 
          (r329 = r333 →
            AW E l (d + 300) nc ns mL_law 18 [some (.ref 0), some (.ref 11), some (.ref 31), some (.int (x3 + 7))] [] μ331 K) ∧
          (¬ r329 = r333 →
            K (some (.int 0)) μ331)))) ∧
    (((zI μ 0 x3.toNatClampNeg) &&& 63) = 26 →
      (vp_in (x3 + 1) (zL μ 0)) ∧
      (vp_in (x3 + 2) (zL μ 0)) ∧
      (vp_in (x3 + 3) (zL μ 0)) ∧
      AW E l (d + 299) 4 460 mX10_ofLot 0 (zargs 8 [.ref 11, .int (zI μ 0 (x3 + 1).toNatClampNeg), .int (zI μ 0 (x3 + 2).toNatClampNeg), .int (zI μ 0 (x3 + 3).toNatClampNeg)]) [] μ (fun v μ339 => ∃ r341 : Int32, v = some (.int r341) ∧ Stat μ339 ∧ 
        (vp_in (x3 + 1) (zL μ339 0)) ∧
        (vp_in (x3 + 2) (zL μ339 0)) ∧
        (vp_in (x3 + 3) (zL μ339 0)) ∧
        AW E l (d + 299) 0 0 mX11_ofLot 0 (zargs 6 [.ref 31, .int (zI μ339 0 (x3 + 1).toNatClampNeg), .int (zI μ339 0 (x3 + 2).toNatClampNeg), .int (zI μ339 0 (x3 + 3).toNatClampNeg)]) [] μ339 (fun v μ345 => ∃ r347 : Int32, v = some (.int r347) ∧ Stat μ345 ∧ 
          (r341 = r347 →
            AW E l (d + 300) nc ns mL_law 18 [some (.ref 0), some (.ref 11), some (.ref 31), some (.int (x3 + 7))] [] μ345 K) ∧
          (¬ r341 = r347 →
            K (some (.int 0)) μ345)))) ∧
    (((zI μ 0 x3.toNatClampNeg) &&& 63) = 27 →
      (vp_in (x3 + 1) (zL μ 0)) ∧
      (vp_in (x3 + 2) (zL μ 0)) ∧
      (vp_in (x3 + 3) (zL μ 0)) ∧
      AW E l (d + 299) 4 460 mX10_beyond 0 (zargs 5 [.ref 11, .int (zI μ 0 (x3 + 1).toNatClampNeg), .int (zI μ 0 (x3 + 2).toNatClampNeg), .int (zI μ 0 (x3 + 3).toNatClampNeg)]) [] μ (fun v μ353 => ∃ r355 : Int32, v = some (.int r355) ∧ Stat μ353 ∧ 
        (vp_in (x3 + 1) (zL μ353 0)) ∧
        (vp_in (x3 + 2) (zL μ353 0)) ∧
        (vp_in (x3 + 3) (zL μ353 0)) ∧
        AW E l (d + 299) 0 0 mX11_beyond 0 (zargs 4 [.ref 31, .int (zI μ353 0 (x3 + 1).toNatClampNeg), .int (zI μ353 0 (x3 + 2).toNatClampNeg), .int (zI μ353 0 (x3 + 3).toNatClampNeg)]) [] μ353 (fun v μ359 => ∃ r361 : Int32, v = some (.int r361) ∧ Stat μ359 ∧ 
          (r355 = r361 →
            AW E l (d + 300) nc ns mL_law 18 [some (.ref 0), some (.ref 11), some (.ref 31), some (.int (x3 + 7))] [] μ359 K) ∧
          (¬ r355 = r361 →
            K (some (.int 0)) μ359)))) ∧
    (((zI μ 0 x3.toNatClampNeg) &&& 63) = 28 →
      (vp_in (x3 + 1) (zL μ 0)) ∧
      (vp_in (x3 + 2) (zL μ 0)) ∧
      AW E l (d + 299) 4 460 mX10_since 0 (zargs 7 [.ref 11, .int (zI μ 0 (x3 + 1).toNatClampNeg), .int (zI μ 0 (x3 + 2).toNatClampNeg)]) [] μ (fun v μ366 => ∃ r368 : Int32, v = some (.int r368) ∧ Stat μ366 ∧ 
        (vp_in (x3 + 1) (zL μ366 0)) ∧
        (vp_in (x3 + 2) (zL μ366 0)) ∧
        AW E l (d + 299) 0 0 mX11_since 0 (zargs 5 [.ref 31, .int (zI μ366 0 (x3 + 1).toNatClampNeg), .int (zI μ366 0 (x3 + 2).toNatClampNeg)]) [] μ366 (fun v μ371 => ∃ r373 : Int32, v = some (.int r373) ∧ Stat μ371 ∧ 
          (r368 = r373 →
            AW E l (d + 300) nc ns mL_law 18 [some (.ref 0), some (.ref 11), some (.ref 31), some (.int (x3 + 7))] [] μ371 K) ∧
          (¬ r368 = r373 →
            K (some (.int 0)) μ371)))) ∧
    (((zI μ 0 x3.toNatClampNeg) &&& 63) = 29 →
      (vp_in (x3 + 1) (zL μ 0)) ∧
      (vp_in (x3 + 2) (zL μ 0)) ∧
      AW E l (d + 299) 4 460 mX10_honest 0 (zargs 4 [.ref 11, .int (zI μ 0 (x3 + 1).toNatClampNeg), .int (zI μ 0 (x3 + 2).toNatClampNeg)]) [] μ (fun v μ378 => ∃ r380 : Int32, v = some (.int r380) ∧ Stat μ378 ∧ 
        (vp_in (x3 + 1) (zL μ378 0)) ∧
        (vp_in (x3 + 2) (zL μ378 0)) ∧
        AW E l (d + 299) 0 0 mX11_honest 0 (zargs 4 [.ref 31, .int (zI μ378 0 (x3 + 1).toNatClampNeg), .int (zI μ378 0 (x3 + 2).toNatClampNeg)]) [] μ378 (fun v μ383 => ∃ r385 : Int32, v = some (.int r385) ∧ Stat μ383 ∧ 
          (r380 = r385 →
            AW E l (d + 300) nc ns mL_law 18 [some (.ref 0), some (.ref 11), some (.ref 31), some (.int (x3 + 7))] [] μ383 K) ∧
          (¬ r380 = r385 →
            K (some (.int 0)) μ383)))) ∧
    (((zI μ 0 x3.toNatClampNeg) &&& 63) = 30 →
      AW E l (d + 299) 4 460 mX10_limit 0 (zargs 2 [.ref 11]) [] μ (fun v μ388 => ∃ r390 : Int32, v = some (.int r390) ∧ Stat μ388 ∧ 
        AW E l (d + 299) 0 0 mX11_limit 0 (zargs 2 [.ref 31]) [] μ388 (fun v μ391 => ∃ r393 : Int32, v = some (.int r393) ∧ Stat μ391 ∧ 
          (r390 = r393 →
            AW E l (d + 300) nc ns mL_law 18 [some (.ref 0), some (.ref 11), some (.ref 31), some (.int (x3 + 7))] [] μ391 K) ∧
          (¬ r390 = r393 →
            K (some (.int 0)) μ391)))) ∧
    (((zI μ 0 x3.toNatClampNeg) &&& 63) = 31 →
      (vp_in (x3 + 1) (zL μ 0)) ∧
      AW E l (d + 299) 4 460 mX10_tried 0 (zargs 4 [.ref 11, .int (zI μ 0 (x3 + 1).toNatClampNeg)]) [] μ (fun v μ397 => ∃ r399 : Int32, v = some (.int r399) ∧ Stat μ397 ∧ 
        (vp_in (x3 + 1) (zL μ397 0)) ∧
        AW E l (d + 299) 0 0 mX11_tried 0 (zargs 5 [.ref 31, .int (zI μ397 0 (x3 + 1).toNatClampNeg)]) [] μ397 (fun v μ401 => ∃ r403 : Int32, v = some (.int r403) ∧ Stat μ401 ∧ 
          (r399 = r403 →
            AW E l (d + 300) nc ns mL_law 18 [some (.ref 0), some (.ref 11), some (.ref 31), some (.int (x3 + 7))] [] μ401 K) ∧
          (¬ r399 = r403 →
            K (some (.int 0)) μ401)))) ∧
    (((zI μ 0 x3.toNatClampNeg) &&& 63) = 32 →
      (vp_in (x3 + 1) (zL μ 0)) ∧
      AW E l (d + 299) 4 460 mX10_hits 0 (zargs 2 [.ref 11, .int (zI μ 0 (x3 + 1).toNatClampNeg)]) [] μ (fun v μ407 => ∃ r409 : Int32, v = some (.int r409) ∧ Stat μ407 ∧ 
        (vp_in (x3 + 1) (zL μ407 0)) ∧
        AW E l (d + 299) 0 0 mX11_hits 0 (zargs 2 [.ref 31, .int (zI μ407 0 (x3 + 1).toNatClampNeg)]) [] μ407 (fun v μ411 => ∃ r413 : Int32, v = some (.int r413) ∧ Stat μ411 ∧ 
          (r409 = r413 →
            AW E l (d + 300) nc ns mL_law 18 [some (.ref 0), some (.ref 11), some (.ref 31), some (.int (x3 + 7))] [] μ411 K) ∧
          (¬ r409 = r413 →
            K (some (.int 0)) μ411)))) ∧
    (((zI μ 0 x3.toNatClampNeg) &&& 63) = 33 →
      (vp_in (x3 + 1) (zL μ 0)) ∧
      (vp_in (x3 + 2) (zL μ 0)) ∧
      AW E l (d + 299) 4 460 mX10_size 0 (zargs 5 [.ref 11, .int (zI μ 0 (x3 + 1).toNatClampNeg), .int (zI μ 0 (x3 + 2).toNatClampNeg)]) [] μ (fun v μ418 => ∃ r420 : Int32, v = some (.int r420) ∧ Stat μ418 ∧ 
        (vp_in (x3 + 1) (zL μ418 0)) ∧
        (vp_in (x3 + 2) (zL μ418 0)) ∧
        AW E l (d + 299) 0 0 mX11_size 0 (zargs 4 [.ref 31, .int (zI μ418 0 (x3 + 1).toNatClampNeg), .int (zI μ418 0 (x3 + 2).toNatClampNeg)]) [] μ418 (fun v μ423 => ∃ r425 : Int32, v = some (.int r425) ∧ Stat μ423 ∧ 
          (r420 = r425 →
            AW E l (d + 300) nc ns mL_law 18 [some (.ref 0), some (.ref 11), some (.ref 31), some (.int (x3 + 7))] [] μ423 K) ∧
          (¬ r420 = r425 →
            K (some (.int 0)) μ423)))) ∧
    (((zI μ 0 x3.toNatClampNeg) &&& 63) = 34 →
      (vp_in (x3 + 1) (zL μ 0)) ∧
      AW E l (d + 299) 4 460 mX10_shift 0 (zargs 6 [.ref 11, .int (zI μ 0 (x3 + 1).toNatClampNeg)]) [] μ (fun v μ429 => ∃ r431 : Int32, v = some (.int r431) ∧ Stat μ429 ∧ 
        (vp_in (x3 + 1) (zL μ429 0)) ∧
        AW E l (d + 299) 0 0 mX11_shift 0 (zargs 4 [.ref 31, .int (zI μ429 0 (x3 + 1).toNatClampNeg)]) [] μ429 (fun v μ433 => ∃ r435 : Int32, v = some (.int r435) ∧ Stat μ433 ∧ 
          (r431 = r435 →
            AW E l (d + 300) nc ns mL_law 18 [some (.ref 0), some (.ref 11), some (.ref 31), some (.int (x3 + 7))] [] μ433 K) ∧
          (¬ r431 = r435 →
            K (some (.int 0)) μ433)))) ∧
    (((zI μ 0 x3.toNatClampNeg) &&& 63) = 35 →
      (vp_in (x3 + 1) (zL μ 0)) ∧
      (vp_in (x3 + 2) (zL μ 0)) ∧
      AW E l (d + 299) 4 460 mX10_brought 0 (zargs 4 [.ref 11, .int (zI μ 0 (x3 + 1).toNatClampNeg), .int (zI μ 0 (x3 + 2).toNatClampNeg)]) [] μ (fun v μ440 => ∃ r442 : Int32, v = some (.int r442) ∧ Stat μ440 ∧ 
        (vp_in (x3 + 1) (zL μ440 0)) ∧
        (vp_in (x3 + 2) (zL μ440 0)) ∧
        AW E l (d + 299) 0 0 mX11_brought 0 (zargs 3 [.ref 31, .int (zI μ440 0 (x3 + 1).toNatClampNeg), .int (zI μ440 0 (x3 + 2).toNatClampNeg)]) [] μ440 (fun v μ445 => ∃ r447 : Int32, v = some (.int r447) ∧ Stat μ445 ∧ 
          (r442 = r447 →
            AW E l (d + 300) nc ns mL_law 18 [some (.ref 0), some (.ref 11), some (.ref 31), some (.int (x3 + 7))] [] μ445 K) ∧
          (¬ r442 = r447 →
            K (some (.int 0)) μ445)))) ∧
    (((zI μ 0 x3.toNatClampNeg) &&& 63) = 36 →
      (vp_in (x3 + 1) (zL μ 0)) ∧
      AW E l (d + 299) 4 460 mX10_damage 0 (zargs 3 [.ref 11, .int (zI μ 0 (x3 + 1).toNatClampNeg)]) [] μ (fun v μ451 => ∃ r453 : Int32, v = some (.int r453) ∧ Stat μ451 ∧ 
        (vp_in (x3 + 1) (zL μ451 0)) ∧
        AW E l (d + 299) 0 0 mX11_damage 0 (zargs 2 [.ref 31, .int (zI μ451 0 (x3 + 1).toNatClampNeg)]) [] μ451 (fun v μ455 => ∃ r457 : Int32, v = some (.int r457) ∧ Stat μ455 ∧ 
          (r453 = r457 →
            AW E l (d + 300) nc ns mL_law 18 [some (.ref 0), some (.ref 11), some (.ref 31), some (.int (x3 + 7))] [] μ455 K) ∧
          (¬ r453 = r457 →
            K (some (.int 0)) μ455)))) ∧
    (((zI μ 0 x3.toNatClampNeg) &&& 63) = 37 →
      (vp_in (x3 + 1) (zL μ 0)) ∧
      (vp_in (x3 + 2) (zL μ 0)) ∧
      AW E l (d + 299) 4 460 mX10_carrier 0 (zargs 6 [.ref 11, .int (zI μ 0 (x3 + 1).toNatClampNeg), .int (zI μ 0 (x3 + 2).toNatClampNeg)]) [] μ (fun v μ462 => ∃ r464 : Int32, v = some (.int r464) ∧ Stat μ462 ∧ 
        (vp_in (x3 + 1) (zL μ462 0)) ∧
        (vp_in (x3 + 2) (zL μ462 0)) ∧
        AW E l (d + 299) 0 0 mX11_carrier 0 (zargs 5 [.ref 31, .int (zI μ462 0 (x3 + 1).toNatClampNeg), .int (zI μ462 0 (x3 + 2).toNatClampNeg)]) [] μ462 (fun v μ467 => ∃ r469 : Int32, v = some (.int r469) ∧ Stat μ467 ∧ 
          (r464 = r469 →
            AW E l (d + 300) nc ns mL_law 18 [some (.ref 0), some (.ref 11), some (.ref 31), some (.int (x3 + 7))] [] μ467 K) ∧
          (¬ r464 = r469 →
            K (some (.int 0)) μ467)))) ∧
    (((zI μ 0 x3.toNatClampNeg) &&& 63) = 38 →
      (vp_in (x3 + 1) (zL μ 0)) ∧
      AW E l (d + 299) 4 460 mX10_count 0 (zargs 2 [.ref 11, .int (zI μ 0 (x3 + 1).toNatClampNeg)]) [] μ (fun v μ473 => ∃ r475 : Int32, v = some (.int r475) ∧ Stat μ473 ∧ 
        (vp_in (x3 + 1) (zL μ473 0)) ∧
        AW E l (d + 299) 0 0 mX11_count 0 (zargs 4 [.ref 31, .int (zI μ473 0 (x3 + 1).toNatClampNeg)]) [] μ473 (fun v μ477 => ∃ r479 : Int32, v = some (.int r479) ∧ Stat μ477 ∧ 
          (r475 = r479 →
            AW E l (d + 300) nc ns mL_law 18 [some (.ref 0), some (.ref 11), some (.ref 31), some (.int (x3 + 7))] [] μ477 K) ∧
          (¬ r475 = r479 →
            K (some (.int 0)) μ477)))) ∧
    ((¬ ((zI μ 0 x3.toNatClampNeg) &&& 63) = 0 ∧ ¬ ((zI μ 0 x3.toNatClampNeg) &&& 63) = 1 ∧ ¬ ((zI μ 0 x3.toNatClampNeg) &&& 63) = 2 ∧ ¬ ((zI μ 0 x3.toNatClampNeg) &&& 63) = 3 ∧ ¬ ((zI μ 0 x3.toNatClampNeg) &&& 63) = 4 ∧ ¬ ((zI μ 0 x3.toNatClampNeg) &&& 63) = 5 ∧ ¬ ((zI μ 0 x3.toNatClampNeg) &&& 63) = 6 ∧ ¬ ((zI μ 0 x3.toNatClampNeg) &&& 63) = 7 ∧ ¬ ((zI μ 0 x3.toNatClampNeg) &&& 63) = 8 ∧ ¬ ((zI μ 0 x3.toNatClampNeg) &&& 63) = 9 ∧ ¬ ((zI μ 0 x3.toNatClampNeg) &&& 63) = 10 ∧ ¬ ((zI μ 0 x3.toNatClampNeg) &&& 63) = 11 ∧ ¬ ((zI μ 0 x3.toNatClampNeg) &&& 63) = 12 ∧ ¬ ((zI μ 0 x3.toNatClampNeg) &&& 63) = 13 ∧ ¬ ((zI μ 0 x3.toNatClampNeg) &&& 63) = 14 ∧ ¬ ((zI μ 0 x3.toNatClampNeg) &&& 63) = 15 ∧ ¬ ((zI μ 0 x3.toNatClampNeg) &&& 63) = 16 ∧ ¬ ((zI μ 0 x3.toNatClampNeg) &&& 63) = 17 ∧ ¬ ((zI μ 0 x3.toNatClampNeg) &&& 63) = 18 ∧ ¬ ((zI μ 0 x3.toNatClampNeg) &&& 63) = 19 ∧ ¬ ((zI μ 0 x3.toNatClampNeg) &&& 63) = 20 ∧ ¬ ((zI μ 0 x3.toNatClampNeg) &&& 63) = 21 ∧ ¬ ((zI μ 0 x3.toNatClampNeg) &&& 63) = 22 ∧ ¬ ((zI μ 0 x3.toNatClampNeg) &&& 63) = 23 ∧ ¬ ((zI μ 0 x3.toNatClampNeg) &&& 63) = 24 ∧ ¬ ((zI μ 0 x3.toNatClampNeg) &&& 63) = 25 ∧ ¬ ((zI μ 0 x3.toNatClampNeg) &&& 63) = 26 ∧ ¬ ((zI μ 0 x3.toNatClampNeg) &&& 63) = 27 ∧ ¬ ((zI μ 0 x3.toNatClampNeg) &&& 63) = 28 ∧ ¬ ((zI μ 0 x3.toNatClampNeg) &&& 63) = 29 ∧ ¬ ((zI μ 0 x3.toNatClampNeg) &&& 63) = 30 ∧ ¬ ((zI μ 0 x3.toNatClampNeg) &&& 63) = 31 ∧ ¬ ((zI μ 0 x3.toNatClampNeg) &&& 63) = 32 ∧ ¬ ((zI μ 0 x3.toNatClampNeg) &&& 63) = 33 ∧ ¬ ((zI μ 0 x3.toNatClampNeg) &&& 63) = 34 ∧ ¬ ((zI μ 0 x3.toNatClampNeg) &&& 63) = 35 ∧ ¬ ((zI μ 0 x3.toNatClampNeg) &&& 63) = 36 ∧ ¬ ((zI μ 0 x3.toNatClampNeg) &&& 63) = 37 ∧ ¬ ((zI μ 0 x3.toNatClampNeg) &&& 63) = 38) →
    AW E l (d + 300) (nc + 4) (ns + 460) mL_law 18 [some (.ref 0), some (.ref 11), some (.ref 31), some (.int (x3 + 7))] [] μ K))) : AW E l (d + 300) (nc + 4) (ns + 460) mL_law 18 [some (.ref 0), some (.ref 11), some (.ref 31), some (.int x3)] [] μ K := by
  refine aw_iload_n (pc' := 19) (dt_L_law_0 10 (18, .iload_n 3, 1) rfl) rfl rfl (aw_aload_n (pc' := 20) (dt_L_law_0 11 (19, .aload_n 0, 1) rfl) rfl rfl (aw_alen (pc' := 21) (dt_L_law_0 12 (20, .arraylength, 1) rfl) (by decide) (by decide) rfl (sk_0 hS) (aw_bipush (pc' := 23) (v := 7) (dt_L_law_0 13 (21, .bipush 7, 2) rfl) (by decide) rfl (aw_isub (pc' := 24) (dt_L_law_0 14 (23, .isub, 1) rfl) rfl (aw_icmp_gt (pc' := 27) (tgt := 1549) (dt_L_law_0 15 (24, .if_icmp .gt 1525, 3) rfl) (by decide) rfl ?_ ?_)))))
  · intro q1
    have h := h.1 q1
    refine aw_iconst (pc' := 1550) (v := 1) (dt_L_law_28 7 (1549, .iconst 1, 1) rfl) (by decide) rfl (aw_iret (dt_L_law_28 8 (1550, .ireturn, 1) rfl) rfl rfl ?_)
    exact h
  · intro q1
    have h := h.2 q1
    obtain ⟨g2, h⟩ := h
    refine aw_aload_n (pc' := 28) (dt_L_law_0 16 (27, .aload_n 0, 1) rfl) rfl rfl (aw_iload_n (pc' := 29) (dt_L_law_0 17 (28, .iload_n 3, 1) rfl) rfl rfl (aw_iald (pc' := 30) (dt_L_law_0 18 (29, .iaload, 1) rfl) rfl (sk_0 hS) g2 (aw_bipush (pc' := 32) (v := 63) (dt_L_law_0 19 (30, .bipush 63, 2) rfl) (by decide) rfl (aw_iand (pc' := 33) (dt_L_law_0 20 (32, .iand, 1) rfl) rfl ?_))))
    by_cases q3 : ((zI μ 0 x3.toNatClampNeg) &&& 63) = 0
    · have h := h.1 q3
      refine aw_tableE (tgt := 204) (off := 171) (dt_L_law_0 21 (33, .tableswitch 1510 0 38 #[171, 214, 257, 290, 333, 356, 379, 442, 475, 508, 561, 584, 647, 670, 703, 746, 799, 874, 917, 950, 973, 996, 1019, 1052, 1085, 1108, 1131, 1174, 1217, 1250, 1283, 1296, 1319, 1342, 1375, 1398, 1431, 1454, 1487], 171) rfl) q3 (by decide) (by decide) (by decide) (by decide) ?_
      obtain ⟨g4, h⟩ := h
      obtain ⟨g5, h⟩ := h
      obtain ⟨g6, h⟩ := h
      refine aw_aload_n (pc' := 205) (dt_L_law_0 22 (204, .aload_n 1, 1) rfl) rfl rfl (aw_aload_n (pc' := 206) (dt_L_law_0 23 (205, .aload_n 0, 1) rfl) rfl rfl (aw_iload_n (pc' := 207) (dt_L_law_0 24 (206, .iload_n 3, 1) rfl) rfl rfl (aw_iconst (pc' := 208) (v := 1) (dt_L_law_0 25 (207, .iconst 1, 1) rfl) (by decide) rfl (aw_iadd (pc' := 209) (dt_L_law_0 26 (208, .iadd, 1) rfl) rfl (aw_iald (pc' := 210) (dt_L_law_0 27 (209, .iaload, 1) rfl) rfl (sk_0 hS) g4 (aw_aload_n (pc' := 211) (dt_L_law_0 28 (210, .aload_n 0, 1) rfl) rfl rfl (aw_iload_n (pc' := 212) (dt_L_law_0 29 (211, .iload_n 3, 1) rfl) rfl rfl (aw_iconst (pc' := 213) (v := 2) (dt_L_law_0 30 (212, .iconst 2, 1) rfl) (by decide) rfl (aw_iadd (pc' := 214) (dt_L_law_0 31 (213, .iadd, 1) rfl) rfl (aw_iald (pc' := 215) (dt_L_law_0 32 (214, .iaload, 1) rfl) rfl (sk_0 hS) g5 (aw_aload_n (pc' := 216) (dt_L_law_0 33 (215, .aload_n 0, 1) rfl) rfl rfl (aw_iload_n (pc' := 217) (dt_L_law_0 34 (216, .iload_n 3, 1) rfl) rfl rfl (aw_iconst (pc' := 218) (v := 3) (dt_L_law_0 35 (217, .iconst 3, 1) rfl) (by decide) rfl (aw_iadd (pc' := 219) (dt_L_law_0 36 (218, .iadd, 1) rfl) rfl (aw_iald (pc' := 220) (dt_L_law_0 37 (219, .iaload, 1) rfl) rfl (sk_0 hS) g6 (aw_callVB (nc1 := 4) (ns1 := 460) (pc' := 223) (nc := nc) (ns := ns) (y2 := mX10_model) (As := [.int (zI μ 0 (x3 + 1).toNatClampNeg), .int (zI μ 0 (x3 + 2).toNatClampNeg), .int (zI μ 0 (x3 + 3).toNatClampNeg)]) (rest := []) (a := 11) (dt_L_law_0 38 (220, .invokevirtual 13, 3) rfl) ok_X10_model ln_ReturnDeskLaw_13 im_X10_model se_X10_model pr_X10_model (Or.inl ⟨by decide, rfl⟩) rfl (Nat.le_of_ble_eq_true rfl) (Nat.le_of_ble_eq_true rfl) rfl (sk_11 hS) h ?_))))))))))))))))
      rintro v μ7 ⟨r9, rfl, hS8, h⟩
      refine aw_stk (st' := [.int r9]) rfl ?_
      obtain ⟨g10, h⟩ := h
      obtain ⟨g11, h⟩ := h
      obtain ⟨g12, h⟩ := h
      refine aw_aload_n (pc' := 224) (dt_L_law_0 39 (223, .aload_n 2, 1) rfl) rfl rfl (aw_aload_n (pc' := 225) (dt_L_law_1 0 (224, .aload_n 0, 1) rfl) rfl rfl (aw_iload_n (pc' := 226) (dt_L_law_1 1 (225, .iload_n 3, 1) rfl) rfl rfl (aw_iconst (pc' := 227) (v := 1) (dt_L_law_1 2 (226, .iconst 1, 1) rfl) (by decide) rfl (aw_iadd (pc' := 228) (dt_L_law_1 3 (227, .iadd, 1) rfl) rfl (aw_iald (pc' := 229) (dt_L_law_1 4 (228, .iaload, 1) rfl) rfl (sk_0 hS8) g10 (aw_aload_n (pc' := 230) (dt_L_law_1 5 (229, .aload_n 0, 1) rfl) rfl rfl (aw_iload_n (pc' := 231) (dt_L_law_1 6 (230, .iload_n 3, 1) rfl) rfl rfl (aw_iconst (pc' := 232) (v := 2) (dt_L_law_1 7 (231, .iconst 2, 1) rfl) (by decide) rfl (aw_iadd (pc' := 233) (dt_L_law_1 8 (232, .iadd, 1) rfl) rfl (aw_iald (pc' := 234) (dt_L_law_1 9 (233, .iaload, 1) rfl) rfl (sk_0 hS8) g11 (aw_aload_n (pc' := 235) (dt_L_law_1 10 (234, .aload_n 0, 1) rfl) rfl rfl (aw_iload_n (pc' := 236) (dt_L_law_1 11 (235, .iload_n 3, 1) rfl) rfl rfl (aw_iconst (pc' := 237) (v := 3) (dt_L_law_1 12 (236, .iconst 3, 1) rfl) (by decide) rfl (aw_iadd (pc' := 238) (dt_L_law_1 13 (237, .iadd, 1) rfl) rfl (aw_iald (pc' := 239) (dt_L_law_1 14 (238, .iaload, 1) rfl) rfl (sk_0 hS8) g12 (aw_callV0 (pc' := 242) (nc := nc) (ns := ns) (y2 := mX11_model) (As := [.int (zI μ7 0 (x3 + 1).toNatClampNeg), .int (zI μ7 0 (x3 + 2).toNatClampNeg), .int (zI μ7 0 (x3 + 3).toNatClampNeg)]) (rest := [.int r9]) (a := 31) (dt_L_law_1 15 (239, .invokevirtual 17, 3) rfl) ok_X11_model ln_ReturnDeskLaw_17 im_X11_model se_X11_model pr_X11_model (Or.inl ⟨by decide, rfl⟩) rfl (Nat.le_of_ble_eq_true rfl) (Nat.le_of_ble_eq_true rfl) rfl (sk_31 hS8) h ?_))))))))))))))))
      rintro v μ13 ⟨r15, rfl, hS14, h⟩
      refine aw_stk (st' := [.int r15, .int r9]) rfl ?_
      refine aw_icmp_eq (pc' := 245) (tgt := 1543) (dt_L_law_1 16 (242, .if_icmp .eq 1301, 3) rfl) (by decide) rfl ?_ ?_
      · intro q16
        have h := h.1 q16
        refine aw_iinc (pc' := 1546) (v := 7) (ls' := [some (.ref 0), some (.ref 11), some (.ref 31), some (.int (x3 + 7))]) (dt_L_law_28 5 (1543, .iinc 3 7, 3) rfl) rfl (by decide) (by decide) rfl rfl (aw_goto (tgt := 18) (dt_L_law_28 6 (1546, .goto (-1528), 3) rfl) (by decide) ?_)
        exact h
      · intro q16
        have h := h.2 q16
        refine aw_iconst (pc' := 246) (v := 0) (dt_L_law_1 17 (245, .iconst 0, 1) rfl) (by decide) rfl (aw_iret (dt_L_law_1 18 (246, .ireturn, 1) rfl) rfl rfl ?_)
        exact h
    by_cases q17 : ((zI μ 0 x3.toNatClampNeg) &&& 63) = 1
    · have h := h.2.1 q17
      refine aw_tableE (tgt := 247) (off := 214) (dt_L_law_0 21 (33, .tableswitch 1510 0 38 #[171, 214, 257, 290, 333, 356, 379, 442, 475, 508, 561, 584, 647, 670, 703, 746, 799, 874, 917, 950, 973, 996, 1019, 1052, 1085, 1108, 1131, 1174, 1217, 1250, 1283, 1296, 1319, 1342, 1375, 1398, 1431, 1454, 1487], 171) rfl) q17 (by decide) (by decide) (by decide) (by decide) ?_
      obtain ⟨g18, h⟩ := h
      obtain ⟨g19, h⟩ := h
      obtain ⟨g20, h⟩ := h
      refine aw_aload_n (pc' := 248) (dt_L_law_1 19 (247, .aload_n 1, 1) rfl) rfl rfl (aw_aload_n (pc' := 249) (dt_L_law_1 20 (248, .aload_n 0, 1) rfl) rfl rfl (aw_iload_n (pc' := 250) (dt_L_law_1 21 (249, .iload_n 3, 1) rfl) rfl rfl (aw_iconst (pc' := 251) (v := 1) (dt_L_law_1 22 (250, .iconst 1, 1) rfl) (by decide) rfl (aw_iadd (pc' := 252) (dt_L_law_1 23 (251, .iadd, 1) rfl) rfl (aw_iald (pc' := 253) (dt_L_law_1 24 (252, .iaload, 1) rfl) rfl (sk_0 hS) g18 (aw_aload_n (pc' := 254) (dt_L_law_1 25 (253, .aload_n 0, 1) rfl) rfl rfl (aw_iload_n (pc' := 255) (dt_L_law_1 26 (254, .iload_n 3, 1) rfl) rfl rfl (aw_iconst (pc' := 256) (v := 2) (dt_L_law_1 27 (255, .iconst 2, 1) rfl) (by decide) rfl (aw_iadd (pc' := 257) (dt_L_law_1 28 (256, .iadd, 1) rfl) rfl (aw_iald (pc' := 258) (dt_L_law_1 29 (257, .iaload, 1) rfl) rfl (sk_0 hS) g19 (aw_aload_n (pc' := 259) (dt_L_law_1 30 (258, .aload_n 0, 1) rfl) rfl rfl (aw_iload_n (pc' := 260) (dt_L_law_1 31 (259, .iload_n 3, 1) rfl) rfl rfl (aw_iconst (pc' := 261) (v := 3) (dt_L_law_1 32 (260, .iconst 3, 1) rfl) (by decide) rfl (aw_iadd (pc' := 262) (dt_L_law_1 33 (261, .iadd, 1) rfl) rfl (aw_iald (pc' := 263) (dt_L_law_1 34 (262, .iaload, 1) rfl) rfl (sk_0 hS) g20 (aw_callVB (nc1 := 4) (ns1 := 460) (pc' := 266) (nc := nc) (ns := ns) (y2 := mX10_price) (As := [.int (zI μ 0 (x3 + 1).toNatClampNeg), .int (zI μ 0 (x3 + 2).toNatClampNeg), .int (zI μ 0 (x3 + 3).toNatClampNeg)]) (rest := []) (a := 11) (dt_L_law_1 35 (263, .invokevirtual 18, 3) rfl) ok_X10_price ln_ReturnDeskLaw_18 im_X10_price se_X10_price pr_X10_price (Or.inl ⟨by decide, rfl⟩) rfl (Nat.le_of_ble_eq_true rfl) (Nat.le_of_ble_eq_true rfl) rfl (sk_11 hS) h ?_))))))))))))))))
      rintro v μ21 ⟨r23, rfl, hS22, h⟩
      refine aw_stk (st' := [.int r23]) rfl ?_
      obtain ⟨g24, h⟩ := h
      obtain ⟨g25, h⟩ := h
      obtain ⟨g26, h⟩ := h
      refine aw_aload_n (pc' := 267) (dt_L_law_1 36 (266, .aload_n 2, 1) rfl) rfl rfl (aw_aload_n (pc' := 268) (dt_L_law_1 37 (267, .aload_n 0, 1) rfl) rfl rfl (aw_iload_n (pc' := 269) (dt_L_law_1 38 (268, .iload_n 3, 1) rfl) rfl rfl (aw_iconst (pc' := 270) (v := 1) (dt_L_law_1 39 (269, .iconst 1, 1) rfl) (by decide) rfl (aw_iadd (pc' := 271) (dt_L_law_2 0 (270, .iadd, 1) rfl) rfl (aw_iald (pc' := 272) (dt_L_law_2 1 (271, .iaload, 1) rfl) rfl (sk_0 hS22) g24 (aw_aload_n (pc' := 273) (dt_L_law_2 2 (272, .aload_n 0, 1) rfl) rfl rfl (aw_iload_n (pc' := 274) (dt_L_law_2 3 (273, .iload_n 3, 1) rfl) rfl rfl (aw_iconst (pc' := 275) (v := 2) (dt_L_law_2 4 (274, .iconst 2, 1) rfl) (by decide) rfl (aw_iadd (pc' := 276) (dt_L_law_2 5 (275, .iadd, 1) rfl) rfl (aw_iald (pc' := 277) (dt_L_law_2 6 (276, .iaload, 1) rfl) rfl (sk_0 hS22) g25 (aw_aload_n (pc' := 278) (dt_L_law_2 7 (277, .aload_n 0, 1) rfl) rfl rfl (aw_iload_n (pc' := 279) (dt_L_law_2 8 (278, .iload_n 3, 1) rfl) rfl rfl (aw_iconst (pc' := 280) (v := 3) (dt_L_law_2 9 (279, .iconst 3, 1) rfl) (by decide) rfl (aw_iadd (pc' := 281) (dt_L_law_2 10 (280, .iadd, 1) rfl) rfl (aw_iald (pc' := 282) (dt_L_law_2 11 (281, .iaload, 1) rfl) rfl (sk_0 hS22) g26 (aw_callV0 (pc' := 285) (nc := nc) (ns := ns) (y2 := mX11_price) (As := [.int (zI μ21 0 (x3 + 1).toNatClampNeg), .int (zI μ21 0 (x3 + 2).toNatClampNeg), .int (zI μ21 0 (x3 + 3).toNatClampNeg)]) (rest := [.int r23]) (a := 31) (dt_L_law_2 12 (282, .invokevirtual 21, 3) rfl) ok_X11_price ln_ReturnDeskLaw_21 im_X11_price se_X11_price pr_X11_price (Or.inl ⟨by decide, rfl⟩) rfl (Nat.le_of_ble_eq_true rfl) (Nat.le_of_ble_eq_true rfl) rfl (sk_31 hS22) h ?_))))))))))))))))
      rintro v μ27 ⟨r29, rfl, hS28, h⟩
      refine aw_stk (st' := [.int r29, .int r23]) rfl ?_
      refine aw_icmp_eq (pc' := 288) (tgt := 1543) (dt_L_law_2 13 (285, .if_icmp .eq 1258, 3) rfl) (by decide) rfl ?_ ?_
      · intro q30
        have h := h.1 q30
        refine aw_iinc (pc' := 1546) (v := 7) (ls' := [some (.ref 0), some (.ref 11), some (.ref 31), some (.int (x3 + 7))]) (dt_L_law_28 5 (1543, .iinc 3 7, 3) rfl) rfl (by decide) (by decide) rfl rfl (aw_goto (tgt := 18) (dt_L_law_28 6 (1546, .goto (-1528), 3) rfl) (by decide) ?_)
        exact h
      · intro q30
        have h := h.2 q30
        refine aw_iconst (pc' := 289) (v := 0) (dt_L_law_2 14 (288, .iconst 0, 1) rfl) (by decide) rfl (aw_iret (dt_L_law_2 15 (289, .ireturn, 1) rfl) rfl rfl ?_)
        exact h
    by_cases q31 : ((zI μ 0 x3.toNatClampNeg) &&& 63) = 2
    · have h := h.2.2.1 q31
      refine aw_tableE (tgt := 290) (off := 257) (dt_L_law_0 21 (33, .tableswitch 1510 0 38 #[171, 214, 257, 290, 333, 356, 379, 442, 475, 508, 561, 584, 647, 670, 703, 746, 799, 874, 917, 950, 973, 996, 1019, 1052, 1085, 1108, 1131, 1174, 1217, 1250, 1283, 1296, 1319, 1342, 1375, 1398, 1431, 1454, 1487], 171) rfl) q31 (by decide) (by decide) (by decide) (by decide) ?_
      obtain ⟨g32, h⟩ := h
      obtain ⟨g33, h⟩ := h
      refine aw_aload_n (pc' := 291) (dt_L_law_2 16 (290, .aload_n 1, 1) rfl) rfl rfl (aw_aload_n (pc' := 292) (dt_L_law_2 17 (291, .aload_n 0, 1) rfl) rfl rfl (aw_iload_n (pc' := 293) (dt_L_law_2 18 (292, .iload_n 3, 1) rfl) rfl rfl (aw_iconst (pc' := 294) (v := 1) (dt_L_law_2 19 (293, .iconst 1, 1) rfl) (by decide) rfl (aw_iadd (pc' := 295) (dt_L_law_2 20 (294, .iadd, 1) rfl) rfl (aw_iald (pc' := 296) (dt_L_law_2 21 (295, .iaload, 1) rfl) rfl (sk_0 hS) g32 (aw_aload_n (pc' := 297) (dt_L_law_2 22 (296, .aload_n 0, 1) rfl) rfl rfl (aw_iload_n (pc' := 298) (dt_L_law_2 23 (297, .iload_n 3, 1) rfl) rfl rfl (aw_iconst (pc' := 299) (v := 2) (dt_L_law_2 24 (298, .iconst 2, 1) rfl) (by decide) rfl (aw_iadd (pc' := 300) (dt_L_law_2 25 (299, .iadd, 1) rfl) rfl (aw_iald (pc' := 301) (dt_L_law_2 26 (300, .iaload, 1) rfl) rfl (sk_0 hS) g33 (aw_callVB (nc1 := 4) (ns1 := 460) (pc' := 304) (nc := nc) (ns := ns) (y2 := mX10_priceOn) (As := [.int (zI μ 0 (x3 + 1).toNatClampNeg), .int (zI μ 0 (x3 + 2).toNatClampNeg)]) (rest := []) (a := 11) (dt_L_law_2 27 (301, .invokevirtual 22, 3) rfl) ok_X10_priceOn ln_ReturnDeskLaw_22 im_X10_priceOn se_X10_priceOn pr_X10_priceOn (Or.inl ⟨by decide, rfl⟩) rfl (Nat.le_of_ble_eq_true rfl) (Nat.le_of_ble_eq_true rfl) rfl (sk_11 hS) h ?_)))))))))))
      rintro v μ34 ⟨r36, rfl, hS35, h⟩
      refine aw_stk (st' := [.int r36]) rfl ?_
      obtain ⟨g37, h⟩ := h
      obtain ⟨g38, h⟩ := h
      refine aw_aload_n (pc' := 305) (dt_L_law_2 28 (304, .aload_n 2, 1) rfl) rfl rfl (aw_aload_n (pc' := 306) (dt_L_law_2 29 (305, .aload_n 0, 1) rfl) rfl rfl (aw_iload_n (pc' := 307) (dt_L_law_2 30 (306, .iload_n 3, 1) rfl) rfl rfl (aw_iconst (pc' := 308) (v := 1) (dt_L_law_2 31 (307, .iconst 1, 1) rfl) (by decide) rfl (aw_iadd (pc' := 309) (dt_L_law_2 32 (308, .iadd, 1) rfl) rfl (aw_iald (pc' := 310) (dt_L_law_2 33 (309, .iaload, 1) rfl) rfl (sk_0 hS35) g37 (aw_aload_n (pc' := 311) (dt_L_law_2 34 (310, .aload_n 0, 1) rfl) rfl rfl (aw_iload_n (pc' := 312) (dt_L_law_2 35 (311, .iload_n 3, 1) rfl) rfl rfl (aw_iconst (pc' := 313) (v := 2) (dt_L_law_2 36 (312, .iconst 2, 1) rfl) (by decide) rfl (aw_iadd (pc' := 314) (dt_L_law_2 37 (313, .iadd, 1) rfl) rfl (aw_iald (pc' := 315) (dt_L_law_2 38 (314, .iaload, 1) rfl) rfl (sk_0 hS35) g38 (aw_callV0 (pc' := 318) (nc := nc) (ns := ns) (y2 := mX11_priceOn) (As := [.int (zI μ34 0 (x3 + 1).toNatClampNeg), .int (zI μ34 0 (x3 + 2).toNatClampNeg)]) (rest := [.int r36]) (a := 31) (dt_L_law_2 39 (315, .invokevirtual 26, 3) rfl) ok_X11_priceOn ln_ReturnDeskLaw_26 im_X11_priceOn se_X11_priceOn pr_X11_priceOn (Or.inl ⟨by decide, rfl⟩) rfl (Nat.le_of_ble_eq_true rfl) (Nat.le_of_ble_eq_true rfl) rfl (sk_31 hS35) h ?_)))))))))))
      rintro v μ39 ⟨r41, rfl, hS40, h⟩
      refine aw_stk (st' := [.int r41, .int r36]) rfl ?_
      refine aw_icmp_eq (pc' := 321) (tgt := 1543) (dt_L_law_3 0 (318, .if_icmp .eq 1225, 3) rfl) (by decide) rfl ?_ ?_
      · intro q42
        have h := h.1 q42
        refine aw_iinc (pc' := 1546) (v := 7) (ls' := [some (.ref 0), some (.ref 11), some (.ref 31), some (.int (x3 + 7))]) (dt_L_law_28 5 (1543, .iinc 3 7, 3) rfl) rfl (by decide) (by decide) rfl rfl (aw_goto (tgt := 18) (dt_L_law_28 6 (1546, .goto (-1528), 3) rfl) (by decide) ?_)
        exact h
      · intro q42
        have h := h.2 q42
        refine aw_iconst (pc' := 322) (v := 0) (dt_L_law_3 1 (321, .iconst 0, 1) rfl) (by decide) rfl (aw_iret (dt_L_law_3 2 (322, .ireturn, 1) rfl) rfl rfl ?_)
        exact h
    by_cases q43 : ((zI μ 0 x3.toNatClampNeg) &&& 63) = 3
    · have h := h.2.2.2.1 q43
      refine aw_tableE (tgt := 323) (off := 290) (dt_L_law_0 21 (33, .tableswitch 1510 0 38 #[171, 214, 257, 290, 333, 356, 379, 442, 475, 508, 561, 584, 647, 670, 703, 746, 799, 874, 917, 950, 973, 996, 1019, 1052, 1085, 1108, 1131, 1174, 1217, 1250, 1283, 1296, 1319, 1342, 1375, 1398, 1431, 1454, 1487], 171) rfl) q43 (by decide) (by decide) (by decide) (by decide) ?_
      obtain ⟨g44, h⟩ := h
      obtain ⟨g45, h⟩ := h
      obtain ⟨g46, h⟩ := h
      refine aw_aload_n (pc' := 324) (dt_L_law_3 3 (323, .aload_n 1, 1) rfl) rfl rfl (aw_aload_n (pc' := 325) (dt_L_law_3 4 (324, .aload_n 0, 1) rfl) rfl rfl (aw_iload_n (pc' := 326) (dt_L_law_3 5 (325, .iload_n 3, 1) rfl) rfl rfl (aw_iconst (pc' := 327) (v := 1) (dt_L_law_3 6 (326, .iconst 1, 1) rfl) (by decide) rfl (aw_iadd (pc' := 328) (dt_L_law_3 7 (327, .iadd, 1) rfl) rfl (aw_iald (pc' := 329) (dt_L_law_3 8 (328, .iaload, 1) rfl) rfl (sk_0 hS) g44 (aw_aload_n (pc' := 330) (dt_L_law_3 9 (329, .aload_n 0, 1) rfl) rfl rfl (aw_iload_n (pc' := 331) (dt_L_law_3 10 (330, .iload_n 3, 1) rfl) rfl rfl (aw_iconst (pc' := 332) (v := 2) (dt_L_law_3 11 (331, .iconst 2, 1) rfl) (by decide) rfl (aw_iadd (pc' := 333) (dt_L_law_3 12 (332, .iadd, 1) rfl) rfl (aw_iald (pc' := 334) (dt_L_law_3 13 (333, .iaload, 1) rfl) rfl (sk_0 hS) g45 (aw_aload_n (pc' := 335) (dt_L_law_3 14 (334, .aload_n 0, 1) rfl) rfl rfl (aw_iload_n (pc' := 336) (dt_L_law_3 15 (335, .iload_n 3, 1) rfl) rfl rfl (aw_iconst (pc' := 337) (v := 3) (dt_L_law_3 16 (336, .iconst 3, 1) rfl) (by decide) rfl (aw_iadd (pc' := 338) (dt_L_law_3 17 (337, .iadd, 1) rfl) rfl (aw_iald (pc' := 339) (dt_L_law_3 18 (338, .iaload, 1) rfl) rfl (sk_0 hS) g46 (aw_callVB (nc1 := 4) (ns1 := 460) (pc' := 342) (nc := nc) (ns := ns) (y2 := mX10_lot) (As := [.int (zI μ 0 (x3 + 1).toNatClampNeg), .int (zI μ 0 (x3 + 2).toNatClampNeg), .int (zI μ 0 (x3 + 3).toNatClampNeg)]) (rest := []) (a := 11) (dt_L_law_3 19 (339, .invokevirtual 27, 3) rfl) ok_X10_lot ln_ReturnDeskLaw_27 im_X10_lot se_X10_lot pr_X10_lot (Or.inl ⟨by decide, rfl⟩) rfl (Nat.le_of_ble_eq_true rfl) (Nat.le_of_ble_eq_true rfl) rfl (sk_11 hS) h ?_))))))))))))))))
      rintro v μ47 ⟨r49, rfl, hS48, h⟩
      refine aw_stk (st' := [.int r49]) rfl ?_
      obtain ⟨g50, h⟩ := h
      obtain ⟨g51, h⟩ := h
      obtain ⟨g52, h⟩ := h
      refine aw_aload_n (pc' := 343) (dt_L_law_3 20 (342, .aload_n 2, 1) rfl) rfl rfl (aw_aload_n (pc' := 344) (dt_L_law_3 21 (343, .aload_n 0, 1) rfl) rfl rfl (aw_iload_n (pc' := 345) (dt_L_law_3 22 (344, .iload_n 3, 1) rfl) rfl rfl (aw_iconst (pc' := 346) (v := 1) (dt_L_law_3 23 (345, .iconst 1, 1) rfl) (by decide) rfl (aw_iadd (pc' := 347) (dt_L_law_3 24 (346, .iadd, 1) rfl) rfl (aw_iald (pc' := 348) (dt_L_law_3 25 (347, .iaload, 1) rfl) rfl (sk_0 hS48) g50 (aw_aload_n (pc' := 349) (dt_L_law_3 26 (348, .aload_n 0, 1) rfl) rfl rfl (aw_iload_n (pc' := 350) (dt_L_law_3 27 (349, .iload_n 3, 1) rfl) rfl rfl (aw_iconst (pc' := 351) (v := 2) (dt_L_law_3 28 (350, .iconst 2, 1) rfl) (by decide) rfl (aw_iadd (pc' := 352) (dt_L_law_3 29 (351, .iadd, 1) rfl) rfl (aw_iald (pc' := 353) (dt_L_law_3 30 (352, .iaload, 1) rfl) rfl (sk_0 hS48) g51 (aw_aload_n (pc' := 354) (dt_L_law_3 31 (353, .aload_n 0, 1) rfl) rfl rfl (aw_iload_n (pc' := 355) (dt_L_law_3 32 (354, .iload_n 3, 1) rfl) rfl rfl (aw_iconst (pc' := 356) (v := 3) (dt_L_law_3 33 (355, .iconst 3, 1) rfl) (by decide) rfl (aw_iadd (pc' := 357) (dt_L_law_3 34 (356, .iadd, 1) rfl) rfl (aw_iald (pc' := 358) (dt_L_law_3 35 (357, .iaload, 1) rfl) rfl (sk_0 hS48) g52 (aw_callV0 (pc' := 361) (nc := nc) (ns := ns) (y2 := mX11_lot) (As := [.int (zI μ47 0 (x3 + 1).toNatClampNeg), .int (zI μ47 0 (x3 + 2).toNatClampNeg), .int (zI μ47 0 (x3 + 3).toNatClampNeg)]) (rest := [.int r49]) (a := 31) (dt_L_law_3 36 (358, .invokevirtual 30, 3) rfl) ok_X11_lot ln_ReturnDeskLaw_30 im_X11_lot se_X11_lot pr_X11_lot (Or.inl ⟨by decide, rfl⟩) rfl (Nat.le_of_ble_eq_true rfl) (Nat.le_of_ble_eq_true rfl) rfl (sk_31 hS48) h ?_))))))))))))))))
      rintro v μ53 ⟨r55, rfl, hS54, h⟩
      refine aw_stk (st' := [.int r55, .int r49]) rfl ?_
      refine aw_icmp_eq (pc' := 364) (tgt := 1543) (dt_L_law_3 37 (361, .if_icmp .eq 1182, 3) rfl) (by decide) rfl ?_ ?_
      · intro q56
        have h := h.1 q56
        refine aw_iinc (pc' := 1546) (v := 7) (ls' := [some (.ref 0), some (.ref 11), some (.ref 31), some (.int (x3 + 7))]) (dt_L_law_28 5 (1543, .iinc 3 7, 3) rfl) rfl (by decide) (by decide) rfl rfl (aw_goto (tgt := 18) (dt_L_law_28 6 (1546, .goto (-1528), 3) rfl) (by decide) ?_)
        exact h
      · intro q56
        have h := h.2 q56
        refine aw_iconst (pc' := 365) (v := 0) (dt_L_law_3 38 (364, .iconst 0, 1) rfl) (by decide) rfl (aw_iret (dt_L_law_3 39 (365, .ireturn, 1) rfl) rfl rfl ?_)
        exact h
    by_cases q57 : ((zI μ 0 x3.toNatClampNeg) &&& 63) = 4
    · have h := h.2.2.2.2.1 q57
      refine aw_tableE (tgt := 366) (off := 333) (dt_L_law_0 21 (33, .tableswitch 1510 0 38 #[171, 214, 257, 290, 333, 356, 379, 442, 475, 508, 561, 584, 647, 670, 703, 746, 799, 874, 917, 950, 973, 996, 1019, 1052, 1085, 1108, 1131, 1174, 1217, 1250, 1283, 1296, 1319, 1342, 1375, 1398, 1431, 1454, 1487], 171) rfl) q57 (by decide) (by decide) (by decide) (by decide) ?_
      obtain ⟨g58, h⟩ := h
      refine aw_aload_n (pc' := 367) (dt_L_law_4 0 (366, .aload_n 1, 1) rfl) rfl rfl (aw_aload_n (pc' := 368) (dt_L_law_4 1 (367, .aload_n 0, 1) rfl) rfl rfl (aw_iload_n (pc' := 369) (dt_L_law_4 2 (368, .iload_n 3, 1) rfl) rfl rfl (aw_iconst (pc' := 370) (v := 1) (dt_L_law_4 3 (369, .iconst 1, 1) rfl) (by decide) rfl (aw_iadd (pc' := 371) (dt_L_law_4 4 (370, .iadd, 1) rfl) rfl (aw_iald (pc' := 372) (dt_L_law_4 5 (371, .iaload, 1) rfl) rfl (sk_0 hS) g58 (aw_callVB (nc1 := 4) (ns1 := 460) (pc' := 375) (nc := nc) (ns := ns) (y2 := mX10_hours) (As := [.int (zI μ 0 (x3 + 1).toNatClampNeg)]) (rest := []) (a := 11) (dt_L_law_4 6 (372, .invokevirtual 31, 3) rfl) ok_X10_hours ln_ReturnDeskLaw_31 im_X10_hours se_X10_hours pr_X10_hours (Or.inl ⟨by decide, rfl⟩) rfl (Nat.le_of_ble_eq_true rfl) (Nat.le_of_ble_eq_true rfl) rfl (sk_11 hS) h ?_))))))
      rintro v μ59 ⟨r61, rfl, hS60, h⟩
      refine aw_stk (st' := [.int r61]) rfl ?_
      obtain ⟨g62, h⟩ := h
      refine aw_aload_n (pc' := 376) (dt_L_law_4 7 (375, .aload_n 2, 1) rfl) rfl rfl (aw_aload_n (pc' := 377) (dt_L_law_4 8 (376, .aload_n 0, 1) rfl) rfl rfl (aw_iload_n (pc' := 378) (dt_L_law_4 9 (377, .iload_n 3, 1) rfl) rfl rfl (aw_iconst (pc' := 379) (v := 1) (dt_L_law_4 10 (378, .iconst 1, 1) rfl) (by decide) rfl (aw_iadd (pc' := 380) (dt_L_law_4 11 (379, .iadd, 1) rfl) rfl (aw_iald (pc' := 381) (dt_L_law_4 12 (380, .iaload, 1) rfl) rfl (sk_0 hS60) g62 (aw_callV0 (pc' := 384) (nc := nc) (ns := ns) (y2 := mX11_hours) (As := [.int (zI μ59 0 (x3 + 1).toNatClampNeg)]) (rest := [.int r61]) (a := 31) (dt_L_law_4 13 (381, .invokevirtual 35, 3) rfl) ok_X11_hours ln_ReturnDeskLaw_35 im_X11_hours se_X11_hours pr_X11_hours (Or.inl ⟨by decide, rfl⟩) rfl (Nat.le_of_ble_eq_true rfl) (Nat.le_of_ble_eq_true rfl) rfl (sk_31 hS60) h ?_))))))
      rintro v μ63 ⟨r65, rfl, hS64, h⟩
      refine aw_stk (st' := [.int r65, .int r61]) rfl ?_
      refine aw_icmp_eq (pc' := 387) (tgt := 1543) (dt_L_law_4 14 (384, .if_icmp .eq 1159, 3) rfl) (by decide) rfl ?_ ?_
      · intro q66
        have h := h.1 q66
        refine aw_iinc (pc' := 1546) (v := 7) (ls' := [some (.ref 0), some (.ref 11), some (.ref 31), some (.int (x3 + 7))]) (dt_L_law_28 5 (1543, .iinc 3 7, 3) rfl) rfl (by decide) (by decide) rfl rfl (aw_goto (tgt := 18) (dt_L_law_28 6 (1546, .goto (-1528), 3) rfl) (by decide) ?_)
        exact h
      · intro q66
        have h := h.2 q66
        refine aw_iconst (pc' := 388) (v := 0) (dt_L_law_4 15 (387, .iconst 0, 1) rfl) (by decide) rfl (aw_iret (dt_L_law_4 16 (388, .ireturn, 1) rfl) rfl rfl ?_)
        exact h
    by_cases q67 : ((zI μ 0 x3.toNatClampNeg) &&& 63) = 5
    · have h := h.2.2.2.2.2.1 q67
      refine aw_tableE (tgt := 389) (off := 356) (dt_L_law_0 21 (33, .tableswitch 1510 0 38 #[171, 214, 257, 290, 333, 356, 379, 442, 475, 508, 561, 584, 647, 670, 703, 746, 799, 874, 917, 950, 973, 996, 1019, 1052, 1085, 1108, 1131, 1174, 1217, 1250, 1283, 1296, 1319, 1342, 1375, 1398, 1431, 1454, 1487], 171) rfl) q67 (by decide) (by decide) (by decide) (by decide) ?_
      obtain ⟨g68, h⟩ := h
      refine aw_aload_n (pc' := 390) (dt_L_law_4 17 (389, .aload_n 1, 1) rfl) rfl rfl (aw_aload_n (pc' := 391) (dt_L_law_4 18 (390, .aload_n 0, 1) rfl) rfl rfl (aw_iload_n (pc' := 392) (dt_L_law_4 19 (391, .iload_n 3, 1) rfl) rfl rfl (aw_iconst (pc' := 393) (v := 1) (dt_L_law_4 20 (392, .iconst 1, 1) rfl) (by decide) rfl (aw_iadd (pc' := 394) (dt_L_law_4 21 (393, .iadd, 1) rfl) rfl (aw_iald (pc' := 395) (dt_L_law_4 22 (394, .iaload, 1) rfl) rfl (sk_0 hS) g68 (aw_callVB (nc1 := 4) (ns1 := 460) (pc' := 398) (nc := nc) (ns := ns) (y2 := mX10_till) (As := [.int (zI μ 0 (x3 + 1).toNatClampNeg)]) (rest := []) (a := 11) (dt_L_law_4 23 (395, .invokevirtual 36, 3) rfl) ok_X10_till ln_ReturnDeskLaw_36 im_X10_till se_X10_till pr_X10_till (Or.inl ⟨by decide, rfl⟩) rfl (Nat.le_of_ble_eq_true rfl) (Nat.le_of_ble_eq_true rfl) rfl (sk_11 hS) h ?_))))))
      rintro v μ69 ⟨r71, rfl, hS70, h⟩
      refine aw_stk (st' := [.int r71]) rfl ?_
      obtain ⟨g72, h⟩ := h
      refine aw_aload_n (pc' := 399) (dt_L_law_4 24 (398, .aload_n 2, 1) rfl) rfl rfl (aw_aload_n (pc' := 400) (dt_L_law_4 25 (399, .aload_n 0, 1) rfl) rfl rfl (aw_iload_n (pc' := 401) (dt_L_law_4 26 (400, .iload_n 3, 1) rfl) rfl rfl (aw_iconst (pc' := 402) (v := 1) (dt_L_law_4 27 (401, .iconst 1, 1) rfl) (by decide) rfl (aw_iadd (pc' := 403) (dt_L_law_4 28 (402, .iadd, 1) rfl) rfl (aw_iald (pc' := 404) (dt_L_law_4 29 (403, .iaload, 1) rfl) rfl (sk_0 hS70) g72 (aw_callV0 (pc' := 407) (nc := nc) (ns := ns) (y2 := mX11_till) (As := [.int (zI μ69 0 (x3 + 1).toNatClampNeg)]) (rest := [.int r71]) (a := 31) (dt_L_law_4 30 (404, .invokevirtual 39, 3) rfl) ok_X11_till ln_ReturnDeskLaw_39 im_X11_till se_X11_till pr_X11_till (Or.inl ⟨by decide, rfl⟩) rfl (Nat.le_of_ble_eq_true rfl) (Nat.le_of_ble_eq_true rfl) rfl (sk_31 hS70) h ?_))))))
      rintro v μ73 ⟨r75, rfl, hS74, h⟩
      refine aw_stk (st' := [.int r75, .int r71]) rfl ?_
      refine aw_icmp_eq (pc' := 410) (tgt := 1543) (dt_L_law_4 31 (407, .if_icmp .eq 1136, 3) rfl) (by decide) rfl ?_ ?_
      · intro q76
        have h := h.1 q76
        refine aw_iinc (pc' := 1546) (v := 7) (ls' := [some (.ref 0), some (.ref 11), some (.ref 31), some (.int (x3 + 7))]) (dt_L_law_28 5 (1543, .iinc 3 7, 3) rfl) rfl (by decide) (by decide) rfl rfl (aw_goto (tgt := 18) (dt_L_law_28 6 (1546, .goto (-1528), 3) rfl) (by decide) ?_)
        exact h
      · intro q76
        have h := h.2 q76
        refine aw_iconst (pc' := 411) (v := 0) (dt_L_law_4 32 (410, .iconst 0, 1) rfl) (by decide) rfl (aw_iret (dt_L_law_4 33 (411, .ireturn, 1) rfl) rfl rfl ?_)
        exact h
    by_cases q77 : ((zI μ 0 x3.toNatClampNeg) &&& 63) = 6
    · have h := h.2.2.2.2.2.2.1 q77
      refine aw_tableE (tgt := 412) (off := 379) (dt_L_law_0 21 (33, .tableswitch 1510 0 38 #[171, 214, 257, 290, 333, 356, 379, 442, 475, 508, 561, 584, 647, 670, 703, 746, 799, 874, 917, 950, 973, 996, 1019, 1052, 1085, 1108, 1131, 1174, 1217, 1250, 1283, 1296, 1319, 1342, 1375, 1398, 1431, 1454, 1487], 171) rfl) q77 (by decide) (by decide) (by decide) (by decide) ?_
      obtain ⟨g78, h⟩ := h
      obtain ⟨g79, h⟩ := h
      obtain ⟨g80, h⟩ := h
      obtain ⟨g81, h⟩ := h
      obtain ⟨g82, h⟩ := h
      refine aw_aload_n (pc' := 413) (dt_L_law_4 34 (412, .aload_n 1, 1) rfl) rfl rfl (aw_aload_n (pc' := 414) (dt_L_law_4 35 (413, .aload_n 0, 1) rfl) rfl rfl (aw_iload_n (pc' := 415) (dt_L_law_4 36 (414, .iload_n 3, 1) rfl) rfl rfl (aw_iconst (pc' := 416) (v := 1) (dt_L_law_4 37 (415, .iconst 1, 1) rfl) (by decide) rfl (aw_iadd (pc' := 417) (dt_L_law_4 38 (416, .iadd, 1) rfl) rfl (aw_iald (pc' := 418) (dt_L_law_4 39 (417, .iaload, 1) rfl) rfl (sk_0 hS) g78 (aw_aload_n (pc' := 419) (dt_L_law_5 0 (418, .aload_n 0, 1) rfl) rfl rfl (aw_iload_n (pc' := 420) (dt_L_law_5 1 (419, .iload_n 3, 1) rfl) rfl rfl (aw_iconst (pc' := 421) (v := 2) (dt_L_law_5 2 (420, .iconst 2, 1) rfl) (by decide) rfl (aw_iadd (pc' := 422) (dt_L_law_5 3 (421, .iadd, 1) rfl) rfl (aw_iald (pc' := 423) (dt_L_law_5 4 (422, .iaload, 1) rfl) rfl (sk_0 hS) g79 (aw_aload_n (pc' := 424) (dt_L_law_5 5 (423, .aload_n 0, 1) rfl) rfl rfl (aw_iload_n (pc' := 425) (dt_L_law_5 6 (424, .iload_n 3, 1) rfl) rfl rfl (aw_iconst (pc' := 426) (v := 3) (dt_L_law_5 7 (425, .iconst 3, 1) rfl) (by decide) rfl (aw_iadd (pc' := 427) (dt_L_law_5 8 (426, .iadd, 1) rfl) rfl (aw_iald (pc' := 428) (dt_L_law_5 9 (427, .iaload, 1) rfl) rfl (sk_0 hS) g80 (aw_aload_n (pc' := 429) (dt_L_law_5 10 (428, .aload_n 0, 1) rfl) rfl rfl (aw_iload_n (pc' := 430) (dt_L_law_5 11 (429, .iload_n 3, 1) rfl) rfl rfl (aw_iconst (pc' := 431) (v := 4) (dt_L_law_5 12 (430, .iconst 4, 1) rfl) (by decide) rfl (aw_iadd (pc' := 432) (dt_L_law_5 13 (431, .iadd, 1) rfl) rfl (aw_iald (pc' := 433) (dt_L_law_5 14 (432, .iaload, 1) rfl) rfl (sk_0 hS) g81 (aw_aload_n (pc' := 434) (dt_L_law_5 15 (433, .aload_n 0, 1) rfl) rfl rfl (aw_iload_n (pc' := 435) (dt_L_law_5 16 (434, .iload_n 3, 1) rfl) rfl rfl (aw_iconst (pc' := 436) (v := 5) (dt_L_law_5 17 (435, .iconst 5, 1) rfl) (by decide) rfl (aw_iadd (pc' := 437) (dt_L_law_5 18 (436, .iadd, 1) rfl) rfl (aw_iald (pc' := 438) (dt_L_law_5 19 (437, .iaload, 1) rfl) rfl (sk_0 hS) g82 (aw_callVB (nc1 := 4) (ns1 := 460) (pc' := 441) (nc := nc) (ns := ns) (y2 := mX10_sell) (As := [.int (zI μ 0 (x3 + 1).toNatClampNeg), .int (zI μ 0 (x3 + 2).toNatClampNeg), .int (zI μ 0 (x3 + 3).toNatClampNeg), .int (zI μ 0 (x3 + 4).toNatClampNeg), .int (zI μ 0 (x3 + 5).toNatClampNeg)]) (rest := []) (a := 11) (dt_L_law_5 20 (438, .invokevirtual 40, 3) rfl) ok_X10_sell ln_ReturnDeskLaw_40 im_X10_sell se_X10_sell pr_X10_sell (Or.inl ⟨by decide, rfl⟩) rfl (Nat.le_of_ble_eq_true rfl) (Nat.le_of_ble_eq_true rfl) rfl (sk_11 hS) h ?_))))))))))))))))))))))))))
      rintro v μ83 ⟨r85, rfl, hS84, h⟩
      refine aw_stk (st' := [.int r85]) rfl ?_
      obtain ⟨g86, h⟩ := h
      obtain ⟨g87, h⟩ := h
      obtain ⟨g88, h⟩ := h
      obtain ⟨g89, h⟩ := h
      obtain ⟨g90, h⟩ := h
      refine aw_aload_n (pc' := 442) (dt_L_law_5 21 (441, .aload_n 2, 1) rfl) rfl rfl (aw_aload_n (pc' := 443) (dt_L_law_5 22 (442, .aload_n 0, 1) rfl) rfl rfl (aw_iload_n (pc' := 444) (dt_L_law_5 23 (443, .iload_n 3, 1) rfl) rfl rfl (aw_iconst (pc' := 445) (v := 1) (dt_L_law_5 24 (444, .iconst 1, 1) rfl) (by decide) rfl (aw_iadd (pc' := 446) (dt_L_law_5 25 (445, .iadd, 1) rfl) rfl (aw_iald (pc' := 447) (dt_L_law_5 26 (446, .iaload, 1) rfl) rfl (sk_0 hS84) g86 (aw_aload_n (pc' := 448) (dt_L_law_5 27 (447, .aload_n 0, 1) rfl) rfl rfl (aw_iload_n (pc' := 449) (dt_L_law_5 28 (448, .iload_n 3, 1) rfl) rfl rfl (aw_iconst (pc' := 450) (v := 2) (dt_L_law_5 29 (449, .iconst 2, 1) rfl) (by decide) rfl (aw_iadd (pc' := 451) (dt_L_law_5 30 (450, .iadd, 1) rfl) rfl (aw_iald (pc' := 452) (dt_L_law_5 31 (451, .iaload, 1) rfl) rfl (sk_0 hS84) g87 (aw_aload_n (pc' := 453) (dt_L_law_5 32 (452, .aload_n 0, 1) rfl) rfl rfl (aw_iload_n (pc' := 454) (dt_L_law_5 33 (453, .iload_n 3, 1) rfl) rfl rfl (aw_iconst (pc' := 455) (v := 3) (dt_L_law_5 34 (454, .iconst 3, 1) rfl) (by decide) rfl (aw_iadd (pc' := 456) (dt_L_law_5 35 (455, .iadd, 1) rfl) rfl (aw_iald (pc' := 457) (dt_L_law_5 36 (456, .iaload, 1) rfl) rfl (sk_0 hS84) g88 (aw_aload_n (pc' := 458) (dt_L_law_5 37 (457, .aload_n 0, 1) rfl) rfl rfl (aw_iload_n (pc' := 459) (dt_L_law_5 38 (458, .iload_n 3, 1) rfl) rfl rfl (aw_iconst (pc' := 460) (v := 4) (dt_L_law_5 39 (459, .iconst 4, 1) rfl) (by decide) rfl (aw_iadd (pc' := 461) (dt_L_law_6 0 (460, .iadd, 1) rfl) rfl (aw_iald (pc' := 462) (dt_L_law_6 1 (461, .iaload, 1) rfl) rfl (sk_0 hS84) g89 (aw_aload_n (pc' := 463) (dt_L_law_6 2 (462, .aload_n 0, 1) rfl) rfl rfl (aw_iload_n (pc' := 464) (dt_L_law_6 3 (463, .iload_n 3, 1) rfl) rfl rfl (aw_iconst (pc' := 465) (v := 5) (dt_L_law_6 4 (464, .iconst 5, 1) rfl) (by decide) rfl (aw_iadd (pc' := 466) (dt_L_law_6 5 (465, .iadd, 1) rfl) rfl (aw_iald (pc' := 467) (dt_L_law_6 6 (466, .iaload, 1) rfl) rfl (sk_0 hS84) g90 (aw_callV0 (pc' := 470) (nc := nc) (ns := ns) (y2 := mX11_sell) (As := [.int (zI μ83 0 (x3 + 1).toNatClampNeg), .int (zI μ83 0 (x3 + 2).toNatClampNeg), .int (zI μ83 0 (x3 + 3).toNatClampNeg), .int (zI μ83 0 (x3 + 4).toNatClampNeg), .int (zI μ83 0 (x3 + 5).toNatClampNeg)]) (rest := [.int r85]) (a := 31) (dt_L_law_6 7 (467, .invokevirtual 44, 3) rfl) ok_X11_sell ln_ReturnDeskLaw_44 im_X11_sell se_X11_sell pr_X11_sell (Or.inl ⟨by decide, rfl⟩) rfl (Nat.le_of_ble_eq_true rfl) (Nat.le_of_ble_eq_true rfl) rfl (sk_31 hS84) h ?_))))))))))))))))))))))))))
      rintro v μ91 ⟨r93, rfl, hS92, h⟩
      refine aw_stk (st' := [.int r93, .int r85]) rfl ?_
      refine aw_icmp_eq (pc' := 473) (tgt := 1543) (dt_L_law_6 8 (470, .if_icmp .eq 1073, 3) rfl) (by decide) rfl ?_ ?_
      · intro q94
        have h := h.1 q94
        refine aw_iinc (pc' := 1546) (v := 7) (ls' := [some (.ref 0), some (.ref 11), some (.ref 31), some (.int (x3 + 7))]) (dt_L_law_28 5 (1543, .iinc 3 7, 3) rfl) rfl (by decide) (by decide) rfl rfl (aw_goto (tgt := 18) (dt_L_law_28 6 (1546, .goto (-1528), 3) rfl) (by decide) ?_)
        exact h
      · intro q94
        have h := h.2 q94
        refine aw_iconst (pc' := 474) (v := 0) (dt_L_law_6 9 (473, .iconst 0, 1) rfl) (by decide) rfl (aw_iret (dt_L_law_6 10 (474, .ireturn, 1) rfl) rfl rfl ?_)
        exact h
    by_cases q95 : ((zI μ 0 x3.toNatClampNeg) &&& 63) = 7
    · have h := h.2.2.2.2.2.2.2.1 q95
      refine aw_tableE (tgt := 475) (off := 442) (dt_L_law_0 21 (33, .tableswitch 1510 0 38 #[171, 214, 257, 290, 333, 356, 379, 442, 475, 508, 561, 584, 647, 670, 703, 746, 799, 874, 917, 950, 973, 996, 1019, 1052, 1085, 1108, 1131, 1174, 1217, 1250, 1283, 1296, 1319, 1342, 1375, 1398, 1431, 1454, 1487], 171) rfl) q95 (by decide) (by decide) (by decide) (by decide) ?_
      obtain ⟨g96, h⟩ := h
      obtain ⟨g97, h⟩ := h
      refine aw_aload_n (pc' := 476) (dt_L_law_6 11 (475, .aload_n 1, 1) rfl) rfl rfl (aw_aload_n (pc' := 477) (dt_L_law_6 12 (476, .aload_n 0, 1) rfl) rfl rfl (aw_iload_n (pc' := 478) (dt_L_law_6 13 (477, .iload_n 3, 1) rfl) rfl rfl (aw_iconst (pc' := 479) (v := 1) (dt_L_law_6 14 (478, .iconst 1, 1) rfl) (by decide) rfl (aw_iadd (pc' := 480) (dt_L_law_6 15 (479, .iadd, 1) rfl) rfl (aw_iald (pc' := 481) (dt_L_law_6 16 (480, .iaload, 1) rfl) rfl (sk_0 hS) g96 (aw_aload_n (pc' := 482) (dt_L_law_6 17 (481, .aload_n 0, 1) rfl) rfl rfl (aw_iload_n (pc' := 483) (dt_L_law_6 18 (482, .iload_n 3, 1) rfl) rfl rfl (aw_iconst (pc' := 484) (v := 2) (dt_L_law_6 19 (483, .iconst 2, 1) rfl) (by decide) rfl (aw_iadd (pc' := 485) (dt_L_law_6 20 (484, .iadd, 1) rfl) rfl (aw_iald (pc' := 486) (dt_L_law_6 21 (485, .iaload, 1) rfl) rfl (sk_0 hS) g97 (aw_callVB (nc1 := 4) (ns1 := 460) (pc' := 489) (nc := nc) (ns := ns) (y2 := mX10_gift) (As := [.int (zI μ 0 (x3 + 1).toNatClampNeg), .int (zI μ 0 (x3 + 2).toNatClampNeg)]) (rest := []) (a := 11) (dt_L_law_6 22 (486, .invokevirtual 45, 3) rfl) ok_X10_gift ln_ReturnDeskLaw_45 im_X10_gift se_X10_gift pr_X10_gift (Or.inl ⟨by decide, rfl⟩) rfl (Nat.le_of_ble_eq_true rfl) (Nat.le_of_ble_eq_true rfl) rfl (sk_11 hS) h ?_)))))))))))
      rintro v μ98 ⟨r100, rfl, hS99, h⟩
      refine aw_stk (st' := [.int r100]) rfl ?_
      obtain ⟨g101, h⟩ := h
      obtain ⟨g102, h⟩ := h
      refine aw_aload_n (pc' := 490) (dt_L_law_6 23 (489, .aload_n 2, 1) rfl) rfl rfl (aw_aload_n (pc' := 491) (dt_L_law_6 24 (490, .aload_n 0, 1) rfl) rfl rfl (aw_iload_n (pc' := 492) (dt_L_law_6 25 (491, .iload_n 3, 1) rfl) rfl rfl (aw_iconst (pc' := 493) (v := 1) (dt_L_law_6 26 (492, .iconst 1, 1) rfl) (by decide) rfl (aw_iadd (pc' := 494) (dt_L_law_6 27 (493, .iadd, 1) rfl) rfl (aw_iald (pc' := 495) (dt_L_law_6 28 (494, .iaload, 1) rfl) rfl (sk_0 hS99) g101 (aw_aload_n (pc' := 496) (dt_L_law_6 29 (495, .aload_n 0, 1) rfl) rfl rfl (aw_iload_n (pc' := 497) (dt_L_law_6 30 (496, .iload_n 3, 1) rfl) rfl rfl (aw_iconst (pc' := 498) (v := 2) (dt_L_law_6 31 (497, .iconst 2, 1) rfl) (by decide) rfl (aw_iadd (pc' := 499) (dt_L_law_6 32 (498, .iadd, 1) rfl) rfl (aw_iald (pc' := 500) (dt_L_law_6 33 (499, .iaload, 1) rfl) rfl (sk_0 hS99) g102 (aw_callV0 (pc' := 503) (nc := nc) (ns := ns) (y2 := mX11_gift) (As := [.int (zI μ98 0 (x3 + 1).toNatClampNeg), .int (zI μ98 0 (x3 + 2).toNatClampNeg)]) (rest := [.int r100]) (a := 31) (dt_L_law_6 34 (500, .invokevirtual 48, 3) rfl) ok_X11_gift ln_ReturnDeskLaw_48 im_X11_gift se_X11_gift pr_X11_gift (Or.inl ⟨by decide, rfl⟩) rfl (Nat.le_of_ble_eq_true rfl) (Nat.le_of_ble_eq_true rfl) rfl (sk_31 hS99) h ?_)))))))))))
      rintro v μ103 ⟨r105, rfl, hS104, h⟩
      refine aw_stk (st' := [.int r105, .int r100]) rfl ?_
      refine aw_icmp_eq (pc' := 506) (tgt := 1543) (dt_L_law_6 35 (503, .if_icmp .eq 1040, 3) rfl) (by decide) rfl ?_ ?_
      · intro q106
        have h := h.1 q106
        refine aw_iinc (pc' := 1546) (v := 7) (ls' := [some (.ref 0), some (.ref 11), some (.ref 31), some (.int (x3 + 7))]) (dt_L_law_28 5 (1543, .iinc 3 7, 3) rfl) rfl (by decide) (by decide) rfl rfl (aw_goto (tgt := 18) (dt_L_law_28 6 (1546, .goto (-1528), 3) rfl) (by decide) ?_)
        exact h
      · intro q106
        have h := h.2 q106
        refine aw_iconst (pc' := 507) (v := 0) (dt_L_law_6 36 (506, .iconst 0, 1) rfl) (by decide) rfl (aw_iret (dt_L_law_6 37 (507, .ireturn, 1) rfl) rfl rfl ?_)
        exact h
    by_cases q107 : ((zI μ 0 x3.toNatClampNeg) &&& 63) = 8
    · have h := h.2.2.2.2.2.2.2.2.1 q107
      refine aw_tableE (tgt := 508) (off := 475) (dt_L_law_0 21 (33, .tableswitch 1510 0 38 #[171, 214, 257, 290, 333, 356, 379, 442, 475, 508, 561, 584, 647, 670, 703, 746, 799, 874, 917, 950, 973, 996, 1019, 1052, 1085, 1108, 1131, 1174, 1217, 1250, 1283, 1296, 1319, 1342, 1375, 1398, 1431, 1454, 1487], 171) rfl) q107 (by decide) (by decide) (by decide) (by decide) ?_
      obtain ⟨g108, h⟩ := h
      obtain ⟨g109, h⟩ := h
      refine aw_aload_n (pc' := 509) (dt_L_law_6 38 (508, .aload_n 1, 1) rfl) rfl rfl (aw_aload_n (pc' := 510) (dt_L_law_6 39 (509, .aload_n 0, 1) rfl) rfl rfl (aw_iload_n (pc' := 511) (dt_L_law_7 0 (510, .iload_n 3, 1) rfl) rfl rfl (aw_iconst (pc' := 512) (v := 1) (dt_L_law_7 1 (511, .iconst 1, 1) rfl) (by decide) rfl (aw_iadd (pc' := 513) (dt_L_law_7 2 (512, .iadd, 1) rfl) rfl (aw_iald (pc' := 514) (dt_L_law_7 3 (513, .iaload, 1) rfl) rfl (sk_0 hS) g108 (aw_aload_n (pc' := 515) (dt_L_law_7 4 (514, .aload_n 0, 1) rfl) rfl rfl (aw_iload_n (pc' := 516) (dt_L_law_7 5 (515, .iload_n 3, 1) rfl) rfl rfl (aw_iconst (pc' := 517) (v := 2) (dt_L_law_7 6 (516, .iconst 2, 1) rfl) (by decide) rfl (aw_iadd (pc' := 518) (dt_L_law_7 7 (517, .iadd, 1) rfl) rfl (aw_iald (pc' := 519) (dt_L_law_7 8 (518, .iaload, 1) rfl) rfl (sk_0 hS) g109 (aw_callVB (nc1 := 4) (ns1 := 460) (pc' := 522) (nc := nc) (ns := ns) (y2 := mX10_ofSale) (As := [.int (zI μ 0 (x3 + 1).toNatClampNeg), .int (zI μ 0 (x3 + 2).toNatClampNeg)]) (rest := []) (a := 11) (dt_L_law_7 9 (519, .invokevirtual 49, 3) rfl) ok_X10_ofSale ln_ReturnDeskLaw_49 im_X10_ofSale se_X10_ofSale pr_X10_ofSale (Or.inl ⟨by decide, rfl⟩) rfl (Nat.le_of_ble_eq_true rfl) (Nat.le_of_ble_eq_true rfl) rfl (sk_11 hS) h ?_)))))))))))
      rintro v μ110 ⟨r112, rfl, hS111, h⟩
      refine aw_stk (st' := [.int r112]) rfl ?_
      obtain ⟨g113, h⟩ := h
      obtain ⟨g114, h⟩ := h
      refine aw_aload_n (pc' := 523) (dt_L_law_7 10 (522, .aload_n 2, 1) rfl) rfl rfl (aw_aload_n (pc' := 524) (dt_L_law_7 11 (523, .aload_n 0, 1) rfl) rfl rfl (aw_iload_n (pc' := 525) (dt_L_law_7 12 (524, .iload_n 3, 1) rfl) rfl rfl (aw_iconst (pc' := 526) (v := 1) (dt_L_law_7 13 (525, .iconst 1, 1) rfl) (by decide) rfl (aw_iadd (pc' := 527) (dt_L_law_7 14 (526, .iadd, 1) rfl) rfl (aw_iald (pc' := 528) (dt_L_law_7 15 (527, .iaload, 1) rfl) rfl (sk_0 hS111) g113 (aw_aload_n (pc' := 529) (dt_L_law_7 16 (528, .aload_n 0, 1) rfl) rfl rfl (aw_iload_n (pc' := 530) (dt_L_law_7 17 (529, .iload_n 3, 1) rfl) rfl rfl (aw_iconst (pc' := 531) (v := 2) (dt_L_law_7 18 (530, .iconst 2, 1) rfl) (by decide) rfl (aw_iadd (pc' := 532) (dt_L_law_7 19 (531, .iadd, 1) rfl) rfl (aw_iald (pc' := 533) (dt_L_law_7 20 (532, .iaload, 1) rfl) rfl (sk_0 hS111) g114 (aw_callV0 (pc' := 536) (nc := nc) (ns := ns) (y2 := mX11_ofSale) (As := [.int (zI μ110 0 (x3 + 1).toNatClampNeg), .int (zI μ110 0 (x3 + 2).toNatClampNeg)]) (rest := [.int r112]) (a := 31) (dt_L_law_7 21 (533, .invokevirtual 52, 3) rfl) ok_X11_ofSale ln_ReturnDeskLaw_52 im_X11_ofSale se_X11_ofSale pr_X11_ofSale (Or.inl ⟨by decide, rfl⟩) rfl (Nat.le_of_ble_eq_true rfl) (Nat.le_of_ble_eq_true rfl) rfl (sk_31 hS111) h ?_)))))))))))
      rintro v μ115 ⟨r117, rfl, hS116, h⟩
      refine aw_stk (st' := [.int r117, .int r112]) rfl ?_
      refine aw_icmp_eq (pc' := 539) (tgt := 1543) (dt_L_law_7 22 (536, .if_icmp .eq 1007, 3) rfl) (by decide) rfl ?_ ?_
      · intro q118
        have h := h.1 q118
        refine aw_iinc (pc' := 1546) (v := 7) (ls' := [some (.ref 0), some (.ref 11), some (.ref 31), some (.int (x3 + 7))]) (dt_L_law_28 5 (1543, .iinc 3 7, 3) rfl) rfl (by decide) (by decide) rfl rfl (aw_goto (tgt := 18) (dt_L_law_28 6 (1546, .goto (-1528), 3) rfl) (by decide) ?_)
        exact h
      · intro q118
        have h := h.2 q118
        refine aw_iconst (pc' := 540) (v := 0) (dt_L_law_7 23 (539, .iconst 0, 1) rfl) (by decide) rfl (aw_iret (dt_L_law_7 24 (540, .ireturn, 1) rfl) rfl rfl ?_)
        exact h
    by_cases q119 : ((zI μ 0 x3.toNatClampNeg) &&& 63) = 9
    · have h := h.2.2.2.2.2.2.2.2.2.1 q119
      refine aw_tableE (tgt := 541) (off := 508) (dt_L_law_0 21 (33, .tableswitch 1510 0 38 #[171, 214, 257, 290, 333, 356, 379, 442, 475, 508, 561, 584, 647, 670, 703, 746, 799, 874, 917, 950, 973, 996, 1019, 1052, 1085, 1108, 1131, 1174, 1217, 1250, 1283, 1296, 1319, 1342, 1375, 1398, 1431, 1454, 1487], 171) rfl) q119 (by decide) (by decide) (by decide) (by decide) ?_
      obtain ⟨g120, h⟩ := h
      obtain ⟨g121, h⟩ := h
      obtain ⟨g122, h⟩ := h
      obtain ⟨g123, h⟩ := h
      refine aw_aload_n (pc' := 542) (dt_L_law_7 25 (541, .aload_n 1, 1) rfl) rfl rfl (aw_aload_n (pc' := 543) (dt_L_law_7 26 (542, .aload_n 0, 1) rfl) rfl rfl (aw_iload_n (pc' := 544) (dt_L_law_7 27 (543, .iload_n 3, 1) rfl) rfl rfl (aw_iconst (pc' := 545) (v := 1) (dt_L_law_7 28 (544, .iconst 1, 1) rfl) (by decide) rfl (aw_iadd (pc' := 546) (dt_L_law_7 29 (545, .iadd, 1) rfl) rfl (aw_iald (pc' := 547) (dt_L_law_7 30 (546, .iaload, 1) rfl) rfl (sk_0 hS) g120 (aw_aload_n (pc' := 548) (dt_L_law_7 31 (547, .aload_n 0, 1) rfl) rfl rfl (aw_iload_n (pc' := 549) (dt_L_law_7 32 (548, .iload_n 3, 1) rfl) rfl rfl (aw_iconst (pc' := 550) (v := 2) (dt_L_law_7 33 (549, .iconst 2, 1) rfl) (by decide) rfl (aw_iadd (pc' := 551) (dt_L_law_7 34 (550, .iadd, 1) rfl) rfl (aw_iald (pc' := 552) (dt_L_law_7 35 (551, .iaload, 1) rfl) rfl (sk_0 hS) g121 (aw_aload_n (pc' := 553) (dt_L_law_7 36 (552, .aload_n 0, 1) rfl) rfl rfl (aw_iload_n (pc' := 554) (dt_L_law_7 37 (553, .iload_n 3, 1) rfl) rfl rfl (aw_iconst (pc' := 555) (v := 3) (dt_L_law_7 38 (554, .iconst 3, 1) rfl) (by decide) rfl (aw_iadd (pc' := 556) (dt_L_law_7 39 (555, .iadd, 1) rfl) rfl (aw_iald (pc' := 557) (dt_L_law_8 0 (556, .iaload, 1) rfl) rfl (sk_0 hS) g122 (aw_aload_n (pc' := 558) (dt_L_law_8 1 (557, .aload_n 0, 1) rfl) rfl rfl (aw_iload_n (pc' := 559) (dt_L_law_8 2 (558, .iload_n 3, 1) rfl) rfl rfl (aw_iconst (pc' := 560) (v := 4) (dt_L_law_8 3 (559, .iconst 4, 1) rfl) (by decide) rfl (aw_iadd (pc' := 561) (dt_L_law_8 4 (560, .iadd, 1) rfl) rfl (aw_iald (pc' := 562) (dt_L_law_8 5 (561, .iaload, 1) rfl) rfl (sk_0 hS) g123 (aw_callVB (nc1 := 4) (ns1 := 460) (pc' := 565) (nc := nc) (ns := ns) (y2 := mX10_join) (As := [.int (zI μ 0 (x3 + 1).toNatClampNeg), .int (zI μ 0 (x3 + 2).toNatClampNeg), .int (zI μ 0 (x3 + 3).toNatClampNeg), .int (zI μ 0 (x3 + 4).toNatClampNeg)]) (rest := []) (a := 11) (dt_L_law_8 6 (562, .invokevirtual 53, 3) rfl) ok_X10_join ln_ReturnDeskLaw_53 im_X10_join se_X10_join pr_X10_join (Or.inl ⟨by decide, rfl⟩) rfl (Nat.le_of_ble_eq_true rfl) (Nat.le_of_ble_eq_true rfl) rfl (sk_11 hS) h ?_)))))))))))))))))))))
      rintro v μ124 ⟨r126, rfl, hS125, h⟩
      refine aw_stk (st' := [.int r126]) rfl ?_
      obtain ⟨g127, h⟩ := h
      obtain ⟨g128, h⟩ := h
      obtain ⟨g129, h⟩ := h
      obtain ⟨g130, h⟩ := h
      refine aw_aload_n (pc' := 566) (dt_L_law_8 7 (565, .aload_n 2, 1) rfl) rfl rfl (aw_aload_n (pc' := 567) (dt_L_law_8 8 (566, .aload_n 0, 1) rfl) rfl rfl (aw_iload_n (pc' := 568) (dt_L_law_8 9 (567, .iload_n 3, 1) rfl) rfl rfl (aw_iconst (pc' := 569) (v := 1) (dt_L_law_8 10 (568, .iconst 1, 1) rfl) (by decide) rfl (aw_iadd (pc' := 570) (dt_L_law_8 11 (569, .iadd, 1) rfl) rfl (aw_iald (pc' := 571) (dt_L_law_8 12 (570, .iaload, 1) rfl) rfl (sk_0 hS125) g127 (aw_aload_n (pc' := 572) (dt_L_law_8 13 (571, .aload_n 0, 1) rfl) rfl rfl (aw_iload_n (pc' := 573) (dt_L_law_8 14 (572, .iload_n 3, 1) rfl) rfl rfl (aw_iconst (pc' := 574) (v := 2) (dt_L_law_8 15 (573, .iconst 2, 1) rfl) (by decide) rfl (aw_iadd (pc' := 575) (dt_L_law_8 16 (574, .iadd, 1) rfl) rfl (aw_iald (pc' := 576) (dt_L_law_8 17 (575, .iaload, 1) rfl) rfl (sk_0 hS125) g128 (aw_aload_n (pc' := 577) (dt_L_law_8 18 (576, .aload_n 0, 1) rfl) rfl rfl (aw_iload_n (pc' := 578) (dt_L_law_8 19 (577, .iload_n 3, 1) rfl) rfl rfl (aw_iconst (pc' := 579) (v := 3) (dt_L_law_8 20 (578, .iconst 3, 1) rfl) (by decide) rfl (aw_iadd (pc' := 580) (dt_L_law_8 21 (579, .iadd, 1) rfl) rfl (aw_iald (pc' := 581) (dt_L_law_8 22 (580, .iaload, 1) rfl) rfl (sk_0 hS125) g129 (aw_aload_n (pc' := 582) (dt_L_law_8 23 (581, .aload_n 0, 1) rfl) rfl rfl (aw_iload_n (pc' := 583) (dt_L_law_8 24 (582, .iload_n 3, 1) rfl) rfl rfl (aw_iconst (pc' := 584) (v := 4) (dt_L_law_8 25 (583, .iconst 4, 1) rfl) (by decide) rfl (aw_iadd (pc' := 585) (dt_L_law_8 26 (584, .iadd, 1) rfl) rfl (aw_iald (pc' := 586) (dt_L_law_8 27 (585, .iaload, 1) rfl) rfl (sk_0 hS125) g130 (aw_callV0 (pc' := 589) (nc := nc) (ns := ns) (y2 := mX11_join) (As := [.int (zI μ124 0 (x3 + 1).toNatClampNeg), .int (zI μ124 0 (x3 + 2).toNatClampNeg), .int (zI μ124 0 (x3 + 3).toNatClampNeg), .int (zI μ124 0 (x3 + 4).toNatClampNeg)]) (rest := [.int r126]) (a := 31) (dt_L_law_8 28 (586, .invokevirtual 57, 3) rfl) ok_X11_join ln_ReturnDeskLaw_57 im_X11_join se_X11_join pr_X11_join (Or.inl ⟨by decide, rfl⟩) rfl (Nat.le_of_ble_eq_true rfl) (Nat.le_of_ble_eq_true rfl) rfl (sk_31 hS125) h ?_)))))))))))))))))))))
      rintro v μ131 ⟨r133, rfl, hS132, h⟩
      refine aw_stk (st' := [.int r133, .int r126]) rfl ?_
      refine aw_icmp_eq (pc' := 592) (tgt := 1543) (dt_L_law_8 29 (589, .if_icmp .eq 954, 3) rfl) (by decide) rfl ?_ ?_
      · intro q134
        have h := h.1 q134
        refine aw_iinc (pc' := 1546) (v := 7) (ls' := [some (.ref 0), some (.ref 11), some (.ref 31), some (.int (x3 + 7))]) (dt_L_law_28 5 (1543, .iinc 3 7, 3) rfl) rfl (by decide) (by decide) rfl rfl (aw_goto (tgt := 18) (dt_L_law_28 6 (1546, .goto (-1528), 3) rfl) (by decide) ?_)
        exact h
      · intro q134
        have h := h.2 q134
        refine aw_iconst (pc' := 593) (v := 0) (dt_L_law_8 30 (592, .iconst 0, 1) rfl) (by decide) rfl (aw_iret (dt_L_law_8 31 (593, .ireturn, 1) rfl) rfl rfl ?_)
        exact h
    by_cases q135 : ((zI μ 0 x3.toNatClampNeg) &&& 63) = 10
    · have h := h.2.2.2.2.2.2.2.2.2.2.1 q135
      refine aw_tableE (tgt := 594) (off := 561) (dt_L_law_0 21 (33, .tableswitch 1510 0 38 #[171, 214, 257, 290, 333, 356, 379, 442, 475, 508, 561, 584, 647, 670, 703, 746, 799, 874, 917, 950, 973, 996, 1019, 1052, 1085, 1108, 1131, 1174, 1217, 1250, 1283, 1296, 1319, 1342, 1375, 1398, 1431, 1454, 1487], 171) rfl) q135 (by decide) (by decide) (by decide) (by decide) ?_
      obtain ⟨g136, h⟩ := h
      refine aw_aload_n (pc' := 595) (dt_L_law_8 32 (594, .aload_n 1, 1) rfl) rfl rfl (aw_aload_n (pc' := 596) (dt_L_law_8 33 (595, .aload_n 0, 1) rfl) rfl rfl (aw_iload_n (pc' := 597) (dt_L_law_8 34 (596, .iload_n 3, 1) rfl) rfl rfl (aw_iconst (pc' := 598) (v := 1) (dt_L_law_8 35 (597, .iconst 1, 1) rfl) (by decide) rfl (aw_iadd (pc' := 599) (dt_L_law_8 36 (598, .iadd, 1) rfl) rfl (aw_iald (pc' := 600) (dt_L_law_8 37 (599, .iaload, 1) rfl) rfl (sk_0 hS) g136 (aw_callVB (nc1 := 4) (ns1 := 460) (pc' := 603) (nc := nc) (ns := ns) (y2 := mX10_keep) (As := [.int (zI μ 0 (x3 + 1).toNatClampNeg)]) (rest := []) (a := 11) (dt_L_law_8 38 (600, .invokevirtual 58, 3) rfl) ok_X10_keep ln_ReturnDeskLaw_58 im_X10_keep se_X10_keep pr_X10_keep (Or.inl ⟨by decide, rfl⟩) rfl (Nat.le_of_ble_eq_true rfl) (Nat.le_of_ble_eq_true rfl) rfl (sk_11 hS) h ?_))))))
      rintro v μ137 ⟨r139, rfl, hS138, h⟩
      refine aw_stk (st' := [.int r139]) rfl ?_
      obtain ⟨g140, h⟩ := h
      refine aw_aload_n (pc' := 604) (dt_L_law_8 39 (603, .aload_n 2, 1) rfl) rfl rfl (aw_aload_n (pc' := 605) (dt_L_law_9 0 (604, .aload_n 0, 1) rfl) rfl rfl (aw_iload_n (pc' := 606) (dt_L_law_9 1 (605, .iload_n 3, 1) rfl) rfl rfl (aw_iconst (pc' := 607) (v := 1) (dt_L_law_9 2 (606, .iconst 1, 1) rfl) (by decide) rfl (aw_iadd (pc' := 608) (dt_L_law_9 3 (607, .iadd, 1) rfl) rfl (aw_iald (pc' := 609) (dt_L_law_9 4 (608, .iaload, 1) rfl) rfl (sk_0 hS138) g140 (aw_callV0 (pc' := 612) (nc := nc) (ns := ns) (y2 := mX11_keep) (As := [.int (zI μ137 0 (x3 + 1).toNatClampNeg)]) (rest := [.int r139]) (a := 31) (dt_L_law_9 5 (609, .invokevirtual 61, 3) rfl) ok_X11_keep ln_ReturnDeskLaw_61 im_X11_keep se_X11_keep pr_X11_keep (Or.inl ⟨by decide, rfl⟩) rfl (Nat.le_of_ble_eq_true rfl) (Nat.le_of_ble_eq_true rfl) rfl (sk_31 hS138) h ?_))))))
      rintro v μ141 ⟨r143, rfl, hS142, h⟩
      refine aw_stk (st' := [.int r143, .int r139]) rfl ?_
      refine aw_icmp_eq (pc' := 615) (tgt := 1543) (dt_L_law_9 6 (612, .if_icmp .eq 931, 3) rfl) (by decide) rfl ?_ ?_
      · intro q144
        have h := h.1 q144
        refine aw_iinc (pc' := 1546) (v := 7) (ls' := [some (.ref 0), some (.ref 11), some (.ref 31), some (.int (x3 + 7))]) (dt_L_law_28 5 (1543, .iinc 3 7, 3) rfl) rfl (by decide) (by decide) rfl rfl (aw_goto (tgt := 18) (dt_L_law_28 6 (1546, .goto (-1528), 3) rfl) (by decide) ?_)
        exact h
      · intro q144
        have h := h.2 q144
        refine aw_iconst (pc' := 616) (v := 0) (dt_L_law_9 7 (615, .iconst 0, 1) rfl) (by decide) rfl (aw_iret (dt_L_law_9 8 (616, .ireturn, 1) rfl) rfl rfl ?_)
        exact h
    by_cases q145 : ((zI μ 0 x3.toNatClampNeg) &&& 63) = 11
    · have h := h.2.2.2.2.2.2.2.2.2.2.2.1 q145
      refine aw_tableE (tgt := 617) (off := 584) (dt_L_law_0 21 (33, .tableswitch 1510 0 38 #[171, 214, 257, 290, 333, 356, 379, 442, 475, 508, 561, 584, 647, 670, 703, 746, 799, 874, 917, 950, 973, 996, 1019, 1052, 1085, 1108, 1131, 1174, 1217, 1250, 1283, 1296, 1319, 1342, 1375, 1398, 1431, 1454, 1487], 171) rfl) q145 (by decide) (by decide) (by decide) (by decide) ?_
      obtain ⟨g146, h⟩ := h
      obtain ⟨g147, h⟩ := h
      obtain ⟨g148, h⟩ := h
      obtain ⟨g149, h⟩ := h
      obtain ⟨g150, h⟩ := h
      refine aw_aload_n (pc' := 618) (dt_L_law_9 9 (617, .aload_n 1, 1) rfl) rfl rfl (aw_aload_n (pc' := 619) (dt_L_law_9 10 (618, .aload_n 0, 1) rfl) rfl rfl (aw_iload_n (pc' := 620) (dt_L_law_9 11 (619, .iload_n 3, 1) rfl) rfl rfl (aw_iconst (pc' := 621) (v := 1) (dt_L_law_9 12 (620, .iconst 1, 1) rfl) (by decide) rfl (aw_iadd (pc' := 622) (dt_L_law_9 13 (621, .iadd, 1) rfl) rfl (aw_iald (pc' := 623) (dt_L_law_9 14 (622, .iaload, 1) rfl) rfl (sk_0 hS) g146 (aw_aload_n (pc' := 624) (dt_L_law_9 15 (623, .aload_n 0, 1) rfl) rfl rfl (aw_iload_n (pc' := 625) (dt_L_law_9 16 (624, .iload_n 3, 1) rfl) rfl rfl (aw_iconst (pc' := 626) (v := 2) (dt_L_law_9 17 (625, .iconst 2, 1) rfl) (by decide) rfl (aw_iadd (pc' := 627) (dt_L_law_9 18 (626, .iadd, 1) rfl) rfl (aw_iald (pc' := 628) (dt_L_law_9 19 (627, .iaload, 1) rfl) rfl (sk_0 hS) g147 (aw_aload_n (pc' := 629) (dt_L_law_9 20 (628, .aload_n 0, 1) rfl) rfl rfl (aw_iload_n (pc' := 630) (dt_L_law_9 21 (629, .iload_n 3, 1) rfl) rfl rfl (aw_iconst (pc' := 631) (v := 3) (dt_L_law_9 22 (630, .iconst 3, 1) rfl) (by decide) rfl (aw_iadd (pc' := 632) (dt_L_law_9 23 (631, .iadd, 1) rfl) rfl (aw_iald (pc' := 633) (dt_L_law_9 24 (632, .iaload, 1) rfl) rfl (sk_0 hS) g148 (aw_aload_n (pc' := 634) (dt_L_law_9 25 (633, .aload_n 0, 1) rfl) rfl rfl (aw_iload_n (pc' := 635) (dt_L_law_9 26 (634, .iload_n 3, 1) rfl) rfl rfl (aw_iconst (pc' := 636) (v := 4) (dt_L_law_9 27 (635, .iconst 4, 1) rfl) (by decide) rfl (aw_iadd (pc' := 637) (dt_L_law_9 28 (636, .iadd, 1) rfl) rfl (aw_iald (pc' := 638) (dt_L_law_9 29 (637, .iaload, 1) rfl) rfl (sk_0 hS) g149 (aw_aload_n (pc' := 639) (dt_L_law_9 30 (638, .aload_n 0, 1) rfl) rfl rfl (aw_iload_n (pc' := 640) (dt_L_law_9 31 (639, .iload_n 3, 1) rfl) rfl rfl (aw_iconst (pc' := 641) (v := 5) (dt_L_law_9 32 (640, .iconst 5, 1) rfl) (by decide) rfl (aw_iadd (pc' := 642) (dt_L_law_9 33 (641, .iadd, 1) rfl) rfl (aw_iald (pc' := 643) (dt_L_law_9 34 (642, .iaload, 1) rfl) rfl (sk_0 hS) g150 (aw_callVB (nc1 := 4) (ns1 := 460) (pc' := 646) (nc := nc) (ns := ns) (y2 := mX10_feed) (As := [.int (zI μ 0 (x3 + 1).toNatClampNeg), .int (zI μ 0 (x3 + 2).toNatClampNeg), .int (zI μ 0 (x3 + 3).toNatClampNeg), .int (zI μ 0 (x3 + 4).toNatClampNeg), .int (zI μ 0 (x3 + 5).toNatClampNeg)]) (rest := []) (a := 11) (dt_L_law_9 35 (643, .invokevirtual 62, 3) rfl) ok_X10_feed ln_ReturnDeskLaw_62 im_X10_feed se_X10_feed pr_X10_feed (Or.inl ⟨by decide, rfl⟩) rfl (Nat.le_of_ble_eq_true rfl) (Nat.le_of_ble_eq_true rfl) rfl (sk_11 hS) h ?_))))))))))))))))))))))))))
      rintro v μ151 ⟨r153, rfl, hS152, h⟩
      refine aw_stk (st' := [.int r153]) rfl ?_
      obtain ⟨g154, h⟩ := h
      obtain ⟨g155, h⟩ := h
      obtain ⟨g156, h⟩ := h
      obtain ⟨g157, h⟩ := h
      obtain ⟨g158, h⟩ := h
      refine aw_aload_n (pc' := 647) (dt_L_law_9 36 (646, .aload_n 2, 1) rfl) rfl rfl (aw_aload_n (pc' := 648) (dt_L_law_9 37 (647, .aload_n 0, 1) rfl) rfl rfl (aw_iload_n (pc' := 649) (dt_L_law_9 38 (648, .iload_n 3, 1) rfl) rfl rfl (aw_iconst (pc' := 650) (v := 1) (dt_L_law_9 39 (649, .iconst 1, 1) rfl) (by decide) rfl (aw_iadd (pc' := 651) (dt_L_law_10 0 (650, .iadd, 1) rfl) rfl (aw_iald (pc' := 652) (dt_L_law_10 1 (651, .iaload, 1) rfl) rfl (sk_0 hS152) g154 (aw_aload_n (pc' := 653) (dt_L_law_10 2 (652, .aload_n 0, 1) rfl) rfl rfl (aw_iload_n (pc' := 654) (dt_L_law_10 3 (653, .iload_n 3, 1) rfl) rfl rfl (aw_iconst (pc' := 655) (v := 2) (dt_L_law_10 4 (654, .iconst 2, 1) rfl) (by decide) rfl (aw_iadd (pc' := 656) (dt_L_law_10 5 (655, .iadd, 1) rfl) rfl (aw_iald (pc' := 657) (dt_L_law_10 6 (656, .iaload, 1) rfl) rfl (sk_0 hS152) g155 (aw_aload_n (pc' := 658) (dt_L_law_10 7 (657, .aload_n 0, 1) rfl) rfl rfl (aw_iload_n (pc' := 659) (dt_L_law_10 8 (658, .iload_n 3, 1) rfl) rfl rfl (aw_iconst (pc' := 660) (v := 3) (dt_L_law_10 9 (659, .iconst 3, 1) rfl) (by decide) rfl (aw_iadd (pc' := 661) (dt_L_law_10 10 (660, .iadd, 1) rfl) rfl (aw_iald (pc' := 662) (dt_L_law_10 11 (661, .iaload, 1) rfl) rfl (sk_0 hS152) g156 (aw_aload_n (pc' := 663) (dt_L_law_10 12 (662, .aload_n 0, 1) rfl) rfl rfl (aw_iload_n (pc' := 664) (dt_L_law_10 13 (663, .iload_n 3, 1) rfl) rfl rfl (aw_iconst (pc' := 665) (v := 4) (dt_L_law_10 14 (664, .iconst 4, 1) rfl) (by decide) rfl (aw_iadd (pc' := 666) (dt_L_law_10 15 (665, .iadd, 1) rfl) rfl (aw_iald (pc' := 667) (dt_L_law_10 16 (666, .iaload, 1) rfl) rfl (sk_0 hS152) g157 (aw_aload_n (pc' := 668) (dt_L_law_10 17 (667, .aload_n 0, 1) rfl) rfl rfl (aw_iload_n (pc' := 669) (dt_L_law_10 18 (668, .iload_n 3, 1) rfl) rfl rfl (aw_iconst (pc' := 670) (v := 5) (dt_L_law_10 19 (669, .iconst 5, 1) rfl) (by decide) rfl (aw_iadd (pc' := 671) (dt_L_law_10 20 (670, .iadd, 1) rfl) rfl (aw_iald (pc' := 672) (dt_L_law_10 21 (671, .iaload, 1) rfl) rfl (sk_0 hS152) g158 (aw_callV0 (pc' := 675) (nc := nc) (ns := ns) (y2 := mX11_feed) (As := [.int (zI μ151 0 (x3 + 1).toNatClampNeg), .int (zI μ151 0 (x3 + 2).toNatClampNeg), .int (zI μ151 0 (x3 + 3).toNatClampNeg), .int (zI μ151 0 (x3 + 4).toNatClampNeg), .int (zI μ151 0 (x3 + 5).toNatClampNeg)]) (rest := [.int r153]) (a := 31) (dt_L_law_10 22 (672, .invokevirtual 65, 3) rfl) ok_X11_feed ln_ReturnDeskLaw_65 im_X11_feed se_X11_feed pr_X11_feed (Or.inl ⟨by decide, rfl⟩) rfl (Nat.le_of_ble_eq_true rfl) (Nat.le_of_ble_eq_true rfl) rfl (sk_31 hS152) h ?_))))))))))))))))))))))))))
      rintro v μ159 ⟨r161, rfl, hS160, h⟩
      refine aw_stk (st' := [.int r161, .int r153]) rfl ?_
      refine aw_icmp_eq (pc' := 678) (tgt := 1543) (dt_L_law_10 23 (675, .if_icmp .eq 868, 3) rfl) (by decide) rfl ?_ ?_
      · intro q162
        have h := h.1 q162
        refine aw_iinc (pc' := 1546) (v := 7) (ls' := [some (.ref 0), some (.ref 11), some (.ref 31), some (.int (x3 + 7))]) (dt_L_law_28 5 (1543, .iinc 3 7, 3) rfl) rfl (by decide) (by decide) rfl rfl (aw_goto (tgt := 18) (dt_L_law_28 6 (1546, .goto (-1528), 3) rfl) (by decide) ?_)
        exact h
      · intro q162
        have h := h.2 q162
        refine aw_iconst (pc' := 679) (v := 0) (dt_L_law_10 24 (678, .iconst 0, 1) rfl) (by decide) rfl (aw_iret (dt_L_law_10 25 (679, .ireturn, 1) rfl) rfl rfl ?_)
        exact h
    by_cases q163 : ((zI μ 0 x3.toNatClampNeg) &&& 63) = 12
    · have h := h.2.2.2.2.2.2.2.2.2.2.2.2.1 q163
      refine aw_tableE (tgt := 680) (off := 647) (dt_L_law_0 21 (33, .tableswitch 1510 0 38 #[171, 214, 257, 290, 333, 356, 379, 442, 475, 508, 561, 584, 647, 670, 703, 746, 799, 874, 917, 950, 973, 996, 1019, 1052, 1085, 1108, 1131, 1174, 1217, 1250, 1283, 1296, 1319, 1342, 1375, 1398, 1431, 1454, 1487], 171) rfl) q163 (by decide) (by decide) (by decide) (by decide) ?_
      obtain ⟨g164, h⟩ := h
      refine aw_aload_n (pc' := 681) (dt_L_law_10 26 (680, .aload_n 1, 1) rfl) rfl rfl (aw_aload_n (pc' := 682) (dt_L_law_10 27 (681, .aload_n 0, 1) rfl) rfl rfl (aw_iload_n (pc' := 683) (dt_L_law_10 28 (682, .iload_n 3, 1) rfl) rfl rfl (aw_iconst (pc' := 684) (v := 1) (dt_L_law_10 29 (683, .iconst 1, 1) rfl) (by decide) rfl (aw_iadd (pc' := 685) (dt_L_law_10 30 (684, .iadd, 1) rfl) rfl (aw_iald (pc' := 686) (dt_L_law_10 31 (685, .iaload, 1) rfl) rfl (sk_0 hS) g164 (aw_callVB (nc1 := 4) (ns1 := 460) (pc' := 689) (nc := nc) (ns := ns) (y2 := mX10_end) (As := [.int (zI μ 0 (x3 + 1).toNatClampNeg)]) (rest := []) (a := 11) (dt_L_law_10 32 (686, .invokevirtual 66, 3) rfl) ok_X10_end ln_ReturnDeskLaw_66 im_X10_end se_X10_end pr_X10_end (Or.inl ⟨by decide, rfl⟩) rfl (Nat.le_of_ble_eq_true rfl) (Nat.le_of_ble_eq_true rfl) rfl (sk_11 hS) h ?_))))))
      rintro v μ165 ⟨r167, rfl, hS166, h⟩
      refine aw_stk (st' := [.int r167]) rfl ?_
      obtain ⟨g168, h⟩ := h
      refine aw_aload_n (pc' := 690) (dt_L_law_10 33 (689, .aload_n 2, 1) rfl) rfl rfl (aw_aload_n (pc' := 691) (dt_L_law_10 34 (690, .aload_n 0, 1) rfl) rfl rfl (aw_iload_n (pc' := 692) (dt_L_law_10 35 (691, .iload_n 3, 1) rfl) rfl rfl (aw_iconst (pc' := 693) (v := 1) (dt_L_law_10 36 (692, .iconst 1, 1) rfl) (by decide) rfl (aw_iadd (pc' := 694) (dt_L_law_10 37 (693, .iadd, 1) rfl) rfl (aw_iald (pc' := 695) (dt_L_law_10 38 (694, .iaload, 1) rfl) rfl (sk_0 hS166) g168 (aw_callV0 (pc' := 698) (nc := nc) (ns := ns) (y2 := mX11_end) (As := [.int (zI μ165 0 (x3 + 1).toNatClampNeg)]) (rest := [.int r167]) (a := 31) (dt_L_law_10 39 (695, .invokevirtual 69, 3) rfl) ok_X11_end ln_ReturnDeskLaw_69 im_X11_end se_X11_end pr_X11_end (Or.inl ⟨by decide, rfl⟩) rfl (Nat.le_of_ble_eq_true rfl) (Nat.le_of_ble_eq_true rfl) rfl (sk_31 hS166) h ?_))))))
      rintro v μ169 ⟨r171, rfl, hS170, h⟩
      refine aw_stk (st' := [.int r171, .int r167]) rfl ?_
      refine aw_icmp_eq (pc' := 701) (tgt := 1543) (dt_L_law_11 0 (698, .if_icmp .eq 845, 3) rfl) (by decide) rfl ?_ ?_
      · intro q172
        have h := h.1 q172
        refine aw_iinc (pc' := 1546) (v := 7) (ls' := [some (.ref 0), some (.ref 11), some (.ref 31), some (.int (x3 + 7))]) (dt_L_law_28 5 (1543, .iinc 3 7, 3) rfl) rfl (by decide) (by decide) rfl rfl (aw_goto (tgt := 18) (dt_L_law_28 6 (1546, .goto (-1528), 3) rfl) (by decide) ?_)
        exact h
      · intro q172
        have h := h.2 q172
        refine aw_iconst (pc' := 702) (v := 0) (dt_L_law_11 1 (701, .iconst 0, 1) rfl) (by decide) rfl (aw_iret (dt_L_law_11 2 (702, .ireturn, 1) rfl) rfl rfl ?_)
        exact h
    by_cases q173 : ((zI μ 0 x3.toNatClampNeg) &&& 63) = 13
    · have h := h.2.2.2.2.2.2.2.2.2.2.2.2.2.1 q173
      refine aw_tableE (tgt := 703) (off := 670) (dt_L_law_0 21 (33, .tableswitch 1510 0 38 #[171, 214, 257, 290, 333, 356, 379, 442, 475, 508, 561, 584, 647, 670, 703, 746, 799, 874, 917, 950, 973, 996, 1019, 1052, 1085, 1108, 1131, 1174, 1217, 1250, 1283, 1296, 1319, 1342, 1375, 1398, 1431, 1454, 1487], 171) rfl) q173 (by decide) (by decide) (by decide) (by decide) ?_
      obtain ⟨g174, h⟩ := h
      obtain ⟨g175, h⟩ := h
      refine aw_aload_n (pc' := 704) (dt_L_law_11 3 (703, .aload_n 1, 1) rfl) rfl rfl (aw_aload_n (pc' := 705) (dt_L_law_11 4 (704, .aload_n 0, 1) rfl) rfl rfl (aw_iload_n (pc' := 706) (dt_L_law_11 5 (705, .iload_n 3, 1) rfl) rfl rfl (aw_iconst (pc' := 707) (v := 1) (dt_L_law_11 6 (706, .iconst 1, 1) rfl) (by decide) rfl (aw_iadd (pc' := 708) (dt_L_law_11 7 (707, .iadd, 1) rfl) rfl (aw_iald (pc' := 709) (dt_L_law_11 8 (708, .iaload, 1) rfl) rfl (sk_0 hS) g174 (aw_aload_n (pc' := 710) (dt_L_law_11 9 (709, .aload_n 0, 1) rfl) rfl rfl (aw_iload_n (pc' := 711) (dt_L_law_11 10 (710, .iload_n 3, 1) rfl) rfl rfl (aw_iconst (pc' := 712) (v := 2) (dt_L_law_11 11 (711, .iconst 2, 1) rfl) (by decide) rfl (aw_iadd (pc' := 713) (dt_L_law_11 12 (712, .iadd, 1) rfl) rfl (aw_iald (pc' := 714) (dt_L_law_11 13 (713, .iaload, 1) rfl) rfl (sk_0 hS) g175 (aw_callVB (nc1 := 4) (ns1 := 460) (pc' := 717) (nc := nc) (ns := ns) (y2 := mX10_text) (As := [.int (zI μ 0 (x3 + 1).toNatClampNeg), .int (zI μ 0 (x3 + 2).toNatClampNeg)]) (rest := []) (a := 11) (dt_L_law_11 14 (714, .invokevirtual 70, 3) rfl) ok_X10_text ln_ReturnDeskLaw_70 im_X10_text se_X10_text pr_X10_text (Or.inl ⟨by decide, rfl⟩) rfl (Nat.le_of_ble_eq_true rfl) (Nat.le_of_ble_eq_true rfl) rfl (sk_11 hS) h ?_)))))))))))
      rintro v μ176 ⟨r178, rfl, hS177, h⟩
      refine aw_stk (st' := [.int r178]) rfl ?_
      obtain ⟨g179, h⟩ := h
      obtain ⟨g180, h⟩ := h
      refine aw_aload_n (pc' := 718) (dt_L_law_11 15 (717, .aload_n 2, 1) rfl) rfl rfl (aw_aload_n (pc' := 719) (dt_L_law_11 16 (718, .aload_n 0, 1) rfl) rfl rfl (aw_iload_n (pc' := 720) (dt_L_law_11 17 (719, .iload_n 3, 1) rfl) rfl rfl (aw_iconst (pc' := 721) (v := 1) (dt_L_law_11 18 (720, .iconst 1, 1) rfl) (by decide) rfl (aw_iadd (pc' := 722) (dt_L_law_11 19 (721, .iadd, 1) rfl) rfl (aw_iald (pc' := 723) (dt_L_law_11 20 (722, .iaload, 1) rfl) rfl (sk_0 hS177) g179 (aw_aload_n (pc' := 724) (dt_L_law_11 21 (723, .aload_n 0, 1) rfl) rfl rfl (aw_iload_n (pc' := 725) (dt_L_law_11 22 (724, .iload_n 3, 1) rfl) rfl rfl (aw_iconst (pc' := 726) (v := 2) (dt_L_law_11 23 (725, .iconst 2, 1) rfl) (by decide) rfl (aw_iadd (pc' := 727) (dt_L_law_11 24 (726, .iadd, 1) rfl) rfl (aw_iald (pc' := 728) (dt_L_law_11 25 (727, .iaload, 1) rfl) rfl (sk_0 hS177) g180 (aw_callV0 (pc' := 731) (nc := nc) (ns := ns) (y2 := mX11_text) (As := [.int (zI μ176 0 (x3 + 1).toNatClampNeg), .int (zI μ176 0 (x3 + 2).toNatClampNeg)]) (rest := [.int r178]) (a := 31) (dt_L_law_11 26 (728, .invokevirtual 73, 3) rfl) ok_X11_text ln_ReturnDeskLaw_73 im_X11_text se_X11_text pr_X11_text (Or.inl ⟨by decide, rfl⟩) rfl (Nat.le_of_ble_eq_true rfl) (Nat.le_of_ble_eq_true rfl) rfl (sk_31 hS177) h ?_)))))))))))
      rintro v μ181 ⟨r183, rfl, hS182, h⟩
      refine aw_stk (st' := [.int r183, .int r178]) rfl ?_
      refine aw_icmp_eq (pc' := 734) (tgt := 1543) (dt_L_law_11 27 (731, .if_icmp .eq 812, 3) rfl) (by decide) rfl ?_ ?_
      · intro q184
        have h := h.1 q184
        refine aw_iinc (pc' := 1546) (v := 7) (ls' := [some (.ref 0), some (.ref 11), some (.ref 31), some (.int (x3 + 7))]) (dt_L_law_28 5 (1543, .iinc 3 7, 3) rfl) rfl (by decide) (by decide) rfl rfl (aw_goto (tgt := 18) (dt_L_law_28 6 (1546, .goto (-1528), 3) rfl) (by decide) ?_)
        exact h
      · intro q184
        have h := h.2 q184
        refine aw_iconst (pc' := 735) (v := 0) (dt_L_law_11 28 (734, .iconst 0, 1) rfl) (by decide) rfl (aw_iret (dt_L_law_11 29 (735, .ireturn, 1) rfl) rfl rfl ?_)
        exact h
    by_cases q185 : ((zI μ 0 x3.toNatClampNeg) &&& 63) = 14
    · have h := h.2.2.2.2.2.2.2.2.2.2.2.2.2.2.1 q185
      refine aw_tableE (tgt := 736) (off := 703) (dt_L_law_0 21 (33, .tableswitch 1510 0 38 #[171, 214, 257, 290, 333, 356, 379, 442, 475, 508, 561, 584, 647, 670, 703, 746, 799, 874, 917, 950, 973, 996, 1019, 1052, 1085, 1108, 1131, 1174, 1217, 1250, 1283, 1296, 1319, 1342, 1375, 1398, 1431, 1454, 1487], 171) rfl) q185 (by decide) (by decide) (by decide) (by decide) ?_
      obtain ⟨g186, h⟩ := h
      obtain ⟨g187, h⟩ := h
      obtain ⟨g188, h⟩ := h
      refine aw_aload_n (pc' := 737) (dt_L_law_11 30 (736, .aload_n 1, 1) rfl) rfl rfl (aw_aload_n (pc' := 738) (dt_L_law_11 31 (737, .aload_n 0, 1) rfl) rfl rfl (aw_iload_n (pc' := 739) (dt_L_law_11 32 (738, .iload_n 3, 1) rfl) rfl rfl (aw_iconst (pc' := 740) (v := 1) (dt_L_law_11 33 (739, .iconst 1, 1) rfl) (by decide) rfl (aw_iadd (pc' := 741) (dt_L_law_11 34 (740, .iadd, 1) rfl) rfl (aw_iald (pc' := 742) (dt_L_law_11 35 (741, .iaload, 1) rfl) rfl (sk_0 hS) g186 (aw_aload_n (pc' := 743) (dt_L_law_11 36 (742, .aload_n 0, 1) rfl) rfl rfl (aw_iload_n (pc' := 744) (dt_L_law_11 37 (743, .iload_n 3, 1) rfl) rfl rfl (aw_iconst (pc' := 745) (v := 2) (dt_L_law_11 38 (744, .iconst 2, 1) rfl) (by decide) rfl (aw_iadd (pc' := 746) (dt_L_law_11 39 (745, .iadd, 1) rfl) rfl (aw_iald (pc' := 747) (dt_L_law_12 0 (746, .iaload, 1) rfl) rfl (sk_0 hS) g187 (aw_aload_n (pc' := 748) (dt_L_law_12 1 (747, .aload_n 0, 1) rfl) rfl rfl (aw_iload_n (pc' := 749) (dt_L_law_12 2 (748, .iload_n 3, 1) rfl) rfl rfl (aw_iconst (pc' := 750) (v := 3) (dt_L_law_12 3 (749, .iconst 3, 1) rfl) (by decide) rfl (aw_iadd (pc' := 751) (dt_L_law_12 4 (750, .iadd, 1) rfl) rfl (aw_iald (pc' := 752) (dt_L_law_12 5 (751, .iaload, 1) rfl) rfl (sk_0 hS) g188 (aw_callVB (nc1 := 4) (ns1 := 460) (pc' := 755) (nc := nc) (ns := ns) (y2 := mX10_inForce) (As := [.int (zI μ 0 (x3 + 1).toNatClampNeg), .int (zI μ 0 (x3 + 2).toNatClampNeg), .int (zI μ 0 (x3 + 3).toNatClampNeg)]) (rest := []) (a := 11) (dt_L_law_12 6 (752, .invokevirtual 74, 3) rfl) ok_X10_inForce ln_ReturnDeskLaw_74 im_X10_inForce se_X10_inForce pr_X10_inForce (Or.inl ⟨by decide, rfl⟩) rfl (Nat.le_of_ble_eq_true rfl) (Nat.le_of_ble_eq_true rfl) rfl (sk_11 hS) h ?_))))))))))))))))
      rintro v μ189 ⟨r191, rfl, hS190, h⟩
      refine aw_stk (st' := [.int r191]) rfl ?_
      obtain ⟨g192, h⟩ := h
      obtain ⟨g193, h⟩ := h
      obtain ⟨g194, h⟩ := h
      refine aw_aload_n (pc' := 756) (dt_L_law_12 7 (755, .aload_n 2, 1) rfl) rfl rfl (aw_aload_n (pc' := 757) (dt_L_law_12 8 (756, .aload_n 0, 1) rfl) rfl rfl (aw_iload_n (pc' := 758) (dt_L_law_12 9 (757, .iload_n 3, 1) rfl) rfl rfl (aw_iconst (pc' := 759) (v := 1) (dt_L_law_12 10 (758, .iconst 1, 1) rfl) (by decide) rfl (aw_iadd (pc' := 760) (dt_L_law_12 11 (759, .iadd, 1) rfl) rfl (aw_iald (pc' := 761) (dt_L_law_12 12 (760, .iaload, 1) rfl) rfl (sk_0 hS190) g192 (aw_aload_n (pc' := 762) (dt_L_law_12 13 (761, .aload_n 0, 1) rfl) rfl rfl (aw_iload_n (pc' := 763) (dt_L_law_12 14 (762, .iload_n 3, 1) rfl) rfl rfl (aw_iconst (pc' := 764) (v := 2) (dt_L_law_12 15 (763, .iconst 2, 1) rfl) (by decide) rfl (aw_iadd (pc' := 765) (dt_L_law_12 16 (764, .iadd, 1) rfl) rfl (aw_iald (pc' := 766) (dt_L_law_12 17 (765, .iaload, 1) rfl) rfl (sk_0 hS190) g193 (aw_aload_n (pc' := 767) (dt_L_law_12 18 (766, .aload_n 0, 1) rfl) rfl rfl (aw_iload_n (pc' := 768) (dt_L_law_12 19 (767, .iload_n 3, 1) rfl) rfl rfl (aw_iconst (pc' := 769) (v := 3) (dt_L_law_12 20 (768, .iconst 3, 1) rfl) (by decide) rfl (aw_iadd (pc' := 770) (dt_L_law_12 21 (769, .iadd, 1) rfl) rfl (aw_iald (pc' := 771) (dt_L_law_12 22 (770, .iaload, 1) rfl) rfl (sk_0 hS190) g194 (aw_callV0 (pc' := 774) (nc := nc) (ns := ns) (y2 := mX11_inForce) (As := [.int (zI μ189 0 (x3 + 1).toNatClampNeg), .int (zI μ189 0 (x3 + 2).toNatClampNeg), .int (zI μ189 0 (x3 + 3).toNatClampNeg)]) (rest := [.int r191]) (a := 31) (dt_L_law_12 23 (771, .invokevirtual 77, 3) rfl) ok_X11_inForce ln_ReturnDeskLaw_77 im_X11_inForce se_X11_inForce pr_X11_inForce (Or.inl ⟨by decide, rfl⟩) rfl (Nat.le_of_ble_eq_true rfl) (Nat.le_of_ble_eq_true rfl) rfl (sk_31 hS190) h ?_))))))))))))))))
      rintro v μ195 ⟨r197, rfl, hS196, h⟩
      refine aw_stk (st' := [.int r197, .int r191]) rfl ?_
      refine aw_icmp_eq (pc' := 777) (tgt := 1543) (dt_L_law_12 24 (774, .if_icmp .eq 769, 3) rfl) (by decide) rfl ?_ ?_
      · intro q198
        have h := h.1 q198
        refine aw_iinc (pc' := 1546) (v := 7) (ls' := [some (.ref 0), some (.ref 11), some (.ref 31), some (.int (x3 + 7))]) (dt_L_law_28 5 (1543, .iinc 3 7, 3) rfl) rfl (by decide) (by decide) rfl rfl (aw_goto (tgt := 18) (dt_L_law_28 6 (1546, .goto (-1528), 3) rfl) (by decide) ?_)
        exact h
      · intro q198
        have h := h.2 q198
        refine aw_iconst (pc' := 778) (v := 0) (dt_L_law_12 25 (777, .iconst 0, 1) rfl) (by decide) rfl (aw_iret (dt_L_law_12 26 (778, .ireturn, 1) rfl) rfl rfl ?_)
        exact h
    by_cases q199 : ((zI μ 0 x3.toNatClampNeg) &&& 63) = 15
    · have h := h.2.2.2.2.2.2.2.2.2.2.2.2.2.2.2.1 q199
      refine aw_tableE (tgt := 779) (off := 746) (dt_L_law_0 21 (33, .tableswitch 1510 0 38 #[171, 214, 257, 290, 333, 356, 379, 442, 475, 508, 561, 584, 647, 670, 703, 746, 799, 874, 917, 950, 973, 996, 1019, 1052, 1085, 1108, 1131, 1174, 1217, 1250, 1283, 1296, 1319, 1342, 1375, 1398, 1431, 1454, 1487], 171) rfl) q199 (by decide) (by decide) (by decide) (by decide) ?_
      obtain ⟨g200, h⟩ := h
      obtain ⟨g201, h⟩ := h
      obtain ⟨g202, h⟩ := h
      obtain ⟨g203, h⟩ := h
      refine aw_aload_n (pc' := 780) (dt_L_law_12 27 (779, .aload_n 1, 1) rfl) rfl rfl (aw_aload_n (pc' := 781) (dt_L_law_12 28 (780, .aload_n 0, 1) rfl) rfl rfl (aw_iload_n (pc' := 782) (dt_L_law_12 29 (781, .iload_n 3, 1) rfl) rfl rfl (aw_iconst (pc' := 783) (v := 1) (dt_L_law_12 30 (782, .iconst 1, 1) rfl) (by decide) rfl (aw_iadd (pc' := 784) (dt_L_law_12 31 (783, .iadd, 1) rfl) rfl (aw_iald (pc' := 785) (dt_L_law_12 32 (784, .iaload, 1) rfl) rfl (sk_0 hS) g200 (aw_aload_n (pc' := 786) (dt_L_law_12 33 (785, .aload_n 0, 1) rfl) rfl rfl (aw_iload_n (pc' := 787) (dt_L_law_12 34 (786, .iload_n 3, 1) rfl) rfl rfl (aw_iconst (pc' := 788) (v := 2) (dt_L_law_12 35 (787, .iconst 2, 1) rfl) (by decide) rfl (aw_iadd (pc' := 789) (dt_L_law_12 36 (788, .iadd, 1) rfl) rfl (aw_iald (pc' := 790) (dt_L_law_12 37 (789, .iaload, 1) rfl) rfl (sk_0 hS) g201 (aw_aload_n (pc' := 791) (dt_L_law_12 38 (790, .aload_n 0, 1) rfl) rfl rfl (aw_iload_n (pc' := 792) (dt_L_law_12 39 (791, .iload_n 3, 1) rfl) rfl rfl (aw_iconst (pc' := 793) (v := 3) (dt_L_law_13 0 (792, .iconst 3, 1) rfl) (by decide) rfl (aw_iadd (pc' := 794) (dt_L_law_13 1 (793, .iadd, 1) rfl) rfl (aw_iald (pc' := 795) (dt_L_law_13 2 (794, .iaload, 1) rfl) rfl (sk_0 hS) g202 (aw_aload_n (pc' := 796) (dt_L_law_13 3 (795, .aload_n 0, 1) rfl) rfl rfl (aw_iload_n (pc' := 797) (dt_L_law_13 4 (796, .iload_n 3, 1) rfl) rfl rfl (aw_iconst (pc' := 798) (v := 4) (dt_L_law_13 5 (797, .iconst 4, 1) rfl) (by decide) rfl (aw_iadd (pc' := 799) (dt_L_law_13 6 (798, .iadd, 1) rfl) rfl (aw_iald (pc' := 800) (dt_L_law_13 7 (799, .iaload, 1) rfl) rfl (sk_0 hS) g203 (aw_callVB (nc1 := 4) (ns1 := 460) (pc' := 803) (nc := nc) (ns := ns) (y2 := mX10_says) (As := [.int (zI μ 0 (x3 + 1).toNatClampNeg), .int (zI μ 0 (x3 + 2).toNatClampNeg), .int (zI μ 0 (x3 + 3).toNatClampNeg), .int (zI μ 0 (x3 + 4).toNatClampNeg)]) (rest := []) (a := 11) (dt_L_law_13 8 (800, .invokevirtual 78, 3) rfl) ok_X10_says ln_ReturnDeskLaw_78 im_X10_says se_X10_says pr_X10_says (Or.inl ⟨by decide, rfl⟩) rfl (Nat.le_of_ble_eq_true rfl) (Nat.le_of_ble_eq_true rfl) rfl (sk_11 hS) h ?_)))))))))))))))))))))
      rintro v μ204 ⟨r206, rfl, hS205, h⟩
      refine aw_stk (st' := [.int r206]) rfl ?_
      obtain ⟨g207, h⟩ := h
      obtain ⟨g208, h⟩ := h
      obtain ⟨g209, h⟩ := h
      obtain ⟨g210, h⟩ := h
      refine aw_aload_n (pc' := 804) (dt_L_law_13 9 (803, .aload_n 2, 1) rfl) rfl rfl (aw_aload_n (pc' := 805) (dt_L_law_13 10 (804, .aload_n 0, 1) rfl) rfl rfl (aw_iload_n (pc' := 806) (dt_L_law_13 11 (805, .iload_n 3, 1) rfl) rfl rfl (aw_iconst (pc' := 807) (v := 1) (dt_L_law_13 12 (806, .iconst 1, 1) rfl) (by decide) rfl (aw_iadd (pc' := 808) (dt_L_law_13 13 (807, .iadd, 1) rfl) rfl (aw_iald (pc' := 809) (dt_L_law_13 14 (808, .iaload, 1) rfl) rfl (sk_0 hS205) g207 (aw_aload_n (pc' := 810) (dt_L_law_13 15 (809, .aload_n 0, 1) rfl) rfl rfl (aw_iload_n (pc' := 811) (dt_L_law_13 16 (810, .iload_n 3, 1) rfl) rfl rfl (aw_iconst (pc' := 812) (v := 2) (dt_L_law_13 17 (811, .iconst 2, 1) rfl) (by decide) rfl (aw_iadd (pc' := 813) (dt_L_law_13 18 (812, .iadd, 1) rfl) rfl (aw_iald (pc' := 814) (dt_L_law_13 19 (813, .iaload, 1) rfl) rfl (sk_0 hS205) g208 (aw_aload_n (pc' := 815) (dt_L_law_13 20 (814, .aload_n 0, 1) rfl) rfl rfl (aw_iload_n (pc' := 816) (dt_L_law_13 21 (815, .iload_n 3, 1) rfl) rfl rfl (aw_iconst (pc' := 817) (v := 3) (dt_L_law_13 22 (816, .iconst 3, 1) rfl) (by decide) rfl (aw_iadd (pc' := 818) (dt_L_law_13 23 (817, .iadd, 1) rfl) rfl (aw_iald (pc' := 819) (dt_L_law_13 24 (818, .iaload, 1) rfl) rfl (sk_0 hS205) g209 (aw_aload_n (pc' := 820) (dt_L_law_13 25 (819, .aload_n 0, 1) rfl) rfl rfl (aw_iload_n (pc' := 821) (dt_L_law_13 26 (820, .iload_n 3, 1) rfl) rfl rfl (aw_iconst (pc' := 822) (v := 4) (dt_L_law_13 27 (821, .iconst 4, 1) rfl) (by decide) rfl (aw_iadd (pc' := 823) (dt_L_law_13 28 (822, .iadd, 1) rfl) rfl (aw_iald (pc' := 824) (dt_L_law_13 29 (823, .iaload, 1) rfl) rfl (sk_0 hS205) g210 (aw_callV0 (pc' := 827) (nc := nc) (ns := ns) (y2 := mX11_says) (As := [.int (zI μ204 0 (x3 + 1).toNatClampNeg), .int (zI μ204 0 (x3 + 2).toNatClampNeg), .int (zI μ204 0 (x3 + 3).toNatClampNeg), .int (zI μ204 0 (x3 + 4).toNatClampNeg)]) (rest := [.int r206]) (a := 31) (dt_L_law_13 30 (824, .invokevirtual 81, 3) rfl) ok_X11_says ln_ReturnDeskLaw_81 im_X11_says se_X11_says pr_X11_says (Or.inl ⟨by decide, rfl⟩) rfl (Nat.le_of_ble_eq_true rfl) (Nat.le_of_ble_eq_true rfl) rfl (sk_31 hS205) h ?_)))))))))))))))))))))
      rintro v μ211 ⟨r213, rfl, hS212, h⟩
      refine aw_stk (st' := [.int r213, .int r206]) rfl ?_
      refine aw_icmp_eq (pc' := 830) (tgt := 1543) (dt_L_law_13 31 (827, .if_icmp .eq 716, 3) rfl) (by decide) rfl ?_ ?_
      · intro q214
        have h := h.1 q214
        refine aw_iinc (pc' := 1546) (v := 7) (ls' := [some (.ref 0), some (.ref 11), some (.ref 31), some (.int (x3 + 7))]) (dt_L_law_28 5 (1543, .iinc 3 7, 3) rfl) rfl (by decide) (by decide) rfl rfl (aw_goto (tgt := 18) (dt_L_law_28 6 (1546, .goto (-1528), 3) rfl) (by decide) ?_)
        exact h
      · intro q214
        have h := h.2 q214
        refine aw_iconst (pc' := 831) (v := 0) (dt_L_law_13 32 (830, .iconst 0, 1) rfl) (by decide) rfl (aw_iret (dt_L_law_13 33 (831, .ireturn, 1) rfl) rfl rfl ?_)
        exact h
    by_cases q215 : ((zI μ 0 x3.toNatClampNeg) &&& 63) = 16
    · have h := h.2.2.2.2.2.2.2.2.2.2.2.2.2.2.2.2.1 q215
      refine aw_tableE (tgt := 832) (off := 799) (dt_L_law_0 21 (33, .tableswitch 1510 0 38 #[171, 214, 257, 290, 333, 356, 379, 442, 475, 508, 561, 584, 647, 670, 703, 746, 799, 874, 917, 950, 973, 996, 1019, 1052, 1085, 1108, 1131, 1174, 1217, 1250, 1283, 1296, 1319, 1342, 1375, 1398, 1431, 1454, 1487], 171) rfl) q215 (by decide) (by decide) (by decide) (by decide) ?_
      obtain ⟨g216, h⟩ := h
      obtain ⟨g217, h⟩ := h
      obtain ⟨g218, h⟩ := h
      obtain ⟨g219, h⟩ := h
      obtain ⟨g220, h⟩ := h
      obtain ⟨g221, h⟩ := h
      refine aw_aload_n (pc' := 833) (dt_L_law_13 34 (832, .aload_n 1, 1) rfl) rfl rfl (aw_aload_n (pc' := 834) (dt_L_law_13 35 (833, .aload_n 0, 1) rfl) rfl rfl (aw_iload_n (pc' := 835) (dt_L_law_13 36 (834, .iload_n 3, 1) rfl) rfl rfl (aw_iconst (pc' := 836) (v := 1) (dt_L_law_13 37 (835, .iconst 1, 1) rfl) (by decide) rfl (aw_iadd (pc' := 837) (dt_L_law_13 38 (836, .iadd, 1) rfl) rfl (aw_iald (pc' := 838) (dt_L_law_13 39 (837, .iaload, 1) rfl) rfl (sk_0 hS) g216 (aw_aload_n (pc' := 839) (dt_L_law_14 0 (838, .aload_n 0, 1) rfl) rfl rfl (aw_iload_n (pc' := 840) (dt_L_law_14 1 (839, .iload_n 3, 1) rfl) rfl rfl (aw_iconst (pc' := 841) (v := 2) (dt_L_law_14 2 (840, .iconst 2, 1) rfl) (by decide) rfl (aw_iadd (pc' := 842) (dt_L_law_14 3 (841, .iadd, 1) rfl) rfl (aw_iald (pc' := 843) (dt_L_law_14 4 (842, .iaload, 1) rfl) rfl (sk_0 hS) g217 (aw_aload_n (pc' := 844) (dt_L_law_14 5 (843, .aload_n 0, 1) rfl) rfl rfl (aw_iload_n (pc' := 845) (dt_L_law_14 6 (844, .iload_n 3, 1) rfl) rfl rfl (aw_iconst (pc' := 846) (v := 3) (dt_L_law_14 7 (845, .iconst 3, 1) rfl) (by decide) rfl (aw_iadd (pc' := 847) (dt_L_law_14 8 (846, .iadd, 1) rfl) rfl (aw_iald (pc' := 848) (dt_L_law_14 9 (847, .iaload, 1) rfl) rfl (sk_0 hS) g218 (aw_aload_n (pc' := 849) (dt_L_law_14 10 (848, .aload_n 0, 1) rfl) rfl rfl (aw_iload_n (pc' := 850) (dt_L_law_14 11 (849, .iload_n 3, 1) rfl) rfl rfl (aw_iconst (pc' := 851) (v := 4) (dt_L_law_14 12 (850, .iconst 4, 1) rfl) (by decide) rfl (aw_iadd (pc' := 852) (dt_L_law_14 13 (851, .iadd, 1) rfl) rfl (aw_iald (pc' := 853) (dt_L_law_14 14 (852, .iaload, 1) rfl) rfl (sk_0 hS) g219 (aw_aload_n (pc' := 854) (dt_L_law_14 15 (853, .aload_n 0, 1) rfl) rfl rfl (aw_iload_n (pc' := 855) (dt_L_law_14 16 (854, .iload_n 3, 1) rfl) rfl rfl (aw_iconst (pc' := 856) (v := 5) (dt_L_law_14 17 (855, .iconst 5, 1) rfl) (by decide) rfl (aw_iadd (pc' := 857) (dt_L_law_14 18 (856, .iadd, 1) rfl) rfl (aw_iald (pc' := 858) (dt_L_law_14 19 (857, .iaload, 1) rfl) rfl (sk_0 hS) g220 (aw_aload_n (pc' := 859) (dt_L_law_14 20 (858, .aload_n 0, 1) rfl) rfl rfl (aw_iload_n (pc' := 860) (dt_L_law_14 21 (859, .iload_n 3, 1) rfl) rfl rfl (aw_bipush (pc' := 862) (v := 6) (dt_L_law_14 22 (860, .bipush 6, 2) rfl) (by decide) rfl (aw_iadd (pc' := 863) (dt_L_law_14 23 (862, .iadd, 1) rfl) rfl (aw_iald (pc' := 864) (dt_L_law_14 24 (863, .iaload, 1) rfl) rfl (sk_0 hS) g221 (aw_callVB (nc1 := 4) (ns1 := 460) (pc' := 867) (nc := nc) (ns := ns) (y2 := mX10_ask) (As := [.int (zI μ 0 (x3 + 1).toNatClampNeg), .int (zI μ 0 (x3 + 2).toNatClampNeg), .int (zI μ 0 (x3 + 3).toNatClampNeg), .int (zI μ 0 (x3 + 4).toNatClampNeg), .int (zI μ 0 (x3 + 5).toNatClampNeg), .int (zI μ 0 (x3 + 6).toNatClampNeg)]) (rest := []) (a := 11) (dt_L_law_14 25 (864, .invokevirtual 82, 3) rfl) ok_X10_ask ln_ReturnDeskLaw_82 im_X10_ask se_X10_ask pr_X10_ask (Or.inl ⟨by decide, rfl⟩) rfl (Nat.le_of_ble_eq_true rfl) (Nat.le_of_ble_eq_true rfl) rfl (sk_11 hS) h ?_)))))))))))))))))))))))))))))))
      rintro v μ222 ⟨r224, rfl, hS223, h⟩
      refine aw_stk (st' := [.int r224]) rfl ?_
      obtain ⟨g225, h⟩ := h
      obtain ⟨g226, h⟩ := h
      obtain ⟨g227, h⟩ := h
      obtain ⟨g228, h⟩ := h
      obtain ⟨g229, h⟩ := h
      obtain ⟨g230, h⟩ := h
      refine aw_aload_n (pc' := 868) (dt_L_law_14 26 (867, .aload_n 2, 1) rfl) rfl rfl (aw_aload_n (pc' := 869) (dt_L_law_14 27 (868, .aload_n 0, 1) rfl) rfl rfl (aw_iload_n (pc' := 870) (dt_L_law_14 28 (869, .iload_n 3, 1) rfl) rfl rfl (aw_iconst (pc' := 871) (v := 1) (dt_L_law_14 29 (870, .iconst 1, 1) rfl) (by decide) rfl (aw_iadd (pc' := 872) (dt_L_law_14 30 (871, .iadd, 1) rfl) rfl (aw_iald (pc' := 873) (dt_L_law_14 31 (872, .iaload, 1) rfl) rfl (sk_0 hS223) g225 (aw_aload_n (pc' := 874) (dt_L_law_14 32 (873, .aload_n 0, 1) rfl) rfl rfl (aw_iload_n (pc' := 875) (dt_L_law_14 33 (874, .iload_n 3, 1) rfl) rfl rfl (aw_iconst (pc' := 876) (v := 2) (dt_L_law_14 34 (875, .iconst 2, 1) rfl) (by decide) rfl (aw_iadd (pc' := 877) (dt_L_law_14 35 (876, .iadd, 1) rfl) rfl (aw_iald (pc' := 878) (dt_L_law_14 36 (877, .iaload, 1) rfl) rfl (sk_0 hS223) g226 (aw_aload_n (pc' := 879) (dt_L_law_14 37 (878, .aload_n 0, 1) rfl) rfl rfl (aw_iload_n (pc' := 880) (dt_L_law_14 38 (879, .iload_n 3, 1) rfl) rfl rfl (aw_iconst (pc' := 881) (v := 3) (dt_L_law_14 39 (880, .iconst 3, 1) rfl) (by decide) rfl (aw_iadd (pc' := 882) (dt_L_law_15 0 (881, .iadd, 1) rfl) rfl (aw_iald (pc' := 883) (dt_L_law_15 1 (882, .iaload, 1) rfl) rfl (sk_0 hS223) g227 (aw_aload_n (pc' := 884) (dt_L_law_15 2 (883, .aload_n 0, 1) rfl) rfl rfl (aw_iload_n (pc' := 885) (dt_L_law_15 3 (884, .iload_n 3, 1) rfl) rfl rfl (aw_iconst (pc' := 886) (v := 4) (dt_L_law_15 4 (885, .iconst 4, 1) rfl) (by decide) rfl (aw_iadd (pc' := 887) (dt_L_law_15 5 (886, .iadd, 1) rfl) rfl (aw_iald (pc' := 888) (dt_L_law_15 6 (887, .iaload, 1) rfl) rfl (sk_0 hS223) g228 (aw_aload_n (pc' := 889) (dt_L_law_15 7 (888, .aload_n 0, 1) rfl) rfl rfl (aw_iload_n (pc' := 890) (dt_L_law_15 8 (889, .iload_n 3, 1) rfl) rfl rfl (aw_iconst (pc' := 891) (v := 5) (dt_L_law_15 9 (890, .iconst 5, 1) rfl) (by decide) rfl (aw_iadd (pc' := 892) (dt_L_law_15 10 (891, .iadd, 1) rfl) rfl (aw_iald (pc' := 893) (dt_L_law_15 11 (892, .iaload, 1) rfl) rfl (sk_0 hS223) g229 (aw_aload_n (pc' := 894) (dt_L_law_15 12 (893, .aload_n 0, 1) rfl) rfl rfl (aw_iload_n (pc' := 895) (dt_L_law_15 13 (894, .iload_n 3, 1) rfl) rfl rfl (aw_bipush (pc' := 897) (v := 6) (dt_L_law_15 14 (895, .bipush 6, 2) rfl) (by decide) rfl (aw_iadd (pc' := 898) (dt_L_law_15 15 (897, .iadd, 1) rfl) rfl (aw_iald (pc' := 899) (dt_L_law_15 16 (898, .iaload, 1) rfl) rfl (sk_0 hS223) g230 (aw_callV0 (pc' := 902) (nc := nc) (ns := ns) (y2 := mX11_ask) (As := [.int (zI μ222 0 (x3 + 1).toNatClampNeg), .int (zI μ222 0 (x3 + 2).toNatClampNeg), .int (zI μ222 0 (x3 + 3).toNatClampNeg), .int (zI μ222 0 (x3 + 4).toNatClampNeg), .int (zI μ222 0 (x3 + 5).toNatClampNeg), .int (zI μ222 0 (x3 + 6).toNatClampNeg)]) (rest := [.int r224]) (a := 31) (dt_L_law_15 17 (899, .invokevirtual 86, 3) rfl) ok_X11_ask ln_ReturnDeskLaw_86 im_X11_ask se_X11_ask pr_X11_ask (Or.inl ⟨by decide, rfl⟩) rfl (Nat.le_of_ble_eq_true rfl) (Nat.le_of_ble_eq_true rfl) rfl (sk_31 hS223) h ?_)))))))))))))))))))))))))))))))
      rintro v μ231 ⟨r233, rfl, hS232, h⟩
      refine aw_stk (st' := [.int r233, .int r224]) rfl ?_
      refine aw_icmp_eq (pc' := 905) (tgt := 1543) (dt_L_law_15 18 (902, .if_icmp .eq 641, 3) rfl) (by decide) rfl ?_ ?_
      · intro q234
        have h := h.1 q234
        refine aw_iinc (pc' := 1546) (v := 7) (ls' := [some (.ref 0), some (.ref 11), some (.ref 31), some (.int (x3 + 7))]) (dt_L_law_28 5 (1543, .iinc 3 7, 3) rfl) rfl (by decide) (by decide) rfl rfl (aw_goto (tgt := 18) (dt_L_law_28 6 (1546, .goto (-1528), 3) rfl) (by decide) ?_)
        exact h
      · intro q234
        have h := h.2 q234
        refine aw_iconst (pc' := 906) (v := 0) (dt_L_law_15 19 (905, .iconst 0, 1) rfl) (by decide) rfl (aw_iret (dt_L_law_15 20 (906, .ireturn, 1) rfl) rfl rfl ?_)
        exact h
    by_cases q235 : ((zI μ 0 x3.toNatClampNeg) &&& 63) = 17
    · have h := h.2.2.2.2.2.2.2.2.2.2.2.2.2.2.2.2.2.1 q235
      refine aw_tableE (tgt := 907) (off := 874) (dt_L_law_0 21 (33, .tableswitch 1510 0 38 #[171, 214, 257, 290, 333, 356, 379, 442, 475, 508, 561, 584, 647, 670, 703, 746, 799, 874, 917, 950, 973, 996, 1019, 1052, 1085, 1108, 1131, 1174, 1217, 1250, 1283, 1296, 1319, 1342, 1375, 1398, 1431, 1454, 1487], 171) rfl) q235 (by decide) (by decide) (by decide) (by decide) ?_
      obtain ⟨g236, h⟩ := h
      obtain ⟨g237, h⟩ := h
      obtain ⟨g238, h⟩ := h
      refine aw_aload_n (pc' := 908) (dt_L_law_15 21 (907, .aload_n 1, 1) rfl) rfl rfl (aw_aload_n (pc' := 909) (dt_L_law_15 22 (908, .aload_n 0, 1) rfl) rfl rfl (aw_iload_n (pc' := 910) (dt_L_law_15 23 (909, .iload_n 3, 1) rfl) rfl rfl (aw_iconst (pc' := 911) (v := 1) (dt_L_law_15 24 (910, .iconst 1, 1) rfl) (by decide) rfl (aw_iadd (pc' := 912) (dt_L_law_15 25 (911, .iadd, 1) rfl) rfl (aw_iald (pc' := 913) (dt_L_law_15 26 (912, .iaload, 1) rfl) rfl (sk_0 hS) g236 (aw_aload_n (pc' := 914) (dt_L_law_15 27 (913, .aload_n 0, 1) rfl) rfl rfl (aw_iload_n (pc' := 915) (dt_L_law_15 28 (914, .iload_n 3, 1) rfl) rfl rfl (aw_iconst (pc' := 916) (v := 2) (dt_L_law_15 29 (915, .iconst 2, 1) rfl) (by decide) rfl (aw_iadd (pc' := 917) (dt_L_law_15 30 (916, .iadd, 1) rfl) rfl (aw_iald (pc' := 918) (dt_L_law_15 31 (917, .iaload, 1) rfl) rfl (sk_0 hS) g237 (aw_aload_n (pc' := 919) (dt_L_law_15 32 (918, .aload_n 0, 1) rfl) rfl rfl (aw_iload_n (pc' := 920) (dt_L_law_15 33 (919, .iload_n 3, 1) rfl) rfl rfl (aw_iconst (pc' := 921) (v := 3) (dt_L_law_15 34 (920, .iconst 3, 1) rfl) (by decide) rfl (aw_iadd (pc' := 922) (dt_L_law_15 35 (921, .iadd, 1) rfl) rfl (aw_iald (pc' := 923) (dt_L_law_15 36 (922, .iaload, 1) rfl) rfl (sk_0 hS) g238 (aw_callVB (nc1 := 4) (ns1 := 460) (pc' := 926) (nc := nc) (ns := ns) (y2 := mX10_judged) (As := [.int (zI μ 0 (x3 + 1).toNatClampNeg), .int (zI μ 0 (x3 + 2).toNatClampNeg), .int (zI μ 0 (x3 + 3).toNatClampNeg)]) (rest := []) (a := 11) (dt_L_law_15 37 (923, .invokevirtual 87, 3) rfl) ok_X10_judged ln_ReturnDeskLaw_87 im_X10_judged se_X10_judged pr_X10_judged (Or.inl ⟨by decide, rfl⟩) rfl (Nat.le_of_ble_eq_true rfl) (Nat.le_of_ble_eq_true rfl) rfl (sk_11 hS) h ?_))))))))))))))))
      rintro v μ239 ⟨r241, rfl, hS240, h⟩
      refine aw_stk (st' := [.int r241]) rfl ?_
      obtain ⟨g242, h⟩ := h
      obtain ⟨g243, h⟩ := h
      obtain ⟨g244, h⟩ := h
      refine aw_aload_n (pc' := 927) (dt_L_law_15 38 (926, .aload_n 2, 1) rfl) rfl rfl (aw_aload_n (pc' := 928) (dt_L_law_15 39 (927, .aload_n 0, 1) rfl) rfl rfl (aw_iload_n (pc' := 929) (dt_L_law_16 0 (928, .iload_n 3, 1) rfl) rfl rfl (aw_iconst (pc' := 930) (v := 1) (dt_L_law_16 1 (929, .iconst 1, 1) rfl) (by decide) rfl (aw_iadd (pc' := 931) (dt_L_law_16 2 (930, .iadd, 1) rfl) rfl (aw_iald (pc' := 932) (dt_L_law_16 3 (931, .iaload, 1) rfl) rfl (sk_0 hS240) g242 (aw_aload_n (pc' := 933) (dt_L_law_16 4 (932, .aload_n 0, 1) rfl) rfl rfl (aw_iload_n (pc' := 934) (dt_L_law_16 5 (933, .iload_n 3, 1) rfl) rfl rfl (aw_iconst (pc' := 935) (v := 2) (dt_L_law_16 6 (934, .iconst 2, 1) rfl) (by decide) rfl (aw_iadd (pc' := 936) (dt_L_law_16 7 (935, .iadd, 1) rfl) rfl (aw_iald (pc' := 937) (dt_L_law_16 8 (936, .iaload, 1) rfl) rfl (sk_0 hS240) g243 (aw_aload_n (pc' := 938) (dt_L_law_16 9 (937, .aload_n 0, 1) rfl) rfl rfl (aw_iload_n (pc' := 939) (dt_L_law_16 10 (938, .iload_n 3, 1) rfl) rfl rfl (aw_iconst (pc' := 940) (v := 3) (dt_L_law_16 11 (939, .iconst 3, 1) rfl) (by decide) rfl (aw_iadd (pc' := 941) (dt_L_law_16 12 (940, .iadd, 1) rfl) rfl (aw_iald (pc' := 942) (dt_L_law_16 13 (941, .iaload, 1) rfl) rfl (sk_0 hS240) g244 (aw_callV0 (pc' := 945) (nc := nc) (ns := ns) (y2 := mX11_judged) (As := [.int (zI μ239 0 (x3 + 1).toNatClampNeg), .int (zI μ239 0 (x3 + 2).toNatClampNeg), .int (zI μ239 0 (x3 + 3).toNatClampNeg)]) (rest := [.int r241]) (a := 31) (dt_L_law_16 14 (942, .invokevirtual 90, 3) rfl) ok_X11_judged ln_ReturnDeskLaw_90 im_X11_judged se_X11_judged pr_X11_judged (Or.inl ⟨by decide, rfl⟩) rfl (Nat.le_of_ble_eq_true rfl) (Nat.le_of_ble_eq_true rfl) rfl (sk_31 hS240) h ?_))))))))))))))))
      rintro v μ245 ⟨r247, rfl, hS246, h⟩
      refine aw_stk (st' := [.int r247, .int r241]) rfl ?_
      refine aw_icmp_eq (pc' := 948) (tgt := 1543) (dt_L_law_16 15 (945, .if_icmp .eq 598, 3) rfl) (by decide) rfl ?_ ?_
      · intro q248
        have h := h.1 q248
        refine aw_iinc (pc' := 1546) (v := 7) (ls' := [some (.ref 0), some (.ref 11), some (.ref 31), some (.int (x3 + 7))]) (dt_L_law_28 5 (1543, .iinc 3 7, 3) rfl) rfl (by decide) (by decide) rfl rfl (aw_goto (tgt := 18) (dt_L_law_28 6 (1546, .goto (-1528), 3) rfl) (by decide) ?_)
        exact h
      · intro q248
        have h := h.2 q248
        refine aw_iconst (pc' := 949) (v := 0) (dt_L_law_16 16 (948, .iconst 0, 1) rfl) (by decide) rfl (aw_iret (dt_L_law_16 17 (949, .ireturn, 1) rfl) rfl rfl ?_)
        exact h
    by_cases q249 : ((zI μ 0 x3.toNatClampNeg) &&& 63) = 18
    · have h := h.2.2.2.2.2.2.2.2.2.2.2.2.2.2.2.2.2.2.1 q249
      refine aw_tableE (tgt := 950) (off := 917) (dt_L_law_0 21 (33, .tableswitch 1510 0 38 #[171, 214, 257, 290, 333, 356, 379, 442, 475, 508, 561, 584, 647, 670, 703, 746, 799, 874, 917, 950, 973, 996, 1019, 1052, 1085, 1108, 1131, 1174, 1217, 1250, 1283, 1296, 1319, 1342, 1375, 1398, 1431, 1454, 1487], 171) rfl) q249 (by decide) (by decide) (by decide) (by decide) ?_
      obtain ⟨g250, h⟩ := h
      obtain ⟨g251, h⟩ := h
      refine aw_aload_n (pc' := 951) (dt_L_law_16 18 (950, .aload_n 1, 1) rfl) rfl rfl (aw_aload_n (pc' := 952) (dt_L_law_16 19 (951, .aload_n 0, 1) rfl) rfl rfl (aw_iload_n (pc' := 953) (dt_L_law_16 20 (952, .iload_n 3, 1) rfl) rfl rfl (aw_iconst (pc' := 954) (v := 1) (dt_L_law_16 21 (953, .iconst 1, 1) rfl) (by decide) rfl (aw_iadd (pc' := 955) (dt_L_law_16 22 (954, .iadd, 1) rfl) rfl (aw_iald (pc' := 956) (dt_L_law_16 23 (955, .iaload, 1) rfl) rfl (sk_0 hS) g250 (aw_aload_n (pc' := 957) (dt_L_law_16 24 (956, .aload_n 0, 1) rfl) rfl rfl (aw_iload_n (pc' := 958) (dt_L_law_16 25 (957, .iload_n 3, 1) rfl) rfl rfl (aw_iconst (pc' := 959) (v := 2) (dt_L_law_16 26 (958, .iconst 2, 1) rfl) (by decide) rfl (aw_iadd (pc' := 960) (dt_L_law_16 27 (959, .iadd, 1) rfl) rfl (aw_iald (pc' := 961) (dt_L_law_16 28 (960, .iaload, 1) rfl) rfl (sk_0 hS) g251 (aw_callVB (nc1 := 4) (ns1 := 460) (pc' := 964) (nc := nc) (ns := ns) (y2 := mX10_ofAsking) (As := [.int (zI μ 0 (x3 + 1).toNatClampNeg), .int (zI μ 0 (x3 + 2).toNatClampNeg)]) (rest := []) (a := 11) (dt_L_law_16 29 (961, .invokevirtual 91, 3) rfl) ok_X10_ofAsking ln_ReturnDeskLaw_91 im_X10_ofAsking se_X10_ofAsking pr_X10_ofAsking (Or.inl ⟨by decide, rfl⟩) rfl (Nat.le_of_ble_eq_true rfl) (Nat.le_of_ble_eq_true rfl) rfl (sk_11 hS) h ?_)))))))))))
      rintro v μ252 ⟨r254, rfl, hS253, h⟩
      refine aw_stk (st' := [.int r254]) rfl ?_
      obtain ⟨g255, h⟩ := h
      obtain ⟨g256, h⟩ := h
      refine aw_aload_n (pc' := 965) (dt_L_law_16 30 (964, .aload_n 2, 1) rfl) rfl rfl (aw_aload_n (pc' := 966) (dt_L_law_16 31 (965, .aload_n 0, 1) rfl) rfl rfl (aw_iload_n (pc' := 967) (dt_L_law_16 32 (966, .iload_n 3, 1) rfl) rfl rfl (aw_iconst (pc' := 968) (v := 1) (dt_L_law_16 33 (967, .iconst 1, 1) rfl) (by decide) rfl (aw_iadd (pc' := 969) (dt_L_law_16 34 (968, .iadd, 1) rfl) rfl (aw_iald (pc' := 970) (dt_L_law_16 35 (969, .iaload, 1) rfl) rfl (sk_0 hS253) g255 (aw_aload_n (pc' := 971) (dt_L_law_16 36 (970, .aload_n 0, 1) rfl) rfl rfl (aw_iload_n (pc' := 972) (dt_L_law_16 37 (971, .iload_n 3, 1) rfl) rfl rfl (aw_iconst (pc' := 973) (v := 2) (dt_L_law_16 38 (972, .iconst 2, 1) rfl) (by decide) rfl (aw_iadd (pc' := 974) (dt_L_law_16 39 (973, .iadd, 1) rfl) rfl (aw_iald (pc' := 975) (dt_L_law_17 0 (974, .iaload, 1) rfl) rfl (sk_0 hS253) g256 (aw_callV0 (pc' := 978) (nc := nc) (ns := ns) (y2 := mX11_ofAsking) (As := [.int (zI μ252 0 (x3 + 1).toNatClampNeg), .int (zI μ252 0 (x3 + 2).toNatClampNeg)]) (rest := [.int r254]) (a := 31) (dt_L_law_17 1 (975, .invokevirtual 94, 3) rfl) ok_X11_ofAsking ln_ReturnDeskLaw_94 im_X11_ofAsking se_X11_ofAsking pr_X11_ofAsking (Or.inl ⟨by decide, rfl⟩) rfl (Nat.le_of_ble_eq_true rfl) (Nat.le_of_ble_eq_true rfl) rfl (sk_31 hS253) h ?_)))))))))))
      rintro v μ257 ⟨r259, rfl, hS258, h⟩
      refine aw_stk (st' := [.int r259, .int r254]) rfl ?_
      refine aw_icmp_eq (pc' := 981) (tgt := 1543) (dt_L_law_17 2 (978, .if_icmp .eq 565, 3) rfl) (by decide) rfl ?_ ?_
      · intro q260
        have h := h.1 q260
        refine aw_iinc (pc' := 1546) (v := 7) (ls' := [some (.ref 0), some (.ref 11), some (.ref 31), some (.int (x3 + 7))]) (dt_L_law_28 5 (1543, .iinc 3 7, 3) rfl) rfl (by decide) (by decide) rfl rfl (aw_goto (tgt := 18) (dt_L_law_28 6 (1546, .goto (-1528), 3) rfl) (by decide) ?_)
        exact h
      · intro q260
        have h := h.2 q260
        refine aw_iconst (pc' := 982) (v := 0) (dt_L_law_17 3 (981, .iconst 0, 1) rfl) (by decide) rfl (aw_iret (dt_L_law_17 4 (982, .ireturn, 1) rfl) rfl rfl ?_)
        exact h
    by_cases q261 : ((zI μ 0 x3.toNatClampNeg) &&& 63) = 19
    · have h := h.2.2.2.2.2.2.2.2.2.2.2.2.2.2.2.2.2.2.2.1 q261
      refine aw_tableE (tgt := 983) (off := 950) (dt_L_law_0 21 (33, .tableswitch 1510 0 38 #[171, 214, 257, 290, 333, 356, 379, 442, 475, 508, 561, 584, 647, 670, 703, 746, 799, 874, 917, 950, 973, 996, 1019, 1052, 1085, 1108, 1131, 1174, 1217, 1250, 1283, 1296, 1319, 1342, 1375, 1398, 1431, 1454, 1487], 171) rfl) q261 (by decide) (by decide) (by decide) (by decide) ?_
      obtain ⟨g262, h⟩ := h
      refine aw_aload_n (pc' := 984) (dt_L_law_17 5 (983, .aload_n 1, 1) rfl) rfl rfl (aw_aload_n (pc' := 985) (dt_L_law_17 6 (984, .aload_n 0, 1) rfl) rfl rfl (aw_iload_n (pc' := 986) (dt_L_law_17 7 (985, .iload_n 3, 1) rfl) rfl rfl (aw_iconst (pc' := 987) (v := 1) (dt_L_law_17 8 (986, .iconst 1, 1) rfl) (by decide) rfl (aw_iadd (pc' := 988) (dt_L_law_17 9 (987, .iadd, 1) rfl) rfl (aw_iald (pc' := 989) (dt_L_law_17 10 (988, .iaload, 1) rfl) rfl (sk_0 hS) g262 (aw_callVB (nc1 := 4) (ns1 := 460) (pc' := 992) (nc := nc) (ns := ns) (y2 := mX10_take) (As := [.int (zI μ 0 (x3 + 1).toNatClampNeg)]) (rest := []) (a := 11) (dt_L_law_17 11 (989, .invokevirtual 95, 3) rfl) ok_X10_take ln_ReturnDeskLaw_95 im_X10_take se_X10_take pr_X10_take (Or.inl ⟨by decide, rfl⟩) rfl (Nat.le_of_ble_eq_true rfl) (Nat.le_of_ble_eq_true rfl) rfl (sk_11 hS) h ?_))))))
      rintro v μ263 ⟨r265, rfl, hS264, h⟩
      refine aw_stk (st' := [.int r265]) rfl ?_
      obtain ⟨g266, h⟩ := h
      refine aw_aload_n (pc' := 993) (dt_L_law_17 12 (992, .aload_n 2, 1) rfl) rfl rfl (aw_aload_n (pc' := 994) (dt_L_law_17 13 (993, .aload_n 0, 1) rfl) rfl rfl (aw_iload_n (pc' := 995) (dt_L_law_17 14 (994, .iload_n 3, 1) rfl) rfl rfl (aw_iconst (pc' := 996) (v := 1) (dt_L_law_17 15 (995, .iconst 1, 1) rfl) (by decide) rfl (aw_iadd (pc' := 997) (dt_L_law_17 16 (996, .iadd, 1) rfl) rfl (aw_iald (pc' := 998) (dt_L_law_17 17 (997, .iaload, 1) rfl) rfl (sk_0 hS264) g266 (aw_callV0 (pc' := 1001) (nc := nc) (ns := ns) (y2 := mX11_take) (As := [.int (zI μ263 0 (x3 + 1).toNatClampNeg)]) (rest := [.int r265]) (a := 31) (dt_L_law_17 18 (998, .invokevirtual 98, 3) rfl) ok_X11_take ln_ReturnDeskLaw_98 im_X11_take se_X11_take pr_X11_take (Or.inl ⟨by decide, rfl⟩) rfl (Nat.le_of_ble_eq_true rfl) (Nat.le_of_ble_eq_true rfl) rfl (sk_31 hS264) h ?_))))))
      rintro v μ267 ⟨r269, rfl, hS268, h⟩
      refine aw_stk (st' := [.int r269, .int r265]) rfl ?_
      refine aw_icmp_eq (pc' := 1004) (tgt := 1543) (dt_L_law_17 19 (1001, .if_icmp .eq 542, 3) rfl) (by decide) rfl ?_ ?_
      · intro q270
        have h := h.1 q270
        refine aw_iinc (pc' := 1546) (v := 7) (ls' := [some (.ref 0), some (.ref 11), some (.ref 31), some (.int (x3 + 7))]) (dt_L_law_28 5 (1543, .iinc 3 7, 3) rfl) rfl (by decide) (by decide) rfl rfl (aw_goto (tgt := 18) (dt_L_law_28 6 (1546, .goto (-1528), 3) rfl) (by decide) ?_)
        exact h
      · intro q270
        have h := h.2 q270
        refine aw_iconst (pc' := 1005) (v := 0) (dt_L_law_17 20 (1004, .iconst 0, 1) rfl) (by decide) rfl (aw_iret (dt_L_law_17 21 (1005, .ireturn, 1) rfl) rfl rfl ?_)
        exact h
    by_cases q271 : ((zI μ 0 x3.toNatClampNeg) &&& 63) = 20
    · have h := h.2.2.2.2.2.2.2.2.2.2.2.2.2.2.2.2.2.2.2.2.1 q271
      refine aw_tableE (tgt := 1006) (off := 973) (dt_L_law_0 21 (33, .tableswitch 1510 0 38 #[171, 214, 257, 290, 333, 356, 379, 442, 475, 508, 561, 584, 647, 670, 703, 746, 799, 874, 917, 950, 973, 996, 1019, 1052, 1085, 1108, 1131, 1174, 1217, 1250, 1283, 1296, 1319, 1342, 1375, 1398, 1431, 1454, 1487], 171) rfl) q271 (by decide) (by decide) (by decide) (by decide) ?_
      obtain ⟨g272, h⟩ := h
      refine aw_aload_n (pc' := 1007) (dt_L_law_17 22 (1006, .aload_n 1, 1) rfl) rfl rfl (aw_aload_n (pc' := 1008) (dt_L_law_17 23 (1007, .aload_n 0, 1) rfl) rfl rfl (aw_iload_n (pc' := 1009) (dt_L_law_17 24 (1008, .iload_n 3, 1) rfl) rfl rfl (aw_iconst (pc' := 1010) (v := 1) (dt_L_law_17 25 (1009, .iconst 1, 1) rfl) (by decide) rfl (aw_iadd (pc' := 1011) (dt_L_law_17 26 (1010, .iadd, 1) rfl) rfl (aw_iald (pc' := 1012) (dt_L_law_17 27 (1011, .iaload, 1) rfl) rfl (sk_0 hS) g272 (aw_callVB (nc1 := 4) (ns1 := 460) (pc' := 1015) (nc := nc) (ns := ns) (y2 := mX10_leave) (As := [.int (zI μ 0 (x3 + 1).toNatClampNeg)]) (rest := []) (a := 11) (dt_L_law_17 28 (1012, .invokevirtual 99, 3) rfl) ok_X10_leave ln_ReturnDeskLaw_99 im_X10_leave se_X10_leave pr_X10_leave (Or.inl ⟨by decide, rfl⟩) rfl (Nat.le_of_ble_eq_true rfl) (Nat.le_of_ble_eq_true rfl) rfl (sk_11 hS) h ?_))))))
      rintro v μ273 ⟨r275, rfl, hS274, h⟩
      refine aw_stk (st' := [.int r275]) rfl ?_
      obtain ⟨g276, h⟩ := h
      refine aw_aload_n (pc' := 1016) (dt_L_law_17 29 (1015, .aload_n 2, 1) rfl) rfl rfl (aw_aload_n (pc' := 1017) (dt_L_law_17 30 (1016, .aload_n 0, 1) rfl) rfl rfl (aw_iload_n (pc' := 1018) (dt_L_law_17 31 (1017, .iload_n 3, 1) rfl) rfl rfl (aw_iconst (pc' := 1019) (v := 1) (dt_L_law_17 32 (1018, .iconst 1, 1) rfl) (by decide) rfl (aw_iadd (pc' := 1020) (dt_L_law_17 33 (1019, .iadd, 1) rfl) rfl (aw_iald (pc' := 1021) (dt_L_law_17 34 (1020, .iaload, 1) rfl) rfl (sk_0 hS274) g276 (aw_callV0 (pc' := 1024) (nc := nc) (ns := ns) (y2 := mX11_leave) (As := [.int (zI μ273 0 (x3 + 1).toNatClampNeg)]) (rest := [.int r275]) (a := 31) (dt_L_law_17 35 (1021, .invokevirtual 102, 3) rfl) ok_X11_leave ln_ReturnDeskLaw_102 im_X11_leave se_X11_leave pr_X11_leave (Or.inl ⟨by decide, rfl⟩) rfl (Nat.le_of_ble_eq_true rfl) (Nat.le_of_ble_eq_true rfl) rfl (sk_31 hS274) h ?_))))))
      rintro v μ277 ⟨r279, rfl, hS278, h⟩
      refine aw_stk (st' := [.int r279, .int r275]) rfl ?_
      refine aw_icmp_eq (pc' := 1027) (tgt := 1543) (dt_L_law_17 36 (1024, .if_icmp .eq 519, 3) rfl) (by decide) rfl ?_ ?_
      · intro q280
        have h := h.1 q280
        refine aw_iinc (pc' := 1546) (v := 7) (ls' := [some (.ref 0), some (.ref 11), some (.ref 31), some (.int (x3 + 7))]) (dt_L_law_28 5 (1543, .iinc 3 7, 3) rfl) rfl (by decide) (by decide) rfl rfl (aw_goto (tgt := 18) (dt_L_law_28 6 (1546, .goto (-1528), 3) rfl) (by decide) ?_)
        exact h
      · intro q280
        have h := h.2 q280
        refine aw_iconst (pc' := 1028) (v := 0) (dt_L_law_17 37 (1027, .iconst 0, 1) rfl) (by decide) rfl (aw_iret (dt_L_law_17 38 (1028, .ireturn, 1) rfl) rfl rfl ?_)
        exact h
    by_cases q281 : ((zI μ 0 x3.toNatClampNeg) &&& 63) = 21
    · have h := h.2.2.2.2.2.2.2.2.2.2.2.2.2.2.2.2.2.2.2.2.2.1 q281
      refine aw_tableE (tgt := 1029) (off := 996) (dt_L_law_0 21 (33, .tableswitch 1510 0 38 #[171, 214, 257, 290, 333, 356, 379, 442, 475, 508, 561, 584, 647, 670, 703, 746, 799, 874, 917, 950, 973, 996, 1019, 1052, 1085, 1108, 1131, 1174, 1217, 1250, 1283, 1296, 1319, 1342, 1375, 1398, 1431, 1454, 1487], 171) rfl) q281 (by decide) (by decide) (by decide) (by decide) ?_
      obtain ⟨g282, h⟩ := h
      refine aw_aload_n (pc' := 1030) (dt_L_law_17 39 (1029, .aload_n 1, 1) rfl) rfl rfl (aw_aload_n (pc' := 1031) (dt_L_law_18 0 (1030, .aload_n 0, 1) rfl) rfl rfl (aw_iload_n (pc' := 1032) (dt_L_law_18 1 (1031, .iload_n 3, 1) rfl) rfl rfl (aw_iconst (pc' := 1033) (v := 1) (dt_L_law_18 2 (1032, .iconst 1, 1) rfl) (by decide) rfl (aw_iadd (pc' := 1034) (dt_L_law_18 3 (1033, .iadd, 1) rfl) rfl (aw_iald (pc' := 1035) (dt_L_law_18 4 (1034, .iaload, 1) rfl) rfl (sk_0 hS) g282 (aw_callVB (nc1 := 4) (ns1 := 460) (pc' := 1038) (nc := nc) (ns := ns) (y2 := mX10_note) (As := [.int (zI μ 0 (x3 + 1).toNatClampNeg)]) (rest := []) (a := 11) (dt_L_law_18 5 (1035, .invokevirtual 103, 3) rfl) ok_X10_note ln_ReturnDeskLaw_103 im_X10_note se_X10_note pr_X10_note (Or.inl ⟨by decide, rfl⟩) rfl (Nat.le_of_ble_eq_true rfl) (Nat.le_of_ble_eq_true rfl) rfl (sk_11 hS) h ?_))))))
      rintro v μ283 ⟨r285, rfl, hS284, h⟩
      refine aw_stk (st' := [.int r285]) rfl ?_
      obtain ⟨g286, h⟩ := h
      refine aw_aload_n (pc' := 1039) (dt_L_law_18 6 (1038, .aload_n 2, 1) rfl) rfl rfl (aw_aload_n (pc' := 1040) (dt_L_law_18 7 (1039, .aload_n 0, 1) rfl) rfl rfl (aw_iload_n (pc' := 1041) (dt_L_law_18 8 (1040, .iload_n 3, 1) rfl) rfl rfl (aw_iconst (pc' := 1042) (v := 1) (dt_L_law_18 9 (1041, .iconst 1, 1) rfl) (by decide) rfl (aw_iadd (pc' := 1043) (dt_L_law_18 10 (1042, .iadd, 1) rfl) rfl (aw_iald (pc' := 1044) (dt_L_law_18 11 (1043, .iaload, 1) rfl) rfl (sk_0 hS284) g286 (aw_callV0 (pc' := 1047) (nc := nc) (ns := ns) (y2 := mX11_note) (As := [.int (zI μ283 0 (x3 + 1).toNatClampNeg)]) (rest := [.int r285]) (a := 31) (dt_L_law_18 12 (1044, .invokevirtual 106, 3) rfl) ok_X11_note ln_ReturnDeskLaw_106 im_X11_note se_X11_note pr_X11_note (Or.inl ⟨by decide, rfl⟩) rfl (Nat.le_of_ble_eq_true rfl) (Nat.le_of_ble_eq_true rfl) rfl (sk_31 hS284) h ?_))))))
      rintro v μ287 ⟨r289, rfl, hS288, h⟩
      refine aw_stk (st' := [.int r289, .int r285]) rfl ?_
      refine aw_icmp_eq (pc' := 1050) (tgt := 1543) (dt_L_law_18 13 (1047, .if_icmp .eq 496, 3) rfl) (by decide) rfl ?_ ?_
      · intro q290
        have h := h.1 q290
        refine aw_iinc (pc' := 1546) (v := 7) (ls' := [some (.ref 0), some (.ref 11), some (.ref 31), some (.int (x3 + 7))]) (dt_L_law_28 5 (1543, .iinc 3 7, 3) rfl) rfl (by decide) (by decide) rfl rfl (aw_goto (tgt := 18) (dt_L_law_28 6 (1546, .goto (-1528), 3) rfl) (by decide) ?_)
        exact h
      · intro q290
        have h := h.2 q290
        refine aw_iconst (pc' := 1051) (v := 0) (dt_L_law_18 14 (1050, .iconst 0, 1) rfl) (by decide) rfl (aw_iret (dt_L_law_18 15 (1051, .ireturn, 1) rfl) rfl rfl ?_)
        exact h
    by_cases q291 : ((zI μ 0 x3.toNatClampNeg) &&& 63) = 22
    · have h := h.2.2.2.2.2.2.2.2.2.2.2.2.2.2.2.2.2.2.2.2.2.2.1 q291
      refine aw_tableE (tgt := 1052) (off := 1019) (dt_L_law_0 21 (33, .tableswitch 1510 0 38 #[171, 214, 257, 290, 333, 356, 379, 442, 475, 508, 561, 584, 647, 670, 703, 746, 799, 874, 917, 950, 973, 996, 1019, 1052, 1085, 1108, 1131, 1174, 1217, 1250, 1283, 1296, 1319, 1342, 1375, 1398, 1431, 1454, 1487], 171) rfl) q291 (by decide) (by decide) (by decide) (by decide) ?_
      obtain ⟨g292, h⟩ := h
      obtain ⟨g293, h⟩ := h
      refine aw_aload_n (pc' := 1053) (dt_L_law_18 16 (1052, .aload_n 1, 1) rfl) rfl rfl (aw_aload_n (pc' := 1054) (dt_L_law_18 17 (1053, .aload_n 0, 1) rfl) rfl rfl (aw_iload_n (pc' := 1055) (dt_L_law_18 18 (1054, .iload_n 3, 1) rfl) rfl rfl (aw_iconst (pc' := 1056) (v := 1) (dt_L_law_18 19 (1055, .iconst 1, 1) rfl) (by decide) rfl (aw_iadd (pc' := 1057) (dt_L_law_18 20 (1056, .iadd, 1) rfl) rfl (aw_iald (pc' := 1058) (dt_L_law_18 21 (1057, .iaload, 1) rfl) rfl (sk_0 hS) g292 (aw_aload_n (pc' := 1059) (dt_L_law_18 22 (1058, .aload_n 0, 1) rfl) rfl rfl (aw_iload_n (pc' := 1060) (dt_L_law_18 23 (1059, .iload_n 3, 1) rfl) rfl rfl (aw_iconst (pc' := 1061) (v := 2) (dt_L_law_18 24 (1060, .iconst 2, 1) rfl) (by decide) rfl (aw_iadd (pc' := 1062) (dt_L_law_18 25 (1061, .iadd, 1) rfl) rfl (aw_iald (pc' := 1063) (dt_L_law_18 26 (1062, .iaload, 1) rfl) rfl (sk_0 hS) g293 (aw_callVB (nc1 := 4) (ns1 := 460) (pc' := 1066) (nc := nc) (ns := ns) (y2 := mX10_stock) (As := [.int (zI μ 0 (x3 + 1).toNatClampNeg), .int (zI μ 0 (x3 + 2).toNatClampNeg)]) (rest := []) (a := 11) (dt_L_law_18 27 (1063, .invokevirtual 107, 3) rfl) ok_X10_stock ln_ReturnDeskLaw_107 im_X10_stock se_X10_stock pr_X10_stock (Or.inl ⟨by decide, rfl⟩) rfl (Nat.le_of_ble_eq_true rfl) (Nat.le_of_ble_eq_true rfl) rfl (sk_11 hS) h ?_)))))))))))
      rintro v μ294 ⟨r296, rfl, hS295, h⟩
      refine aw_stk (st' := [.int r296]) rfl ?_
      obtain ⟨g297, h⟩ := h
      obtain ⟨g298, h⟩ := h
      refine aw_aload_n (pc' := 1067) (dt_L_law_18 28 (1066, .aload_n 2, 1) rfl) rfl rfl (aw_aload_n (pc' := 1068) (dt_L_law_18 29 (1067, .aload_n 0, 1) rfl) rfl rfl (aw_iload_n (pc' := 1069) (dt_L_law_18 30 (1068, .iload_n 3, 1) rfl) rfl rfl (aw_iconst (pc' := 1070) (v := 1) (dt_L_law_18 31 (1069, .iconst 1, 1) rfl) (by decide) rfl (aw_iadd (pc' := 1071) (dt_L_law_18 32 (1070, .iadd, 1) rfl) rfl (aw_iald (pc' := 1072) (dt_L_law_18 33 (1071, .iaload, 1) rfl) rfl (sk_0 hS295) g297 (aw_aload_n (pc' := 1073) (dt_L_law_18 34 (1072, .aload_n 0, 1) rfl) rfl rfl (aw_iload_n (pc' := 1074) (dt_L_law_18 35 (1073, .iload_n 3, 1) rfl) rfl rfl (aw_iconst (pc' := 1075) (v := 2) (dt_L_law_18 36 (1074, .iconst 2, 1) rfl) (by decide) rfl (aw_iadd (pc' := 1076) (dt_L_law_18 37 (1075, .iadd, 1) rfl) rfl (aw_iald (pc' := 1077) (dt_L_law_18 38 (1076, .iaload, 1) rfl) rfl (sk_0 hS295) g298 (aw_callV0 (pc' := 1080) (nc := nc) (ns := ns) (y2 := mX11_stock) (As := [.int (zI μ294 0 (x3 + 1).toNatClampNeg), .int (zI μ294 0 (x3 + 2).toNatClampNeg)]) (rest := [.int r296]) (a := 31) (dt_L_law_18 39 (1077, .invokevirtual 110, 3) rfl) ok_X11_stock ln_ReturnDeskLaw_110 im_X11_stock se_X11_stock pr_X11_stock (Or.inl ⟨by decide, rfl⟩) rfl (Nat.le_of_ble_eq_true rfl) (Nat.le_of_ble_eq_true rfl) rfl (sk_31 hS295) h ?_)))))))))))
      rintro v μ299 ⟨r301, rfl, hS300, h⟩
      refine aw_stk (st' := [.int r301, .int r296]) rfl ?_
      refine aw_icmp_eq (pc' := 1083) (tgt := 1543) (dt_L_law_19 0 (1080, .if_icmp .eq 463, 3) rfl) (by decide) rfl ?_ ?_
      · intro q302
        have h := h.1 q302
        refine aw_iinc (pc' := 1546) (v := 7) (ls' := [some (.ref 0), some (.ref 11), some (.ref 31), some (.int (x3 + 7))]) (dt_L_law_28 5 (1543, .iinc 3 7, 3) rfl) rfl (by decide) (by decide) rfl rfl (aw_goto (tgt := 18) (dt_L_law_28 6 (1546, .goto (-1528), 3) rfl) (by decide) ?_)
        exact h
      · intro q302
        have h := h.2 q302
        refine aw_iconst (pc' := 1084) (v := 0) (dt_L_law_19 1 (1083, .iconst 0, 1) rfl) (by decide) rfl (aw_iret (dt_L_law_19 2 (1084, .ireturn, 1) rfl) rfl rfl ?_)
        exact h
    by_cases q303 : ((zI μ 0 x3.toNatClampNeg) &&& 63) = 23
    · have h := h.2.2.2.2.2.2.2.2.2.2.2.2.2.2.2.2.2.2.2.2.2.2.2.1 q303
      refine aw_tableE (tgt := 1085) (off := 1052) (dt_L_law_0 21 (33, .tableswitch 1510 0 38 #[171, 214, 257, 290, 333, 356, 379, 442, 475, 508, 561, 584, 647, 670, 703, 746, 799, 874, 917, 950, 973, 996, 1019, 1052, 1085, 1108, 1131, 1174, 1217, 1250, 1283, 1296, 1319, 1342, 1375, 1398, 1431, 1454, 1487], 171) rfl) q303 (by decide) (by decide) (by decide) (by decide) ?_
      obtain ⟨g304, h⟩ := h
      obtain ⟨g305, h⟩ := h
      refine aw_aload_n (pc' := 1086) (dt_L_law_19 3 (1085, .aload_n 1, 1) rfl) rfl rfl (aw_aload_n (pc' := 1087) (dt_L_law_19 4 (1086, .aload_n 0, 1) rfl) rfl rfl (aw_iload_n (pc' := 1088) (dt_L_law_19 5 (1087, .iload_n 3, 1) rfl) rfl rfl (aw_iconst (pc' := 1089) (v := 1) (dt_L_law_19 6 (1088, .iconst 1, 1) rfl) (by decide) rfl (aw_iadd (pc' := 1090) (dt_L_law_19 7 (1089, .iadd, 1) rfl) rfl (aw_iald (pc' := 1091) (dt_L_law_19 8 (1090, .iaload, 1) rfl) rfl (sk_0 hS) g304 (aw_aload_n (pc' := 1092) (dt_L_law_19 9 (1091, .aload_n 0, 1) rfl) rfl rfl (aw_iload_n (pc' := 1093) (dt_L_law_19 10 (1092, .iload_n 3, 1) rfl) rfl rfl (aw_iconst (pc' := 1094) (v := 2) (dt_L_law_19 11 (1093, .iconst 2, 1) rfl) (by decide) rfl (aw_iadd (pc' := 1095) (dt_L_law_19 12 (1094, .iadd, 1) rfl) rfl (aw_iald (pc' := 1096) (dt_L_law_19 13 (1095, .iaload, 1) rfl) rfl (sk_0 hS) g305 (aw_callVB (nc1 := 4) (ns1 := 460) (pc' := 1099) (nc := nc) (ns := ns) (y2 := mX10_worth) (As := [.int (zI μ 0 (x3 + 1).toNatClampNeg), .int (zI μ 0 (x3 + 2).toNatClampNeg)]) (rest := []) (a := 11) (dt_L_law_19 14 (1096, .invokevirtual 111, 3) rfl) ok_X10_worth ln_ReturnDeskLaw_111 im_X10_worth se_X10_worth pr_X10_worth (Or.inl ⟨by decide, rfl⟩) rfl (Nat.le_of_ble_eq_true rfl) (Nat.le_of_ble_eq_true rfl) rfl (sk_11 hS) h ?_)))))))))))
      rintro v μ306 ⟨r308, rfl, hS307, h⟩
      refine aw_stk (st' := [.int r308]) rfl ?_
      obtain ⟨g309, h⟩ := h
      obtain ⟨g310, h⟩ := h
      refine aw_aload_n (pc' := 1100) (dt_L_law_19 15 (1099, .aload_n 2, 1) rfl) rfl rfl (aw_aload_n (pc' := 1101) (dt_L_law_19 16 (1100, .aload_n 0, 1) rfl) rfl rfl (aw_iload_n (pc' := 1102) (dt_L_law_19 17 (1101, .iload_n 3, 1) rfl) rfl rfl (aw_iconst (pc' := 1103) (v := 1) (dt_L_law_19 18 (1102, .iconst 1, 1) rfl) (by decide) rfl (aw_iadd (pc' := 1104) (dt_L_law_19 19 (1103, .iadd, 1) rfl) rfl (aw_iald (pc' := 1105) (dt_L_law_19 20 (1104, .iaload, 1) rfl) rfl (sk_0 hS307) g309 (aw_aload_n (pc' := 1106) (dt_L_law_19 21 (1105, .aload_n 0, 1) rfl) rfl rfl (aw_iload_n (pc' := 1107) (dt_L_law_19 22 (1106, .iload_n 3, 1) rfl) rfl rfl (aw_iconst (pc' := 1108) (v := 2) (dt_L_law_19 23 (1107, .iconst 2, 1) rfl) (by decide) rfl (aw_iadd (pc' := 1109) (dt_L_law_19 24 (1108, .iadd, 1) rfl) rfl (aw_iald (pc' := 1110) (dt_L_law_19 25 (1109, .iaload, 1) rfl) rfl (sk_0 hS307) g310 (aw_callV0 (pc' := 1113) (nc := nc) (ns := ns) (y2 := mX11_worth) (As := [.int (zI μ306 0 (x3 + 1).toNatClampNeg), .int (zI μ306 0 (x3 + 2).toNatClampNeg)]) (rest := [.int r308]) (a := 31) (dt_L_law_19 26 (1110, .invokevirtual 114, 3) rfl) ok_X11_worth ln_ReturnDeskLaw_114 im_X11_worth se_X11_worth pr_X11_worth (Or.inl ⟨by decide, rfl⟩) rfl (Nat.le_of_ble_eq_true rfl) (Nat.le_of_ble_eq_true rfl) rfl (sk_31 hS307) h ?_)))))))))))
      rintro v μ311 ⟨r313, rfl, hS312, h⟩
      refine aw_stk (st' := [.int r313, .int r308]) rfl ?_
      refine aw_icmp_eq (pc' := 1116) (tgt := 1543) (dt_L_law_19 27 (1113, .if_icmp .eq 430, 3) rfl) (by decide) rfl ?_ ?_
      · intro q314
        have h := h.1 q314
        refine aw_iinc (pc' := 1546) (v := 7) (ls' := [some (.ref 0), some (.ref 11), some (.ref 31), some (.int (x3 + 7))]) (dt_L_law_28 5 (1543, .iinc 3 7, 3) rfl) rfl (by decide) (by decide) rfl rfl (aw_goto (tgt := 18) (dt_L_law_28 6 (1546, .goto (-1528), 3) rfl) (by decide) ?_)
        exact h
      · intro q314
        have h := h.2 q314
        refine aw_iconst (pc' := 1117) (v := 0) (dt_L_law_19 28 (1116, .iconst 0, 1) rfl) (by decide) rfl (aw_iret (dt_L_law_19 29 (1117, .ireturn, 1) rfl) rfl rfl ?_)
        exact h
    by_cases q315 : ((zI μ 0 x3.toNatClampNeg) &&& 63) = 24
    · have h := h.2.2.2.2.2.2.2.2.2.2.2.2.2.2.2.2.2.2.2.2.2.2.2.2.1 q315
      refine aw_tableE (tgt := 1118) (off := 1085) (dt_L_law_0 21 (33, .tableswitch 1510 0 38 #[171, 214, 257, 290, 333, 356, 379, 442, 475, 508, 561, 584, 647, 670, 703, 746, 799, 874, 917, 950, 973, 996, 1019, 1052, 1085, 1108, 1131, 1174, 1217, 1250, 1283, 1296, 1319, 1342, 1375, 1398, 1431, 1454, 1487], 171) rfl) q315 (by decide) (by decide) (by decide) (by decide) ?_
      obtain ⟨g316, h⟩ := h
      refine aw_aload_n (pc' := 1119) (dt_L_law_19 30 (1118, .aload_n 1, 1) rfl) rfl rfl (aw_aload_n (pc' := 1120) (dt_L_law_19 31 (1119, .aload_n 0, 1) rfl) rfl rfl (aw_iload_n (pc' := 1121) (dt_L_law_19 32 (1120, .iload_n 3, 1) rfl) rfl rfl (aw_iconst (pc' := 1122) (v := 1) (dt_L_law_19 33 (1121, .iconst 1, 1) rfl) (by decide) rfl (aw_iadd (pc' := 1123) (dt_L_law_19 34 (1122, .iadd, 1) rfl) rfl (aw_iald (pc' := 1124) (dt_L_law_19 35 (1123, .iaload, 1) rfl) rfl (sk_0 hS) g316 (aw_callVB (nc1 := 4) (ns1 := 460) (pc' := 1127) (nc := nc) (ns := ns) (y2 := mX10_sort) (As := [.int (zI μ 0 (x3 + 1).toNatClampNeg)]) (rest := []) (a := 11) (dt_L_law_19 36 (1124, .invokevirtual 115, 3) rfl) ok_X10_sort ln_ReturnDeskLaw_115 im_X10_sort se_X10_sort pr_X10_sort (Or.inl ⟨by decide, rfl⟩) rfl (Nat.le_of_ble_eq_true rfl) (Nat.le_of_ble_eq_true rfl) rfl (sk_11 hS) h ?_))))))
      rintro v μ317 ⟨r319, rfl, hS318, h⟩
      refine aw_stk (st' := [.int r319]) rfl ?_
      obtain ⟨g320, h⟩ := h
      refine aw_aload_n (pc' := 1128) (dt_L_law_19 37 (1127, .aload_n 2, 1) rfl) rfl rfl (aw_aload_n (pc' := 1129) (dt_L_law_19 38 (1128, .aload_n 0, 1) rfl) rfl rfl (aw_iload_n (pc' := 1130) (dt_L_law_19 39 (1129, .iload_n 3, 1) rfl) rfl rfl (aw_iconst (pc' := 1131) (v := 1) (dt_L_law_20 0 (1130, .iconst 1, 1) rfl) (by decide) rfl (aw_iadd (pc' := 1132) (dt_L_law_20 1 (1131, .iadd, 1) rfl) rfl (aw_iald (pc' := 1133) (dt_L_law_20 2 (1132, .iaload, 1) rfl) rfl (sk_0 hS318) g320 (aw_callV0 (pc' := 1136) (nc := nc) (ns := ns) (y2 := mX11_sort) (As := [.int (zI μ317 0 (x3 + 1).toNatClampNeg)]) (rest := [.int r319]) (a := 31) (dt_L_law_20 3 (1133, .invokevirtual 118, 3) rfl) ok_X11_sort ln_ReturnDeskLaw_118 im_X11_sort se_X11_sort pr_X11_sort (Or.inl ⟨by decide, rfl⟩) rfl (Nat.le_of_ble_eq_true rfl) (Nat.le_of_ble_eq_true rfl) rfl (sk_31 hS318) h ?_))))))
      rintro v μ321 ⟨r323, rfl, hS322, h⟩
      refine aw_stk (st' := [.int r323, .int r319]) rfl ?_
      refine aw_icmp_eq (pc' := 1139) (tgt := 1543) (dt_L_law_20 4 (1136, .if_icmp .eq 407, 3) rfl) (by decide) rfl ?_ ?_
      · intro q324
        have h := h.1 q324
        refine aw_iinc (pc' := 1546) (v := 7) (ls' := [some (.ref 0), some (.ref 11), some (.ref 31), some (.int (x3 + 7))]) (dt_L_law_28 5 (1543, .iinc 3 7, 3) rfl) rfl (by decide) (by decide) rfl rfl (aw_goto (tgt := 18) (dt_L_law_28 6 (1546, .goto (-1528), 3) rfl) (by decide) ?_)
        exact h
      · intro q324
        have h := h.2 q324
        refine aw_iconst (pc' := 1140) (v := 0) (dt_L_law_20 5 (1139, .iconst 0, 1) rfl) (by decide) rfl (aw_iret (dt_L_law_20 6 (1140, .ireturn, 1) rfl) rfl rfl ?_)
        exact h
    by_cases q325 : ((zI μ 0 x3.toNatClampNeg) &&& 63) = 25
    · have h := h.2.2.2.2.2.2.2.2.2.2.2.2.2.2.2.2.2.2.2.2.2.2.2.2.2.1 q325
      refine aw_tableE (tgt := 1141) (off := 1108) (dt_L_law_0 21 (33, .tableswitch 1510 0 38 #[171, 214, 257, 290, 333, 356, 379, 442, 475, 508, 561, 584, 647, 670, 703, 746, 799, 874, 917, 950, 973, 996, 1019, 1052, 1085, 1108, 1131, 1174, 1217, 1250, 1283, 1296, 1319, 1342, 1375, 1398, 1431, 1454, 1487], 171) rfl) q325 (by decide) (by decide) (by decide) (by decide) ?_
      obtain ⟨g326, h⟩ := h
      refine aw_aload_n (pc' := 1142) (dt_L_law_20 7 (1141, .aload_n 1, 1) rfl) rfl rfl (aw_aload_n (pc' := 1143) (dt_L_law_20 8 (1142, .aload_n 0, 1) rfl) rfl rfl (aw_iload_n (pc' := 1144) (dt_L_law_20 9 (1143, .iload_n 3, 1) rfl) rfl rfl (aw_iconst (pc' := 1145) (v := 1) (dt_L_law_20 10 (1144, .iconst 1, 1) rfl) (by decide) rfl (aw_iadd (pc' := 1146) (dt_L_law_20 11 (1145, .iadd, 1) rfl) rfl (aw_iald (pc' := 1147) (dt_L_law_20 12 (1146, .iaload, 1) rfl) rfl (sk_0 hS) g326 (aw_callVB (nc1 := 4) (ns1 := 460) (pc' := 1150) (nc := nc) (ns := ns) (y2 := mX10_sellUsed) (As := [.int (zI μ 0 (x3 + 1).toNatClampNeg)]) (rest := []) (a := 11) (dt_L_law_20 13 (1147, .invokevirtual 119, 3) rfl) ok_X10_sellUsed ln_ReturnDeskLaw_119 im_X10_sellUsed se_X10_sellUsed pr_X10_sellUsed (Or.inl ⟨by decide, rfl⟩) rfl (Nat.le_of_ble_eq_true rfl) (Nat.le_of_ble_eq_true rfl) rfl (sk_11 hS) h ?_))))))
      rintro v μ327 ⟨r329, rfl, hS328, h⟩
      refine aw_stk (st' := [.int r329]) rfl ?_
      obtain ⟨g330, h⟩ := h
      refine aw_aload_n (pc' := 1151) (dt_L_law_20 14 (1150, .aload_n 2, 1) rfl) rfl rfl (aw_aload_n (pc' := 1152) (dt_L_law_20 15 (1151, .aload_n 0, 1) rfl) rfl rfl (aw_iload_n (pc' := 1153) (dt_L_law_20 16 (1152, .iload_n 3, 1) rfl) rfl rfl (aw_iconst (pc' := 1154) (v := 1) (dt_L_law_20 17 (1153, .iconst 1, 1) rfl) (by decide) rfl (aw_iadd (pc' := 1155) (dt_L_law_20 18 (1154, .iadd, 1) rfl) rfl (aw_iald (pc' := 1156) (dt_L_law_20 19 (1155, .iaload, 1) rfl) rfl (sk_0 hS328) g330 (aw_callV0 (pc' := 1159) (nc := nc) (ns := ns) (y2 := mX11_sellUsed) (As := [.int (zI μ327 0 (x3 + 1).toNatClampNeg)]) (rest := [.int r329]) (a := 31) (dt_L_law_20 20 (1156, .invokevirtual 122, 3) rfl) ok_X11_sellUsed ln_ReturnDeskLaw_122 im_X11_sellUsed se_X11_sellUsed pr_X11_sellUsed (Or.inl ⟨by decide, rfl⟩) rfl (Nat.le_of_ble_eq_true rfl) (Nat.le_of_ble_eq_true rfl) rfl (sk_31 hS328) h ?_))))))
      rintro v μ331 ⟨r333, rfl, hS332, h⟩
      refine aw_stk (st' := [.int r333, .int r329]) rfl ?_
      refine aw_icmp_eq (pc' := 1162) (tgt := 1543) (dt_L_law_20 21 (1159, .if_icmp .eq 384, 3) rfl) (by decide) rfl ?_ ?_
      · intro q334
        have h := h.1 q334
        refine aw_iinc (pc' := 1546) (v := 7) (ls' := [some (.ref 0), some (.ref 11), some (.ref 31), some (.int (x3 + 7))]) (dt_L_law_28 5 (1543, .iinc 3 7, 3) rfl) rfl (by decide) (by decide) rfl rfl (aw_goto (tgt := 18) (dt_L_law_28 6 (1546, .goto (-1528), 3) rfl) (by decide) ?_)
        exact h
      · intro q334
        have h := h.2 q334
        refine aw_iconst (pc' := 1163) (v := 0) (dt_L_law_20 22 (1162, .iconst 0, 1) rfl) (by decide) rfl (aw_iret (dt_L_law_20 23 (1163, .ireturn, 1) rfl) rfl rfl ?_)
        exact h
    by_cases q335 : ((zI μ 0 x3.toNatClampNeg) &&& 63) = 26
    · have h := h.2.2.2.2.2.2.2.2.2.2.2.2.2.2.2.2.2.2.2.2.2.2.2.2.2.2.1 q335
      refine aw_tableE (tgt := 1164) (off := 1131) (dt_L_law_0 21 (33, .tableswitch 1510 0 38 #[171, 214, 257, 290, 333, 356, 379, 442, 475, 508, 561, 584, 647, 670, 703, 746, 799, 874, 917, 950, 973, 996, 1019, 1052, 1085, 1108, 1131, 1174, 1217, 1250, 1283, 1296, 1319, 1342, 1375, 1398, 1431, 1454, 1487], 171) rfl) q335 (by decide) (by decide) (by decide) (by decide) ?_
      obtain ⟨g336, h⟩ := h
      obtain ⟨g337, h⟩ := h
      obtain ⟨g338, h⟩ := h
      refine aw_aload_n (pc' := 1165) (dt_L_law_20 24 (1164, .aload_n 1, 1) rfl) rfl rfl (aw_aload_n (pc' := 1166) (dt_L_law_20 25 (1165, .aload_n 0, 1) rfl) rfl rfl (aw_iload_n (pc' := 1167) (dt_L_law_20 26 (1166, .iload_n 3, 1) rfl) rfl rfl (aw_iconst (pc' := 1168) (v := 1) (dt_L_law_20 27 (1167, .iconst 1, 1) rfl) (by decide) rfl (aw_iadd (pc' := 1169) (dt_L_law_20 28 (1168, .iadd, 1) rfl) rfl (aw_iald (pc' := 1170) (dt_L_law_20 29 (1169, .iaload, 1) rfl) rfl (sk_0 hS) g336 (aw_aload_n (pc' := 1171) (dt_L_law_20 30 (1170, .aload_n 0, 1) rfl) rfl rfl (aw_iload_n (pc' := 1172) (dt_L_law_20 31 (1171, .iload_n 3, 1) rfl) rfl rfl (aw_iconst (pc' := 1173) (v := 2) (dt_L_law_20 32 (1172, .iconst 2, 1) rfl) (by decide) rfl (aw_iadd (pc' := 1174) (dt_L_law_20 33 (1173, .iadd, 1) rfl) rfl (aw_iald (pc' := 1175) (dt_L_law_20 34 (1174, .iaload, 1) rfl) rfl (sk_0 hS) g337 (aw_aload_n (pc' := 1176) (dt_L_law_20 35 (1175, .aload_n 0, 1) rfl) rfl rfl (aw_iload_n (pc' := 1177) (dt_L_law_20 36 (1176, .iload_n 3, 1) rfl) rfl rfl (aw_iconst (pc' := 1178) (v := 3) (dt_L_law_20 37 (1177, .iconst 3, 1) rfl) (by decide) rfl (aw_iadd (pc' := 1179) (dt_L_law_20 38 (1178, .iadd, 1) rfl) rfl (aw_iald (pc' := 1180) (dt_L_law_20 39 (1179, .iaload, 1) rfl) rfl (sk_0 hS) g338 (aw_callVB (nc1 := 4) (ns1 := 460) (pc' := 1183) (nc := nc) (ns := ns) (y2 := mX10_ofLot) (As := [.int (zI μ 0 (x3 + 1).toNatClampNeg), .int (zI μ 0 (x3 + 2).toNatClampNeg), .int (zI μ 0 (x3 + 3).toNatClampNeg)]) (rest := []) (a := 11) (dt_L_law_21 0 (1180, .invokevirtual 123, 3) rfl) ok_X10_ofLot ln_ReturnDeskLaw_123 im_X10_ofLot se_X10_ofLot pr_X10_ofLot (Or.inl ⟨by decide, rfl⟩) rfl (Nat.le_of_ble_eq_true rfl) (Nat.le_of_ble_eq_true rfl) rfl (sk_11 hS) h ?_))))))))))))))))
      rintro v μ339 ⟨r341, rfl, hS340, h⟩
      refine aw_stk (st' := [.int r341]) rfl ?_
      obtain ⟨g342, h⟩ := h
      obtain ⟨g343, h⟩ := h
      obtain ⟨g344, h⟩ := h
      refine aw_aload_n (pc' := 1184) (dt_L_law_21 1 (1183, .aload_n 2, 1) rfl) rfl rfl (aw_aload_n (pc' := 1185) (dt_L_law_21 2 (1184, .aload_n 0, 1) rfl) rfl rfl (aw_iload_n (pc' := 1186) (dt_L_law_21 3 (1185, .iload_n 3, 1) rfl) rfl rfl (aw_iconst (pc' := 1187) (v := 1) (dt_L_law_21 4 (1186, .iconst 1, 1) rfl) (by decide) rfl (aw_iadd (pc' := 1188) (dt_L_law_21 5 (1187, .iadd, 1) rfl) rfl (aw_iald (pc' := 1189) (dt_L_law_21 6 (1188, .iaload, 1) rfl) rfl (sk_0 hS340) g342 (aw_aload_n (pc' := 1190) (dt_L_law_21 7 (1189, .aload_n 0, 1) rfl) rfl rfl (aw_iload_n (pc' := 1191) (dt_L_law_21 8 (1190, .iload_n 3, 1) rfl) rfl rfl (aw_iconst (pc' := 1192) (v := 2) (dt_L_law_21 9 (1191, .iconst 2, 1) rfl) (by decide) rfl (aw_iadd (pc' := 1193) (dt_L_law_21 10 (1192, .iadd, 1) rfl) rfl (aw_iald (pc' := 1194) (dt_L_law_21 11 (1193, .iaload, 1) rfl) rfl (sk_0 hS340) g343 (aw_aload_n (pc' := 1195) (dt_L_law_21 12 (1194, .aload_n 0, 1) rfl) rfl rfl (aw_iload_n (pc' := 1196) (dt_L_law_21 13 (1195, .iload_n 3, 1) rfl) rfl rfl (aw_iconst (pc' := 1197) (v := 3) (dt_L_law_21 14 (1196, .iconst 3, 1) rfl) (by decide) rfl (aw_iadd (pc' := 1198) (dt_L_law_21 15 (1197, .iadd, 1) rfl) rfl (aw_iald (pc' := 1199) (dt_L_law_21 16 (1198, .iaload, 1) rfl) rfl (sk_0 hS340) g344 (aw_callV0 (pc' := 1202) (nc := nc) (ns := ns) (y2 := mX11_ofLot) (As := [.int (zI μ339 0 (x3 + 1).toNatClampNeg), .int (zI μ339 0 (x3 + 2).toNatClampNeg), .int (zI μ339 0 (x3 + 3).toNatClampNeg)]) (rest := [.int r341]) (a := 31) (dt_L_law_21 17 (1199, .invokevirtual 126, 3) rfl) ok_X11_ofLot ln_ReturnDeskLaw_126 im_X11_ofLot se_X11_ofLot pr_X11_ofLot (Or.inl ⟨by decide, rfl⟩) rfl (Nat.le_of_ble_eq_true rfl) (Nat.le_of_ble_eq_true rfl) rfl (sk_31 hS340) h ?_))))))))))))))))
      rintro v μ345 ⟨r347, rfl, hS346, h⟩
      refine aw_stk (st' := [.int r347, .int r341]) rfl ?_
      refine aw_icmp_eq (pc' := 1205) (tgt := 1543) (dt_L_law_21 18 (1202, .if_icmp .eq 341, 3) rfl) (by decide) rfl ?_ ?_
      · intro q348
        have h := h.1 q348
        refine aw_iinc (pc' := 1546) (v := 7) (ls' := [some (.ref 0), some (.ref 11), some (.ref 31), some (.int (x3 + 7))]) (dt_L_law_28 5 (1543, .iinc 3 7, 3) rfl) rfl (by decide) (by decide) rfl rfl (aw_goto (tgt := 18) (dt_L_law_28 6 (1546, .goto (-1528), 3) rfl) (by decide) ?_)
        exact h
      · intro q348
        have h := h.2 q348
        refine aw_iconst (pc' := 1206) (v := 0) (dt_L_law_21 19 (1205, .iconst 0, 1) rfl) (by decide) rfl (aw_iret (dt_L_law_21 20 (1206, .ireturn, 1) rfl) rfl rfl ?_)
        exact h
    by_cases q349 : ((zI μ 0 x3.toNatClampNeg) &&& 63) = 27
    · have h := h.2.2.2.2.2.2.2.2.2.2.2.2.2.2.2.2.2.2.2.2.2.2.2.2.2.2.2.1 q349
      refine aw_tableE (tgt := 1207) (off := 1174) (dt_L_law_0 21 (33, .tableswitch 1510 0 38 #[171, 214, 257, 290, 333, 356, 379, 442, 475, 508, 561, 584, 647, 670, 703, 746, 799, 874, 917, 950, 973, 996, 1019, 1052, 1085, 1108, 1131, 1174, 1217, 1250, 1283, 1296, 1319, 1342, 1375, 1398, 1431, 1454, 1487], 171) rfl) q349 (by decide) (by decide) (by decide) (by decide) ?_
      obtain ⟨g350, h⟩ := h
      obtain ⟨g351, h⟩ := h
      obtain ⟨g352, h⟩ := h
      refine aw_aload_n (pc' := 1208) (dt_L_law_21 21 (1207, .aload_n 1, 1) rfl) rfl rfl (aw_aload_n (pc' := 1209) (dt_L_law_21 22 (1208, .aload_n 0, 1) rfl) rfl rfl (aw_iload_n (pc' := 1210) (dt_L_law_21 23 (1209, .iload_n 3, 1) rfl) rfl rfl (aw_iconst (pc' := 1211) (v := 1) (dt_L_law_21 24 (1210, .iconst 1, 1) rfl) (by decide) rfl (aw_iadd (pc' := 1212) (dt_L_law_21 25 (1211, .iadd, 1) rfl) rfl (aw_iald (pc' := 1213) (dt_L_law_21 26 (1212, .iaload, 1) rfl) rfl (sk_0 hS) g350 (aw_aload_n (pc' := 1214) (dt_L_law_21 27 (1213, .aload_n 0, 1) rfl) rfl rfl (aw_iload_n (pc' := 1215) (dt_L_law_21 28 (1214, .iload_n 3, 1) rfl) rfl rfl (aw_iconst (pc' := 1216) (v := 2) (dt_L_law_21 29 (1215, .iconst 2, 1) rfl) (by decide) rfl (aw_iadd (pc' := 1217) (dt_L_law_21 30 (1216, .iadd, 1) rfl) rfl (aw_iald (pc' := 1218) (dt_L_law_21 31 (1217, .iaload, 1) rfl) rfl (sk_0 hS) g351 (aw_aload_n (pc' := 1219) (dt_L_law_21 32 (1218, .aload_n 0, 1) rfl) rfl rfl (aw_iload_n (pc' := 1220) (dt_L_law_21 33 (1219, .iload_n 3, 1) rfl) rfl rfl (aw_iconst (pc' := 1221) (v := 3) (dt_L_law_21 34 (1220, .iconst 3, 1) rfl) (by decide) rfl (aw_iadd (pc' := 1222) (dt_L_law_21 35 (1221, .iadd, 1) rfl) rfl (aw_iald (pc' := 1223) (dt_L_law_21 36 (1222, .iaload, 1) rfl) rfl (sk_0 hS) g352 (aw_callVB (nc1 := 4) (ns1 := 460) (pc' := 1226) (nc := nc) (ns := ns) (y2 := mX10_beyond) (As := [.int (zI μ 0 (x3 + 1).toNatClampNeg), .int (zI μ 0 (x3 + 2).toNatClampNeg), .int (zI μ 0 (x3 + 3).toNatClampNeg)]) (rest := []) (a := 11) (dt_L_law_21 37 (1223, .invokevirtual 127, 3) rfl) ok_X10_beyond ln_ReturnDeskLaw_127 im_X10_beyond se_X10_beyond pr_X10_beyond (Or.inl ⟨by decide, rfl⟩) rfl (Nat.le_of_ble_eq_true rfl) (Nat.le_of_ble_eq_true rfl) rfl (sk_11 hS) h ?_))))))))))))))))
      rintro v μ353 ⟨r355, rfl, hS354, h⟩
      refine aw_stk (st' := [.int r355]) rfl ?_
      obtain ⟨g356, h⟩ := h
      obtain ⟨g357, h⟩ := h
      obtain ⟨g358, h⟩ := h
      refine aw_aload_n (pc' := 1227) (dt_L_law_21 38 (1226, .aload_n 2, 1) rfl) rfl rfl (aw_aload_n (pc' := 1228) (dt_L_law_21 39 (1227, .aload_n 0, 1) rfl) rfl rfl (aw_iload_n (pc' := 1229) (dt_L_law_22 0 (1228, .iload_n 3, 1) rfl) rfl rfl (aw_iconst (pc' := 1230) (v := 1) (dt_L_law_22 1 (1229, .iconst 1, 1) rfl) (by decide) rfl (aw_iadd (pc' := 1231) (dt_L_law_22 2 (1230, .iadd, 1) rfl) rfl (aw_iald (pc' := 1232) (dt_L_law_22 3 (1231, .iaload, 1) rfl) rfl (sk_0 hS354) g356 (aw_aload_n (pc' := 1233) (dt_L_law_22 4 (1232, .aload_n 0, 1) rfl) rfl rfl (aw_iload_n (pc' := 1234) (dt_L_law_22 5 (1233, .iload_n 3, 1) rfl) rfl rfl (aw_iconst (pc' := 1235) (v := 2) (dt_L_law_22 6 (1234, .iconst 2, 1) rfl) (by decide) rfl (aw_iadd (pc' := 1236) (dt_L_law_22 7 (1235, .iadd, 1) rfl) rfl (aw_iald (pc' := 1237) (dt_L_law_22 8 (1236, .iaload, 1) rfl) rfl (sk_0 hS354) g357 (aw_aload_n (pc' := 1238) (dt_L_law_22 9 (1237, .aload_n 0, 1) rfl) rfl rfl (aw_iload_n (pc' := 1239) (dt_L_law_22 10 (1238, .iload_n 3, 1) rfl) rfl rfl (aw_iconst (pc' := 1240) (v := 3) (dt_L_law_22 11 (1239, .iconst 3, 1) rfl) (by decide) rfl (aw_iadd (pc' := 1241) (dt_L_law_22 12 (1240, .iadd, 1) rfl) rfl (aw_iald (pc' := 1242) (dt_L_law_22 13 (1241, .iaload, 1) rfl) rfl (sk_0 hS354) g358 (aw_callV0 (pc' := 1245) (nc := nc) (ns := ns) (y2 := mX11_beyond) (As := [.int (zI μ353 0 (x3 + 1).toNatClampNeg), .int (zI μ353 0 (x3 + 2).toNatClampNeg), .int (zI μ353 0 (x3 + 3).toNatClampNeg)]) (rest := [.int r355]) (a := 31) (dt_L_law_22 14 (1242, .invokevirtual 130, 3) rfl) ok_X11_beyond ln_ReturnDeskLaw_130 im_X11_beyond se_X11_beyond pr_X11_beyond (Or.inl ⟨by decide, rfl⟩) rfl (Nat.le_of_ble_eq_true rfl) (Nat.le_of_ble_eq_true rfl) rfl (sk_31 hS354) h ?_))))))))))))))))
      rintro v μ359 ⟨r361, rfl, hS360, h⟩
      refine aw_stk (st' := [.int r361, .int r355]) rfl ?_
      refine aw_icmp_eq (pc' := 1248) (tgt := 1543) (dt_L_law_22 15 (1245, .if_icmp .eq 298, 3) rfl) (by decide) rfl ?_ ?_
      · intro q362
        have h := h.1 q362
        refine aw_iinc (pc' := 1546) (v := 7) (ls' := [some (.ref 0), some (.ref 11), some (.ref 31), some (.int (x3 + 7))]) (dt_L_law_28 5 (1543, .iinc 3 7, 3) rfl) rfl (by decide) (by decide) rfl rfl (aw_goto (tgt := 18) (dt_L_law_28 6 (1546, .goto (-1528), 3) rfl) (by decide) ?_)
        exact h
      · intro q362
        have h := h.2 q362
        refine aw_iconst (pc' := 1249) (v := 0) (dt_L_law_22 16 (1248, .iconst 0, 1) rfl) (by decide) rfl (aw_iret (dt_L_law_22 17 (1249, .ireturn, 1) rfl) rfl rfl ?_)
        exact h
    by_cases q363 : ((zI μ 0 x3.toNatClampNeg) &&& 63) = 28
    · have h := h.2.2.2.2.2.2.2.2.2.2.2.2.2.2.2.2.2.2.2.2.2.2.2.2.2.2.2.2.1 q363
      refine aw_tableE (tgt := 1250) (off := 1217) (dt_L_law_0 21 (33, .tableswitch 1510 0 38 #[171, 214, 257, 290, 333, 356, 379, 442, 475, 508, 561, 584, 647, 670, 703, 746, 799, 874, 917, 950, 973, 996, 1019, 1052, 1085, 1108, 1131, 1174, 1217, 1250, 1283, 1296, 1319, 1342, 1375, 1398, 1431, 1454, 1487], 171) rfl) q363 (by decide) (by decide) (by decide) (by decide) ?_
      obtain ⟨g364, h⟩ := h
      obtain ⟨g365, h⟩ := h
      refine aw_aload_n (pc' := 1251) (dt_L_law_22 18 (1250, .aload_n 1, 1) rfl) rfl rfl (aw_aload_n (pc' := 1252) (dt_L_law_22 19 (1251, .aload_n 0, 1) rfl) rfl rfl (aw_iload_n (pc' := 1253) (dt_L_law_22 20 (1252, .iload_n 3, 1) rfl) rfl rfl (aw_iconst (pc' := 1254) (v := 1) (dt_L_law_22 21 (1253, .iconst 1, 1) rfl) (by decide) rfl (aw_iadd (pc' := 1255) (dt_L_law_22 22 (1254, .iadd, 1) rfl) rfl (aw_iald (pc' := 1256) (dt_L_law_22 23 (1255, .iaload, 1) rfl) rfl (sk_0 hS) g364 (aw_aload_n (pc' := 1257) (dt_L_law_22 24 (1256, .aload_n 0, 1) rfl) rfl rfl (aw_iload_n (pc' := 1258) (dt_L_law_22 25 (1257, .iload_n 3, 1) rfl) rfl rfl (aw_iconst (pc' := 1259) (v := 2) (dt_L_law_22 26 (1258, .iconst 2, 1) rfl) (by decide) rfl (aw_iadd (pc' := 1260) (dt_L_law_22 27 (1259, .iadd, 1) rfl) rfl (aw_iald (pc' := 1261) (dt_L_law_22 28 (1260, .iaload, 1) rfl) rfl (sk_0 hS) g365 (aw_callVB (nc1 := 4) (ns1 := 460) (pc' := 1264) (nc := nc) (ns := ns) (y2 := mX10_since) (As := [.int (zI μ 0 (x3 + 1).toNatClampNeg), .int (zI μ 0 (x3 + 2).toNatClampNeg)]) (rest := []) (a := 11) (dt_L_law_22 29 (1261, .invokevirtual 131, 3) rfl) ok_X10_since ln_ReturnDeskLaw_131 im_X10_since se_X10_since pr_X10_since (Or.inl ⟨by decide, rfl⟩) rfl (Nat.le_of_ble_eq_true rfl) (Nat.le_of_ble_eq_true rfl) rfl (sk_11 hS) h ?_)))))))))))
      rintro v μ366 ⟨r368, rfl, hS367, h⟩
      refine aw_stk (st' := [.int r368]) rfl ?_
      obtain ⟨g369, h⟩ := h
      obtain ⟨g370, h⟩ := h
      refine aw_aload_n (pc' := 1265) (dt_L_law_22 30 (1264, .aload_n 2, 1) rfl) rfl rfl (aw_aload_n (pc' := 1266) (dt_L_law_22 31 (1265, .aload_n 0, 1) rfl) rfl rfl (aw_iload_n (pc' := 1267) (dt_L_law_22 32 (1266, .iload_n 3, 1) rfl) rfl rfl (aw_iconst (pc' := 1268) (v := 1) (dt_L_law_22 33 (1267, .iconst 1, 1) rfl) (by decide) rfl (aw_iadd (pc' := 1269) (dt_L_law_22 34 (1268, .iadd, 1) rfl) rfl (aw_iald (pc' := 1270) (dt_L_law_22 35 (1269, .iaload, 1) rfl) rfl (sk_0 hS367) g369 (aw_aload_n (pc' := 1271) (dt_L_law_22 36 (1270, .aload_n 0, 1) rfl) rfl rfl (aw_iload_n (pc' := 1272) (dt_L_law_22 37 (1271, .iload_n 3, 1) rfl) rfl rfl (aw_iconst (pc' := 1273) (v := 2) (dt_L_law_22 38 (1272, .iconst 2, 1) rfl) (by decide) rfl (aw_iadd (pc' := 1274) (dt_L_law_22 39 (1273, .iadd, 1) rfl) rfl (aw_iald (pc' := 1275) (dt_L_law_23 0 (1274, .iaload, 1) rfl) rfl (sk_0 hS367) g370 (aw_callV0 (pc' := 1278) (nc := nc) (ns := ns) (y2 := mX11_since) (As := [.int (zI μ366 0 (x3 + 1).toNatClampNeg), .int (zI μ366 0 (x3 + 2).toNatClampNeg)]) (rest := [.int r368]) (a := 31) (dt_L_law_23 1 (1275, .invokevirtual 134, 3) rfl) ok_X11_since ln_ReturnDeskLaw_134 im_X11_since se_X11_since pr_X11_since (Or.inl ⟨by decide, rfl⟩) rfl (Nat.le_of_ble_eq_true rfl) (Nat.le_of_ble_eq_true rfl) rfl (sk_31 hS367) h ?_)))))))))))
      rintro v μ371 ⟨r373, rfl, hS372, h⟩
      refine aw_stk (st' := [.int r373, .int r368]) rfl ?_
      refine aw_icmp_eq (pc' := 1281) (tgt := 1543) (dt_L_law_23 2 (1278, .if_icmp .eq 265, 3) rfl) (by decide) rfl ?_ ?_
      · intro q374
        have h := h.1 q374
        refine aw_iinc (pc' := 1546) (v := 7) (ls' := [some (.ref 0), some (.ref 11), some (.ref 31), some (.int (x3 + 7))]) (dt_L_law_28 5 (1543, .iinc 3 7, 3) rfl) rfl (by decide) (by decide) rfl rfl (aw_goto (tgt := 18) (dt_L_law_28 6 (1546, .goto (-1528), 3) rfl) (by decide) ?_)
        exact h
      · intro q374
        have h := h.2 q374
        refine aw_iconst (pc' := 1282) (v := 0) (dt_L_law_23 3 (1281, .iconst 0, 1) rfl) (by decide) rfl (aw_iret (dt_L_law_23 4 (1282, .ireturn, 1) rfl) rfl rfl ?_)
        exact h
    by_cases q375 : ((zI μ 0 x3.toNatClampNeg) &&& 63) = 29
    · have h := h.2.2.2.2.2.2.2.2.2.2.2.2.2.2.2.2.2.2.2.2.2.2.2.2.2.2.2.2.2.1 q375
      refine aw_tableE (tgt := 1283) (off := 1250) (dt_L_law_0 21 (33, .tableswitch 1510 0 38 #[171, 214, 257, 290, 333, 356, 379, 442, 475, 508, 561, 584, 647, 670, 703, 746, 799, 874, 917, 950, 973, 996, 1019, 1052, 1085, 1108, 1131, 1174, 1217, 1250, 1283, 1296, 1319, 1342, 1375, 1398, 1431, 1454, 1487], 171) rfl) q375 (by decide) (by decide) (by decide) (by decide) ?_
      obtain ⟨g376, h⟩ := h
      obtain ⟨g377, h⟩ := h
      refine aw_aload_n (pc' := 1284) (dt_L_law_23 5 (1283, .aload_n 1, 1) rfl) rfl rfl (aw_aload_n (pc' := 1285) (dt_L_law_23 6 (1284, .aload_n 0, 1) rfl) rfl rfl (aw_iload_n (pc' := 1286) (dt_L_law_23 7 (1285, .iload_n 3, 1) rfl) rfl rfl (aw_iconst (pc' := 1287) (v := 1) (dt_L_law_23 8 (1286, .iconst 1, 1) rfl) (by decide) rfl (aw_iadd (pc' := 1288) (dt_L_law_23 9 (1287, .iadd, 1) rfl) rfl (aw_iald (pc' := 1289) (dt_L_law_23 10 (1288, .iaload, 1) rfl) rfl (sk_0 hS) g376 (aw_aload_n (pc' := 1290) (dt_L_law_23 11 (1289, .aload_n 0, 1) rfl) rfl rfl (aw_iload_n (pc' := 1291) (dt_L_law_23 12 (1290, .iload_n 3, 1) rfl) rfl rfl (aw_iconst (pc' := 1292) (v := 2) (dt_L_law_23 13 (1291, .iconst 2, 1) rfl) (by decide) rfl (aw_iadd (pc' := 1293) (dt_L_law_23 14 (1292, .iadd, 1) rfl) rfl (aw_iald (pc' := 1294) (dt_L_law_23 15 (1293, .iaload, 1) rfl) rfl (sk_0 hS) g377 (aw_callVB (nc1 := 4) (ns1 := 460) (pc' := 1297) (nc := nc) (ns := ns) (y2 := mX10_honest) (As := [.int (zI μ 0 (x3 + 1).toNatClampNeg), .int (zI μ 0 (x3 + 2).toNatClampNeg)]) (rest := []) (a := 11) (dt_L_law_23 16 (1294, .invokevirtual 135, 3) rfl) ok_X10_honest ln_ReturnDeskLaw_135 im_X10_honest se_X10_honest pr_X10_honest (Or.inl ⟨by decide, rfl⟩) rfl (Nat.le_of_ble_eq_true rfl) (Nat.le_of_ble_eq_true rfl) rfl (sk_11 hS) h ?_)))))))))))
      rintro v μ378 ⟨r380, rfl, hS379, h⟩
      refine aw_stk (st' := [.int r380]) rfl ?_
      obtain ⟨g381, h⟩ := h
      obtain ⟨g382, h⟩ := h
      refine aw_aload_n (pc' := 1298) (dt_L_law_23 17 (1297, .aload_n 2, 1) rfl) rfl rfl (aw_aload_n (pc' := 1299) (dt_L_law_23 18 (1298, .aload_n 0, 1) rfl) rfl rfl (aw_iload_n (pc' := 1300) (dt_L_law_23 19 (1299, .iload_n 3, 1) rfl) rfl rfl (aw_iconst (pc' := 1301) (v := 1) (dt_L_law_23 20 (1300, .iconst 1, 1) rfl) (by decide) rfl (aw_iadd (pc' := 1302) (dt_L_law_23 21 (1301, .iadd, 1) rfl) rfl (aw_iald (pc' := 1303) (dt_L_law_23 22 (1302, .iaload, 1) rfl) rfl (sk_0 hS379) g381 (aw_aload_n (pc' := 1304) (dt_L_law_23 23 (1303, .aload_n 0, 1) rfl) rfl rfl (aw_iload_n (pc' := 1305) (dt_L_law_23 24 (1304, .iload_n 3, 1) rfl) rfl rfl (aw_iconst (pc' := 1306) (v := 2) (dt_L_law_23 25 (1305, .iconst 2, 1) rfl) (by decide) rfl (aw_iadd (pc' := 1307) (dt_L_law_23 26 (1306, .iadd, 1) rfl) rfl (aw_iald (pc' := 1308) (dt_L_law_23 27 (1307, .iaload, 1) rfl) rfl (sk_0 hS379) g382 (aw_callV0 (pc' := 1311) (nc := nc) (ns := ns) (y2 := mX11_honest) (As := [.int (zI μ378 0 (x3 + 1).toNatClampNeg), .int (zI μ378 0 (x3 + 2).toNatClampNeg)]) (rest := [.int r380]) (a := 31) (dt_L_law_23 28 (1308, .invokevirtual 138, 3) rfl) ok_X11_honest ln_ReturnDeskLaw_138 im_X11_honest se_X11_honest pr_X11_honest (Or.inl ⟨by decide, rfl⟩) rfl (Nat.le_of_ble_eq_true rfl) (Nat.le_of_ble_eq_true rfl) rfl (sk_31 hS379) h ?_)))))))))))
      rintro v μ383 ⟨r385, rfl, hS384, h⟩
      refine aw_stk (st' := [.int r385, .int r380]) rfl ?_
      refine aw_icmp_eq (pc' := 1314) (tgt := 1543) (dt_L_law_23 29 (1311, .if_icmp .eq 232, 3) rfl) (by decide) rfl ?_ ?_
      · intro q386
        have h := h.1 q386
        refine aw_iinc (pc' := 1546) (v := 7) (ls' := [some (.ref 0), some (.ref 11), some (.ref 31), some (.int (x3 + 7))]) (dt_L_law_28 5 (1543, .iinc 3 7, 3) rfl) rfl (by decide) (by decide) rfl rfl (aw_goto (tgt := 18) (dt_L_law_28 6 (1546, .goto (-1528), 3) rfl) (by decide) ?_)
        exact h
      · intro q386
        have h := h.2 q386
        refine aw_iconst (pc' := 1315) (v := 0) (dt_L_law_23 30 (1314, .iconst 0, 1) rfl) (by decide) rfl (aw_iret (dt_L_law_23 31 (1315, .ireturn, 1) rfl) rfl rfl ?_)
        exact h
    by_cases q387 : ((zI μ 0 x3.toNatClampNeg) &&& 63) = 30
    · have h := h.2.2.2.2.2.2.2.2.2.2.2.2.2.2.2.2.2.2.2.2.2.2.2.2.2.2.2.2.2.2.1 q387
      refine aw_tableE (tgt := 1316) (off := 1283) (dt_L_law_0 21 (33, .tableswitch 1510 0 38 #[171, 214, 257, 290, 333, 356, 379, 442, 475, 508, 561, 584, 647, 670, 703, 746, 799, 874, 917, 950, 973, 996, 1019, 1052, 1085, 1108, 1131, 1174, 1217, 1250, 1283, 1296, 1319, 1342, 1375, 1398, 1431, 1454, 1487], 171) rfl) q387 (by decide) (by decide) (by decide) (by decide) ?_
      refine aw_aload_n (pc' := 1317) (dt_L_law_23 32 (1316, .aload_n 1, 1) rfl) rfl rfl (aw_callVB (nc1 := 4) (ns1 := 460) (pc' := 1320) (nc := nc) (ns := ns) (y2 := mX10_limit) (As := []) (rest := []) (a := 11) (dt_L_law_23 33 (1317, .invokevirtual 139, 3) rfl) ok_X10_limit ln_ReturnDeskLaw_139 im_X10_limit se_X10_limit pr_X10_limit (Or.inl ⟨by decide, rfl⟩) rfl (Nat.le_of_ble_eq_true rfl) (Nat.le_of_ble_eq_true rfl) rfl (sk_11 hS) h ?_)
      rintro v μ388 ⟨r390, rfl, hS389, h⟩
      refine aw_stk (st' := [.int r390]) rfl ?_
      refine aw_aload_n (pc' := 1321) (dt_L_law_23 34 (1320, .aload_n 2, 1) rfl) rfl rfl (aw_callV0 (pc' := 1324) (nc := nc) (ns := ns) (y2 := mX11_limit) (As := []) (rest := [.int r390]) (a := 31) (dt_L_law_23 35 (1321, .invokevirtual 143, 3) rfl) ok_X11_limit ln_ReturnDeskLaw_143 im_X11_limit se_X11_limit pr_X11_limit (Or.inl ⟨by decide, rfl⟩) rfl (Nat.le_of_ble_eq_true rfl) (Nat.le_of_ble_eq_true rfl) rfl (sk_31 hS389) h ?_)
      rintro v μ391 ⟨r393, rfl, hS392, h⟩
      refine aw_stk (st' := [.int r393, .int r390]) rfl ?_
      refine aw_icmp_eq (pc' := 1327) (tgt := 1543) (dt_L_law_23 36 (1324, .if_icmp .eq 219, 3) rfl) (by decide) rfl ?_ ?_
      · intro q394
        have h := h.1 q394
        refine aw_iinc (pc' := 1546) (v := 7) (ls' := [some (.ref 0), some (.ref 11), some (.ref 31), some (.int (x3 + 7))]) (dt_L_law_28 5 (1543, .iinc 3 7, 3) rfl) rfl (by decide) (by decide) rfl rfl (aw_goto (tgt := 18) (dt_L_law_28 6 (1546, .goto (-1528), 3) rfl) (by decide) ?_)
        exact h
      · intro q394
        have h := h.2 q394
        refine aw_iconst (pc' := 1328) (v := 0) (dt_L_law_23 37 (1327, .iconst 0, 1) rfl) (by decide) rfl (aw_iret (dt_L_law_23 38 (1328, .ireturn, 1) rfl) rfl rfl ?_)
        exact h
    by_cases q395 : ((zI μ 0 x3.toNatClampNeg) &&& 63) = 31
    · have h := h.2.2.2.2.2.2.2.2.2.2.2.2.2.2.2.2.2.2.2.2.2.2.2.2.2.2.2.2.2.2.2.1 q395
      refine aw_tableE (tgt := 1329) (off := 1296) (dt_L_law_0 21 (33, .tableswitch 1510 0 38 #[171, 214, 257, 290, 333, 356, 379, 442, 475, 508, 561, 584, 647, 670, 703, 746, 799, 874, 917, 950, 973, 996, 1019, 1052, 1085, 1108, 1131, 1174, 1217, 1250, 1283, 1296, 1319, 1342, 1375, 1398, 1431, 1454, 1487], 171) rfl) q395 (by decide) (by decide) (by decide) (by decide) ?_
      obtain ⟨g396, h⟩ := h
      refine aw_aload_n (pc' := 1330) (dt_L_law_23 39 (1329, .aload_n 1, 1) rfl) rfl rfl (aw_aload_n (pc' := 1331) (dt_L_law_24 0 (1330, .aload_n 0, 1) rfl) rfl rfl (aw_iload_n (pc' := 1332) (dt_L_law_24 1 (1331, .iload_n 3, 1) rfl) rfl rfl (aw_iconst (pc' := 1333) (v := 1) (dt_L_law_24 2 (1332, .iconst 1, 1) rfl) (by decide) rfl (aw_iadd (pc' := 1334) (dt_L_law_24 3 (1333, .iadd, 1) rfl) rfl (aw_iald (pc' := 1335) (dt_L_law_24 4 (1334, .iaload, 1) rfl) rfl (sk_0 hS) g396 (aw_callVB (nc1 := 4) (ns1 := 460) (pc' := 1338) (nc := nc) (ns := ns) (y2 := mX10_tried) (As := [.int (zI μ 0 (x3 + 1).toNatClampNeg)]) (rest := []) (a := 11) (dt_L_law_24 5 (1335, .invokevirtual 144, 3) rfl) ok_X10_tried ln_ReturnDeskLaw_144 im_X10_tried se_X10_tried pr_X10_tried (Or.inl ⟨by decide, rfl⟩) rfl (Nat.le_of_ble_eq_true rfl) (Nat.le_of_ble_eq_true rfl) rfl (sk_11 hS) h ?_))))))
      rintro v μ397 ⟨r399, rfl, hS398, h⟩
      refine aw_stk (st' := [.int r399]) rfl ?_
      obtain ⟨g400, h⟩ := h
      refine aw_aload_n (pc' := 1339) (dt_L_law_24 6 (1338, .aload_n 2, 1) rfl) rfl rfl (aw_aload_n (pc' := 1340) (dt_L_law_24 7 (1339, .aload_n 0, 1) rfl) rfl rfl (aw_iload_n (pc' := 1341) (dt_L_law_24 8 (1340, .iload_n 3, 1) rfl) rfl rfl (aw_iconst (pc' := 1342) (v := 1) (dt_L_law_24 9 (1341, .iconst 1, 1) rfl) (by decide) rfl (aw_iadd (pc' := 1343) (dt_L_law_24 10 (1342, .iadd, 1) rfl) rfl (aw_iald (pc' := 1344) (dt_L_law_24 11 (1343, .iaload, 1) rfl) rfl (sk_0 hS398) g400 (aw_callV0 (pc' := 1347) (nc := nc) (ns := ns) (y2 := mX11_tried) (As := [.int (zI μ397 0 (x3 + 1).toNatClampNeg)]) (rest := [.int r399]) (a := 31) (dt_L_law_24 12 (1344, .invokevirtual 147, 3) rfl) ok_X11_tried ln_ReturnDeskLaw_147 im_X11_tried se_X11_tried pr_X11_tried (Or.inl ⟨by decide, rfl⟩) rfl (Nat.le_of_ble_eq_true rfl) (Nat.le_of_ble_eq_true rfl) rfl (sk_31 hS398) h ?_))))))
      rintro v μ401 ⟨r403, rfl, hS402, h⟩
      refine aw_stk (st' := [.int r403, .int r399]) rfl ?_
      refine aw_icmp_eq (pc' := 1350) (tgt := 1543) (dt_L_law_24 13 (1347, .if_icmp .eq 196, 3) rfl) (by decide) rfl ?_ ?_
      · intro q404
        have h := h.1 q404
        refine aw_iinc (pc' := 1546) (v := 7) (ls' := [some (.ref 0), some (.ref 11), some (.ref 31), some (.int (x3 + 7))]) (dt_L_law_28 5 (1543, .iinc 3 7, 3) rfl) rfl (by decide) (by decide) rfl rfl (aw_goto (tgt := 18) (dt_L_law_28 6 (1546, .goto (-1528), 3) rfl) (by decide) ?_)
        exact h
      · intro q404
        have h := h.2 q404
        refine aw_iconst (pc' := 1351) (v := 0) (dt_L_law_24 14 (1350, .iconst 0, 1) rfl) (by decide) rfl (aw_iret (dt_L_law_24 15 (1351, .ireturn, 1) rfl) rfl rfl ?_)
        exact h
    by_cases q405 : ((zI μ 0 x3.toNatClampNeg) &&& 63) = 32
    · have h := h.2.2.2.2.2.2.2.2.2.2.2.2.2.2.2.2.2.2.2.2.2.2.2.2.2.2.2.2.2.2.2.2.1 q405
      refine aw_tableE (tgt := 1352) (off := 1319) (dt_L_law_0 21 (33, .tableswitch 1510 0 38 #[171, 214, 257, 290, 333, 356, 379, 442, 475, 508, 561, 584, 647, 670, 703, 746, 799, 874, 917, 950, 973, 996, 1019, 1052, 1085, 1108, 1131, 1174, 1217, 1250, 1283, 1296, 1319, 1342, 1375, 1398, 1431, 1454, 1487], 171) rfl) q405 (by decide) (by decide) (by decide) (by decide) ?_
      obtain ⟨g406, h⟩ := h
      refine aw_aload_n (pc' := 1353) (dt_L_law_24 16 (1352, .aload_n 1, 1) rfl) rfl rfl (aw_aload_n (pc' := 1354) (dt_L_law_24 17 (1353, .aload_n 0, 1) rfl) rfl rfl (aw_iload_n (pc' := 1355) (dt_L_law_24 18 (1354, .iload_n 3, 1) rfl) rfl rfl (aw_iconst (pc' := 1356) (v := 1) (dt_L_law_24 19 (1355, .iconst 1, 1) rfl) (by decide) rfl (aw_iadd (pc' := 1357) (dt_L_law_24 20 (1356, .iadd, 1) rfl) rfl (aw_iald (pc' := 1358) (dt_L_law_24 21 (1357, .iaload, 1) rfl) rfl (sk_0 hS) g406 (aw_callVB (nc1 := 4) (ns1 := 460) (pc' := 1361) (nc := nc) (ns := ns) (y2 := mX10_hits) (As := [.int (zI μ 0 (x3 + 1).toNatClampNeg)]) (rest := []) (a := 11) (dt_L_law_24 22 (1358, .invokevirtual 148, 3) rfl) ok_X10_hits ln_ReturnDeskLaw_148 im_X10_hits se_X10_hits pr_X10_hits (Or.inl ⟨by decide, rfl⟩) rfl (Nat.le_of_ble_eq_true rfl) (Nat.le_of_ble_eq_true rfl) rfl (sk_11 hS) h ?_))))))
      rintro v μ407 ⟨r409, rfl, hS408, h⟩
      refine aw_stk (st' := [.int r409]) rfl ?_
      obtain ⟨g410, h⟩ := h
      refine aw_aload_n (pc' := 1362) (dt_L_law_24 23 (1361, .aload_n 2, 1) rfl) rfl rfl (aw_aload_n (pc' := 1363) (dt_L_law_24 24 (1362, .aload_n 0, 1) rfl) rfl rfl (aw_iload_n (pc' := 1364) (dt_L_law_24 25 (1363, .iload_n 3, 1) rfl) rfl rfl (aw_iconst (pc' := 1365) (v := 1) (dt_L_law_24 26 (1364, .iconst 1, 1) rfl) (by decide) rfl (aw_iadd (pc' := 1366) (dt_L_law_24 27 (1365, .iadd, 1) rfl) rfl (aw_iald (pc' := 1367) (dt_L_law_24 28 (1366, .iaload, 1) rfl) rfl (sk_0 hS408) g410 (aw_callV0 (pc' := 1370) (nc := nc) (ns := ns) (y2 := mX11_hits) (As := [.int (zI μ407 0 (x3 + 1).toNatClampNeg)]) (rest := [.int r409]) (a := 31) (dt_L_law_24 29 (1367, .invokevirtual 151, 3) rfl) ok_X11_hits ln_ReturnDeskLaw_151 im_X11_hits se_X11_hits pr_X11_hits (Or.inl ⟨by decide, rfl⟩) rfl (Nat.le_of_ble_eq_true rfl) (Nat.le_of_ble_eq_true rfl) rfl (sk_31 hS408) h ?_))))))
      rintro v μ411 ⟨r413, rfl, hS412, h⟩
      refine aw_stk (st' := [.int r413, .int r409]) rfl ?_
      refine aw_icmp_eq (pc' := 1373) (tgt := 1543) (dt_L_law_24 30 (1370, .if_icmp .eq 173, 3) rfl) (by decide) rfl ?_ ?_
      · intro q414
        have h := h.1 q414
        refine aw_iinc (pc' := 1546) (v := 7) (ls' := [some (.ref 0), some (.ref 11), some (.ref 31), some (.int (x3 + 7))]) (dt_L_law_28 5 (1543, .iinc 3 7, 3) rfl) rfl (by decide) (by decide) rfl rfl (aw_goto (tgt := 18) (dt_L_law_28 6 (1546, .goto (-1528), 3) rfl) (by decide) ?_)
        exact h
      · intro q414
        have h := h.2 q414
        refine aw_iconst (pc' := 1374) (v := 0) (dt_L_law_24 31 (1373, .iconst 0, 1) rfl) (by decide) rfl (aw_iret (dt_L_law_24 32 (1374, .ireturn, 1) rfl) rfl rfl ?_)
        exact h
    by_cases q415 : ((zI μ 0 x3.toNatClampNeg) &&& 63) = 33
    · have h := h.2.2.2.2.2.2.2.2.2.2.2.2.2.2.2.2.2.2.2.2.2.2.2.2.2.2.2.2.2.2.2.2.2.1 q415
      refine aw_tableE (tgt := 1375) (off := 1342) (dt_L_law_0 21 (33, .tableswitch 1510 0 38 #[171, 214, 257, 290, 333, 356, 379, 442, 475, 508, 561, 584, 647, 670, 703, 746, 799, 874, 917, 950, 973, 996, 1019, 1052, 1085, 1108, 1131, 1174, 1217, 1250, 1283, 1296, 1319, 1342, 1375, 1398, 1431, 1454, 1487], 171) rfl) q415 (by decide) (by decide) (by decide) (by decide) ?_
      obtain ⟨g416, h⟩ := h
      obtain ⟨g417, h⟩ := h
      refine aw_aload_n (pc' := 1376) (dt_L_law_24 33 (1375, .aload_n 1, 1) rfl) rfl rfl (aw_aload_n (pc' := 1377) (dt_L_law_24 34 (1376, .aload_n 0, 1) rfl) rfl rfl (aw_iload_n (pc' := 1378) (dt_L_law_24 35 (1377, .iload_n 3, 1) rfl) rfl rfl (aw_iconst (pc' := 1379) (v := 1) (dt_L_law_24 36 (1378, .iconst 1, 1) rfl) (by decide) rfl (aw_iadd (pc' := 1380) (dt_L_law_24 37 (1379, .iadd, 1) rfl) rfl (aw_iald (pc' := 1381) (dt_L_law_24 38 (1380, .iaload, 1) rfl) rfl (sk_0 hS) g416 (aw_aload_n (pc' := 1382) (dt_L_law_24 39 (1381, .aload_n 0, 1) rfl) rfl rfl (aw_iload_n (pc' := 1383) (dt_L_law_25 0 (1382, .iload_n 3, 1) rfl) rfl rfl (aw_iconst (pc' := 1384) (v := 2) (dt_L_law_25 1 (1383, .iconst 2, 1) rfl) (by decide) rfl (aw_iadd (pc' := 1385) (dt_L_law_25 2 (1384, .iadd, 1) rfl) rfl (aw_iald (pc' := 1386) (dt_L_law_25 3 (1385, .iaload, 1) rfl) rfl (sk_0 hS) g417 (aw_callVB (nc1 := 4) (ns1 := 460) (pc' := 1389) (nc := nc) (ns := ns) (y2 := mX10_size) (As := [.int (zI μ 0 (x3 + 1).toNatClampNeg), .int (zI μ 0 (x3 + 2).toNatClampNeg)]) (rest := []) (a := 11) (dt_L_law_25 4 (1386, .invokevirtual 152, 3) rfl) ok_X10_size ln_ReturnDeskLaw_152 im_X10_size se_X10_size pr_X10_size (Or.inl ⟨by decide, rfl⟩) rfl (Nat.le_of_ble_eq_true rfl) (Nat.le_of_ble_eq_true rfl) rfl (sk_11 hS) h ?_)))))))))))
      rintro v μ418 ⟨r420, rfl, hS419, h⟩
      refine aw_stk (st' := [.int r420]) rfl ?_
      obtain ⟨g421, h⟩ := h
      obtain ⟨g422, h⟩ := h
      refine aw_aload_n (pc' := 1390) (dt_L_law_25 5 (1389, .aload_n 2, 1) rfl) rfl rfl (aw_aload_n (pc' := 1391) (dt_L_law_25 6 (1390, .aload_n 0, 1) rfl) rfl rfl (aw_iload_n (pc' := 1392) (dt_L_law_25 7 (1391, .iload_n 3, 1) rfl) rfl rfl (aw_iconst (pc' := 1393) (v := 1) (dt_L_law_25 8 (1392, .iconst 1, 1) rfl) (by decide) rfl (aw_iadd (pc' := 1394) (dt_L_law_25 9 (1393, .iadd, 1) rfl) rfl (aw_iald (pc' := 1395) (dt_L_law_25 10 (1394, .iaload, 1) rfl) rfl (sk_0 hS419) g421 (aw_aload_n (pc' := 1396) (dt_L_law_25 11 (1395, .aload_n 0, 1) rfl) rfl rfl (aw_iload_n (pc' := 1397) (dt_L_law_25 12 (1396, .iload_n 3, 1) rfl) rfl rfl (aw_iconst (pc' := 1398) (v := 2) (dt_L_law_25 13 (1397, .iconst 2, 1) rfl) (by decide) rfl (aw_iadd (pc' := 1399) (dt_L_law_25 14 (1398, .iadd, 1) rfl) rfl (aw_iald (pc' := 1400) (dt_L_law_25 15 (1399, .iaload, 1) rfl) rfl (sk_0 hS419) g422 (aw_callV0 (pc' := 1403) (nc := nc) (ns := ns) (y2 := mX11_size) (As := [.int (zI μ418 0 (x3 + 1).toNatClampNeg), .int (zI μ418 0 (x3 + 2).toNatClampNeg)]) (rest := [.int r420]) (a := 31) (dt_L_law_25 16 (1400, .invokevirtual 155, 3) rfl) ok_X11_size ln_ReturnDeskLaw_155 im_X11_size se_X11_size pr_X11_size (Or.inl ⟨by decide, rfl⟩) rfl (Nat.le_of_ble_eq_true rfl) (Nat.le_of_ble_eq_true rfl) rfl (sk_31 hS419) h ?_)))))))))))
      rintro v μ423 ⟨r425, rfl, hS424, h⟩
      refine aw_stk (st' := [.int r425, .int r420]) rfl ?_
      refine aw_icmp_eq (pc' := 1406) (tgt := 1543) (dt_L_law_25 17 (1403, .if_icmp .eq 140, 3) rfl) (by decide) rfl ?_ ?_
      · intro q426
        have h := h.1 q426
        refine aw_iinc (pc' := 1546) (v := 7) (ls' := [some (.ref 0), some (.ref 11), some (.ref 31), some (.int (x3 + 7))]) (dt_L_law_28 5 (1543, .iinc 3 7, 3) rfl) rfl (by decide) (by decide) rfl rfl (aw_goto (tgt := 18) (dt_L_law_28 6 (1546, .goto (-1528), 3) rfl) (by decide) ?_)
        exact h
      · intro q426
        have h := h.2 q426
        refine aw_iconst (pc' := 1407) (v := 0) (dt_L_law_25 18 (1406, .iconst 0, 1) rfl) (by decide) rfl (aw_iret (dt_L_law_25 19 (1407, .ireturn, 1) rfl) rfl rfl ?_)
        exact h
    by_cases q427 : ((zI μ 0 x3.toNatClampNeg) &&& 63) = 34
    · have h := h.2.2.2.2.2.2.2.2.2.2.2.2.2.2.2.2.2.2.2.2.2.2.2.2.2.2.2.2.2.2.2.2.2.2.1 q427
      refine aw_tableE (tgt := 1408) (off := 1375) (dt_L_law_0 21 (33, .tableswitch 1510 0 38 #[171, 214, 257, 290, 333, 356, 379, 442, 475, 508, 561, 584, 647, 670, 703, 746, 799, 874, 917, 950, 973, 996, 1019, 1052, 1085, 1108, 1131, 1174, 1217, 1250, 1283, 1296, 1319, 1342, 1375, 1398, 1431, 1454, 1487], 171) rfl) q427 (by decide) (by decide) (by decide) (by decide) ?_
      obtain ⟨g428, h⟩ := h
      refine aw_aload_n (pc' := 1409) (dt_L_law_25 20 (1408, .aload_n 1, 1) rfl) rfl rfl (aw_aload_n (pc' := 1410) (dt_L_law_25 21 (1409, .aload_n 0, 1) rfl) rfl rfl (aw_iload_n (pc' := 1411) (dt_L_law_25 22 (1410, .iload_n 3, 1) rfl) rfl rfl (aw_iconst (pc' := 1412) (v := 1) (dt_L_law_25 23 (1411, .iconst 1, 1) rfl) (by decide) rfl (aw_iadd (pc' := 1413) (dt_L_law_25 24 (1412, .iadd, 1) rfl) rfl (aw_iald (pc' := 1414) (dt_L_law_25 25 (1413, .iaload, 1) rfl) rfl (sk_0 hS) g428 (aw_callVB (nc1 := 4) (ns1 := 460) (pc' := 1417) (nc := nc) (ns := ns) (y2 := mX10_shift) (As := [.int (zI μ 0 (x3 + 1).toNatClampNeg)]) (rest := []) (a := 11) (dt_L_law_25 26 (1414, .invokevirtual 156, 3) rfl) ok_X10_shift ln_ReturnDeskLaw_156 im_X10_shift se_X10_shift pr_X10_shift (Or.inl ⟨by decide, rfl⟩) rfl (Nat.le_of_ble_eq_true rfl) (Nat.le_of_ble_eq_true rfl) rfl (sk_11 hS) h ?_))))))
      rintro v μ429 ⟨r431, rfl, hS430, h⟩
      refine aw_stk (st' := [.int r431]) rfl ?_
      obtain ⟨g432, h⟩ := h
      refine aw_aload_n (pc' := 1418) (dt_L_law_25 27 (1417, .aload_n 2, 1) rfl) rfl rfl (aw_aload_n (pc' := 1419) (dt_L_law_25 28 (1418, .aload_n 0, 1) rfl) rfl rfl (aw_iload_n (pc' := 1420) (dt_L_law_25 29 (1419, .iload_n 3, 1) rfl) rfl rfl (aw_iconst (pc' := 1421) (v := 1) (dt_L_law_25 30 (1420, .iconst 1, 1) rfl) (by decide) rfl (aw_iadd (pc' := 1422) (dt_L_law_25 31 (1421, .iadd, 1) rfl) rfl (aw_iald (pc' := 1423) (dt_L_law_25 32 (1422, .iaload, 1) rfl) rfl (sk_0 hS430) g432 (aw_callV0 (pc' := 1426) (nc := nc) (ns := ns) (y2 := mX11_shift) (As := [.int (zI μ429 0 (x3 + 1).toNatClampNeg)]) (rest := [.int r431]) (a := 31) (dt_L_law_25 33 (1423, .invokevirtual 159, 3) rfl) ok_X11_shift ln_ReturnDeskLaw_159 im_X11_shift se_X11_shift pr_X11_shift (Or.inl ⟨by decide, rfl⟩) rfl (Nat.le_of_ble_eq_true rfl) (Nat.le_of_ble_eq_true rfl) rfl (sk_31 hS430) h ?_))))))
      rintro v μ433 ⟨r435, rfl, hS434, h⟩
      refine aw_stk (st' := [.int r435, .int r431]) rfl ?_
      refine aw_icmp_eq (pc' := 1429) (tgt := 1543) (dt_L_law_25 34 (1426, .if_icmp .eq 117, 3) rfl) (by decide) rfl ?_ ?_
      · intro q436
        have h := h.1 q436
        refine aw_iinc (pc' := 1546) (v := 7) (ls' := [some (.ref 0), some (.ref 11), some (.ref 31), some (.int (x3 + 7))]) (dt_L_law_28 5 (1543, .iinc 3 7, 3) rfl) rfl (by decide) (by decide) rfl rfl (aw_goto (tgt := 18) (dt_L_law_28 6 (1546, .goto (-1528), 3) rfl) (by decide) ?_)
        exact h
      · intro q436
        have h := h.2 q436
        refine aw_iconst (pc' := 1430) (v := 0) (dt_L_law_25 35 (1429, .iconst 0, 1) rfl) (by decide) rfl (aw_iret (dt_L_law_25 36 (1430, .ireturn, 1) rfl) rfl rfl ?_)
        exact h
    by_cases q437 : ((zI μ 0 x3.toNatClampNeg) &&& 63) = 35
    · have h := h.2.2.2.2.2.2.2.2.2.2.2.2.2.2.2.2.2.2.2.2.2.2.2.2.2.2.2.2.2.2.2.2.2.2.2.1 q437
      refine aw_tableE (tgt := 1431) (off := 1398) (dt_L_law_0 21 (33, .tableswitch 1510 0 38 #[171, 214, 257, 290, 333, 356, 379, 442, 475, 508, 561, 584, 647, 670, 703, 746, 799, 874, 917, 950, 973, 996, 1019, 1052, 1085, 1108, 1131, 1174, 1217, 1250, 1283, 1296, 1319, 1342, 1375, 1398, 1431, 1454, 1487], 171) rfl) q437 (by decide) (by decide) (by decide) (by decide) ?_
      obtain ⟨g438, h⟩ := h
      obtain ⟨g439, h⟩ := h
      refine aw_aload_n (pc' := 1432) (dt_L_law_25 37 (1431, .aload_n 1, 1) rfl) rfl rfl (aw_aload_n (pc' := 1433) (dt_L_law_25 38 (1432, .aload_n 0, 1) rfl) rfl rfl (aw_iload_n (pc' := 1434) (dt_L_law_25 39 (1433, .iload_n 3, 1) rfl) rfl rfl (aw_iconst (pc' := 1435) (v := 1) (dt_L_law_26 0 (1434, .iconst 1, 1) rfl) (by decide) rfl (aw_iadd (pc' := 1436) (dt_L_law_26 1 (1435, .iadd, 1) rfl) rfl (aw_iald (pc' := 1437) (dt_L_law_26 2 (1436, .iaload, 1) rfl) rfl (sk_0 hS) g438 (aw_aload_n (pc' := 1438) (dt_L_law_26 3 (1437, .aload_n 0, 1) rfl) rfl rfl (aw_iload_n (pc' := 1439) (dt_L_law_26 4 (1438, .iload_n 3, 1) rfl) rfl rfl (aw_iconst (pc' := 1440) (v := 2) (dt_L_law_26 5 (1439, .iconst 2, 1) rfl) (by decide) rfl (aw_iadd (pc' := 1441) (dt_L_law_26 6 (1440, .iadd, 1) rfl) rfl (aw_iald (pc' := 1442) (dt_L_law_26 7 (1441, .iaload, 1) rfl) rfl (sk_0 hS) g439 (aw_callVB (nc1 := 4) (ns1 := 460) (pc' := 1445) (nc := nc) (ns := ns) (y2 := mX10_brought) (As := [.int (zI μ 0 (x3 + 1).toNatClampNeg), .int (zI μ 0 (x3 + 2).toNatClampNeg)]) (rest := []) (a := 11) (dt_L_law_26 8 (1442, .invokevirtual 160, 3) rfl) ok_X10_brought ln_ReturnDeskLaw_160 im_X10_brought se_X10_brought pr_X10_brought (Or.inl ⟨by decide, rfl⟩) rfl (Nat.le_of_ble_eq_true rfl) (Nat.le_of_ble_eq_true rfl) rfl (sk_11 hS) h ?_)))))))))))
      rintro v μ440 ⟨r442, rfl, hS441, h⟩
      refine aw_stk (st' := [.int r442]) rfl ?_
      obtain ⟨g443, h⟩ := h
      obtain ⟨g444, h⟩ := h
      refine aw_aload_n (pc' := 1446) (dt_L_law_26 9 (1445, .aload_n 2, 1) rfl) rfl rfl (aw_aload_n (pc' := 1447) (dt_L_law_26 10 (1446, .aload_n 0, 1) rfl) rfl rfl (aw_iload_n (pc' := 1448) (dt_L_law_26 11 (1447, .iload_n 3, 1) rfl) rfl rfl (aw_iconst (pc' := 1449) (v := 1) (dt_L_law_26 12 (1448, .iconst 1, 1) rfl) (by decide) rfl (aw_iadd (pc' := 1450) (dt_L_law_26 13 (1449, .iadd, 1) rfl) rfl (aw_iald (pc' := 1451) (dt_L_law_26 14 (1450, .iaload, 1) rfl) rfl (sk_0 hS441) g443 (aw_aload_n (pc' := 1452) (dt_L_law_26 15 (1451, .aload_n 0, 1) rfl) rfl rfl (aw_iload_n (pc' := 1453) (dt_L_law_26 16 (1452, .iload_n 3, 1) rfl) rfl rfl (aw_iconst (pc' := 1454) (v := 2) (dt_L_law_26 17 (1453, .iconst 2, 1) rfl) (by decide) rfl (aw_iadd (pc' := 1455) (dt_L_law_26 18 (1454, .iadd, 1) rfl) rfl (aw_iald (pc' := 1456) (dt_L_law_26 19 (1455, .iaload, 1) rfl) rfl (sk_0 hS441) g444 (aw_callV0 (pc' := 1459) (nc := nc) (ns := ns) (y2 := mX11_brought) (As := [.int (zI μ440 0 (x3 + 1).toNatClampNeg), .int (zI μ440 0 (x3 + 2).toNatClampNeg)]) (rest := [.int r442]) (a := 31) (dt_L_law_26 20 (1456, .invokevirtual 163, 3) rfl) ok_X11_brought ln_ReturnDeskLaw_163 im_X11_brought se_X11_brought pr_X11_brought (Or.inl ⟨by decide, rfl⟩) rfl (Nat.le_of_ble_eq_true rfl) (Nat.le_of_ble_eq_true rfl) rfl (sk_31 hS441) h ?_)))))))))))
      rintro v μ445 ⟨r447, rfl, hS446, h⟩
      refine aw_stk (st' := [.int r447, .int r442]) rfl ?_
      refine aw_icmp_eq (pc' := 1462) (tgt := 1543) (dt_L_law_26 21 (1459, .if_icmp .eq 84, 3) rfl) (by decide) rfl ?_ ?_
      · intro q448
        have h := h.1 q448
        refine aw_iinc (pc' := 1546) (v := 7) (ls' := [some (.ref 0), some (.ref 11), some (.ref 31), some (.int (x3 + 7))]) (dt_L_law_28 5 (1543, .iinc 3 7, 3) rfl) rfl (by decide) (by decide) rfl rfl (aw_goto (tgt := 18) (dt_L_law_28 6 (1546, .goto (-1528), 3) rfl) (by decide) ?_)
        exact h
      · intro q448
        have h := h.2 q448
        refine aw_iconst (pc' := 1463) (v := 0) (dt_L_law_26 22 (1462, .iconst 0, 1) rfl) (by decide) rfl (aw_iret (dt_L_law_26 23 (1463, .ireturn, 1) rfl) rfl rfl ?_)
        exact h
    by_cases q449 : ((zI μ 0 x3.toNatClampNeg) &&& 63) = 36
    · have h := h.2.2.2.2.2.2.2.2.2.2.2.2.2.2.2.2.2.2.2.2.2.2.2.2.2.2.2.2.2.2.2.2.2.2.2.2.1 q449
      refine aw_tableE (tgt := 1464) (off := 1431) (dt_L_law_0 21 (33, .tableswitch 1510 0 38 #[171, 214, 257, 290, 333, 356, 379, 442, 475, 508, 561, 584, 647, 670, 703, 746, 799, 874, 917, 950, 973, 996, 1019, 1052, 1085, 1108, 1131, 1174, 1217, 1250, 1283, 1296, 1319, 1342, 1375, 1398, 1431, 1454, 1487], 171) rfl) q449 (by decide) (by decide) (by decide) (by decide) ?_
      obtain ⟨g450, h⟩ := h
      refine aw_aload_n (pc' := 1465) (dt_L_law_26 24 (1464, .aload_n 1, 1) rfl) rfl rfl (aw_aload_n (pc' := 1466) (dt_L_law_26 25 (1465, .aload_n 0, 1) rfl) rfl rfl (aw_iload_n (pc' := 1467) (dt_L_law_26 26 (1466, .iload_n 3, 1) rfl) rfl rfl (aw_iconst (pc' := 1468) (v := 1) (dt_L_law_26 27 (1467, .iconst 1, 1) rfl) (by decide) rfl (aw_iadd (pc' := 1469) (dt_L_law_26 28 (1468, .iadd, 1) rfl) rfl (aw_iald (pc' := 1470) (dt_L_law_26 29 (1469, .iaload, 1) rfl) rfl (sk_0 hS) g450 (aw_callVB (nc1 := 4) (ns1 := 460) (pc' := 1473) (nc := nc) (ns := ns) (y2 := mX10_damage) (As := [.int (zI μ 0 (x3 + 1).toNatClampNeg)]) (rest := []) (a := 11) (dt_L_law_26 30 (1470, .invokevirtual 164, 3) rfl) ok_X10_damage ln_ReturnDeskLaw_164 im_X10_damage se_X10_damage pr_X10_damage (Or.inl ⟨by decide, rfl⟩) rfl (Nat.le_of_ble_eq_true rfl) (Nat.le_of_ble_eq_true rfl) rfl (sk_11 hS) h ?_))))))
      rintro v μ451 ⟨r453, rfl, hS452, h⟩
      refine aw_stk (st' := [.int r453]) rfl ?_
      obtain ⟨g454, h⟩ := h
      refine aw_aload_n (pc' := 1474) (dt_L_law_26 31 (1473, .aload_n 2, 1) rfl) rfl rfl (aw_aload_n (pc' := 1475) (dt_L_law_26 32 (1474, .aload_n 0, 1) rfl) rfl rfl (aw_iload_n (pc' := 1476) (dt_L_law_26 33 (1475, .iload_n 3, 1) rfl) rfl rfl (aw_iconst (pc' := 1477) (v := 1) (dt_L_law_26 34 (1476, .iconst 1, 1) rfl) (by decide) rfl (aw_iadd (pc' := 1478) (dt_L_law_26 35 (1477, .iadd, 1) rfl) rfl (aw_iald (pc' := 1479) (dt_L_law_26 36 (1478, .iaload, 1) rfl) rfl (sk_0 hS452) g454 (aw_callV0 (pc' := 1482) (nc := nc) (ns := ns) (y2 := mX11_damage) (As := [.int (zI μ451 0 (x3 + 1).toNatClampNeg)]) (rest := [.int r453]) (a := 31) (dt_L_law_26 37 (1479, .invokevirtual 167, 3) rfl) ok_X11_damage ln_ReturnDeskLaw_167 im_X11_damage se_X11_damage pr_X11_damage (Or.inl ⟨by decide, rfl⟩) rfl (Nat.le_of_ble_eq_true rfl) (Nat.le_of_ble_eq_true rfl) rfl (sk_31 hS452) h ?_))))))
      rintro v μ455 ⟨r457, rfl, hS456, h⟩
      refine aw_stk (st' := [.int r457, .int r453]) rfl ?_
      refine aw_icmp_eq (pc' := 1485) (tgt := 1543) (dt_L_law_26 38 (1482, .if_icmp .eq 61, 3) rfl) (by decide) rfl ?_ ?_
      · intro q458
        have h := h.1 q458
        refine aw_iinc (pc' := 1546) (v := 7) (ls' := [some (.ref 0), some (.ref 11), some (.ref 31), some (.int (x3 + 7))]) (dt_L_law_28 5 (1543, .iinc 3 7, 3) rfl) rfl (by decide) (by decide) rfl rfl (aw_goto (tgt := 18) (dt_L_law_28 6 (1546, .goto (-1528), 3) rfl) (by decide) ?_)
        exact h
      · intro q458
        have h := h.2 q458
        refine aw_iconst (pc' := 1486) (v := 0) (dt_L_law_26 39 (1485, .iconst 0, 1) rfl) (by decide) rfl (aw_iret (dt_L_law_27 0 (1486, .ireturn, 1) rfl) rfl rfl ?_)
        exact h
    by_cases q459 : ((zI μ 0 x3.toNatClampNeg) &&& 63) = 37
    · have h := h.2.2.2.2.2.2.2.2.2.2.2.2.2.2.2.2.2.2.2.2.2.2.2.2.2.2.2.2.2.2.2.2.2.2.2.2.2.1 q459
      refine aw_tableE (tgt := 1487) (off := 1454) (dt_L_law_0 21 (33, .tableswitch 1510 0 38 #[171, 214, 257, 290, 333, 356, 379, 442, 475, 508, 561, 584, 647, 670, 703, 746, 799, 874, 917, 950, 973, 996, 1019, 1052, 1085, 1108, 1131, 1174, 1217, 1250, 1283, 1296, 1319, 1342, 1375, 1398, 1431, 1454, 1487], 171) rfl) q459 (by decide) (by decide) (by decide) (by decide) ?_
      obtain ⟨g460, h⟩ := h
      obtain ⟨g461, h⟩ := h
      refine aw_aload_n (pc' := 1488) (dt_L_law_27 1 (1487, .aload_n 1, 1) rfl) rfl rfl (aw_aload_n (pc' := 1489) (dt_L_law_27 2 (1488, .aload_n 0, 1) rfl) rfl rfl (aw_iload_n (pc' := 1490) (dt_L_law_27 3 (1489, .iload_n 3, 1) rfl) rfl rfl (aw_iconst (pc' := 1491) (v := 1) (dt_L_law_27 4 (1490, .iconst 1, 1) rfl) (by decide) rfl (aw_iadd (pc' := 1492) (dt_L_law_27 5 (1491, .iadd, 1) rfl) rfl (aw_iald (pc' := 1493) (dt_L_law_27 6 (1492, .iaload, 1) rfl) rfl (sk_0 hS) g460 (aw_aload_n (pc' := 1494) (dt_L_law_27 7 (1493, .aload_n 0, 1) rfl) rfl rfl (aw_iload_n (pc' := 1495) (dt_L_law_27 8 (1494, .iload_n 3, 1) rfl) rfl rfl (aw_iconst (pc' := 1496) (v := 2) (dt_L_law_27 9 (1495, .iconst 2, 1) rfl) (by decide) rfl (aw_iadd (pc' := 1497) (dt_L_law_27 10 (1496, .iadd, 1) rfl) rfl (aw_iald (pc' := 1498) (dt_L_law_27 11 (1497, .iaload, 1) rfl) rfl (sk_0 hS) g461 (aw_callVB (nc1 := 4) (ns1 := 460) (pc' := 1501) (nc := nc) (ns := ns) (y2 := mX10_carrier) (As := [.int (zI μ 0 (x3 + 1).toNatClampNeg), .int (zI μ 0 (x3 + 2).toNatClampNeg)]) (rest := []) (a := 11) (dt_L_law_27 12 (1498, .invokevirtual 168, 3) rfl) ok_X10_carrier ln_ReturnDeskLaw_168 im_X10_carrier se_X10_carrier pr_X10_carrier (Or.inl ⟨by decide, rfl⟩) rfl (Nat.le_of_ble_eq_true rfl) (Nat.le_of_ble_eq_true rfl) rfl (sk_11 hS) h ?_)))))))))))
      rintro v μ462 ⟨r464, rfl, hS463, h⟩
      refine aw_stk (st' := [.int r464]) rfl ?_
      obtain ⟨g465, h⟩ := h
      obtain ⟨g466, h⟩ := h
      refine aw_aload_n (pc' := 1502) (dt_L_law_27 13 (1501, .aload_n 2, 1) rfl) rfl rfl (aw_aload_n (pc' := 1503) (dt_L_law_27 14 (1502, .aload_n 0, 1) rfl) rfl rfl (aw_iload_n (pc' := 1504) (dt_L_law_27 15 (1503, .iload_n 3, 1) rfl) rfl rfl (aw_iconst (pc' := 1505) (v := 1) (dt_L_law_27 16 (1504, .iconst 1, 1) rfl) (by decide) rfl (aw_iadd (pc' := 1506) (dt_L_law_27 17 (1505, .iadd, 1) rfl) rfl (aw_iald (pc' := 1507) (dt_L_law_27 18 (1506, .iaload, 1) rfl) rfl (sk_0 hS463) g465 (aw_aload_n (pc' := 1508) (dt_L_law_27 19 (1507, .aload_n 0, 1) rfl) rfl rfl (aw_iload_n (pc' := 1509) (dt_L_law_27 20 (1508, .iload_n 3, 1) rfl) rfl rfl (aw_iconst (pc' := 1510) (v := 2) (dt_L_law_27 21 (1509, .iconst 2, 1) rfl) (by decide) rfl (aw_iadd (pc' := 1511) (dt_L_law_27 22 (1510, .iadd, 1) rfl) rfl (aw_iald (pc' := 1512) (dt_L_law_27 23 (1511, .iaload, 1) rfl) rfl (sk_0 hS463) g466 (aw_callV0 (pc' := 1515) (nc := nc) (ns := ns) (y2 := mX11_carrier) (As := [.int (zI μ462 0 (x3 + 1).toNatClampNeg), .int (zI μ462 0 (x3 + 2).toNatClampNeg)]) (rest := [.int r464]) (a := 31) (dt_L_law_27 24 (1512, .invokevirtual 171, 3) rfl) ok_X11_carrier ln_ReturnDeskLaw_171 im_X11_carrier se_X11_carrier pr_X11_carrier (Or.inl ⟨by decide, rfl⟩) rfl (Nat.le_of_ble_eq_true rfl) (Nat.le_of_ble_eq_true rfl) rfl (sk_31 hS463) h ?_)))))))))))
      rintro v μ467 ⟨r469, rfl, hS468, h⟩
      refine aw_stk (st' := [.int r469, .int r464]) rfl ?_
      refine aw_icmp_eq (pc' := 1518) (tgt := 1543) (dt_L_law_27 25 (1515, .if_icmp .eq 28, 3) rfl) (by decide) rfl ?_ ?_
      · intro q470
        have h := h.1 q470
        refine aw_iinc (pc' := 1546) (v := 7) (ls' := [some (.ref 0), some (.ref 11), some (.ref 31), some (.int (x3 + 7))]) (dt_L_law_28 5 (1543, .iinc 3 7, 3) rfl) rfl (by decide) (by decide) rfl rfl (aw_goto (tgt := 18) (dt_L_law_28 6 (1546, .goto (-1528), 3) rfl) (by decide) ?_)
        exact h
      · intro q470
        have h := h.2 q470
        refine aw_iconst (pc' := 1519) (v := 0) (dt_L_law_27 26 (1518, .iconst 0, 1) rfl) (by decide) rfl (aw_iret (dt_L_law_27 27 (1519, .ireturn, 1) rfl) rfl rfl ?_)
        exact h
    by_cases q471 : ((zI μ 0 x3.toNatClampNeg) &&& 63) = 38
    · have h := h.2.2.2.2.2.2.2.2.2.2.2.2.2.2.2.2.2.2.2.2.2.2.2.2.2.2.2.2.2.2.2.2.2.2.2.2.2.2.1 q471
      refine aw_tableE (tgt := 1520) (off := 1487) (dt_L_law_0 21 (33, .tableswitch 1510 0 38 #[171, 214, 257, 290, 333, 356, 379, 442, 475, 508, 561, 584, 647, 670, 703, 746, 799, 874, 917, 950, 973, 996, 1019, 1052, 1085, 1108, 1131, 1174, 1217, 1250, 1283, 1296, 1319, 1342, 1375, 1398, 1431, 1454, 1487], 171) rfl) q471 (by decide) (by decide) (by decide) (by decide) ?_
      obtain ⟨g472, h⟩ := h
      refine aw_aload_n (pc' := 1521) (dt_L_law_27 28 (1520, .aload_n 1, 1) rfl) rfl rfl (aw_aload_n (pc' := 1522) (dt_L_law_27 29 (1521, .aload_n 0, 1) rfl) rfl rfl (aw_iload_n (pc' := 1523) (dt_L_law_27 30 (1522, .iload_n 3, 1) rfl) rfl rfl (aw_iconst (pc' := 1524) (v := 1) (dt_L_law_27 31 (1523, .iconst 1, 1) rfl) (by decide) rfl (aw_iadd (pc' := 1525) (dt_L_law_27 32 (1524, .iadd, 1) rfl) rfl (aw_iald (pc' := 1526) (dt_L_law_27 33 (1525, .iaload, 1) rfl) rfl (sk_0 hS) g472 (aw_callVB (nc1 := 4) (ns1 := 460) (pc' := 1529) (nc := nc) (ns := ns) (y2 := mX10_count) (As := [.int (zI μ 0 (x3 + 1).toNatClampNeg)]) (rest := []) (a := 11) (dt_L_law_27 34 (1526, .invokevirtual 172, 3) rfl) ok_X10_count ln_ReturnDeskLaw_172 im_X10_count se_X10_count pr_X10_count (Or.inl ⟨by decide, rfl⟩) rfl (Nat.le_of_ble_eq_true rfl) (Nat.le_of_ble_eq_true rfl) rfl (sk_11 hS) h ?_))))))
      rintro v μ473 ⟨r475, rfl, hS474, h⟩
      refine aw_stk (st' := [.int r475]) rfl ?_
      obtain ⟨g476, h⟩ := h
      refine aw_aload_n (pc' := 1530) (dt_L_law_27 35 (1529, .aload_n 2, 1) rfl) rfl rfl (aw_aload_n (pc' := 1531) (dt_L_law_27 36 (1530, .aload_n 0, 1) rfl) rfl rfl (aw_iload_n (pc' := 1532) (dt_L_law_27 37 (1531, .iload_n 3, 1) rfl) rfl rfl (aw_iconst (pc' := 1533) (v := 1) (dt_L_law_27 38 (1532, .iconst 1, 1) rfl) (by decide) rfl (aw_iadd (pc' := 1534) (dt_L_law_27 39 (1533, .iadd, 1) rfl) rfl (aw_iald (pc' := 1535) (dt_L_law_28 0 (1534, .iaload, 1) rfl) rfl (sk_0 hS474) g476 (aw_callV0 (pc' := 1538) (nc := nc) (ns := ns) (y2 := mX11_count) (As := [.int (zI μ473 0 (x3 + 1).toNatClampNeg)]) (rest := [.int r475]) (a := 31) (dt_L_law_28 1 (1535, .invokevirtual 175, 3) rfl) ok_X11_count ln_ReturnDeskLaw_175 im_X11_count se_X11_count pr_X11_count (Or.inl ⟨by decide, rfl⟩) rfl (Nat.le_of_ble_eq_true rfl) (Nat.le_of_ble_eq_true rfl) rfl (sk_31 hS474) h ?_))))))
      rintro v μ477 ⟨r479, rfl, hS478, h⟩
      refine aw_stk (st' := [.int r479, .int r475]) rfl ?_
      refine aw_icmp_eq (pc' := 1541) (tgt := 1543) (dt_L_law_28 2 (1538, .if_icmp .eq 5, 3) rfl) (by decide) rfl ?_ ?_
      · intro q480
        have h := h.1 q480
        refine aw_iinc (pc' := 1546) (v := 7) (ls' := [some (.ref 0), some (.ref 11), some (.ref 31), some (.int (x3 + 7))]) (dt_L_law_28 5 (1543, .iinc 3 7, 3) rfl) rfl (by decide) (by decide) rfl rfl (aw_goto (tgt := 18) (dt_L_law_28 6 (1546, .goto (-1528), 3) rfl) (by decide) ?_)
        exact h
      · intro q480
        have h := h.2 q480
        refine aw_iconst (pc' := 1542) (v := 0) (dt_L_law_28 3 (1541, .iconst 0, 1) rfl) (by decide) rfl (aw_iret (dt_L_law_28 4 (1542, .ireturn, 1) rfl) rfl rfl ?_)
        exact h
    have h := h.2.2.2.2.2.2.2.2.2.2.2.2.2.2.2.2.2.2.2.2.2.2.2.2.2.2.2.2.2.2.2.2.2.2.2.2.2.2.2 ⟨q3, q17, q31, q43, q57, q67, q77, q95, q107, q119, q135, q145, q163, q173, q185, q199, q215, q235, q249, q261, q271, q281, q291, q303, q315, q325, q335, q349, q363, q375, q387, q395, q405, q415, q427, q437, q449, q459, q471⟩
    refine aw_tableOut (tgt := 1543) (dt_L_law_0 21 (33, .tableswitch 1510 0 38 #[171, 214, 257, 290, 333, 356, 379, 442, 475, 508, 561, 584, 647, 670, 703, 746, 799, 874, 917, 950, 973, 996, 1019, 1052, 1085, 1108, 1131, 1174, 1217, 1250, 1283, 1296, 1319, 1342, 1375, 1398, 1431, 1454, 1487], 171) rfl) (tab_out (lo := 0) (n := 39) (by decide) (by decide) (by decide) (by
        intro k hk
        match k, hk with
        | 0, _ => exact q3
        | 1, _ => exact q17
        | 2, _ => exact q31
        | 3, _ => exact q43
        | 4, _ => exact q57
        | 5, _ => exact q67
        | 6, _ => exact q77
        | 7, _ => exact q95
        | 8, _ => exact q107
        | 9, _ => exact q119
        | 10, _ => exact q135
        | 11, _ => exact q145
        | 12, _ => exact q163
        | 13, _ => exact q173
        | 14, _ => exact q185
        | 15, _ => exact q199
        | 16, _ => exact q215
        | 17, _ => exact q235
        | 18, _ => exact q249
        | 19, _ => exact q261
        | 20, _ => exact q271
        | 21, _ => exact q281
        | 22, _ => exact q291
        | 23, _ => exact q303
        | 24, _ => exact q315
        | 25, _ => exact q325
        | 26, _ => exact q335
        | 27, _ => exact q349
        | 28, _ => exact q363
        | 29, _ => exact q375
        | 30, _ => exact q387
        | 31, _ => exact q395
        | 32, _ => exact q405
        | 33, _ => exact q415
        | 34, _ => exact q427
        | 35, _ => exact q437
        | 36, _ => exact q449
        | 37, _ => exact q459
        | 38, _ => exact q471
        | k + 39, hk => omega)) (by decide) ?_
    refine aw_iinc (pc' := 1546) (v := 7) (ls' := [some (.ref 0), some (.ref 11), some (.ref 31), some (.int (x3 + 7))]) (dt_L_law_28 5 (1543, .iinc 3 7, 3) rfl) rfl (by decide) (by decide) rfl rfl (aw_goto (tgt := 18) (dt_L_law_28 6 (1546, .goto (-1528), 3) rfl) (by decide) ?_)
    exact h
