theorem ok_X10_model : zMok mX10_model := ⟨by decide +kernel, (mt_1 (List.mem_of_getElem? (i := 227) (by decide +kernel))), (mt_1 (List.mem_of_getElem? (i := 1) (by decide +kernel))), by decide +kernel, by decide +kernel, by decide +kernel⟩
theorem ln_ReturnDeskLaw_13 : Cond.methodLink "ReturnDeskLaw" 13 mX10_model.1 ∈ tables_1 := (mt_1 (List.mem_of_getElem? (i := 224) (by decide +kernel)))
theorem im_X10_model : Cond.instanceMethod mX10_model.1 ∈ tables_1 := (mt_1 (List.mem_of_getElem? (i := 225) (by decide +kernel)))
theorem se_X10_model : Cond.selects mX10_model.1.cls mX10_model.1 mX10_model.1 ∈ lw_tbl := List.mem_append_right _ (mt_1 (List.mem_of_getElem? (i := 226) (by decide +kernel)))
theorem pr_X10_model : (parseMethodDescriptor mX10_model.1.desc).map (fun d => d.parameters.length) = some 3 := by decide +kernel
theorem ok_X11_model : zMok mX11_model := ⟨by decide +kernel, (mt_6 (List.mem_of_getElem? (i := 225) (by decide +kernel))), (mt_1 (List.mem_of_getElem? (i := 7) (by decide +kernel))), by decide +kernel, by decide +kernel, by decide +kernel⟩
theorem ln_ReturnDeskLaw_17 : Cond.methodLink "ReturnDeskLaw" 17 mX11_model.1 ∈ tables_1 := (mt_6 (List.mem_of_getElem? (i := 222) (by decide +kernel)))
theorem im_X11_model : Cond.instanceMethod mX11_model.1 ∈ tables_1 := (mt_6 (List.mem_of_getElem? (i := 223) (by decide +kernel)))
theorem se_X11_model : Cond.selects mX11_model.1.cls mX11_model.1 mX11_model.1 ∈ lw_tbl := List.mem_append_right _ (mt_6 (List.mem_of_getElem? (i := 224) (by decide +kernel)))
theorem pr_X11_model : (parseMethodDescriptor mX11_model.1.desc).map (fun d => d.parameters.length) = some 3 := by decide +kernel
theorem ok_X10_price : zMok mX10_price := ⟨by decide +kernel, (mt_2 (List.mem_of_getElem? (i := 49) (by decide +kernel))), (mt_1 (List.mem_of_getElem? (i := 1) (by decide +kernel))), by decide +kernel, by decide +kernel, by decide +kernel⟩
theorem ln_ReturnDeskLaw_18 : Cond.methodLink "ReturnDeskLaw" 18 mX10_price.1 ∈ tables_1 := (mt_2 (List.mem_of_getElem? (i := 46) (by decide +kernel)))
theorem im_X10_price : Cond.instanceMethod mX10_price.1 ∈ tables_1 := (mt_2 (List.mem_of_getElem? (i := 47) (by decide +kernel)))
theorem se_X10_price : Cond.selects mX10_price.1.cls mX10_price.1 mX10_price.1 ∈ lw_tbl := List.mem_append_right _ (mt_2 (List.mem_of_getElem? (i := 48) (by decide +kernel)))
theorem pr_X10_price : (parseMethodDescriptor mX10_price.1.desc).map (fun d => d.parameters.length) = some 3 := by decide +kernel
theorem ok_X11_price : zMok mX11_price := ⟨by decide +kernel, (mt_6 (List.mem_of_getElem? (i := 233) (by decide +kernel))), (mt_1 (List.mem_of_getElem? (i := 7) (by decide +kernel))), by decide +kernel, by decide +kernel, by decide +kernel⟩
theorem ln_ReturnDeskLaw_21 : Cond.methodLink "ReturnDeskLaw" 21 mX11_price.1 ∈ tables_1 := (mt_6 (List.mem_of_getElem? (i := 230) (by decide +kernel)))
theorem im_X11_price : Cond.instanceMethod mX11_price.1 ∈ tables_1 := (mt_6 (List.mem_of_getElem? (i := 231) (by decide +kernel)))
theorem se_X11_price : Cond.selects mX11_price.1.cls mX11_price.1 mX11_price.1 ∈ lw_tbl := List.mem_append_right _ (mt_6 (List.mem_of_getElem? (i := 232) (by decide +kernel)))
theorem pr_X11_price : (parseMethodDescriptor mX11_price.1.desc).map (fun d => d.parameters.length) = some 3 := by decide +kernel
theorem ok_X10_priceOn : zMok mX10_priceOn := ⟨by decide +kernel, (mt_2 (List.mem_of_getElem? (i := 64) (by decide +kernel))), (mt_1 (List.mem_of_getElem? (i := 1) (by decide +kernel))), by decide +kernel, by decide +kernel, by decide +kernel⟩
theorem ln_ReturnDeskLaw_22 : Cond.methodLink "ReturnDeskLaw" 22 mX10_priceOn.1 ∈ tables_1 := (mt_2 (List.mem_of_getElem? (i := 61) (by decide +kernel)))
theorem im_X10_priceOn : Cond.instanceMethod mX10_priceOn.1 ∈ tables_1 := (mt_2 (List.mem_of_getElem? (i := 62) (by decide +kernel)))
theorem se_X10_priceOn : Cond.selects mX10_priceOn.1.cls mX10_priceOn.1 mX10_priceOn.1 ∈ lw_tbl := List.mem_append_right _ (mt_2 (List.mem_of_getElem? (i := 63) (by decide +kernel)))
theorem pr_X10_priceOn : (parseMethodDescriptor mX10_priceOn.1.desc).map (fun d => d.parameters.length) = some 2 := by decide +kernel
theorem ok_X11_priceOn : zMok mX11_priceOn := ⟨by decide +kernel, (mt_7 (List.mem_of_getElem? (i := 4) (by decide +kernel))), (mt_1 (List.mem_of_getElem? (i := 7) (by decide +kernel))), by decide +kernel, by decide +kernel, by decide +kernel⟩
theorem ln_ReturnDeskLaw_26 : Cond.methodLink "ReturnDeskLaw" 26 mX11_priceOn.1 ∈ tables_1 := (mt_7 (List.mem_of_getElem? (i := 1) (by decide +kernel)))
theorem im_X11_priceOn : Cond.instanceMethod mX11_priceOn.1 ∈ tables_1 := (mt_7 (List.mem_of_getElem? (i := 2) (by decide +kernel)))
theorem se_X11_priceOn : Cond.selects mX11_priceOn.1.cls mX11_priceOn.1 mX11_priceOn.1 ∈ lw_tbl := List.mem_append_right _ (mt_7 (List.mem_of_getElem? (i := 3) (by decide +kernel)))
theorem pr_X11_priceOn : (parseMethodDescriptor mX11_priceOn.1.desc).map (fun d => d.parameters.length) = some 2 := by decide +kernel
theorem ok_X10_lot : zMok mX10_lot := ⟨by decide +kernel, (mt_2 (List.mem_of_getElem? (i := 72) (by decide +kernel))), (mt_1 (List.mem_of_getElem? (i := 1) (by decide +kernel))), by decide +kernel, by decide +kernel, by decide +kernel⟩
theorem ln_ReturnDeskLaw_27 : Cond.methodLink "ReturnDeskLaw" 27 mX10_lot.1 ∈ tables_1 := (mt_2 (List.mem_of_getElem? (i := 69) (by decide +kernel)))
theorem im_X10_lot : Cond.instanceMethod mX10_lot.1 ∈ tables_1 := (mt_2 (List.mem_of_getElem? (i := 70) (by decide +kernel)))
theorem se_X10_lot : Cond.selects mX10_lot.1.cls mX10_lot.1 mX10_lot.1 ∈ lw_tbl := List.mem_append_right _ (mt_2 (List.mem_of_getElem? (i := 71) (by decide +kernel)))
theorem pr_X10_lot : (parseMethodDescriptor mX10_lot.1.desc).map (fun d => d.parameters.length) = some 3 := by decide +kernel
theorem ok_X11_lot : zMok mX11_lot := ⟨by decide +kernel, (mt_7 (List.mem_of_getElem? (i := 12) (by decide +kernel))), (mt_1 (List.mem_of_getElem? (i := 7) (by decide +kernel))), by decide +kernel, by decide +kernel, by decide +kernel⟩
theorem ln_ReturnDeskLaw_30 : Cond.methodLink "ReturnDeskLaw" 30 mX11_lot.1 ∈ tables_1 := (mt_7 (List.mem_of_getElem? (i := 9) (by decide +kernel)))
theorem im_X11_lot : Cond.instanceMethod mX11_lot.1 ∈ tables_1 := (mt_7 (List.mem_of_getElem? (i := 10) (by decide +kernel)))
theorem se_X11_lot : Cond.selects mX11_lot.1.cls mX11_lot.1 mX11_lot.1 ∈ lw_tbl := List.mem_append_right _ (mt_7 (List.mem_of_getElem? (i := 11) (by decide +kernel)))
theorem pr_X11_lot : (parseMethodDescriptor mX11_lot.1.desc).map (fun d => d.parameters.length) = some 3 := by decide +kernel
theorem ok_X10_hours : zMok mX10_hours := ⟨by decide +kernel, (mt_2 (List.mem_of_getElem? (i := 95) (by decide +kernel))), (mt_1 (List.mem_of_getElem? (i := 1) (by decide +kernel))), by decide +kernel, by decide +kernel, by decide +kernel⟩
theorem ln_ReturnDeskLaw_31 : Cond.methodLink "ReturnDeskLaw" 31 mX10_hours.1 ∈ tables_1 := (mt_2 (List.mem_of_getElem? (i := 92) (by decide +kernel)))
theorem im_X10_hours : Cond.instanceMethod mX10_hours.1 ∈ tables_1 := (mt_2 (List.mem_of_getElem? (i := 93) (by decide +kernel)))
theorem se_X10_hours : Cond.selects mX10_hours.1.cls mX10_hours.1 mX10_hours.1 ∈ lw_tbl := List.mem_append_right _ (mt_2 (List.mem_of_getElem? (i := 94) (by decide +kernel)))
theorem pr_X10_hours : (parseMethodDescriptor mX10_hours.1.desc).map (fun d => d.parameters.length) = some 1 := by decide +kernel
theorem ok_X11_hours : zMok mX11_hours := ⟨by decide +kernel, (mt_7 (List.mem_of_getElem? (i := 16) (by decide +kernel))), (mt_1 (List.mem_of_getElem? (i := 7) (by decide +kernel))), by decide +kernel, by decide +kernel, by decide +kernel⟩
theorem ln_ReturnDeskLaw_35 : Cond.methodLink "ReturnDeskLaw" 35 mX11_hours.1 ∈ tables_1 := (mt_7 (List.mem_of_getElem? (i := 13) (by decide +kernel)))
theorem im_X11_hours : Cond.instanceMethod mX11_hours.1 ∈ tables_1 := (mt_7 (List.mem_of_getElem? (i := 14) (by decide +kernel)))
theorem se_X11_hours : Cond.selects mX11_hours.1.cls mX11_hours.1 mX11_hours.1 ∈ lw_tbl := List.mem_append_right _ (mt_7 (List.mem_of_getElem? (i := 15) (by decide +kernel)))
theorem pr_X11_hours : (parseMethodDescriptor mX11_hours.1.desc).map (fun d => d.parameters.length) = some 1 := by decide +kernel
theorem ok_X10_till : zMok mX10_till := ⟨by decide +kernel, (mt_2 (List.mem_of_getElem? (i := 100) (by decide +kernel))), (mt_1 (List.mem_of_getElem? (i := 1) (by decide +kernel))), by decide +kernel, by decide +kernel, by decide +kernel⟩
theorem ln_ReturnDeskLaw_36 : Cond.methodLink "ReturnDeskLaw" 36 mX10_till.1 ∈ tables_1 := (mt_2 (List.mem_of_getElem? (i := 97) (by decide +kernel)))
theorem im_X10_till : Cond.instanceMethod mX10_till.1 ∈ tables_1 := (mt_2 (List.mem_of_getElem? (i := 98) (by decide +kernel)))
theorem se_X10_till : Cond.selects mX10_till.1.cls mX10_till.1 mX10_till.1 ∈ lw_tbl := List.mem_append_right _ (mt_2 (List.mem_of_getElem? (i := 99) (by decide +kernel)))
theorem pr_X10_till : (parseMethodDescriptor mX10_till.1.desc).map (fun d => d.parameters.length) = some 1 := by decide +kernel
theorem ok_X11_till : zMok mX11_till := ⟨by decide +kernel, (mt_7 (List.mem_of_getElem? (i := 21) (by decide +kernel))), (mt_1 (List.mem_of_getElem? (i := 7) (by decide +kernel))), by decide +kernel, by decide +kernel, by decide +kernel⟩
theorem ln_ReturnDeskLaw_39 : Cond.methodLink "ReturnDeskLaw" 39 mX11_till.1 ∈ tables_1 := (mt_7 (List.mem_of_getElem? (i := 18) (by decide +kernel)))
theorem im_X11_till : Cond.instanceMethod mX11_till.1 ∈ tables_1 := (mt_7 (List.mem_of_getElem? (i := 19) (by decide +kernel)))
theorem se_X11_till : Cond.selects mX11_till.1.cls mX11_till.1 mX11_till.1 ∈ lw_tbl := List.mem_append_right _ (mt_7 (List.mem_of_getElem? (i := 20) (by decide +kernel)))
theorem pr_X11_till : (parseMethodDescriptor mX11_till.1.desc).map (fun d => d.parameters.length) = some 1 := by decide +kernel
theorem ok_X10_sell : zMok mX10_sell := ⟨by decide +kernel, (mt_2 (List.mem_of_getElem? (i := 105) (by decide +kernel))), (mt_1 (List.mem_of_getElem? (i := 1) (by decide +kernel))), by decide +kernel, by decide +kernel, by decide +kernel⟩
theorem ln_ReturnDeskLaw_40 : Cond.methodLink "ReturnDeskLaw" 40 mX10_sell.1 ∈ tables_1 := (mt_2 (List.mem_of_getElem? (i := 102) (by decide +kernel)))
theorem im_X10_sell : Cond.instanceMethod mX10_sell.1 ∈ tables_1 := (mt_2 (List.mem_of_getElem? (i := 103) (by decide +kernel)))
theorem se_X10_sell : Cond.selects mX10_sell.1.cls mX10_sell.1 mX10_sell.1 ∈ lw_tbl := List.mem_append_right _ (mt_2 (List.mem_of_getElem? (i := 104) (by decide +kernel)))
theorem pr_X10_sell : (parseMethodDescriptor mX10_sell.1.desc).map (fun d => d.parameters.length) = some 5 := by decide +kernel
theorem ok_X11_sell : zMok mX11_sell := ⟨by decide +kernel, (mt_7 (List.mem_of_getElem? (i := 26) (by decide +kernel))), (mt_1 (List.mem_of_getElem? (i := 7) (by decide +kernel))), by decide +kernel, by decide +kernel, by decide +kernel⟩
theorem ln_ReturnDeskLaw_44 : Cond.methodLink "ReturnDeskLaw" 44 mX11_sell.1 ∈ tables_1 := (mt_7 (List.mem_of_getElem? (i := 23) (by decide +kernel)))
theorem im_X11_sell : Cond.instanceMethod mX11_sell.1 ∈ tables_1 := (mt_7 (List.mem_of_getElem? (i := 24) (by decide +kernel)))
theorem se_X11_sell : Cond.selects mX11_sell.1.cls mX11_sell.1 mX11_sell.1 ∈ lw_tbl := List.mem_append_right _ (mt_7 (List.mem_of_getElem? (i := 25) (by decide +kernel)))
theorem pr_X11_sell : (parseMethodDescriptor mX11_sell.1.desc).map (fun d => d.parameters.length) = some 5 := by decide +kernel
theorem ok_X10_gift : zMok mX10_gift := ⟨by decide +kernel, (mt_2 (List.mem_of_getElem? (i := 213) (by decide +kernel))), (mt_1 (List.mem_of_getElem? (i := 1) (by decide +kernel))), by decide +kernel, by decide +kernel, by decide +kernel⟩
theorem ln_ReturnDeskLaw_45 : Cond.methodLink "ReturnDeskLaw" 45 mX10_gift.1 ∈ tables_1 := (mt_2 (List.mem_of_getElem? (i := 210) (by decide +kernel)))
theorem im_X10_gift : Cond.instanceMethod mX10_gift.1 ∈ tables_1 := (mt_2 (List.mem_of_getElem? (i := 211) (by decide +kernel)))
theorem se_X10_gift : Cond.selects mX10_gift.1.cls mX10_gift.1 mX10_gift.1 ∈ lw_tbl := List.mem_append_right _ (mt_2 (List.mem_of_getElem? (i := 212) (by decide +kernel)))
theorem pr_X10_gift : (parseMethodDescriptor mX10_gift.1.desc).map (fun d => d.parameters.length) = some 2 := by decide +kernel
theorem ok_X11_gift : zMok mX11_gift := ⟨by decide +kernel, (mt_7 (List.mem_of_getElem? (i := 38) (by decide +kernel))), (mt_1 (List.mem_of_getElem? (i := 7) (by decide +kernel))), by decide +kernel, by decide +kernel, by decide +kernel⟩
theorem ln_ReturnDeskLaw_48 : Cond.methodLink "ReturnDeskLaw" 48 mX11_gift.1 ∈ tables_1 := (mt_7 (List.mem_of_getElem? (i := 35) (by decide +kernel)))
theorem im_X11_gift : Cond.instanceMethod mX11_gift.1 ∈ tables_1 := (mt_7 (List.mem_of_getElem? (i := 36) (by decide +kernel)))
theorem se_X11_gift : Cond.selects mX11_gift.1.cls mX11_gift.1 mX11_gift.1 ∈ lw_tbl := List.mem_append_right _ (mt_7 (List.mem_of_getElem? (i := 37) (by decide +kernel)))
theorem pr_X11_gift : (parseMethodDescriptor mX11_gift.1.desc).map (fun d => d.parameters.length) = some 2 := by decide +kernel
theorem ok_X10_ofSale : zMok mX10_ofSale := ⟨by decide +kernel, (mt_2 (List.mem_of_getElem? (i := 221) (by decide +kernel))), (mt_1 (List.mem_of_getElem? (i := 1) (by decide +kernel))), by decide +kernel, by decide +kernel, by decide +kernel⟩
theorem ln_ReturnDeskLaw_49 : Cond.methodLink "ReturnDeskLaw" 49 mX10_ofSale.1 ∈ tables_1 := (mt_2 (List.mem_of_getElem? (i := 218) (by decide +kernel)))
theorem im_X10_ofSale : Cond.instanceMethod mX10_ofSale.1 ∈ tables_1 := (mt_2 (List.mem_of_getElem? (i := 219) (by decide +kernel)))
theorem se_X10_ofSale : Cond.selects mX10_ofSale.1.cls mX10_ofSale.1 mX10_ofSale.1 ∈ lw_tbl := List.mem_append_right _ (mt_2 (List.mem_of_getElem? (i := 220) (by decide +kernel)))
theorem pr_X10_ofSale : (parseMethodDescriptor mX10_ofSale.1.desc).map (fun d => d.parameters.length) = some 2 := by decide +kernel
theorem ok_X11_ofSale : zMok mX11_ofSale := ⟨by decide +kernel, (mt_7 (List.mem_of_getElem? (i := 46) (by decide +kernel))), (mt_1 (List.mem_of_getElem? (i := 7) (by decide +kernel))), by decide +kernel, by decide +kernel, by decide +kernel⟩
theorem ln_ReturnDeskLaw_52 : Cond.methodLink "ReturnDeskLaw" 52 mX11_ofSale.1 ∈ tables_1 := (mt_7 (List.mem_of_getElem? (i := 43) (by decide +kernel)))
theorem im_X11_ofSale : Cond.instanceMethod mX11_ofSale.1 ∈ tables_1 := (mt_7 (List.mem_of_getElem? (i := 44) (by decide +kernel)))
theorem se_X11_ofSale : Cond.selects mX11_ofSale.1.cls mX11_ofSale.1 mX11_ofSale.1 ∈ lw_tbl := List.mem_append_right _ (mt_7 (List.mem_of_getElem? (i := 45) (by decide +kernel)))
theorem pr_X11_ofSale : (parseMethodDescriptor mX11_ofSale.1.desc).map (fun d => d.parameters.length) = some 2 := by decide +kernel
theorem ok_X10_join : zMok mX10_join := ⟨by decide +kernel, (mt_2 (List.mem_of_getElem? (i := 234) (by decide +kernel))), (mt_1 (List.mem_of_getElem? (i := 1) (by decide +kernel))), by decide +kernel, by decide +kernel, by decide +kernel⟩
theorem ln_ReturnDeskLaw_53 : Cond.methodLink "ReturnDeskLaw" 53 mX10_join.1 ∈ tables_1 := (mt_2 (List.mem_of_getElem? (i := 231) (by decide +kernel)))
theorem im_X10_join : Cond.instanceMethod mX10_join.1 ∈ tables_1 := (mt_2 (List.mem_of_getElem? (i := 232) (by decide +kernel)))
theorem se_X10_join : Cond.selects mX10_join.1.cls mX10_join.1 mX10_join.1 ∈ lw_tbl := List.mem_append_right _ (mt_2 (List.mem_of_getElem? (i := 233) (by decide +kernel)))
theorem pr_X10_join : (parseMethodDescriptor mX10_join.1.desc).map (fun d => d.parameters.length) = some 4 := by decide +kernel
theorem ok_X11_join : zMok mX11_join := ⟨by decide +kernel, (mt_7 (List.mem_of_getElem? (i := 59) (by decide +kernel))), (mt_1 (List.mem_of_getElem? (i := 7) (by decide +kernel))), by decide +kernel, by decide +kernel, by decide +kernel⟩
theorem ln_ReturnDeskLaw_57 : Cond.methodLink "ReturnDeskLaw" 57 mX11_join.1 ∈ tables_1 := (mt_7 (List.mem_of_getElem? (i := 56) (by decide +kernel)))
theorem im_X11_join : Cond.instanceMethod mX11_join.1 ∈ tables_1 := (mt_7 (List.mem_of_getElem? (i := 57) (by decide +kernel)))
theorem se_X11_join : Cond.selects mX11_join.1.cls mX11_join.1 mX11_join.1 ∈ lw_tbl := List.mem_append_right _ (mt_7 (List.mem_of_getElem? (i := 58) (by decide +kernel)))
theorem pr_X11_join : (parseMethodDescriptor mX11_join.1.desc).map (fun d => d.parameters.length) = some 4 := by decide +kernel
theorem ok_X10_keep : zMok mX10_keep := ⟨by decide +kernel, (mt_3 (List.mem_of_getElem? (i := 1) (by decide +kernel))), (mt_1 (List.mem_of_getElem? (i := 1) (by decide +kernel))), by decide +kernel, by decide +kernel, by decide +kernel⟩
theorem ln_ReturnDeskLaw_58 : Cond.methodLink "ReturnDeskLaw" 58 mX10_keep.1 ∈ tables_1 := (mt_2 (List.mem_of_getElem? (i := 238) (by decide +kernel)))
theorem im_X10_keep : Cond.instanceMethod mX10_keep.1 ∈ tables_1 := (mt_2 (List.mem_of_getElem? (i := 239) (by decide +kernel)))
theorem se_X10_keep : Cond.selects mX10_keep.1.cls mX10_keep.1 mX10_keep.1 ∈ lw_tbl := List.mem_append_right _ (mt_3 (List.mem_of_getElem? (i := 0) (by decide +kernel)))
theorem pr_X10_keep : (parseMethodDescriptor mX10_keep.1.desc).map (fun d => d.parameters.length) = some 1 := by decide +kernel
theorem ok_X11_keep : zMok mX11_keep := ⟨by decide +kernel, (mt_7 (List.mem_of_getElem? (i := 63) (by decide +kernel))), (mt_1 (List.mem_of_getElem? (i := 7) (by decide +kernel))), by decide +kernel, by decide +kernel, by decide +kernel⟩
theorem ln_ReturnDeskLaw_61 : Cond.methodLink "ReturnDeskLaw" 61 mX11_keep.1 ∈ tables_1 := (mt_7 (List.mem_of_getElem? (i := 60) (by decide +kernel)))
theorem im_X11_keep : Cond.instanceMethod mX11_keep.1 ∈ tables_1 := (mt_7 (List.mem_of_getElem? (i := 61) (by decide +kernel)))
theorem se_X11_keep : Cond.selects mX11_keep.1.cls mX11_keep.1 mX11_keep.1 ∈ lw_tbl := List.mem_append_right _ (mt_7 (List.mem_of_getElem? (i := 62) (by decide +kernel)))
theorem pr_X11_keep : (parseMethodDescriptor mX11_keep.1.desc).map (fun d => d.parameters.length) = some 1 := by decide +kernel
theorem ok_X10_feed : zMok mX10_feed := ⟨by decide +kernel, (mt_3 (List.mem_of_getElem? (i := 5) (by decide +kernel))), (mt_1 (List.mem_of_getElem? (i := 1) (by decide +kernel))), by decide +kernel, by decide +kernel, by decide +kernel⟩
theorem ln_ReturnDeskLaw_62 : Cond.methodLink "ReturnDeskLaw" 62 mX10_feed.1 ∈ tables_1 := (mt_3 (List.mem_of_getElem? (i := 2) (by decide +kernel)))
theorem im_X10_feed : Cond.instanceMethod mX10_feed.1 ∈ tables_1 := (mt_3 (List.mem_of_getElem? (i := 3) (by decide +kernel)))
theorem se_X10_feed : Cond.selects mX10_feed.1.cls mX10_feed.1 mX10_feed.1 ∈ lw_tbl := List.mem_append_right _ (mt_3 (List.mem_of_getElem? (i := 4) (by decide +kernel)))
theorem pr_X10_feed : (parseMethodDescriptor mX10_feed.1.desc).map (fun d => d.parameters.length) = some 5 := by decide +kernel
theorem ok_X11_feed : zMok mX11_feed := ⟨by decide +kernel, (mt_7 (List.mem_of_getElem? (i := 67) (by decide +kernel))), (mt_1 (List.mem_of_getElem? (i := 7) (by decide +kernel))), by decide +kernel, by decide +kernel, by decide +kernel⟩
theorem ln_ReturnDeskLaw_65 : Cond.methodLink "ReturnDeskLaw" 65 mX11_feed.1 ∈ tables_1 := (mt_7 (List.mem_of_getElem? (i := 64) (by decide +kernel)))
theorem im_X11_feed : Cond.instanceMethod mX11_feed.1 ∈ tables_1 := (mt_7 (List.mem_of_getElem? (i := 65) (by decide +kernel)))
theorem se_X11_feed : Cond.selects mX11_feed.1.cls mX11_feed.1 mX11_feed.1 ∈ lw_tbl := List.mem_append_right _ (mt_7 (List.mem_of_getElem? (i := 66) (by decide +kernel)))
theorem pr_X11_feed : (parseMethodDescriptor mX11_feed.1.desc).map (fun d => d.parameters.length) = some 5 := by decide +kernel
theorem ok_X10_end : zMok mX10_end := ⟨by decide +kernel, (mt_3 (List.mem_of_getElem? (i := 13) (by decide +kernel))), (mt_1 (List.mem_of_getElem? (i := 1) (by decide +kernel))), by decide +kernel, by decide +kernel, by decide +kernel⟩
theorem ln_ReturnDeskLaw_66 : Cond.methodLink "ReturnDeskLaw" 66 mX10_end.1 ∈ tables_1 := (mt_3 (List.mem_of_getElem? (i := 10) (by decide +kernel)))
theorem im_X10_end : Cond.instanceMethod mX10_end.1 ∈ tables_1 := (mt_3 (List.mem_of_getElem? (i := 11) (by decide +kernel)))
theorem se_X10_end : Cond.selects mX10_end.1.cls mX10_end.1 mX10_end.1 ∈ lw_tbl := List.mem_append_right _ (mt_3 (List.mem_of_getElem? (i := 12) (by decide +kernel)))
theorem pr_X10_end : (parseMethodDescriptor mX10_end.1.desc).map (fun d => d.parameters.length) = some 1 := by decide +kernel
theorem ok_X11_end : zMok mX11_end := ⟨by decide +kernel, (mt_7 (List.mem_of_getElem? (i := 75) (by decide +kernel))), (mt_1 (List.mem_of_getElem? (i := 7) (by decide +kernel))), by decide +kernel, by decide +kernel, by decide +kernel⟩
theorem ln_ReturnDeskLaw_69 : Cond.methodLink "ReturnDeskLaw" 69 mX11_end.1 ∈ tables_1 := (mt_7 (List.mem_of_getElem? (i := 72) (by decide +kernel)))
theorem im_X11_end : Cond.instanceMethod mX11_end.1 ∈ tables_1 := (mt_7 (List.mem_of_getElem? (i := 73) (by decide +kernel)))
theorem se_X11_end : Cond.selects mX11_end.1.cls mX11_end.1 mX11_end.1 ∈ lw_tbl := List.mem_append_right _ (mt_7 (List.mem_of_getElem? (i := 74) (by decide +kernel)))
theorem pr_X11_end : (parseMethodDescriptor mX11_end.1.desc).map (fun d => d.parameters.length) = some 1 := by decide +kernel
theorem ok_X10_text : zMok mX10_text := ⟨by decide +kernel, (mt_3 (List.mem_of_getElem? (i := 17) (by decide +kernel))), (mt_1 (List.mem_of_getElem? (i := 1) (by decide +kernel))), by decide +kernel, by decide +kernel, by decide +kernel⟩
theorem ln_ReturnDeskLaw_70 : Cond.methodLink "ReturnDeskLaw" 70 mX10_text.1 ∈ tables_1 := (mt_3 (List.mem_of_getElem? (i := 14) (by decide +kernel)))
theorem im_X10_text : Cond.instanceMethod mX10_text.1 ∈ tables_1 := (mt_3 (List.mem_of_getElem? (i := 15) (by decide +kernel)))
theorem se_X10_text : Cond.selects mX10_text.1.cls mX10_text.1 mX10_text.1 ∈ lw_tbl := List.mem_append_right _ (mt_3 (List.mem_of_getElem? (i := 16) (by decide +kernel)))
theorem pr_X10_text : (parseMethodDescriptor mX10_text.1.desc).map (fun d => d.parameters.length) = some 2 := by decide +kernel
theorem ok_X11_text : zMok mX11_text := ⟨by decide +kernel, (mt_7 (List.mem_of_getElem? (i := 79) (by decide +kernel))), (mt_1 (List.mem_of_getElem? (i := 7) (by decide +kernel))), by decide +kernel, by decide +kernel, by decide +kernel⟩
theorem ln_ReturnDeskLaw_73 : Cond.methodLink "ReturnDeskLaw" 73 mX11_text.1 ∈ tables_1 := (mt_7 (List.mem_of_getElem? (i := 76) (by decide +kernel)))
theorem im_X11_text : Cond.instanceMethod mX11_text.1 ∈ tables_1 := (mt_7 (List.mem_of_getElem? (i := 77) (by decide +kernel)))
theorem se_X11_text : Cond.selects mX11_text.1.cls mX11_text.1 mX11_text.1 ∈ lw_tbl := List.mem_append_right _ (mt_7 (List.mem_of_getElem? (i := 78) (by decide +kernel)))
theorem pr_X11_text : (parseMethodDescriptor mX11_text.1.desc).map (fun d => d.parameters.length) = some 2 := by decide +kernel
theorem ok_X10_inForce : zMok mX10_inForce := ⟨by decide +kernel, (mt_4 (List.mem_of_getElem? (i := 23) (by decide +kernel))), (mt_1 (List.mem_of_getElem? (i := 1) (by decide +kernel))), by decide +kernel, by decide +kernel, by decide +kernel⟩
theorem ln_ReturnDeskLaw_74 : Cond.methodLink "ReturnDeskLaw" 74 mX10_inForce.1 ∈ tables_1 := (mt_4 (List.mem_of_getElem? (i := 20) (by decide +kernel)))
theorem im_X10_inForce : Cond.instanceMethod mX10_inForce.1 ∈ tables_1 := (mt_4 (List.mem_of_getElem? (i := 21) (by decide +kernel)))
theorem se_X10_inForce : Cond.selects mX10_inForce.1.cls mX10_inForce.1 mX10_inForce.1 ∈ lw_tbl := List.mem_append_right _ (mt_4 (List.mem_of_getElem? (i := 22) (by decide +kernel)))
theorem pr_X10_inForce : (parseMethodDescriptor mX10_inForce.1.desc).map (fun d => d.parameters.length) = some 3 := by decide +kernel
theorem ok_X11_inForce : zMok mX11_inForce := ⟨by decide +kernel, (mt_7 (List.mem_of_getElem? (i := 161) (by decide +kernel))), (mt_1 (List.mem_of_getElem? (i := 7) (by decide +kernel))), by decide +kernel, by decide +kernel, by decide +kernel⟩
theorem ln_ReturnDeskLaw_77 : Cond.methodLink "ReturnDeskLaw" 77 mX11_inForce.1 ∈ tables_1 := (mt_7 (List.mem_of_getElem? (i := 158) (by decide +kernel)))
theorem im_X11_inForce : Cond.instanceMethod mX11_inForce.1 ∈ tables_1 := (mt_7 (List.mem_of_getElem? (i := 159) (by decide +kernel)))
theorem se_X11_inForce : Cond.selects mX11_inForce.1.cls mX11_inForce.1 mX11_inForce.1 ∈ lw_tbl := List.mem_append_right _ (mt_7 (List.mem_of_getElem? (i := 160) (by decide +kernel)))
theorem pr_X11_inForce : (parseMethodDescriptor mX11_inForce.1.desc).map (fun d => d.parameters.length) = some 3 := by decide +kernel
theorem ok_X10_says : zMok mX10_says := ⟨by decide +kernel, (mt_4 (List.mem_of_getElem? (i := 35) (by decide +kernel))), (mt_1 (List.mem_of_getElem? (i := 1) (by decide +kernel))), by decide +kernel, by decide +kernel, by decide +kernel⟩
theorem ln_ReturnDeskLaw_78 : Cond.methodLink "ReturnDeskLaw" 78 mX10_says.1 ∈ tables_1 := (mt_4 (List.mem_of_getElem? (i := 32) (by decide +kernel)))
theorem im_X10_says : Cond.instanceMethod mX10_says.1 ∈ tables_1 := (mt_4 (List.mem_of_getElem? (i := 33) (by decide +kernel)))
theorem se_X10_says : Cond.selects mX10_says.1.cls mX10_says.1 mX10_says.1 ∈ lw_tbl := List.mem_append_right _ (mt_4 (List.mem_of_getElem? (i := 34) (by decide +kernel)))
theorem pr_X10_says : (parseMethodDescriptor mX10_says.1.desc).map (fun d => d.parameters.length) = some 4 := by decide +kernel
theorem ok_X11_says : zMok mX11_says := ⟨by decide +kernel, (mt_7 (List.mem_of_getElem? (i := 173) (by decide +kernel))), (mt_1 (List.mem_of_getElem? (i := 7) (by decide +kernel))), by decide +kernel, by decide +kernel, by decide +kernel⟩
theorem ln_ReturnDeskLaw_81 : Cond.methodLink "ReturnDeskLaw" 81 mX11_says.1 ∈ tables_1 := (mt_7 (List.mem_of_getElem? (i := 170) (by decide +kernel)))
theorem im_X11_says : Cond.instanceMethod mX11_says.1 ∈ tables_1 := (mt_7 (List.mem_of_getElem? (i := 171) (by decide +kernel)))
theorem se_X11_says : Cond.selects mX11_says.1.cls mX11_says.1 mX11_says.1 ∈ lw_tbl := List.mem_append_right _ (mt_7 (List.mem_of_getElem? (i := 172) (by decide +kernel)))
theorem pr_X11_says : (parseMethodDescriptor mX11_says.1.desc).map (fun d => d.parameters.length) = some 4 := by decide +kernel
theorem ok_X10_ask : zMok mX10_ask := ⟨by decide +kernel, (mt_4 (List.mem_of_getElem? (i := 102) (by decide +kernel))), (mt_1 (List.mem_of_getElem? (i := 1) (by decide +kernel))), by decide +kernel, by decide +kernel, by decide +kernel⟩
theorem ln_ReturnDeskLaw_82 : Cond.methodLink "ReturnDeskLaw" 82 mX10_ask.1 ∈ tables_1 := (mt_4 (List.mem_of_getElem? (i := 99) (by decide +kernel)))
theorem im_X10_ask : Cond.instanceMethod mX10_ask.1 ∈ tables_1 := (mt_4 (List.mem_of_getElem? (i := 100) (by decide +kernel)))
theorem se_X10_ask : Cond.selects mX10_ask.1.cls mX10_ask.1 mX10_ask.1 ∈ lw_tbl := List.mem_append_right _ (mt_4 (List.mem_of_getElem? (i := 101) (by decide +kernel)))
theorem pr_X10_ask : (parseMethodDescriptor mX10_ask.1.desc).map (fun d => d.parameters.length) = some 6 := by decide +kernel
theorem ok_X11_ask : zMok mX11_ask := ⟨by decide +kernel, (mt_7 (List.mem_of_getElem? (i := 197) (by decide +kernel))), (mt_1 (List.mem_of_getElem? (i := 7) (by decide +kernel))), by decide +kernel, by decide +kernel, by decide +kernel⟩
theorem ln_ReturnDeskLaw_86 : Cond.methodLink "ReturnDeskLaw" 86 mX11_ask.1 ∈ tables_1 := (mt_7 (List.mem_of_getElem? (i := 194) (by decide +kernel)))
theorem im_X11_ask : Cond.instanceMethod mX11_ask.1 ∈ tables_1 := (mt_7 (List.mem_of_getElem? (i := 195) (by decide +kernel)))
theorem se_X11_ask : Cond.selects mX11_ask.1.cls mX11_ask.1 mX11_ask.1 ∈ lw_tbl := List.mem_append_right _ (mt_7 (List.mem_of_getElem? (i := 196) (by decide +kernel)))
theorem pr_X11_ask : (parseMethodDescriptor mX11_ask.1.desc).map (fun d => d.parameters.length) = some 6 := by decide +kernel
theorem ok_X10_judged : zMok mX10_judged := ⟨by decide +kernel, (mt_4 (List.mem_of_getElem? (i := 193) (by decide +kernel))), (mt_1 (List.mem_of_getElem? (i := 1) (by decide +kernel))), by decide +kernel, by decide +kernel, by decide +kernel⟩
theorem ln_ReturnDeskLaw_87 : Cond.methodLink "ReturnDeskLaw" 87 mX10_judged.1 ∈ tables_1 := (mt_4 (List.mem_of_getElem? (i := 190) (by decide +kernel)))
theorem im_X10_judged : Cond.instanceMethod mX10_judged.1 ∈ tables_1 := (mt_4 (List.mem_of_getElem? (i := 191) (by decide +kernel)))
theorem se_X10_judged : Cond.selects mX10_judged.1.cls mX10_judged.1 mX10_judged.1 ∈ lw_tbl := List.mem_append_right _ (mt_4 (List.mem_of_getElem? (i := 192) (by decide +kernel)))
theorem pr_X10_judged : (parseMethodDescriptor mX10_judged.1.desc).map (fun d => d.parameters.length) = some 3 := by decide +kernel
theorem ok_X11_judged : zMok mX11_judged := ⟨by decide +kernel, (mt_7 (List.mem_of_getElem? (i := 209) (by decide +kernel))), (mt_1 (List.mem_of_getElem? (i := 7) (by decide +kernel))), by decide +kernel, by decide +kernel, by decide +kernel⟩
theorem ln_ReturnDeskLaw_90 : Cond.methodLink "ReturnDeskLaw" 90 mX11_judged.1 ∈ tables_1 := (mt_7 (List.mem_of_getElem? (i := 206) (by decide +kernel)))
theorem im_X11_judged : Cond.instanceMethod mX11_judged.1 ∈ tables_1 := (mt_7 (List.mem_of_getElem? (i := 207) (by decide +kernel)))
theorem se_X11_judged : Cond.selects mX11_judged.1.cls mX11_judged.1 mX11_judged.1 ∈ lw_tbl := List.mem_append_right _ (mt_7 (List.mem_of_getElem? (i := 208) (by decide +kernel)))
theorem pr_X11_judged : (parseMethodDescriptor mX11_judged.1.desc).map (fun d => d.parameters.length) = some 3 := by decide +kernel
theorem ok_X10_ofAsking : zMok mX10_ofAsking := ⟨by decide +kernel, (mt_4 (List.mem_of_getElem? (i := 223) (by decide +kernel))), (mt_1 (List.mem_of_getElem? (i := 1) (by decide +kernel))), by decide +kernel, by decide +kernel, by decide +kernel⟩
theorem ln_ReturnDeskLaw_91 : Cond.methodLink "ReturnDeskLaw" 91 mX10_ofAsking.1 ∈ tables_1 := (mt_4 (List.mem_of_getElem? (i := 220) (by decide +kernel)))
theorem im_X10_ofAsking : Cond.instanceMethod mX10_ofAsking.1 ∈ tables_1 := (mt_4 (List.mem_of_getElem? (i := 221) (by decide +kernel)))
theorem se_X10_ofAsking : Cond.selects mX10_ofAsking.1.cls mX10_ofAsking.1 mX10_ofAsking.1 ∈ lw_tbl := List.mem_append_right _ (mt_4 (List.mem_of_getElem? (i := 222) (by decide +kernel)))
theorem pr_X10_ofAsking : (parseMethodDescriptor mX10_ofAsking.1.desc).map (fun d => d.parameters.length) = some 2 := by decide +kernel
theorem ok_X11_ofAsking : zMok mX11_ofAsking := ⟨by decide +kernel, (mt_7 (List.mem_of_getElem? (i := 225) (by decide +kernel))), (mt_1 (List.mem_of_getElem? (i := 7) (by decide +kernel))), by decide +kernel, by decide +kernel, by decide +kernel⟩
theorem ln_ReturnDeskLaw_94 : Cond.methodLink "ReturnDeskLaw" 94 mX11_ofAsking.1 ∈ tables_1 := (mt_7 (List.mem_of_getElem? (i := 222) (by decide +kernel)))
theorem im_X11_ofAsking : Cond.instanceMethod mX11_ofAsking.1 ∈ tables_1 := (mt_7 (List.mem_of_getElem? (i := 223) (by decide +kernel)))
theorem se_X11_ofAsking : Cond.selects mX11_ofAsking.1.cls mX11_ofAsking.1 mX11_ofAsking.1 ∈ lw_tbl := List.mem_append_right _ (mt_7 (List.mem_of_getElem? (i := 224) (by decide +kernel)))
theorem pr_X11_ofAsking : (parseMethodDescriptor mX11_ofAsking.1.desc).map (fun d => d.parameters.length) = some 2 := by decide +kernel
theorem ok_X10_take : zMok mX10_take := ⟨by decide +kernel, (mt_4 (List.mem_of_getElem? (i := 228) (by decide +kernel))), (mt_1 (List.mem_of_getElem? (i := 1) (by decide +kernel))), by decide +kernel, by decide +kernel, by decide +kernel⟩
theorem ln_ReturnDeskLaw_95 : Cond.methodLink "ReturnDeskLaw" 95 mX10_take.1 ∈ tables_1 := (mt_4 (List.mem_of_getElem? (i := 225) (by decide +kernel)))
theorem im_X10_take : Cond.instanceMethod mX10_take.1 ∈ tables_1 := (mt_4 (List.mem_of_getElem? (i := 226) (by decide +kernel)))
theorem se_X10_take : Cond.selects mX10_take.1.cls mX10_take.1 mX10_take.1 ∈ lw_tbl := List.mem_append_right _ (mt_4 (List.mem_of_getElem? (i := 227) (by decide +kernel)))
theorem pr_X10_take : (parseMethodDescriptor mX10_take.1.desc).map (fun d => d.parameters.length) = some 1 := by decide +kernel
theorem ok_X11_take : zMok mX11_take := ⟨by decide +kernel, (mt_7 (List.mem_of_getElem? (i := 229) (by decide +kernel))), (mt_1 (List.mem_of_getElem? (i := 7) (by decide +kernel))), by decide +kernel, by decide +kernel, by decide +kernel⟩
theorem ln_ReturnDeskLaw_98 : Cond.methodLink "ReturnDeskLaw" 98 mX11_take.1 ∈ tables_1 := (mt_7 (List.mem_of_getElem? (i := 226) (by decide +kernel)))
theorem im_X11_take : Cond.instanceMethod mX11_take.1 ∈ tables_1 := (mt_7 (List.mem_of_getElem? (i := 227) (by decide +kernel)))
theorem se_X11_take : Cond.selects mX11_take.1.cls mX11_take.1 mX11_take.1 ∈ lw_tbl := List.mem_append_right _ (mt_7 (List.mem_of_getElem? (i := 228) (by decide +kernel)))
theorem pr_X11_take : (parseMethodDescriptor mX11_take.1.desc).map (fun d => d.parameters.length) = some 1 := by decide +kernel
theorem ok_X10_leave : zMok mX10_leave := ⟨by decide +kernel, (mt_5 (List.mem_of_getElem? (i := 33) (by decide +kernel))), (mt_1 (List.mem_of_getElem? (i := 1) (by decide +kernel))), by decide +kernel, by decide +kernel, by decide +kernel⟩
theorem ln_ReturnDeskLaw_99 : Cond.methodLink "ReturnDeskLaw" 99 mX10_leave.1 ∈ tables_1 := (mt_5 (List.mem_of_getElem? (i := 30) (by decide +kernel)))
theorem im_X10_leave : Cond.instanceMethod mX10_leave.1 ∈ tables_1 := (mt_5 (List.mem_of_getElem? (i := 31) (by decide +kernel)))
theorem se_X10_leave : Cond.selects mX10_leave.1.cls mX10_leave.1 mX10_leave.1 ∈ lw_tbl := List.mem_append_right _ (mt_5 (List.mem_of_getElem? (i := 32) (by decide +kernel)))
theorem pr_X10_leave : (parseMethodDescriptor mX10_leave.1.desc).map (fun d => d.parameters.length) = some 1 := by decide +kernel
theorem ok_X11_leave : zMok mX11_leave := ⟨by decide +kernel, (mt_8 (List.mem_of_getElem? (i := 2) (by decide +kernel))), (mt_1 (List.mem_of_getElem? (i := 7) (by decide +kernel))), by decide +kernel, by decide +kernel, by decide +kernel⟩
theorem ln_ReturnDeskLaw_102 : Cond.methodLink "ReturnDeskLaw" 102 mX11_leave.1 ∈ tables_1 := (mt_7 (List.mem_of_getElem? (i := 239) (by decide +kernel)))
theorem im_X11_leave : Cond.instanceMethod mX11_leave.1 ∈ tables_1 := (mt_8 (List.mem_of_getElem? (i := 0) (by decide +kernel)))
theorem se_X11_leave : Cond.selects mX11_leave.1.cls mX11_leave.1 mX11_leave.1 ∈ lw_tbl := List.mem_append_right _ (mt_8 (List.mem_of_getElem? (i := 1) (by decide +kernel)))
theorem pr_X11_leave : (parseMethodDescriptor mX11_leave.1.desc).map (fun d => d.parameters.length) = some 1 := by decide +kernel
theorem ok_X10_note : zMok mX10_note := ⟨by decide +kernel, (mt_5 (List.mem_of_getElem? (i := 37) (by decide +kernel))), (mt_1 (List.mem_of_getElem? (i := 1) (by decide +kernel))), by decide +kernel, by decide +kernel, by decide +kernel⟩
theorem ln_ReturnDeskLaw_103 : Cond.methodLink "ReturnDeskLaw" 103 mX10_note.1 ∈ tables_1 := (mt_5 (List.mem_of_getElem? (i := 34) (by decide +kernel)))
theorem im_X10_note : Cond.instanceMethod mX10_note.1 ∈ tables_1 := (mt_5 (List.mem_of_getElem? (i := 35) (by decide +kernel)))
theorem se_X10_note : Cond.selects mX10_note.1.cls mX10_note.1 mX10_note.1 ∈ lw_tbl := List.mem_append_right _ (mt_5 (List.mem_of_getElem? (i := 36) (by decide +kernel)))
theorem pr_X10_note : (parseMethodDescriptor mX10_note.1.desc).map (fun d => d.parameters.length) = some 1 := by decide +kernel
theorem ok_X11_note : zMok mX11_note := ⟨by decide +kernel, (mt_8 (List.mem_of_getElem? (i := 6) (by decide +kernel))), (mt_1 (List.mem_of_getElem? (i := 7) (by decide +kernel))), by decide +kernel, by decide +kernel, by decide +kernel⟩
theorem ln_ReturnDeskLaw_106 : Cond.methodLink "ReturnDeskLaw" 106 mX11_note.1 ∈ tables_1 := (mt_8 (List.mem_of_getElem? (i := 3) (by decide +kernel)))
theorem im_X11_note : Cond.instanceMethod mX11_note.1 ∈ tables_1 := (mt_8 (List.mem_of_getElem? (i := 4) (by decide +kernel)))
theorem se_X11_note : Cond.selects mX11_note.1.cls mX11_note.1 mX11_note.1 ∈ lw_tbl := List.mem_append_right _ (mt_8 (List.mem_of_getElem? (i := 5) (by decide +kernel)))
theorem pr_X11_note : (parseMethodDescriptor mX11_note.1.desc).map (fun d => d.parameters.length) = some 1 := by decide +kernel
theorem ok_X10_stock : zMok mX10_stock := ⟨by decide +kernel, (mt_5 (List.mem_of_getElem? (i := 41) (by decide +kernel))), (mt_1 (List.mem_of_getElem? (i := 1) (by decide +kernel))), by decide +kernel, by decide +kernel, by decide +kernel⟩
theorem ln_ReturnDeskLaw_107 : Cond.methodLink "ReturnDeskLaw" 107 mX10_stock.1 ∈ tables_1 := (mt_5 (List.mem_of_getElem? (i := 38) (by decide +kernel)))
theorem im_X10_stock : Cond.instanceMethod mX10_stock.1 ∈ tables_1 := (mt_5 (List.mem_of_getElem? (i := 39) (by decide +kernel)))
theorem se_X10_stock : Cond.selects mX10_stock.1.cls mX10_stock.1 mX10_stock.1 ∈ lw_tbl := List.mem_append_right _ (mt_5 (List.mem_of_getElem? (i := 40) (by decide +kernel)))
theorem pr_X10_stock : (parseMethodDescriptor mX10_stock.1.desc).map (fun d => d.parameters.length) = some 2 := by decide +kernel
theorem ok_X11_stock : zMok mX11_stock := ⟨by decide +kernel, (mt_8 (List.mem_of_getElem? (i := 10) (by decide +kernel))), (mt_1 (List.mem_of_getElem? (i := 7) (by decide +kernel))), by decide +kernel, by decide +kernel, by decide +kernel⟩
theorem ln_ReturnDeskLaw_110 : Cond.methodLink "ReturnDeskLaw" 110 mX11_stock.1 ∈ tables_1 := (mt_8 (List.mem_of_getElem? (i := 7) (by decide +kernel)))
theorem im_X11_stock : Cond.instanceMethod mX11_stock.1 ∈ tables_1 := (mt_8 (List.mem_of_getElem? (i := 8) (by decide +kernel)))
theorem se_X11_stock : Cond.selects mX11_stock.1.cls mX11_stock.1 mX11_stock.1 ∈ lw_tbl := List.mem_append_right _ (mt_8 (List.mem_of_getElem? (i := 9) (by decide +kernel)))
theorem pr_X11_stock : (parseMethodDescriptor mX11_stock.1.desc).map (fun d => d.parameters.length) = some 2 := by decide +kernel
theorem ok_X10_worth : zMok mX10_worth := ⟨by decide +kernel, (mt_5 (List.mem_of_getElem? (i := 53) (by decide +kernel))), (mt_1 (List.mem_of_getElem? (i := 1) (by decide +kernel))), by decide +kernel, by decide +kernel, by decide +kernel⟩
theorem ln_ReturnDeskLaw_111 : Cond.methodLink "ReturnDeskLaw" 111 mX10_worth.1 ∈ tables_1 := (mt_5 (List.mem_of_getElem? (i := 50) (by decide +kernel)))
theorem im_X10_worth : Cond.instanceMethod mX10_worth.1 ∈ tables_1 := (mt_5 (List.mem_of_getElem? (i := 51) (by decide +kernel)))
theorem se_X10_worth : Cond.selects mX10_worth.1.cls mX10_worth.1 mX10_worth.1 ∈ lw_tbl := List.mem_append_right _ (mt_5 (List.mem_of_getElem? (i := 52) (by decide +kernel)))
theorem pr_X10_worth : (parseMethodDescriptor mX10_worth.1.desc).map (fun d => d.parameters.length) = some 2 := by decide +kernel
theorem ok_X11_worth : zMok mX11_worth := ⟨by decide +kernel, (mt_8 (List.mem_of_getElem? (i := 18) (by decide +kernel))), (mt_1 (List.mem_of_getElem? (i := 7) (by decide +kernel))), by decide +kernel, by decide +kernel, by decide +kernel⟩
theorem ln_ReturnDeskLaw_114 : Cond.methodLink "ReturnDeskLaw" 114 mX11_worth.1 ∈ tables_1 := (mt_8 (List.mem_of_getElem? (i := 15) (by decide +kernel)))
theorem im_X11_worth : Cond.instanceMethod mX11_worth.1 ∈ tables_1 := (mt_8 (List.mem_of_getElem? (i := 16) (by decide +kernel)))
theorem se_X11_worth : Cond.selects mX11_worth.1.cls mX11_worth.1 mX11_worth.1 ∈ lw_tbl := List.mem_append_right _ (mt_8 (List.mem_of_getElem? (i := 17) (by decide +kernel)))
theorem pr_X11_worth : (parseMethodDescriptor mX11_worth.1.desc).map (fun d => d.parameters.length) = some 2 := by decide +kernel
theorem ok_X10_sort : zMok mX10_sort := ⟨by decide +kernel, (mt_5 (List.mem_of_getElem? (i := 82) (by decide +kernel))), (mt_1 (List.mem_of_getElem? (i := 1) (by decide +kernel))), by decide +kernel, by decide +kernel, by decide +kernel⟩
theorem ln_ReturnDeskLaw_115 : Cond.methodLink "ReturnDeskLaw" 115 mX10_sort.1 ∈ tables_1 := (mt_5 (List.mem_of_getElem? (i := 79) (by decide +kernel)))
theorem im_X10_sort : Cond.instanceMethod mX10_sort.1 ∈ tables_1 := (mt_5 (List.mem_of_getElem? (i := 80) (by decide +kernel)))
theorem se_X10_sort : Cond.selects mX10_sort.1.cls mX10_sort.1 mX10_sort.1 ∈ lw_tbl := List.mem_append_right _ (mt_5 (List.mem_of_getElem? (i := 81) (by decide +kernel)))
theorem pr_X10_sort : (parseMethodDescriptor mX10_sort.1.desc).map (fun d => d.parameters.length) = some 1 := by decide +kernel
theorem ok_X11_sort : zMok mX11_sort := ⟨by decide +kernel, (mt_8 (List.mem_of_getElem? (i := 34) (by decide +kernel))), (mt_1 (List.mem_of_getElem? (i := 7) (by decide +kernel))), by decide +kernel, by decide +kernel, by decide +kernel⟩
theorem ln_ReturnDeskLaw_118 : Cond.methodLink "ReturnDeskLaw" 118 mX11_sort.1 ∈ tables_1 := (mt_8 (List.mem_of_getElem? (i := 31) (by decide +kernel)))
theorem im_X11_sort : Cond.instanceMethod mX11_sort.1 ∈ tables_1 := (mt_8 (List.mem_of_getElem? (i := 32) (by decide +kernel)))
theorem se_X11_sort : Cond.selects mX11_sort.1.cls mX11_sort.1 mX11_sort.1 ∈ lw_tbl := List.mem_append_right _ (mt_8 (List.mem_of_getElem? (i := 33) (by decide +kernel)))
theorem pr_X11_sort : (parseMethodDescriptor mX11_sort.1.desc).map (fun d => d.parameters.length) = some 1 := by decide +kernel
theorem ok_X10_sellUsed : zMok mX10_sellUsed := ⟨by decide +kernel, (mt_5 (List.mem_of_getElem? (i := 98) (by decide +kernel))), (mt_1 (List.mem_of_getElem? (i := 1) (by decide +kernel))), by decide +kernel, by decide +kernel, by decide +kernel⟩
theorem ln_ReturnDeskLaw_119 : Cond.methodLink "ReturnDeskLaw" 119 mX10_sellUsed.1 ∈ tables_1 := (mt_5 (List.mem_of_getElem? (i := 95) (by decide +kernel)))
theorem im_X10_sellUsed : Cond.instanceMethod mX10_sellUsed.1 ∈ tables_1 := (mt_5 (List.mem_of_getElem? (i := 96) (by decide +kernel)))
theorem se_X10_sellUsed : Cond.selects mX10_sellUsed.1.cls mX10_sellUsed.1 mX10_sellUsed.1 ∈ lw_tbl := List.mem_append_right _ (mt_5 (List.mem_of_getElem? (i := 97) (by decide +kernel)))
theorem pr_X10_sellUsed : (parseMethodDescriptor mX10_sellUsed.1.desc).map (fun d => d.parameters.length) = some 1 := by decide +kernel
theorem ok_X11_sellUsed : zMok mX11_sellUsed := ⟨by decide +kernel, (mt_8 (List.mem_of_getElem? (i := 38) (by decide +kernel))), (mt_1 (List.mem_of_getElem? (i := 7) (by decide +kernel))), by decide +kernel, by decide +kernel, by decide +kernel⟩
theorem ln_ReturnDeskLaw_122 : Cond.methodLink "ReturnDeskLaw" 122 mX11_sellUsed.1 ∈ tables_1 := (mt_8 (List.mem_of_getElem? (i := 35) (by decide +kernel)))
theorem im_X11_sellUsed : Cond.instanceMethod mX11_sellUsed.1 ∈ tables_1 := (mt_8 (List.mem_of_getElem? (i := 36) (by decide +kernel)))
theorem se_X11_sellUsed : Cond.selects mX11_sellUsed.1.cls mX11_sellUsed.1 mX11_sellUsed.1 ∈ lw_tbl := List.mem_append_right _ (mt_8 (List.mem_of_getElem? (i := 37) (by decide +kernel)))
theorem pr_X11_sellUsed : (parseMethodDescriptor mX11_sellUsed.1.desc).map (fun d => d.parameters.length) = some 1 := by decide +kernel
theorem ok_X10_ofLot : zMok mX10_ofLot := ⟨by decide +kernel, (mt_5 (List.mem_of_getElem? (i := 106) (by decide +kernel))), (mt_1 (List.mem_of_getElem? (i := 1) (by decide +kernel))), by decide +kernel, by decide +kernel, by decide +kernel⟩
theorem ln_ReturnDeskLaw_123 : Cond.methodLink "ReturnDeskLaw" 123 mX10_ofLot.1 ∈ tables_1 := (mt_5 (List.mem_of_getElem? (i := 103) (by decide +kernel)))
theorem im_X10_ofLot : Cond.instanceMethod mX10_ofLot.1 ∈ tables_1 := (mt_5 (List.mem_of_getElem? (i := 104) (by decide +kernel)))
theorem se_X10_ofLot : Cond.selects mX10_ofLot.1.cls mX10_ofLot.1 mX10_ofLot.1 ∈ lw_tbl := List.mem_append_right _ (mt_5 (List.mem_of_getElem? (i := 105) (by decide +kernel)))
theorem pr_X10_ofLot : (parseMethodDescriptor mX10_ofLot.1.desc).map (fun d => d.parameters.length) = some 3 := by decide +kernel
theorem ln_ReturnDeskLaw_126 : Cond.methodLink "ReturnDeskLaw" 126 mX11_ofLot.1 ∈ tables_1 := (mt_8 (List.mem_of_getElem? (i := 39) (by decide +kernel)))
theorem ok_X10_beyond : zMok mX10_beyond := ⟨by decide +kernel, (mt_5 (List.mem_of_getElem? (i := 110) (by decide +kernel))), (mt_1 (List.mem_of_getElem? (i := 1) (by decide +kernel))), by decide +kernel, by decide +kernel, by decide +kernel⟩
theorem ln_ReturnDeskLaw_127 : Cond.methodLink "ReturnDeskLaw" 127 mX10_beyond.1 ∈ tables_1 := (mt_5 (List.mem_of_getElem? (i := 107) (by decide +kernel)))
theorem im_X10_beyond : Cond.instanceMethod mX10_beyond.1 ∈ tables_1 := (mt_5 (List.mem_of_getElem? (i := 108) (by decide +kernel)))
theorem se_X10_beyond : Cond.selects mX10_beyond.1.cls mX10_beyond.1 mX10_beyond.1 ∈ lw_tbl := List.mem_append_right _ (mt_5 (List.mem_of_getElem? (i := 109) (by decide +kernel)))
theorem pr_X10_beyond : (parseMethodDescriptor mX10_beyond.1.desc).map (fun d => d.parameters.length) = some 3 := by decide +kernel
theorem ok_X11_beyond : zMok mX11_beyond := ⟨by decide +kernel, (mt_8 (List.mem_of_getElem? (i := 46) (by decide +kernel))), (mt_1 (List.mem_of_getElem? (i := 7) (by decide +kernel))), by decide +kernel, by decide +kernel, by decide +kernel⟩
theorem ln_ReturnDeskLaw_130 : Cond.methodLink "ReturnDeskLaw" 130 mX11_beyond.1 ∈ tables_1 := (mt_8 (List.mem_of_getElem? (i := 43) (by decide +kernel)))
theorem im_X11_beyond : Cond.instanceMethod mX11_beyond.1 ∈ tables_1 := (mt_8 (List.mem_of_getElem? (i := 44) (by decide +kernel)))
theorem se_X11_beyond : Cond.selects mX11_beyond.1.cls mX11_beyond.1 mX11_beyond.1 ∈ lw_tbl := List.mem_append_right _ (mt_8 (List.mem_of_getElem? (i := 45) (by decide +kernel)))
theorem pr_X11_beyond : (parseMethodDescriptor mX11_beyond.1.desc).map (fun d => d.parameters.length) = some 3 := by decide +kernel
theorem ok_X10_since : zMok mX10_since := ⟨by decide +kernel, (mt_5 (List.mem_of_getElem? (i := 129) (by decide +kernel))), (mt_1 (List.mem_of_getElem? (i := 1) (by decide +kernel))), by decide +kernel, by decide +kernel, by decide +kernel⟩
theorem ln_ReturnDeskLaw_131 : Cond.methodLink "ReturnDeskLaw" 131 mX10_since.1 ∈ tables_1 := (mt_5 (List.mem_of_getElem? (i := 126) (by decide +kernel)))
theorem im_X10_since : Cond.instanceMethod mX10_since.1 ∈ tables_1 := (mt_5 (List.mem_of_getElem? (i := 127) (by decide +kernel)))
theorem se_X10_since : Cond.selects mX10_since.1.cls mX10_since.1 mX10_since.1 ∈ lw_tbl := List.mem_append_right _ (mt_5 (List.mem_of_getElem? (i := 128) (by decide +kernel)))
theorem pr_X10_since : (parseMethodDescriptor mX10_since.1.desc).map (fun d => d.parameters.length) = some 2 := by decide +kernel
theorem ok_X11_since : zMok mX11_since := ⟨by decide +kernel, (mt_8 (List.mem_of_getElem? (i := 64) (by decide +kernel))), (mt_1 (List.mem_of_getElem? (i := 7) (by decide +kernel))), by decide +kernel, by decide +kernel, by decide +kernel⟩
theorem ln_ReturnDeskLaw_134 : Cond.methodLink "ReturnDeskLaw" 134 mX11_since.1 ∈ tables_1 := (mt_8 (List.mem_of_getElem? (i := 61) (by decide +kernel)))
theorem im_X11_since : Cond.instanceMethod mX11_since.1 ∈ tables_1 := (mt_8 (List.mem_of_getElem? (i := 62) (by decide +kernel)))
theorem se_X11_since : Cond.selects mX11_since.1.cls mX11_since.1 mX11_since.1 ∈ lw_tbl := List.mem_append_right _ (mt_8 (List.mem_of_getElem? (i := 63) (by decide +kernel)))
theorem pr_X11_since : (parseMethodDescriptor mX11_since.1.desc).map (fun d => d.parameters.length) = some 2 := by decide +kernel
theorem ok_X10_honest : zMok mX10_honest := ⟨by decide +kernel, (mt_5 (List.mem_of_getElem? (i := 137) (by decide +kernel))), (mt_1 (List.mem_of_getElem? (i := 1) (by decide +kernel))), by decide +kernel, by decide +kernel, by decide +kernel⟩
theorem ln_ReturnDeskLaw_135 : Cond.methodLink "ReturnDeskLaw" 135 mX10_honest.1 ∈ tables_1 := (mt_5 (List.mem_of_getElem? (i := 134) (by decide +kernel)))
theorem im_X10_honest : Cond.instanceMethod mX10_honest.1 ∈ tables_1 := (mt_5 (List.mem_of_getElem? (i := 135) (by decide +kernel)))
theorem se_X10_honest : Cond.selects mX10_honest.1.cls mX10_honest.1 mX10_honest.1 ∈ lw_tbl := List.mem_append_right _ (mt_5 (List.mem_of_getElem? (i := 136) (by decide +kernel)))
theorem pr_X10_honest : (parseMethodDescriptor mX10_honest.1.desc).map (fun d => d.parameters.length) = some 2 := by decide +kernel
theorem ok_X11_honest : zMok mX11_honest := ⟨by decide +kernel, (mt_8 (List.mem_of_getElem? (i := 68) (by decide +kernel))), (mt_1 (List.mem_of_getElem? (i := 7) (by decide +kernel))), by decide +kernel, by decide +kernel, by decide +kernel⟩
theorem ln_ReturnDeskLaw_138 : Cond.methodLink "ReturnDeskLaw" 138 mX11_honest.1 ∈ tables_1 := (mt_8 (List.mem_of_getElem? (i := 65) (by decide +kernel)))
theorem im_X11_honest : Cond.instanceMethod mX11_honest.1 ∈ tables_1 := (mt_8 (List.mem_of_getElem? (i := 66) (by decide +kernel)))
theorem se_X11_honest : Cond.selects mX11_honest.1.cls mX11_honest.1 mX11_honest.1 ∈ lw_tbl := List.mem_append_right _ (mt_8 (List.mem_of_getElem? (i := 67) (by decide +kernel)))
theorem pr_X11_honest : (parseMethodDescriptor mX11_honest.1.desc).map (fun d => d.parameters.length) = some 2 := by decide +kernel
theorem ok_X10_limit : zMok mX10_limit := ⟨by decide +kernel, (mt_5 (List.mem_of_getElem? (i := 141) (by decide +kernel))), (mt_1 (List.mem_of_getElem? (i := 1) (by decide +kernel))), by decide +kernel, by decide +kernel, by decide +kernel⟩
theorem ln_ReturnDeskLaw_139 : Cond.methodLink "ReturnDeskLaw" 139 mX10_limit.1 ∈ tables_1 := (mt_5 (List.mem_of_getElem? (i := 138) (by decide +kernel)))
theorem im_X10_limit : Cond.instanceMethod mX10_limit.1 ∈ tables_1 := (mt_5 (List.mem_of_getElem? (i := 139) (by decide +kernel)))
theorem se_X10_limit : Cond.selects mX10_limit.1.cls mX10_limit.1 mX10_limit.1 ∈ lw_tbl := List.mem_append_right _ (mt_5 (List.mem_of_getElem? (i := 140) (by decide +kernel)))
theorem pr_X10_limit : (parseMethodDescriptor mX10_limit.1.desc).map (fun d => d.parameters.length) = some 0 := by decide +kernel
theorem ok_X11_limit : zMok mX11_limit := ⟨by decide +kernel, (mt_8 (List.mem_of_getElem? (i := 75) (by decide +kernel))), (mt_1 (List.mem_of_getElem? (i := 7) (by decide +kernel))), by decide +kernel, by decide +kernel, by decide +kernel⟩
theorem ln_ReturnDeskLaw_143 : Cond.methodLink "ReturnDeskLaw" 143 mX11_limit.1 ∈ tables_1 := (mt_8 (List.mem_of_getElem? (i := 72) (by decide +kernel)))
theorem im_X11_limit : Cond.instanceMethod mX11_limit.1 ∈ tables_1 := (mt_8 (List.mem_of_getElem? (i := 73) (by decide +kernel)))
theorem se_X11_limit : Cond.selects mX11_limit.1.cls mX11_limit.1 mX11_limit.1 ∈ lw_tbl := List.mem_append_right _ (mt_8 (List.mem_of_getElem? (i := 74) (by decide +kernel)))
theorem pr_X11_limit : (parseMethodDescriptor mX11_limit.1.desc).map (fun d => d.parameters.length) = some 0 := by decide +kernel
theorem ok_X10_tried : zMok mX10_tried := ⟨by decide +kernel, (mt_5 (List.mem_of_getElem? (i := 150) (by decide +kernel))), (mt_1 (List.mem_of_getElem? (i := 1) (by decide +kernel))), by decide +kernel, by decide +kernel, by decide +kernel⟩
theorem ln_ReturnDeskLaw_144 : Cond.methodLink "ReturnDeskLaw" 144 mX10_tried.1 ∈ tables_1 := (mt_5 (List.mem_of_getElem? (i := 147) (by decide +kernel)))
theorem im_X10_tried : Cond.instanceMethod mX10_tried.1 ∈ tables_1 := (mt_5 (List.mem_of_getElem? (i := 148) (by decide +kernel)))
theorem se_X10_tried : Cond.selects mX10_tried.1.cls mX10_tried.1 mX10_tried.1 ∈ lw_tbl := List.mem_append_right _ (mt_5 (List.mem_of_getElem? (i := 149) (by decide +kernel)))
theorem pr_X10_tried : (parseMethodDescriptor mX10_tried.1.desc).map (fun d => d.parameters.length) = some 1 := by decide +kernel
theorem ok_X11_tried : zMok mX11_tried := ⟨by decide +kernel, (mt_8 (List.mem_of_getElem? (i := 87) (by decide +kernel))), (mt_1 (List.mem_of_getElem? (i := 7) (by decide +kernel))), by decide +kernel, by decide +kernel, by decide +kernel⟩
theorem ln_ReturnDeskLaw_147 : Cond.methodLink "ReturnDeskLaw" 147 mX11_tried.1 ∈ tables_1 := (mt_8 (List.mem_of_getElem? (i := 84) (by decide +kernel)))
theorem im_X11_tried : Cond.instanceMethod mX11_tried.1 ∈ tables_1 := (mt_8 (List.mem_of_getElem? (i := 85) (by decide +kernel)))
theorem se_X11_tried : Cond.selects mX11_tried.1.cls mX11_tried.1 mX11_tried.1 ∈ lw_tbl := List.mem_append_right _ (mt_8 (List.mem_of_getElem? (i := 86) (by decide +kernel)))
theorem pr_X11_tried : (parseMethodDescriptor mX11_tried.1.desc).map (fun d => d.parameters.length) = some 1 := by decide +kernel
theorem ok_X10_hits : zMok mX10_hits := ⟨by decide +kernel, (mt_5 (List.mem_of_getElem? (i := 175) (by decide +kernel))), (mt_1 (List.mem_of_getElem? (i := 1) (by decide +kernel))), by decide +kernel, by decide +kernel, by decide +kernel⟩
theorem ln_ReturnDeskLaw_148 : Cond.methodLink "ReturnDeskLaw" 148 mX10_hits.1 ∈ tables_1 := (mt_5 (List.mem_of_getElem? (i := 172) (by decide +kernel)))
theorem im_X10_hits : Cond.instanceMethod mX10_hits.1 ∈ tables_1 := (mt_5 (List.mem_of_getElem? (i := 173) (by decide +kernel)))
theorem se_X10_hits : Cond.selects mX10_hits.1.cls mX10_hits.1 mX10_hits.1 ∈ lw_tbl := List.mem_append_right _ (mt_5 (List.mem_of_getElem? (i := 174) (by decide +kernel)))
theorem pr_X10_hits : (parseMethodDescriptor mX10_hits.1.desc).map (fun d => d.parameters.length) = some 1 := by decide +kernel
theorem ok_X11_hits : zMok mX11_hits := ⟨by decide +kernel, (mt_8 (List.mem_of_getElem? (i := 79) (by decide +kernel))), (mt_1 (List.mem_of_getElem? (i := 7) (by decide +kernel))), by decide +kernel, by decide +kernel, by decide +kernel⟩
theorem ln_ReturnDeskLaw_151 : Cond.methodLink "ReturnDeskLaw" 151 mX11_hits.1 ∈ tables_1 := (mt_8 (List.mem_of_getElem? (i := 76) (by decide +kernel)))
theorem im_X11_hits : Cond.instanceMethod mX11_hits.1 ∈ tables_1 := (mt_8 (List.mem_of_getElem? (i := 77) (by decide +kernel)))
theorem se_X11_hits : Cond.selects mX11_hits.1.cls mX11_hits.1 mX11_hits.1 ∈ lw_tbl := List.mem_append_right _ (mt_8 (List.mem_of_getElem? (i := 78) (by decide +kernel)))
theorem pr_X11_hits : (parseMethodDescriptor mX11_hits.1.desc).map (fun d => d.parameters.length) = some 1 := by decide +kernel
theorem ok_X10_size : zMok mX10_size := ⟨by decide +kernel, (mt_5 (List.mem_of_getElem? (i := 179) (by decide +kernel))), (mt_1 (List.mem_of_getElem? (i := 1) (by decide +kernel))), by decide +kernel, by decide +kernel, by decide +kernel⟩
theorem ln_ReturnDeskLaw_152 : Cond.methodLink "ReturnDeskLaw" 152 mX10_size.1 ∈ tables_1 := (mt_5 (List.mem_of_getElem? (i := 176) (by decide +kernel)))
theorem im_X10_size : Cond.instanceMethod mX10_size.1 ∈ tables_1 := (mt_5 (List.mem_of_getElem? (i := 177) (by decide +kernel)))
theorem se_X10_size : Cond.selects mX10_size.1.cls mX10_size.1 mX10_size.1 ∈ lw_tbl := List.mem_append_right _ (mt_5 (List.mem_of_getElem? (i := 178) (by decide +kernel)))
theorem pr_X10_size : (parseMethodDescriptor mX10_size.1.desc).map (fun d => d.parameters.length) = some 2 := by decide +kernel
theorem ok_X11_size : zMok mX11_size := ⟨by decide +kernel, (mt_8 (List.mem_of_getElem? (i := 95) (by decide +kernel))), (mt_1 (List.mem_of_getElem? (i := 7) (by decide +kernel))), by decide +kernel, by decide +kernel, by decide +kernel⟩
theorem ln_ReturnDeskLaw_155 : Cond.methodLink "ReturnDeskLaw" 155 mX11_size.1 ∈ tables_1 := (mt_8 (List.mem_of_getElem? (i := 92) (by decide +kernel)))
theorem im_X11_size : Cond.instanceMethod mX11_size.1 ∈ tables_1 := (mt_8 (List.mem_of_getElem? (i := 93) (by decide +kernel)))
theorem se_X11_size : Cond.selects mX11_size.1.cls mX11_size.1 mX11_size.1 ∈ lw_tbl := List.mem_append_right _ (mt_8 (List.mem_of_getElem? (i := 94) (by decide +kernel)))
theorem pr_X11_size : (parseMethodDescriptor mX11_size.1.desc).map (fun d => d.parameters.length) = some 2 := by decide +kernel
theorem ok_X10_shift : zMok mX10_shift := ⟨by decide +kernel, (mt_5 (List.mem_of_getElem? (i := 183) (by decide +kernel))), (mt_1 (List.mem_of_getElem? (i := 1) (by decide +kernel))), by decide +kernel, by decide +kernel, by decide +kernel⟩
theorem ln_ReturnDeskLaw_156 : Cond.methodLink "ReturnDeskLaw" 156 mX10_shift.1 ∈ tables_1 := (mt_5 (List.mem_of_getElem? (i := 180) (by decide +kernel)))
theorem im_X10_shift : Cond.instanceMethod mX10_shift.1 ∈ tables_1 := (mt_5 (List.mem_of_getElem? (i := 181) (by decide +kernel)))
theorem se_X10_shift : Cond.selects mX10_shift.1.cls mX10_shift.1 mX10_shift.1 ∈ lw_tbl := List.mem_append_right _ (mt_5 (List.mem_of_getElem? (i := 182) (by decide +kernel)))
theorem pr_X10_shift : (parseMethodDescriptor mX10_shift.1.desc).map (fun d => d.parameters.length) = some 1 := by decide +kernel
theorem ok_X11_shift : zMok mX11_shift := ⟨by decide +kernel, (mt_8 (List.mem_of_getElem? (i := 99) (by decide +kernel))), (mt_1 (List.mem_of_getElem? (i := 7) (by decide +kernel))), by decide +kernel, by decide +kernel, by decide +kernel⟩
theorem ln_ReturnDeskLaw_159 : Cond.methodLink "ReturnDeskLaw" 159 mX11_shift.1 ∈ tables_1 := (mt_8 (List.mem_of_getElem? (i := 96) (by decide +kernel)))
theorem im_X11_shift : Cond.instanceMethod mX11_shift.1 ∈ tables_1 := (mt_8 (List.mem_of_getElem? (i := 97) (by decide +kernel)))
theorem se_X11_shift : Cond.selects mX11_shift.1.cls mX11_shift.1 mX11_shift.1 ∈ lw_tbl := List.mem_append_right _ (mt_8 (List.mem_of_getElem? (i := 98) (by decide +kernel)))
theorem pr_X11_shift : (parseMethodDescriptor mX11_shift.1.desc).map (fun d => d.parameters.length) = some 1 := by decide +kernel
theorem ok_X10_brought : zMok mX10_brought := ⟨by decide +kernel, (mt_5 (List.mem_of_getElem? (i := 191) (by decide +kernel))), (mt_1 (List.mem_of_getElem? (i := 1) (by decide +kernel))), by decide +kernel, by decide +kernel, by decide +kernel⟩
theorem ln_ReturnDeskLaw_160 : Cond.methodLink "ReturnDeskLaw" 160 mX10_brought.1 ∈ tables_1 := (mt_5 (List.mem_of_getElem? (i := 188) (by decide +kernel)))
theorem im_X10_brought : Cond.instanceMethod mX10_brought.1 ∈ tables_1 := (mt_5 (List.mem_of_getElem? (i := 189) (by decide +kernel)))
theorem se_X10_brought : Cond.selects mX10_brought.1.cls mX10_brought.1 mX10_brought.1 ∈ lw_tbl := List.mem_append_right _ (mt_5 (List.mem_of_getElem? (i := 190) (by decide +kernel)))
theorem pr_X10_brought : (parseMethodDescriptor mX10_brought.1.desc).map (fun d => d.parameters.length) = some 2 := by decide +kernel
theorem ok_X11_brought : zMok mX11_brought := ⟨by decide +kernel, (mt_8 (List.mem_of_getElem? (i := 107) (by decide +kernel))), (mt_1 (List.mem_of_getElem? (i := 7) (by decide +kernel))), by decide +kernel, by decide +kernel, by decide +kernel⟩
theorem ln_ReturnDeskLaw_163 : Cond.methodLink "ReturnDeskLaw" 163 mX11_brought.1 ∈ tables_1 := (mt_8 (List.mem_of_getElem? (i := 104) (by decide +kernel)))
theorem im_X11_brought : Cond.instanceMethod mX11_brought.1 ∈ tables_1 := (mt_8 (List.mem_of_getElem? (i := 105) (by decide +kernel)))
theorem se_X11_brought : Cond.selects mX11_brought.1.cls mX11_brought.1 mX11_brought.1 ∈ lw_tbl := List.mem_append_right _ (mt_8 (List.mem_of_getElem? (i := 106) (by decide +kernel)))
theorem pr_X11_brought : (parseMethodDescriptor mX11_brought.1.desc).map (fun d => d.parameters.length) = some 2 := by decide +kernel
theorem ok_X10_damage : zMok mX10_damage := ⟨by decide +kernel, (mt_5 (List.mem_of_getElem? (i := 198) (by decide +kernel))), (mt_1 (List.mem_of_getElem? (i := 1) (by decide +kernel))), by decide +kernel, by decide +kernel, by decide +kernel⟩
theorem ln_ReturnDeskLaw_164 : Cond.methodLink "ReturnDeskLaw" 164 mX10_damage.1 ∈ tables_1 := (mt_5 (List.mem_of_getElem? (i := 195) (by decide +kernel)))
theorem im_X10_damage : Cond.instanceMethod mX10_damage.1 ∈ tables_1 := (mt_5 (List.mem_of_getElem? (i := 196) (by decide +kernel)))
theorem se_X10_damage : Cond.selects mX10_damage.1.cls mX10_damage.1 mX10_damage.1 ∈ lw_tbl := List.mem_append_right _ (mt_5 (List.mem_of_getElem? (i := 197) (by decide +kernel)))
theorem pr_X10_damage : (parseMethodDescriptor mX10_damage.1.desc).map (fun d => d.parameters.length) = some 1 := by decide +kernel
theorem ok_X11_damage : zMok mX11_damage := ⟨by decide +kernel, (mt_8 (List.mem_of_getElem? (i := 111) (by decide +kernel))), (mt_1 (List.mem_of_getElem? (i := 7) (by decide +kernel))), by decide +kernel, by decide +kernel, by decide +kernel⟩
theorem ln_ReturnDeskLaw_167 : Cond.methodLink "ReturnDeskLaw" 167 mX11_damage.1 ∈ tables_1 := (mt_8 (List.mem_of_getElem? (i := 108) (by decide +kernel)))
theorem im_X11_damage : Cond.instanceMethod mX11_damage.1 ∈ tables_1 := (mt_8 (List.mem_of_getElem? (i := 109) (by decide +kernel)))
theorem se_X11_damage : Cond.selects mX11_damage.1.cls mX11_damage.1 mX11_damage.1 ∈ lw_tbl := List.mem_append_right _ (mt_8 (List.mem_of_getElem? (i := 110) (by decide +kernel)))
theorem pr_X11_damage : (parseMethodDescriptor mX11_damage.1.desc).map (fun d => d.parameters.length) = some 1 := by decide +kernel
theorem ok_X10_carrier : zMok mX10_carrier := ⟨by decide +kernel, (mt_5 (List.mem_of_getElem? (i := 202) (by decide +kernel))), (mt_1 (List.mem_of_getElem? (i := 1) (by decide +kernel))), by decide +kernel, by decide +kernel, by decide +kernel⟩
theorem ln_ReturnDeskLaw_168 : Cond.methodLink "ReturnDeskLaw" 168 mX10_carrier.1 ∈ tables_1 := (mt_5 (List.mem_of_getElem? (i := 199) (by decide +kernel)))
theorem im_X10_carrier : Cond.instanceMethod mX10_carrier.1 ∈ tables_1 := (mt_5 (List.mem_of_getElem? (i := 200) (by decide +kernel)))
theorem se_X10_carrier : Cond.selects mX10_carrier.1.cls mX10_carrier.1 mX10_carrier.1 ∈ lw_tbl := List.mem_append_right _ (mt_5 (List.mem_of_getElem? (i := 201) (by decide +kernel)))
theorem pr_X10_carrier : (parseMethodDescriptor mX10_carrier.1.desc).map (fun d => d.parameters.length) = some 2 := by decide +kernel
theorem ok_X11_carrier : zMok mX11_carrier := ⟨by decide +kernel, (mt_8 (List.mem_of_getElem? (i := 115) (by decide +kernel))), (mt_1 (List.mem_of_getElem? (i := 7) (by decide +kernel))), by decide +kernel, by decide +kernel, by decide +kernel⟩
theorem ln_ReturnDeskLaw_171 : Cond.methodLink "ReturnDeskLaw" 171 mX11_carrier.1 ∈ tables_1 := (mt_8 (List.mem_of_getElem? (i := 112) (by decide +kernel)))
theorem im_X11_carrier : Cond.instanceMethod mX11_carrier.1 ∈ tables_1 := (mt_8 (List.mem_of_getElem? (i := 113) (by decide +kernel)))
theorem se_X11_carrier : Cond.selects mX11_carrier.1.cls mX11_carrier.1 mX11_carrier.1 ∈ lw_tbl := List.mem_append_right _ (mt_8 (List.mem_of_getElem? (i := 114) (by decide +kernel)))
theorem pr_X11_carrier : (parseMethodDescriptor mX11_carrier.1.desc).map (fun d => d.parameters.length) = some 2 := by decide +kernel
theorem ok_X10_count : zMok mX10_count := ⟨by decide +kernel, (mt_5 (List.mem_of_getElem? (i := 206) (by decide +kernel))), (mt_1 (List.mem_of_getElem? (i := 1) (by decide +kernel))), by decide +kernel, by decide +kernel, by decide +kernel⟩
theorem ln_ReturnDeskLaw_172 : Cond.methodLink "ReturnDeskLaw" 172 mX10_count.1 ∈ tables_1 := (mt_5 (List.mem_of_getElem? (i := 203) (by decide +kernel)))
theorem im_X10_count : Cond.instanceMethod mX10_count.1 ∈ tables_1 := (mt_5 (List.mem_of_getElem? (i := 204) (by decide +kernel)))
theorem se_X10_count : Cond.selects mX10_count.1.cls mX10_count.1 mX10_count.1 ∈ lw_tbl := List.mem_append_right _ (mt_5 (List.mem_of_getElem? (i := 205) (by decide +kernel)))
theorem pr_X10_count : (parseMethodDescriptor mX10_count.1.desc).map (fun d => d.parameters.length) = some 1 := by decide +kernel
theorem ok_X11_count : zMok mX11_count := ⟨by decide +kernel, (mt_8 (List.mem_of_getElem? (i := 119) (by decide +kernel))), (mt_1 (List.mem_of_getElem? (i := 7) (by decide +kernel))), by decide +kernel, by decide +kernel, by decide +kernel⟩
theorem ln_ReturnDeskLaw_175 : Cond.methodLink "ReturnDeskLaw" 175 mX11_count.1 ∈ tables_1 := (mt_8 (List.mem_of_getElem? (i := 116) (by decide +kernel)))
theorem im_X11_count : Cond.instanceMethod mX11_count.1 ∈ tables_1 := (mt_8 (List.mem_of_getElem? (i := 117) (by decide +kernel)))
theorem se_X11_count : Cond.selects mX11_count.1.cls mX11_count.1 mX11_count.1 ∈ lw_tbl := List.mem_append_right _ (mt_8 (List.mem_of_getElem? (i := 118) (by decide +kernel)))
theorem pr_X11_count : (parseMethodDescriptor mX11_count.1.desc).map (fun d => d.parameters.length) = some 1 := by decide +kernel
