theorem zq15 : zwM zmt zm15 = [135, 1081, 1082, 483, 483, 1084, 485, 485, 1095, 487, 487, 487, 487, 489, 489, 491, 491, 1095, 492, 492, 493, 493, 494, 494, 1095, 495, 495, 496, 496, 1095, 497, 497, 499, 499, 1095, 500, 500, 1095, 501, 501, 1095, 502, 502, 504, 504].filterMap (fun p => lw_tbl[p]?) := by decide +kernel
theorem zg15 : ((zwM zmt zm15).all goodWord && zbM zmt zm15) = true := by decide +kernel
theorem zd15 : ∀ r ∈ ze15, ∀ e ∈ r, decode cX2_copyFrom e.1 = .ok (e.2.1, zlen e.2.1 e.2.2.1) := by decide +kernel
theorem zc15 : lw_tbl[1083]? = some (Cond.code zm15.1 zm15.2.1 zm15.2.2.1 zm15.2.2.2.1) := by decide +kernel
theorem zo15 : zokM zm15 := by
  have h := Bool.and_eq_true .. ▸ zg15
  exact zM_ok (zin_of _ zq15 h.1) h.2 zd15 (fun _ => List.mem_filter.mpr ⟨List.mem_of_getElem? zc15, rfl⟩)
theorem zq16 : zwM zmt zm16 = [135, 1069, 1070, 493].filterMap (fun p => lw_tbl[p]?) := by decide +kernel
theorem zg16 : ((zwM zmt zm16).all goodWord && zbM zmt zm16) = true := by decide +kernel
theorem zd16 : ∀ r ∈ ze16, ∀ e ∈ r, decode cX2_keptHeap e.1 = .ok (e.2.1, zlen e.2.1 e.2.2.1) := by decide +kernel
theorem zc16 : lw_tbl[1071]? = some (Cond.code zm16.1 zm16.2.1 zm16.2.2.1 zm16.2.2.2.1) := by decide +kernel
theorem zo16 : zokM zm16 := by
  have h := Bool.and_eq_true .. ▸ zg16
  exact zM_ok (zin_of _ zq16 h.1) h.2 zd16 (fun _ => List.mem_filter.mpr ⟨List.mem_of_getElem? zc16, rfl⟩)
theorem zq17 : zwM zmt zm17 = [135, 1097, 1098, 483, 446, 483, 1100, 1116].filterMap (fun p => lw_tbl[p]?) := by decide +kernel
theorem zg17 : ((zwM zmt zm17).all goodWord && zbM zmt zm17) = true := by decide +kernel
theorem zd17 : ∀ r ∈ ze17, ∀ e ∈ r, decode cX2_turnByHand e.1 = .ok (e.2.1, zlen e.2.1 e.2.2.1) := by decide +kernel
theorem zc17 : lw_tbl[1099]? = some (Cond.code zm17.1 zm17.2.1 zm17.2.2.1 zm17.2.2.2.1) := by decide +kernel
theorem zo17 : zokM zm17 := by
  have h := Bool.and_eq_true .. ▸ zg17
  exact zM_ok (zin_of _ zq17 h.1) h.2 zd17 (fun _ => List.mem_filter.mpr ⟨List.mem_of_getElem? zc17, rfl⟩)
theorem zq18 : zwM zmt zm18 = [135, 1149, 1150, 483, 446, 483, 411, 483, 425, 483, 450].filterMap (fun p => lw_tbl[p]?) := by decide +kernel
theorem zg18 : ((zwM zmt zm18).all goodWord && zbM zmt zm18) = true := by decide +kernel
theorem zd18 : ∀ r ∈ ze18, ∀ e ∈ r, decode cX2_canSlip e.1 = .ok (e.2.1, zlen e.2.1 e.2.2.1) := by decide +kernel
theorem zc18 : lw_tbl[1151]? = some (Cond.code zm18.1 zm18.2.1 zm18.2.2.1 zm18.2.2.2.1) := by decide +kernel
theorem zo18 : zokM zm18 := by
  have h := Bool.and_eq_true .. ▸ zg18
  exact zM_ok (zin_of _ zq18 h.1) h.2 zd18 (fun _ => List.mem_filter.mpr ⟨List.mem_of_getElem? zc18, rfl⟩)
theorem zq19 : zwM zmt zm19 = [135, 1153, 1154, 483, 450].filterMap (fun p => lw_tbl[p]?) := by decide +kernel
theorem zg19 : ((zwM zmt zm19).all goodWord && zbM zmt zm19) = true := by decide +kernel
theorem zd19 : ∀ r ∈ ze19, ∀ e ∈ r, decode cX2_doSlip e.1 = .ok (e.2.1, zlen e.2.1 e.2.2.1) := by decide +kernel
theorem zc19 : lw_tbl[1155]? = some (Cond.code zm19.1 zm19.2.1 zm19.2.2.1 zm19.2.2.2.1) := by decide +kernel
theorem zo19 : zokM zm19 := by
  have h := Bool.and_eq_true .. ▸ zg19
  exact zM_ok (zin_of _ zq19 h.1) h.2 zd19 (fun _ => List.mem_filter.mpr ⟨List.mem_of_getElem? zc19, rfl⟩)
theorem zq20 : zwM zmt zm20 = [135, 1387, 1388, 502, 499, 502, 500, 502, 501, 502, 502, 502, 504, 504].filterMap (fun p => lw_tbl[p]?) := by decide +kernel
theorem zg20 : ((zwM zmt zm20).all goodWord && zbM zmt zm20) = true := by decide +kernel
theorem zd20 : ∀ r ∈ ze20, ∀ e ∈ r, decode cX2_layBet e.1 = .ok (e.2.1, zlen e.2.1 e.2.2.1) := by decide +kernel
theorem zc20 : lw_tbl[1389]? = some (Cond.code zm20.1 zm20.2.1 zm20.2.2.1 zm20.2.2.2.1) := by decide +kernel
theorem zo20 : zokM zm20 := by
  have h := Bool.and_eq_true .. ▸ zg20
  exact zM_ok (zin_of _ zq20 h.1) h.2 zd20 (fun _ => List.mem_filter.mpr ⟨List.mem_of_getElem? zc20, rfl⟩)
theorem zq21 : zwM zmt zm21 = [135, 1118, 29, 502].filterMap (fun p => lw_tbl[p]?) := by decide +kernel
theorem zg21 : ((zwM zmt zm21).all goodWord && zbM zmt zm21) = true := by decide +kernel
theorem zd21 : ∀ r ∈ ze21, ∀ e ∈ r, decode cX2_payBets e.1 = .ok (e.2.1, zlen e.2.1 e.2.2.1) := by decide +kernel
theorem zc21 : lw_tbl[1119]? = some (Cond.code zm21.1 zm21.2.1 zm21.2.2.1 zm21.2.2.2.1) := by decide +kernel
theorem zo21 : zokM zm21 := by
  have h := Bool.and_eq_true .. ▸ zg21
  exact zM_ok (zin_of _ zq21 h.1) h.2 zd21 (fun _ => List.mem_filter.mpr ⟨List.mem_of_getElem? zc21, rfl⟩)
theorem zq22 : zwM zmt zm22 = [141, 727, 729, 334, 730, 735].filterMap (fun p => lw_tbl[p]?) := by decide +kernel
theorem zg22 : ((zwM zmt zm22).all goodWord && zbM zmt zm22) = true := by decide +kernel
theorem zd22 : ∀ r ∈ ze22, ∀ e ∈ r, decode cX3_init e.1 = .ok (e.2.1, zlen e.2.1 e.2.2.1) := by decide +kernel
theorem zc22 : lw_tbl[728]? = some (Cond.code zm22.1 zm22.2.1 zm22.2.2.1 zm22.2.2.2.1) := by decide +kernel
theorem zo22 : zokM zm22 := by
  have h := Bool.and_eq_true .. ▸ zg22
  exact zM_ok (zin_of _ zq22 h.1) h.2 zd22 (fun _ => List.mem_filter.mpr ⟨List.mem_of_getElem? zc22, rfl⟩)
theorem zq23 : zwM zmt zm23 = [141, 982, 983, 735, 736].filterMap (fun p => lw_tbl[p]?) := by decide +kernel
theorem zg23 : ((zwM zmt zm23).all goodWord && zbM zmt zm23) = true := by decide +kernel
theorem zd23 : ∀ r ∈ ze23, ∀ e ∈ r, decode cX3_forget e.1 = .ok (e.2.1, zlen e.2.1 e.2.2.1) := by decide +kernel
theorem zc23 : lw_tbl[984]? = some (Cond.code zm23.1 zm23.2.1 zm23.2.2.1 zm23.2.2.2.1) := by decide +kernel
theorem zo23 : zokM zm23 := by
  have h := Bool.and_eq_true .. ▸ zg23
  exact zM_ok (zin_of _ zq23 h.1) h.2 zd23 (fun _ => List.mem_filter.mpr ⟨List.mem_of_getElem? zc23, rfl⟩)
theorem zq24 : zwM zmt zm24 = [141, 1400, 1401, 736, 736, 735, 1403, 736, 1411, 736, 736, 735, 735].filterMap (fun p => lw_tbl[p]?) := by decide +kernel
theorem zg24 : ((zwM zmt zm24).all goodWord && zbM zmt zm24) = true := by decide +kernel
theorem zd24 : ∀ r ∈ ze24, ∀ e ∈ r, decode cX3_fewestHeaps e.1 = .ok (e.2.1, zlen e.2.1 e.2.2.1) := by decide +kernel
theorem zc24 : lw_tbl[1402]? = some (Cond.code zm24.1 zm24.2.1 zm24.2.2.1 zm24.2.2.2.1) := by decide +kernel
theorem zo24 : zokM zm24 := by
  have h := Bool.and_eq_true .. ▸ zg24
  exact zM_ok (zin_of _ zq24 h.1) h.2 zd24 (fun _ => List.mem_filter.mpr ⟨List.mem_of_getElem? zc24, rfl⟩)
theorem zq25 : zwM zmt zm25 = [141, 1430, 1431, 1403, 1433, 1434].filterMap (fun p => lw_tbl[p]?) := by decide +kernel
theorem zg25 : ((zwM zmt zm25).all goodWord && zbM zmt zm25) = true := by decide +kernel
theorem zd25 : ∀ r ∈ ze25, ∀ e ∈ r, decode cX3_winsAgainstAny e.1 = .ok (e.2.1, zlen e.2.1 e.2.2.1) := by decide +kernel
theorem zc25 : lw_tbl[1432]? = some (Cond.code zm25.1 zm25.2.1 zm25.2.2.1 zm25.2.2.2.1) := by decide +kernel
theorem zo25 : zokM zm25 := by
  have h := Bool.and_eq_true .. ▸ zg25
  exact zM_ok (zin_of _ zq25 h.1) h.2 zd25 (fun _ => List.mem_filter.mpr ⟨List.mem_of_getElem? zc25, rfl⟩)
theorem zq26 : zwM zmt zm26 = [141, 1405, 50, 734, 1407, 734, 734, 1407, 397, 136, 734, 1410].filterMap (fun p => lw_tbl[p]?) := by decide +kernel
theorem zg26 : ((zwM zmt zm26).all goodWord && zbM zmt zm26) = true := by decide +kernel
theorem zd26 : ∀ r ∈ ze26, ∀ e ∈ r, decode cX3_begin e.1 = .ok (e.2.1, zlen e.2.1 e.2.2.1) := by decide +kernel
theorem zc26 : lw_tbl[1406]? = some (Cond.code zm26.1 zm26.2.1 zm26.2.2.1 zm26.2.2.2.1) := by decide +kernel
theorem zo26 : zokM zm26 := by
  have h := Bool.and_eq_true .. ▸ zg26
  exact zM_ok (zin_of _ zq26 h.1) h.2 zd26 (fun _ => List.mem_filter.mpr ⟨List.mem_of_getElem? zc26, rfl⟩)
theorem zq27 : zwM zmt zm27 = [141, 1413, 51, 734, 1415, 732, 445].filterMap (fun p => lw_tbl[p]?) := by decide +kernel
theorem zg27 : ((zwM zmt zm27).all goodWord && zbM zmt zm27) = true := by decide +kernel
theorem zd27 : ∀ r ∈ ze27, ∀ e ∈ r, decode cX3_canWin e.1 = .ok (e.2.1, zlen e.2.1 e.2.2.1) := by decide +kernel
theorem zc27 : lw_tbl[1414]? = some (Cond.code zm27.1 zm27.2.1 zm27.2.2.1 zm27.2.2.2.1) := by decide +kernel
theorem zo27 : zokM zm27 := by
  have h := Bool.and_eq_true .. ▸ zg27
  exact zM_ok (zin_of _ zq27 h.1) h.2 zd27 (fun _ => List.mem_filter.mpr ⟨List.mem_of_getElem? zc27, rfl⟩)
theorem zq28 : zwM zmt zm28 = [141, 1436, 53, 734, 1415, 445].filterMap (fun p => lw_tbl[p]?) := by decide +kernel
theorem zg28 : ((zwM zmt zm28).all goodWord && zbM zmt zm28) = true := by decide +kernel
theorem zd28 : ∀ r ∈ ze28, ∀ e ∈ r, decode cX3_winsHowever e.1 = .ok (e.2.1, zlen e.2.1 e.2.2.1) := by decide +kernel
theorem zc28 : lw_tbl[1437]? = some (Cond.code zm28.1 zm28.2.1 zm28.2.2.1 zm28.2.2.2.1) := by decide +kernel
theorem zo28 : zokM zm28 := by
  have h := Bool.and_eq_true .. ▸ zg28
  exact zM_ok (zin_of _ zq28 h.1) h.2 zd28 (fun _ => List.mem_filter.mpr ⟨List.mem_of_getElem? zc28, rfl⟩)
theorem zq29 : zwM zmt zm29 = [140, 691, 693, 334, 694, 334, 701, 334, 702, 334, 703, 699, 700].filterMap (fun p => lw_tbl[p]?) := by decide +kernel
theorem zg29 : ((zwM zmt zm29).all goodWord && zbM zmt zm29) = true := by decide +kernel
theorem zd29 : ∀ r ∈ ze29, ∀ e ∈ r, decode cX4_init e.1 = .ok (e.2.1, zlen e.2.1 e.2.2.1) := by decide +kernel
theorem zc29 : lw_tbl[692]? = some (Cond.code zm29.1 zm29.2.1 zm29.2.2.1 zm29.2.2.2.1) := by decide +kernel
theorem zo29 : zokM zm29 := by
  have h := Bool.and_eq_true .. ▸ zg29
  exact zM_ok (zin_of _ zq29 h.1) h.2 zd29 (fun _ => List.mem_filter.mpr ⟨List.mem_of_getElem? zc29, rfl⟩)
