theorem zq61 : zwM zmt zm61 = [127, 851, 852, 217, 854].filterMap (fun p => lw_tbl[p]?) := by decide +kernel
theorem zg61 : ((zwM zmt zm61).all goodWord && zbM zmt zm61) = true := by decide +kernel
theorem zd61 : ∀ r ∈ ze61, ∀ e ∈ r, decode cX10_begin e.1 = .ok (e.2.1, zlen e.2.1 e.2.2.1) := by decide +kernel
theorem zc61 : lw_tbl[853]? = some (Cond.code zm61.1 zm61.2.1 zm61.2.2.1 zm61.2.2.2.1) := by decide +kernel
theorem zo61 : zokM zm61 := by
  have h := Bool.and_eq_true .. ▸ zg61
  exact zM_ok (zin_of _ zq61 h.1) h.2 zd61 (fun _ => List.mem_filter.mpr ⟨List.mem_of_getElem? zc61, rfl⟩)
theorem zq62 : zwM zmt zm62 = [127, 962, 963, 216, 217].filterMap (fun p => lw_tbl[p]?) := by decide +kernel
theorem zg62 : ((zwM zmt zm62).all goodWord && zbM zmt zm62) = true := by decide +kernel
theorem zd62 : ∀ r ∈ ze62, ∀ e ∈ r, decode cX10_empty e.1 = .ok (e.2.1, zlen e.2.1 e.2.2.1) := by decide +kernel
theorem zc62 : lw_tbl[964]? = some (Cond.code zm62.1 zm62.2.1 zm62.2.2.1 zm62.2.2.2.1) := by decide +kernel
theorem zo62 : zokM zm62 := by
  have h := Bool.and_eq_true .. ▸ zg62
  exact zM_ok (zin_of _ zq62 h.1) h.2 zd62 (fun _ => List.mem_filter.mpr ⟨List.mem_of_getElem? zc62, rfl⟩)
theorem zq63 : zwM zmt zm63 = [127, 855, 856, 217, 216, 217, 218, 222, 218, 216, 218, 216, 221].filterMap (fun p => lw_tbl[p]?) := by decide +kernel
theorem zg63 : ((zwM zmt zm63).all goodWord && zbM zmt zm63) = true := by decide +kernel
theorem zd63 : ∀ r ∈ ze63, ∀ e ∈ r, decode cX10_advance e.1 = .ok (e.2.1, zlen e.2.1 e.2.2.1) := by decide +kernel
theorem zc63 : lw_tbl[857]? = some (Cond.code zm63.1 zm63.2.1 zm63.2.2.1 zm63.2.2.2.1) := by decide +kernel
theorem zo63 : zokM zm63 := by
  have h := Bool.and_eq_true .. ▸ zg63
  exact zM_ok (zin_of _ zq63 h.1) h.2 zd63 (fun _ => List.mem_filter.mpr ⟨List.mem_of_getElem? zc63, rfl⟩)
theorem zq64 : zwM zmt zm64 = [126, 152, 154, 157, 158, 127, 159, 768, 252, 253, 132, 254, 769, 252, 253, 132, 254, 770, 336, 337, 133, 771, 336, 337, 133, 772, 357, 358, 134, 768, 769, 771, 359, 773, 390, 391, 135, 774, 390, 775, 390, 778, 335, 779, 540, 541, 137, 780, 564, 565, 138, 781, 619, 620, 139, 780, 781, 621, 782, 688, 689, 140, 780, 781, 690, 783, 724, 725, 141, 784, 334, 785, 774, 769, 748].filterMap (fun p => lw_tbl[p]?) := by decide +kernel
theorem zg64 : ((zwM zmt zm64).all goodWord && zbM zmt zm64) = true := by decide +kernel
theorem zd64 : ∀ r ∈ ze64, ∀ e ∈ r, decode cX11_init e.1 = .ok (e.2.1, zlen e.2.1 e.2.2.1) := by decide +kernel
theorem zc64 : lw_tbl[153]? = some (Cond.code zm64.1 zm64.2.1 zm64.2.2.1 zm64.2.2.2.1) := by decide +kernel
theorem zo64 : zokM zm64 := by
  have h := Bool.and_eq_true .. ▸ zg64
  exact zM_ok (zin_of _ zq64 h.1) h.2 zd64 (fun _ => List.mem_filter.mpr ⟨List.mem_of_getElem? zc64, rfl⟩)
theorem zq65 : zwM zmt zm65 = [126, 835, 836, 773, 770, 838, 769, 770, 769, 770, 771, 965, 779, 782, 969, 774, 769, 748, 973].filterMap (fun p => lw_tbl[p]?) := by decide +kernel
theorem zg65 : ((zwM zmt zm65).all goodWord && zbM zmt zm65) = true := by decide +kernel
theorem zd65 : ∀ r ∈ ze65, ∀ e ∈ r, decode cX11_table e.1 = .ok (e.2.1, zlen e.2.1 e.2.2.1) := by decide +kernel
theorem zc65 : lw_tbl[837]? = some (Cond.code zm65.1 zm65.2.1 zm65.2.2.1 zm65.2.2.2.1) := by decide +kernel
theorem zo65 : zokM zm65 := by
  have h := Bool.and_eq_true .. ▸ zg65
  exact zM_ok (zin_of _ zq65 h.1) h.2 zd65 (fun _ => List.mem_filter.mpr ⟨List.mem_of_getElem? zc65, rfl⟩)
theorem zq66 : zwM zmt zm66 = [126, 986, 987, 773, 769, 989, 774, 773, 365, 773, 367, 773, 367, 1009, 774, 769, 1014, 973].filterMap (fun p => lw_tbl[p]?) := by decide +kernel
theorem zg66 : ((zwM zmt zm66).all goodWord && zbM zmt zm66) = true := by decide +kernel
theorem zd66 : ∀ r ∈ ze66, ∀ e ∈ r, decode cX11_deal e.1 = .ok (e.2.1, zlen e.2.1 e.2.2.1) := by decide +kernel
theorem zc66 : lw_tbl[988]? = some (Cond.code zm66.1 zm66.2.1 zm66.2.2.1 zm66.2.2.2.1) := by decide +kernel
theorem zo66 : zokM zm66 := by
  have h := Bool.and_eq_true .. ▸ zg66
  exact zM_ok (zin_of _ zq66 h.1) h.2 zd66 (fun _ => List.mem_filter.mpr ⟨List.mem_of_getElem? zc66, rfl⟩)
theorem zq67 : zwM zmt zm67 = [126, 1016, 1017, 773, 769, 772, 1019, 771, 772, 771, 772].filterMap (fun p => lw_tbl[p]?) := by decide +kernel
theorem zg67 : ((zwM zmt zm67).all goodWord && zbM zmt zm67) = true := by decide +kernel
theorem zd67 : ∀ r ∈ ze67, ∀ e ∈ r, decode cX11_book e.1 = .ok (e.2.1, zlen e.2.1 e.2.2.1) := by decide +kernel
theorem zc67 : lw_tbl[1018]? = some (Cond.code zm67.1 zm67.2.1 zm67.2.2.1 zm67.2.2.2.1) := by decide +kernel
theorem zo67 : zokM zm67 := by
  have h := Bool.and_eq_true .. ▸ zg67
  exact zM_ok (zin_of _ zq67 h.1) h.2 zd67 (fun _ => List.mem_filter.mpr ⟨List.mem_of_getElem? zc67, rfl⟩)
theorem zq68 : zwM zmt zm68 = [126, 1037, 1038, 769, 259].filterMap (fun p => lw_tbl[p]?) := by decide +kernel
theorem zg68 : ((zwM zmt zm68).all goodWord && zbM zmt zm68) = true := by decide +kernel
theorem zd68 : ∀ r ∈ ze68, ∀ e ∈ r, decode cX11_kind e.1 = .ok (e.2.1, zlen e.2.1 e.2.2.1) := by decide +kernel
theorem zc68 : lw_tbl[1039]? = some (Cond.code zm68.1 zm68.2.1 zm68.2.2.1 zm68.2.2.2.1) := by decide +kernel
theorem zo68 : zokM zm68 := by
  have h := Bool.and_eq_true .. ▸ zg68
  exact zM_ok (zin_of _ zq68 h.1) h.2 zd68 (fun _ => List.mem_filter.mpr ⟨List.mem_of_getElem? zc68, rfl⟩)
theorem zq69 : zwM zmt zm69 = [126, 1053, 1054, 1056, 774, 484, 409].filterMap (fun p => lw_tbl[p]?) := by decide +kernel
theorem zg69 : ((zwM zmt zm69).all goodWord && zbM zmt zm69) = true := by decide +kernel
theorem zd69 : ∀ r ∈ ze69, ∀ e ∈ r, decode cX11_card e.1 = .ok (e.2.1, zlen e.2.1 e.2.2.1) := by decide +kernel
theorem zc69 : lw_tbl[1055]? = some (Cond.code zm69.1 zm69.2.1 zm69.2.2.1 zm69.2.2.2.1) := by decide +kernel
theorem zo69 : zokM zm69 := by
  have h := Bool.and_eq_true .. ▸ zg69
  exact zM_ok (zin_of _ zq69 h.1) h.2 zd69 (fun _ => List.mem_filter.mpr ⟨List.mem_of_getElem? zc69, rfl⟩)
theorem zq70 : zwM zmt zm70 = [126, 1061, 1062, 774, 484, 421].filterMap (fun p => lw_tbl[p]?) := by decide +kernel
theorem zg70 : ((zwM zmt zm70).all goodWord && zbM zmt zm70) = true := by decide +kernel
theorem zd70 : ∀ r ∈ ze70, ∀ e ∈ r, decode cX11_heap e.1 = .ok (e.2.1, zlen e.2.1 e.2.2.1) := by decide +kernel
theorem zc70 : lw_tbl[1063]? = some (Cond.code zm70.1 zm70.2.1 zm70.2.2.1 zm70.2.2.2.1) := by decide +kernel
theorem zo70 : zokM zm70 := by
  have h := Bool.and_eq_true .. ▸ zg70
  exact zM_ok (zin_of _ zq70 h.1) h.2 zd70 (fun _ => List.mem_filter.mpr ⟨List.mem_of_getElem? zc70, rfl⟩)
theorem zq71 : zwM zmt zm71 = [126, 1065, 1066, 774, 1068].filterMap (fun p => lw_tbl[p]?) := by decide +kernel
theorem zg71 : ((zwM zmt zm71).all goodWord && zbM zmt zm71) = true := by decide +kernel
theorem zd71 : ∀ r ∈ ze71, ∀ e ∈ r, decode cX11_taken e.1 = .ok (e.2.1, zlen e.2.1 e.2.2.1) := by decide +kernel
theorem zc71 : lw_tbl[1067]? = some (Cond.code zm71.1 zm71.2.1 zm71.2.2.1 zm71.2.2.2.1) := by decide +kernel
theorem zo71 : zokM zm71 := by
  have h := Bool.and_eq_true .. ▸ zg71
  exact zM_ok (zin_of _ zq71 h.1) h.2 zd71 (fun _ => List.mem_filter.mpr ⟨List.mem_of_getElem? zc71, rfl⟩)
theorem zq72 : zwM zmt zm72 = [126, 1073, 1074, 774, 484, 447, 1076, 774, 769, 278, 1096, 977].filterMap (fun p => lw_tbl[p]?) := by decide +kernel
theorem zg72 : ((zwM zmt zm72).all goodWord && zbM zmt zm72) = true := by decide +kernel
theorem zd72 : ∀ r ∈ ze72, ∀ e ∈ r, decode cX11_turn e.1 = .ok (e.2.1, zlen e.2.1 e.2.2.1) := by decide +kernel
theorem zc72 : lw_tbl[1075]? = some (Cond.code zm72.1 zm72.2.1 zm72.2.2.1 zm72.2.2.2.1) := by decide +kernel
theorem zo72 : zokM zm72 := by
  have h := Bool.and_eq_true .. ▸ zg72
  exact zM_ok (zin_of _ zq72 h.1) h.2 zd72 (fun _ => List.mem_filter.mpr ⟨List.mem_of_getElem? zc72, rfl⟩)
theorem zq73 : zwM zmt zm73 = [126, 1145, 1146, 774, 1148, 1076, 774, 769, 278, 1152, 977].filterMap (fun p => lw_tbl[p]?) := by decide +kernel
theorem zg73 : ((zwM zmt zm73).all goodWord && zbM zmt zm73) = true := by decide +kernel
theorem zd73 : ∀ r ∈ ze73, ∀ e ∈ r, decode cX11_slip e.1 = .ok (e.2.1, zlen e.2.1 e.2.2.1) := by decide +kernel
theorem zc73 : lw_tbl[1147]? = some (Cond.code zm73.1 zm73.2.1 zm73.2.2.1 zm73.2.2.2.1) := by decide +kernel
theorem zo73 : zokM zm73 := by
  have h := Bool.and_eq_true .. ▸ zg73
  exact zM_ok (zin_of _ zq73 h.1) h.2 zd73 (fun _ => List.mem_filter.mpr ⟨List.mem_of_getElem? zc73, rfl⟩)
