theorem zq30 : zwM zmt zm30 = [140, 1343, 1344, 696, 696, 1346, 699, 701, 1352, 698, 698, 1353, 698].filterMap (fun p => lw_tbl[p]?) := by decide +kernel
theorem zg30 : ((zwM zmt zm30).all goodWord && zbM zmt zm30) = true := by decide +kernel
theorem zd30 : ∀ r ∈ ze30, ∀ e ∈ r, decode cX4_find e.1 = .ok (e.2.1, zlen e.2.1 e.2.2.1) := by decide +kernel
theorem zc30 : lw_tbl[1345]? = some (Cond.code zm30.1 zm30.2.1 zm30.2.2.1 zm30.2.2.2.1) := by decide +kernel
theorem zo30 : zokM zm30 := by
  have h := Bool.and_eq_true .. ▸ zg30
  exact zM_ok (zin_of _ zq30 h.1) h.2 zd30 (fun _ => List.mem_filter.mpr ⟨List.mem_of_getElem? zc30, rfl⟩)
theorem zq31 : zwM zmt zm31 = [140, 1348, 47, 704, 701, 407].filterMap (fun p => lw_tbl[p]?) := by decide +kernel
theorem zg31 : ((zwM zmt zm31).all goodWord && zbM zmt zm31) = true := by decide +kernel
theorem zd31 : ∀ r ∈ ze31, ∀ e ∈ r, decode cX4_collect e.1 = .ok (e.2.1, zlen e.2.1 e.2.2.1) := by decide +kernel
theorem zc31 : lw_tbl[1349]? = some (Cond.code zm31.1 zm31.2.1 zm31.2.2.1 zm31.2.2.2.1) := by decide +kernel
theorem zo31 : zokM zm31 := by
  have h := Bool.and_eq_true .. ▸ zg31
  exact zM_ok (zin_of _ zq31 h.1) h.2 zd31 (fun _ => List.mem_filter.mpr ⟨List.mem_of_getElem? zc31, rfl⟩)
theorem zq32 : zwM zmt zm32 = [140, 1355, 48, 694, 694, 694, 699, 701, 1357, 700, 573, 1358, 704, 700, 277, 286, 1360, 700, 577, 694, 700, 577, 694, 699, 1361].filterMap (fun p => lw_tbl[p]?) := by decide +kernel
theorem zg32 : ((zwM zmt zm32).all goodWord && zbM zmt zm32) = true := by decide +kernel
theorem zd32 : ∀ r ∈ ze32, ∀ e ∈ r, decode cX4_playAll e.1 = .ok (e.2.1, zlen e.2.1 e.2.2.1) := by decide +kernel
theorem zc32 : lw_tbl[1356]? = some (Cond.code zm32.1 zm32.2.1 zm32.2.2.1 zm32.2.2.2.1) := by decide +kernel
theorem zo32 : zokM zm32 := by
  have h := Bool.and_eq_true .. ▸ zg32
  exact zM_ok (zin_of _ zq32 h.1) h.2 zd32 (fun _ => List.mem_filter.mpr ⟨List.mem_of_getElem? zc32, rfl⟩)
theorem zq33 : zwM zmt zm33 = [136, 399, 401, 334, 402, 334, 405, 334, 406, 334, 413, 334, 416, 334, 418, 443].filterMap (fun p => lw_tbl[p]?) := by decide +kernel
theorem zg33 : ((zwM zmt zm33).all goodWord && zbM zmt zm33) = true := by decide +kernel
theorem zd33 : ∀ r ∈ ze33, ∀ e ∈ r, decode cX5_init e.1 = .ok (e.2.1, zlen e.2.1 e.2.2.1) := by decide +kernel
theorem zc33 : lw_tbl[400]? = some (Cond.code zm33.1 zm33.2.1 zm33.2.2.1 zm33.2.2.2.1) := by decide +kernel
theorem zo33 : zokM zm33 := by
  have h := Bool.and_eq_true .. ▸ zg33
  exact zM_ok (zin_of _ zq33 h.1) h.2 zd33 (fun _ => List.mem_filter.mpr ⟨List.mem_of_getElem? zc33, rfl⟩)
theorem zq34 : zwM zmt zm34 = [136, 757, 758, 418, 405, 405, 406, 406, 420, 423, 427, 429, 433, 437, 441, 443, 449].filterMap (fun p => lw_tbl[p]?) := by decide +kernel
theorem zg34 : ((zwM zmt zm34).all goodWord && zbM zmt zm34) = true := by decide +kernel
theorem zd34 : ∀ r ∈ ze34, ∀ e ∈ r, decode cX5_start e.1 = .ok (e.2.1, zlen e.2.1 e.2.2.1) := by decide +kernel
theorem zc34 : lw_tbl[759]? = some (Cond.code zm34.1 zm34.2.1 zm34.2.2.1 zm34.2.2.2.1) := by decide +kernel
theorem zo34 : zokM zm34 := by
  have h := Bool.and_eq_true .. ▸ zg34
  exact zM_ok (zin_of _ zq34 h.1) h.2 zd34 (fun _ => List.mem_filter.mpr ⟨List.mem_of_getElem? zc34, rfl⟩)
theorem zq35 : zwM zmt zm35 = [136, 761, 762, 406].filterMap (fun p => lw_tbl[p]?) := by decide +kernel
theorem zg35 : ((zwM zmt zm35).all goodWord && zbM zmt zm35) = true := by decide +kernel
theorem zd35 : ∀ r ∈ ze35, ∀ e ∈ r, decode cX5_give e.1 = .ok (e.2.1, zlen e.2.1 e.2.2.1) := by decide +kernel
theorem zc35 : lw_tbl[763]? = some (Cond.code zm35.1 zm35.2.1 zm35.2.2.1 zm35.2.2.2.1) := by decide +kernel
theorem zo35 : zokM zm35 := by
  have h := Bool.and_eq_true .. ▸ zg35
  exact zM_ok (zin_of _ zq35 h.1) h.2 zd35 (fun _ => List.mem_filter.mpr ⟨List.mem_of_getElem? zc35, rfl⟩)
theorem zq36 : zwM zmt zm36 = [136, 1085, 1086, 1088, 1088, 413, 413, 1092, 418, 418, 1092, 420, 420, 423, 423, 427, 427, 429, 429, 433, 433, 437, 437, 441, 441, 443, 443, 449, 449].filterMap (fun p => lw_tbl[p]?) := by decide +kernel
theorem zg36 : ((zwM zmt zm36).all goodWord && zbM zmt zm36) = true := by decide +kernel
theorem zd36 : ∀ r ∈ ze36, ∀ e ∈ r, decode cX5_copyFrom e.1 = .ok (e.2.1, zlen e.2.1 e.2.2.1) := by decide +kernel
theorem zc36 : lw_tbl[1087]? = some (Cond.code zm36.1 zm36.2.1 zm36.2.2.1 zm36.2.2.2.1) := by decide +kernel
theorem zo36 : zokM zm36 := by
  have h := Bool.and_eq_true .. ▸ zg36
  exact zM_ok (zin_of _ zq36 h.1) h.2 zd36 (fun _ => List.mem_filter.mpr ⟨List.mem_of_getElem? zc36, rfl⟩)
theorem zq37 : zwM zmt zm37 = [136, 1090, 28, 405, 406, 406, 406].filterMap (fun p => lw_tbl[p]?) := by decide +kernel
theorem zg37 : ((zwM zmt zm37).all goodWord && zbM zmt zm37) = true := by decide +kernel
theorem zd37 : ∀ r ∈ ze37, ∀ e ∈ r, decode cX5_copyRow e.1 = .ok (e.2.1, zlen e.2.1 e.2.2.1) := by decide +kernel
theorem zc37 : lw_tbl[1091]? = some (Cond.code zm37.1 zm37.2.1 zm37.2.2.1 zm37.2.2.2.1) := by decide +kernel
theorem zo37 : zokM zm37 := by
  have h := Bool.and_eq_true .. ▸ zg37
  exact zM_ok (zin_of _ zq37 h.1) h.2 zd37 (fun _ => List.mem_filter.mpr ⟨List.mem_of_getElem? zc37, rfl⟩)
theorem zq38 : zwM zmt zm38 = [136, 1331, 1332, 406].filterMap (fun p => lw_tbl[p]?) := by decide +kernel
theorem zg38 : ((zwM zmt zm38).all goodWord && zbM zmt zm38) = true := by decide +kernel
theorem zd38 : ∀ r ∈ ze38, ∀ e ∈ r, decode cX5_countUnseen e.1 = .ok (e.2.1, zlen e.2.1 e.2.2.1) := by decide +kernel
theorem zc38 : lw_tbl[1333]? = some (Cond.code zm38.1 zm38.2.1 zm38.2.2.1 zm38.2.2.2.1) := by decide +kernel
theorem zo38 : zokM zm38 := by
  have h := Bool.and_eq_true .. ▸ zg38
  exact zM_ok (zin_of _ zq38 h.1) h.2 zd38 (fun _ => List.mem_filter.mpr ⟨List.mem_of_getElem? zc38, rfl⟩)
theorem zq39 : zwM zmt zm39 = [136, 1105, 1106, 406, 423, 423, 443].filterMap (fun p => lw_tbl[p]?) := by decide +kernel
theorem zg39 : ((zwM zmt zm39).all goodWord && zbM zmt zm39) = true := by decide +kernel
theorem zd39 : ∀ r ∈ ze39, ∀ e ∈ r, decode cX5_nextHasLost e.1 = .ok (e.2.1, zlen e.2.1 e.2.2.1) := by decide +kernel
theorem zc39 : lw_tbl[1107]? = some (Cond.code zm39.1 zm39.2.1 zm39.2.2.1 zm39.2.2.2.1) := by decide +kernel
theorem zo39 : zokM zm39 := by
  have h := Bool.and_eq_true .. ▸ zg39
  exact zM_ok (zin_of _ zq39 h.1) h.2 zd39 (fun _ => List.mem_filter.mpr ⟨List.mem_of_getElem? zc39, rfl⟩)
theorem zq40 : zwM zmt zm40 = [136, 1101, 1102, 1104].filterMap (fun p => lw_tbl[p]?) := by decide +kernel
theorem zg40 : ((zwM zmt zm40).all goodWord && zbM zmt zm40) = true := by decide +kernel
theorem zd40 : ∀ r ∈ ze40, ∀ e ∈ r, decode cX5_turnUp e.1 = .ok (e.2.1, zlen e.2.1 e.2.2.1) := by decide +kernel
theorem zc40 : lw_tbl[1103]? = some (Cond.code zm40.1 zm40.2.1 zm40.2.2.1 zm40.2.2.2.1) := by decide +kernel
theorem zo40 : zokM zm40 := by
  have h := Bool.and_eq_true .. ▸ zg40
  exact zM_ok (zin_of _ zq40 h.1) h.2 zd40 (fun _ => List.mem_filter.mpr ⟨List.mem_of_getElem? zc40, rfl⟩)
theorem zq41 : zwM zmt zm41 = [136, 1416, 1417, 1419].filterMap (fun p => lw_tbl[p]?) := by decide +kernel
theorem zg41 : ((zwM zmt zm41).all goodWord && zbM zmt zm41) = true := by decide +kernel
theorem zd41 : ∀ r ∈ ze41, ∀ e ∈ r, decode cX5_turnToHeap e.1 = .ok (e.2.1, zlen e.2.1 e.2.2.1) := by decide +kernel
theorem zc41 : lw_tbl[1418]? = some (Cond.code zm41.1 zm41.2.1 zm41.2.2.1 zm41.2.2.2.1) := by decide +kernel
theorem zo41 : zokM zm41 := by
  have h := Bool.and_eq_true .. ▸ zg41
  exact zM_ok (zin_of _ zq41 h.1) h.2 zd41 (fun _ => List.mem_filter.mpr ⟨List.mem_of_getElem? zc41, rfl⟩)
theorem zq42 : zwM zmt zm42 = [134, 360, 362, 334, 364, 334, 366, 363, 368, 369].filterMap (fun p => lw_tbl[p]?) := by decide +kernel
theorem zg42 : ((zwM zmt zm42).all goodWord && zbM zmt zm42) = true := by decide +kernel
theorem zd42 : ∀ r ∈ ze42, ∀ e ∈ r, decode cX6_init e.1 = .ok (e.2.1, zlen e.2.1 e.2.2.1) := by decide +kernel
theorem zc42 : lw_tbl[361]? = some (Cond.code zm42.1 zm42.2.1 zm42.2.2.1 zm42.2.2.2.1) := by decide +kernel
theorem zo42 : zokM zm42 := by
  have h := Bool.and_eq_true .. ▸ zg42
  exact zM_ok (zin_of _ zq42 h.1) h.2 zd42 (fun _ => List.mem_filter.mpr ⟨List.mem_of_getElem? zc42, rfl⟩)
theorem zq43 : zwM zmt zm43 = [134, 839, 840, 368, 842, 846, 363, 220, 957].filterMap (fun p => lw_tbl[p]?) := by decide +kernel
theorem zg43 : ((zwM zmt zm43).all goodWord && zbM zmt zm43) = true := by decide +kernel
theorem zd43 : ∀ r ∈ ze43, ∀ e ∈ r, decode cX6_readTable e.1 = .ok (e.2.1, zlen e.2.1 e.2.2.1) := by decide +kernel
theorem zc43 : lw_tbl[841]? = some (Cond.code zm43.1 zm43.2.1 zm43.2.2.1 zm43.2.2.2.1) := by decide +kernel
theorem zo43 : zokM zm43 := by
  have h := Bool.and_eq_true .. ▸ zg43
  exact zM_ok (zin_of _ zq43 h.1) h.2 zd43 (fun _ => List.mem_filter.mpr ⟨List.mem_of_getElem? zc43, rfl⟩)
theorem zq44 : zwM zmt zm44 = [134, 990, 991, 368, 366, 366, 371, 372, 846, 363, 220, 1005, 957].filterMap (fun p => lw_tbl[p]?) := by decide +kernel
theorem zg44 : ((zwM zmt zm44).all goodWord && zbM zmt zm44) = true := by decide +kernel
theorem zd44 : ∀ r ∈ ze44, ∀ e ∈ r, decode cX6_readDeal e.1 = .ok (e.2.1, zlen e.2.1 e.2.2.1) := by decide +kernel
theorem zc44 : lw_tbl[992]? = some (Cond.code zm44.1 zm44.2.1 zm44.2.2.1 zm44.2.2.2.1) := by decide +kernel
theorem zo44 : zokM zm44 := by
  have h := Bool.and_eq_true .. ▸ zg44
  exact zM_ok (zin_of _ zq44 h.1) h.2 zd44 (fun _ => List.mem_filter.mpr ⟨List.mem_of_getElem? zc44, rfl⟩)
