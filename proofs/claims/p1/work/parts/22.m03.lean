theorem zq45 : zwM zmt zm45 = [134, 1020, 1021, 368, 369, 1023, 846, 363, 220, 957].filterMap (fun p => lw_tbl[p]?) := by decide +kernel
theorem zg45 : ((zwM zmt zm45).all goodWord && zbM zmt zm45) = true := by decide +kernel
theorem zd45 : ∀ r ∈ ze45, ∀ e ∈ r, decode cX6_readBook e.1 = .ok (e.2.1, zlen e.2.1 e.2.2.1) := by decide +kernel
theorem zc45 : lw_tbl[1022]? = some (Cond.code zm45.1 zm45.2.1 zm45.2.2.1 zm45.2.2.2.1) := by decide +kernel
theorem zo45 : zokM zm45 := by
  have h := Bool.and_eq_true .. ▸ zg45
  exact zM_ok (zin_of _ zq45 h.1) h.2 zd45 (fun _ => List.mem_filter.mpr ⟨List.mem_of_getElem? zc45, rfl⟩)
theorem zq46 : zwM zmt zm46 = [134, 848, 0, 370, 363, 850].filterMap (fun p => lw_tbl[p]?) := by decide +kernel
theorem zg46 : ((zwM zmt zm46).all goodWord && zbM zmt zm46) = true := by decide +kernel
theorem zd46 : ∀ r ∈ ze46, ∀ e ∈ r, decode cX6_begin e.1 = .ok (e.2.1, zlen e.2.1 e.2.2.1) := by decide +kernel
theorem zc46 : lw_tbl[849]? = some (Cond.code zm46.1 zm46.2.1 zm46.2.2.1 zm46.2.2.2.1) := by decide +kernel
theorem zo46 : zokM zm46 := by
  have h := Bool.and_eq_true .. ▸ zg46
  exact zM_ok (zin_of _ zq46 h.1) h.2 zd46 (fun _ => List.mem_filter.mpr ⟨List.mem_of_getElem? zc46, rfl⟩)
theorem zq47 : zwM zmt zm47 = [134, 959, 19, 363, 961, 370].filterMap (fun p => lw_tbl[p]?) := by decide +kernel
theorem zg47 : ((zwM zmt zm47).all goodWord && zbM zmt zm47) = true := by decide +kernel
theorem zd47 : ∀ r ∈ ze47, ∀ e ∈ r, decode cX6_finish e.1 = .ok (e.2.1, zlen e.2.1 e.2.2.1) := by decide +kernel
theorem zc47 : lw_tbl[960]? = some (Cond.code zm47.1 zm47.2.1 zm47.2.2.1 zm47.2.2.2.1) := by decide +kernel
theorem zo47 : zokM zm47 := by
  have h := Bool.and_eq_true .. ▸ zg47
  exact zM_ok (zin_of _ zq47 h.1) h.2 zd47 (fun _ => List.mem_filter.mpr ⟨List.mem_of_getElem? zc47, rfl⟩)
theorem zq48 : zwM zmt zm48 = [134, 1007, 25, 366].filterMap (fun p => lw_tbl[p]?) := by decide +kernel
theorem zg48 : ((zwM zmt zm48).all goodWord && zbM zmt zm48) = true := by decide +kernel
theorem zd48 : ∀ r ∈ ze48, ∀ e ∈ r, decode cX6_closeUp e.1 = .ok (e.2.1, zlen e.2.1 e.2.2.1) := by decide +kernel
theorem zc48 : lw_tbl[1008]? = some (Cond.code zm48.1 zm48.2.1 zm48.2.2.1 zm48.2.2.2.1) := by decide +kernel
theorem zo48 : zokM zm48 := by
  have h := Bool.and_eq_true .. ▸ zg48
  exact zM_ok (zin_of _ zq48 h.1) h.2 zd48 (fun _ => List.mem_filter.mpr ⟨List.mem_of_getElem? zc48, rfl⟩)
theorem zq49 : zwM zmt zm49 = [137, 543, 545, 334, 546, 334, 550].filterMap (fun p => lw_tbl[p]?) := by decide +kernel
theorem zg49 : ((zwM zmt zm49).all goodWord && zbM zmt zm49) = true := by decide +kernel
theorem zd49 : ∀ r ∈ ze49, ∀ e ∈ r, decode cX7_init e.1 = .ok (e.2.1, zlen e.2.1 e.2.2.1) := by decide +kernel
theorem zc49 : lw_tbl[544]? = some (Cond.code zm49.1 zm49.2.1 zm49.2.2.1 zm49.2.2.2.1) := by decide +kernel
theorem zo49 : zokM zm49 := by
  have h := Bool.and_eq_true .. ▸ zg49
  exact zM_ok (zin_of _ zq49 h.1) h.2 zd49 (fun _ => List.mem_filter.mpr ⟨List.mem_of_getElem? zc49, rfl⟩)
theorem zq50 : zwM zmt zm50 = [137, 1227, 1228].filterMap (fun p => lw_tbl[p]?) := by decide +kernel
theorem zg50 : ((zwM zmt zm50).all goodWord && zbM zmt zm50) = true := by decide +kernel
theorem zd50 : ∀ r ∈ ze50, ∀ e ∈ r, decode cX7_howMany e.1 = .ok (e.2.1, zlen e.2.1 e.2.2.1) := by decide +kernel
theorem zc50 : lw_tbl[1229]? = some (Cond.code zm50.1 zm50.2.1 zm50.2.2.1 zm50.2.2.2.1) := by decide +kernel
theorem zo50 : zokM zm50 := by
  have h := Bool.and_eq_true .. ▸ zg50
  exact zM_ok (zin_of _ zq50 h.1) h.2 zd50 (fun _ => List.mem_filter.mpr ⟨List.mem_of_getElem? zc50, rfl⟩)
theorem zq51 : zwM zmt zm51 = [137, 1238, 1239, 551].filterMap (fun p => lw_tbl[p]?) := by decide +kernel
theorem zg51 : ((zwM zmt zm51).all goodWord && zbM zmt zm51) = true := by decide +kernel
theorem zd51 : ∀ r ∈ ze51, ∀ e ∈ r, decode cX7_toFirst e.1 = .ok (e.2.1, zlen e.2.1 e.2.2.1) := by decide +kernel
theorem zc51 : lw_tbl[1240]? = some (Cond.code zm51.1 zm51.2.1 zm51.2.2.1 zm51.2.2.2.1) := by decide +kernel
theorem zo51 : zokM zm51 := by
  have h := Bool.and_eq_true .. ▸ zg51
  exact zM_ok (zin_of _ zq51 h.1) h.2 zd51 (fun _ => List.mem_filter.mpr ⟨List.mem_of_getElem? zc51, rfl⟩)
theorem zq52 : zwM zmt zm52 = [137, 1264, 1265, 551].filterMap (fun p => lw_tbl[p]?) := by decide +kernel
theorem zg52 : ((zwM zmt zm52).all goodWord && zbM zmt zm52) = true := by decide +kernel
theorem zd52 : ∀ r ∈ ze52, ∀ e ∈ r, decode cX7_toNext e.1 = .ok (e.2.1, zlen e.2.1 e.2.2.1) := by decide +kernel
theorem zc52 : lw_tbl[1266]? = some (Cond.code zm52.1 zm52.2.1 zm52.2.2.1 zm52.2.2.2.1) := by decide +kernel
theorem zo52 : zokM zm52 := by
  have h := Bool.and_eq_true .. ▸ zg52
  exact zM_ok (zin_of _ zq52 h.1) h.2 zd52 (fun _ => List.mem_filter.mpr ⟨List.mem_of_getElem? zc52, rfl⟩)
theorem zq53 : zwM zmt zm53 = [139, 622, 624, 334, 625, 334, 627, 334, 629, 334, 631, 334, 633, 334, 635, 334, 637, 335, 643, 334, 644, 334, 645, 649, 650, 641, 642].filterMap (fun p => lw_tbl[p]?) := by decide +kernel
theorem zg53 : ((zwM zmt zm53).all goodWord && zbM zmt zm53) = true := by decide +kernel
theorem zd53 : ∀ r ∈ ze53, ∀ e ∈ r, decode cX8_init e.1 = .ok (e.2.1, zlen e.2.1 e.2.2.1) := by decide +kernel
theorem zc53 : lw_tbl[623]? = some (Cond.code zm53.1 zm53.2.1 zm53.2.2.1 zm53.2.2.2.1) := by decide +kernel
theorem zo53 : zokM zm53 := by
  have h := Bool.and_eq_true .. ▸ zg53
  exact zM_ok (zin_of _ zq53 h.1) h.2 zd53 (fun _ => List.mem_filter.mpr ⟨List.mem_of_getElem? zc53, rfl⟩)
theorem zq54 : zwM zmt zm54 = [139, 1467].filterMap (fun p => lw_tbl[p]?) := by decide +kernel
theorem zg54 : ((zwM zmt zm54).all goodWord && zbM zmt zm54) = true := by decide +kernel
theorem zd54 : ∀ r ∈ ze54, ∀ e ∈ r, decode cX8_isSeed e.1 = .ok (e.2.1, zlen e.2.1 e.2.2.1) := by decide +kernel
theorem zc54 : lw_tbl[1468]? = some (Cond.code zm54.1 zm54.2.1 zm54.2.2.1 zm54.2.2.2.1) := by decide +kernel
theorem zo54 : zokM zm54 := by
  have h := Bool.and_eq_true .. ▸ zg54
  exact zM_ok (zin_of _ zq54 h.1) h.2 zd54 (fun _ => List.mem_filter.mpr ⟨List.mem_of_getElem? zc54, rfl⟩)
theorem zq55 : zwM zmt zm55 = [139, 970, 971, 646, 647, 648, 649, 650, 643, 643].filterMap (fun p => lw_tbl[p]?) := by decide +kernel
theorem zg55 : ((zwM zmt zm55).all goodWord && zbM zmt zm55) = true := by decide +kernel
theorem zd55 : ∀ r ∈ ze55, ∀ e ∈ r, decode cX8_forget e.1 = .ok (e.2.1, zlen e.2.1 e.2.2.1) := by decide +kernel
theorem zc55 : lw_tbl[972]? = some (Cond.code zm55.1 zm55.2.1 zm55.2.2.1 zm55.2.2.2.1) := by decide +kernel
theorem zo55 : zokM zm55 := by
  have h := Bool.and_eq_true .. ▸ zg55
  exact zM_ok (zin_of _ zq55 h.1) h.2 zd55 (fun _ => List.mem_filter.mpr ⟨List.mem_of_getElem? zc55, rfl⟩)
theorem zq56 : zwM zmt zm56 = [139, 1223, 1224, 273].filterMap (fun p => lw_tbl[p]?) := by decide +kernel
theorem zg56 : ((zwM zmt zm56).all goodWord && zbM zmt zm56) = true := by decide +kernel
theorem zd56 : ∀ r ∈ ze56, ∀ e ∈ r, decode cX8_canAsk e.1 = .ok (e.2.1, zlen e.2.1 e.2.2.1) := by decide +kernel
theorem zc56 : lw_tbl[1225]? = some (Cond.code zm56.1 zm56.2.1 zm56.2.2.1 zm56.2.2.2.1) := by decide +kernel
theorem zo56 : zokM zm56 := by
  have h := Bool.and_eq_true .. ▸ zg56
  exact zM_ok (zin_of _ zq56 h.1) h.2 zd56 (fun _ => List.mem_filter.mpr ⟨List.mem_of_getElem? zc56, rfl⟩)
theorem zq57 : zwM zmt zm57 = [132, 255, 257, 251, 261, 334, 262, 334, 266, 335, 270, 334, 299, 334, 300, 285].filterMap (fun p => lw_tbl[p]?) := by decide +kernel
theorem zg57 : ((zwM zmt zm57).all goodWord && zbM zmt zm57) = true := by decide +kernel
theorem zd57 : ∀ r ∈ ze57, ∀ e ∈ r, decode cX9_init e.1 = .ok (e.2.1, zlen e.2.1 e.2.2.1) := by decide +kernel
theorem zc57 : lw_tbl[256]? = some (Cond.code zm57.1 zm57.2.1 zm57.2.2.1 zm57.2.2.2.1) := by decide +kernel
theorem zo57 : zokM zm57 := by
  have h := Bool.and_eq_true .. ▸ zg57
  exact zM_ok (zin_of _ zq57 h.1) h.2 zd57 (fun _ => List.mem_filter.mpr ⟨List.mem_of_getElem? zc57, rfl⟩)
theorem zq58 : zwM zmt zm58 = [132, 843, 844, 258, 272, 261, 262, 266, 270, 276, 281, 285, 290, 292, 294, 296, 298].filterMap (fun p => lw_tbl[p]?) := by decide +kernel
theorem zg58 : ((zwM zmt zm58).all goodWord && zbM zmt zm58) = true := by decide +kernel
theorem zd58 : ∀ r ∈ ze58, ∀ e ∈ r, decode cX9_reset e.1 = .ok (e.2.1, zlen e.2.1 e.2.2.1) := by decide +kernel
theorem zc58 : lw_tbl[845]? = some (Cond.code zm58.1 zm58.2.1 zm58.2.2.1 zm58.2.2.2.1) := by decide +kernel
theorem zo58 : zokM zm58 := by
  have h := Bool.and_eq_true .. ▸ zg58
  exact zM_ok (zin_of _ zq58 h.1) h.2 zd58 (fun _ => List.mem_filter.mpr ⟨List.mem_of_getElem? zc58, rfl⟩)
theorem zq59 : zwM zmt zm59 = [132, 1367, 1368, 296].filterMap (fun p => lw_tbl[p]?) := by decide +kernel
theorem zg59 : ((zwM zmt zm59).all goodWord && zbM zmt zm59) = true := by decide +kernel
theorem zd59 : ∀ r ∈ ze59, ∀ e ∈ r, decode cX9_offerFor e.1 = .ok (e.2.1, zlen e.2.1 e.2.2.1) := by decide +kernel
theorem zc59 : lw_tbl[1369]? = some (Cond.code zm59.1 zm59.2.1 zm59.2.2.1 zm59.2.2.2.1) := by decide +kernel
theorem zo59 : zokM zm59 := by
  have h := Bool.and_eq_true .. ▸ zg59
  exact zM_ok (zin_of _ zq59 h.1) h.2 zd59 (fun _ => List.mem_filter.mpr ⟨List.mem_of_getElem? zc59, rfl⟩)
theorem zq60 : zwM zmt zm60 = [127, 160, 162, 250, 213, 251, 214, 164, 174, 214, 212].filterMap (fun p => lw_tbl[p]?) := by decide +kernel
theorem zg60 : ((zwM zmt zm60).all goodWord && zbM zmt zm60) = true := by decide +kernel
theorem zd60 : ∀ r ∈ ze60, ∀ e ∈ r, decode cX10_init e.1 = .ok (e.2.1, zlen e.2.1 e.2.2.1) := by decide +kernel
theorem zc60 : lw_tbl[161]? = some (Cond.code zm60.1 zm60.2.1 zm60.2.2.1 zm60.2.2.2.1) := by decide +kernel
theorem zo60 : zokM zm60 := by
  have h := Bool.and_eq_true .. ▸ zg60
  exact zM_ok (zin_of _ zq60 h.1) h.2 zd60 (fun _ => List.mem_filter.mpr ⟨List.mem_of_getElem? zc60, rfl⟩)
