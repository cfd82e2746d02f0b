theorem zq74 : zwM zmt zm74 = [126, 1163, 1164, 777].filterMap (fun p => lw_tbl[p]?) := by decide +kernel
theorem zg74 : ((zwM zmt zm74).all goodWord && zbM zmt zm74) = true := by decide +kernel
theorem zd74 : ∀ r ∈ ze74, ∀ e ∈ r, decode cX11_undo e.1 = .ok (e.2.1, zlen e.2.1 e.2.2.1) := by decide +kernel
theorem zc74 : lw_tbl[1165]? = some (Cond.code zm74.1 zm74.2.1 zm74.2.2.1 zm74.2.2.2.1) := by decide +kernel
theorem zo74 : zokM zm74 := by
  have h := Bool.and_eq_true .. ▸ zg74
  exact zM_ok (zin_of _ zq74 h.1) h.2 zd74 (fun _ => List.mem_filter.mpr ⟨List.mem_of_getElem? zc74, rfl⟩)
theorem zq75 : zwM zmt zm75 = [126, 1167, 1168, 774, 490].filterMap (fun p => lw_tbl[p]?) := by decide +kernel
theorem zg75 : ((zwM zmt zm75).all goodWord && zbM zmt zm75) = true := by decide +kernel
theorem zd75 : ∀ r ∈ ze75, ∀ e ∈ r, decode cX11_again e.1 = .ok (e.2.1, zlen e.2.1 e.2.2.1) := by decide +kernel
theorem zc75 : lw_tbl[1169]? = some (Cond.code zm75.1 zm75.2.1 zm75.2.2.1 zm75.2.2.2.1) := by decide +kernel
theorem zo75 : zokM zm75 := by
  have h := Bool.and_eq_true .. ▸ zg75
  exact zM_ok (zin_of _ zq75 h.1) h.2 zd75 (fun _ => List.mem_filter.mpr ⟨List.mem_of_getElem? zc75, rfl⟩)
theorem zq76 : zwM zmt zm76 = [126, 1171, 1172, 786, 786, 781, 575, 774, 484, 1174, 781, 769, 278, 769, 288, 1175, 785, 781, 579, 785, 781, 582, 785, 781, 584, 785, 781, 586, 785].filterMap (fun p => lw_tbl[p]?) := by decide +kernel
theorem zg76 : ((zwM zmt zm76).all goodWord && zbM zmt zm76) = true := by decide +kernel
theorem zd76 : ∀ r ∈ ze76, ∀ e ∈ r, decode cX11_ends e.1 = .ok (e.2.1, zlen e.2.1 e.2.2.1) := by decide +kernel
theorem zc76 : lw_tbl[1173]? = some (Cond.code zm76.1 zm76.2.1 zm76.2.2.1 zm76.2.2.2.1) := by decide +kernel
theorem zo76 : zokM zm76 := by
  have h := Bool.and_eq_true .. ▸ zg76
  exact zM_ok (zin_of _ zq76 h.1) h.2 zd76 (fun _ => List.mem_filter.mpr ⟨List.mem_of_getElem? zc76, rfl⟩)
theorem zq77 : zwM zmt zm77 = [126, 1219, 1220, 782, 769, 1222].filterMap (fun p => lw_tbl[p]?) := by decide +kernel
theorem zg77 : ((zwM zmt zm77).all goodWord && zbM zmt zm77) = true := by decide +kernel
theorem zd77 : ∀ r ∈ ze77, ∀ e ∈ r, decode cX11_all e.1 = .ok (e.2.1, zlen e.2.1 e.2.2.1) := by decide +kernel
theorem zc77 : lw_tbl[1221]? = some (Cond.code zm77.1 zm77.2.1 zm77.2.2.1 zm77.2.2.2.1) := by decide +kernel
theorem zo77 : zokM zm77 := by
  have h := Bool.and_eq_true .. ▸ zg77
  exact zM_ok (zin_of _ zq77 h.1) h.2 zd77 (fun _ => List.mem_filter.mpr ⟨List.mem_of_getElem? zc77, rfl⟩)
theorem zq78 : zwM zmt zm78 = [126, 1272, 1273, 782, 769, 1222].filterMap (fun p => lw_tbl[p]?) := by decide +kernel
theorem zg78 : ((zwM zmt zm78).all goodWord && zbM zmt zm78) = true := by decide +kernel
theorem zd78 : ∀ r ∈ ze78, ∀ e ∈ r, decode cX11_row e.1 = .ok (e.2.1, zlen e.2.1 e.2.2.1) := by decide +kernel
theorem zc78 : lw_tbl[1274]? = some (Cond.code zm78.1 zm78.2.1 zm78.2.2.1 zm78.2.2.2.1) := by decide +kernel
theorem zo78 : zokM zm78 := by
  have h := Bool.and_eq_true .. ▸ zg78
  exact zM_ok (zin_of _ zq78 h.1) h.2 zd78 (fun _ => List.mem_filter.mpr ⟨List.mem_of_getElem? zc78, rfl⟩)
theorem zq79 : zwM zmt zm79 = [126, 1282, 1283, 782, 769, 1222].filterMap (fun p => lw_tbl[p]?) := by decide +kernel
theorem zg79 : ((zwM zmt zm79).all goodWord && zbM zmt zm79) = true := by decide +kernel
theorem zd79 : ∀ r ∈ ze79, ∀ e ∈ r, decode cX11_beginner e.1 = .ok (e.2.1, zlen e.2.1 e.2.2.1) := by decide +kernel
theorem zc79 : lw_tbl[1284]? = some (Cond.code zm79.1 zm79.2.1 zm79.2.2.1 zm79.2.2.2.1) := by decide +kernel
theorem zo79 : zokM zm79 := by
  have h := Bool.and_eq_true .. ▸ zg79
  exact zM_ok (zin_of _ zq79 h.1) h.2 zd79 (fun _ => List.mem_filter.mpr ⟨List.mem_of_getElem? zc79, rfl⟩)
theorem zq80 : zwM zmt zm80 = [126, 1290, 1291, 769, 259].filterMap (fun p => lw_tbl[p]?) := by decide +kernel
theorem zg80 : ((zwM zmt zm80).all goodWord && zbM zmt zm80) = true := by decide +kernel
theorem zd80 : ∀ r ∈ ze80, ∀ e ∈ r, decode cX11_worth e.1 = .ok (e.2.1, zlen e.2.1 e.2.2.1) := by decide +kernel
theorem zc80 : lw_tbl[1292]? = some (Cond.code zm80.1 zm80.2.1 zm80.2.2.1 zm80.2.2.2.1) := by decide +kernel
theorem zo80 : zokM zm80 := by
  have h := Bool.and_eq_true .. ▸ zg80
  exact zM_ok (zin_of _ zq80 h.1) h.2 zd80 (fun _ => List.mem_filter.mpr ⟨List.mem_of_getElem? zc80, rfl⟩)
theorem zq81 : zwM zmt zm81 = [126, 1294, 1295, 782, 769, 1222].filterMap (fun p => lw_tbl[p]?) := by decide +kernel
theorem zg81 : ((zwM zmt zm81).all goodWord && zbM zmt zm81) = true := by decide +kernel
theorem zd81 : ∀ r ∈ ze81, ∀ e ∈ r, decode cX11_leads e.1 = .ok (e.2.1, zlen e.2.1 e.2.2.1) := by decide +kernel
theorem zc81 : lw_tbl[1296]? = some (Cond.code zm81.1 zm81.2.1 zm81.2.2.1 zm81.2.2.2.1) := by decide +kernel
theorem zo81 : zokM zm81 := by
  have h := Bool.and_eq_true .. ▸ zg81
  exact zM_ok (zin_of _ zq81 h.1) h.2 zd81 (fun _ => List.mem_filter.mpr ⟨List.mem_of_getElem? zc81, rfl⟩)
theorem zq82 : zwM zmt zm82 = [126, 1316, 1317, 769, 259].filterMap (fun p => lw_tbl[p]?) := by decide +kernel
theorem zg82 : ((zwM zmt zm82).all goodWord && zbM zmt zm82) = true := by decide +kernel
theorem zd82 : ∀ r ∈ ze82, ∀ e ∈ r, decode cX11_laws e.1 = .ok (e.2.1, zlen e.2.1 e.2.2.1) := by decide +kernel
theorem zc82 : lw_tbl[1318]? = some (Cond.code zm82.1 zm82.2.1 zm82.2.2.1 zm82.2.2.2.1) := by decide +kernel
theorem zo82 : zokM zm82 := by
  have h := Bool.and_eq_true .. ▸ zg82
  exact zM_ok (zin_of _ zq82 h.1) h.2 zd82 (fun _ => List.mem_filter.mpr ⟨List.mem_of_getElem? zc82, rfl⟩)
theorem zq83 : zwM zmt zm83 = [126, 1327, 1328, 1056, 774, 484, 1330].filterMap (fun p => lw_tbl[p]?) := by decide +kernel
theorem zg83 : ((zwM zmt zm83).all goodWord && zbM zmt zm83) = true := by decide +kernel
theorem zd83 : ∀ r ∈ ze83, ∀ e ∈ r, decode cX11_unseen e.1 = .ok (e.2.1, zlen e.2.1 e.2.2.1) := by decide +kernel
theorem zc83 : lw_tbl[1329]? = some (Cond.code zm83.1 zm83.2.1 zm83.2.2.1 zm83.2.2.2.1) := by decide +kernel
theorem zo83 : zokM zm83 := by
  have h := Bool.and_eq_true .. ▸ zg83
  exact zM_ok (zin_of _ zq83 h.1) h.2 zd83 (fun _ => List.mem_filter.mpr ⟨List.mem_of_getElem? zc83, rfl⟩)
theorem zq84 : zwM zmt zm84 = [126, 1339, 1340, 783, 774, 484, 769, 1342, 783, 695].filterMap (fun p => lw_tbl[p]?) := by decide +kernel
theorem zg84 : ((zwM zmt zm84).all goodWord && zbM zmt zm84) = true := by decide +kernel
theorem zd84 : ∀ r ∈ ze84, ∀ e ∈ r, decode cX11_odds e.1 = .ok (e.2.1, zlen e.2.1 e.2.2.1) := by decide +kernel
theorem zc84 : lw_tbl[1341]? = some (Cond.code zm84.1 zm84.2.1 zm84.2.2.1 zm84.2.2.2.1) := by decide +kernel
theorem zo84 : zokM zm84 := by
  have h := Bool.and_eq_true .. ▸ zg84
  exact zM_ok (zin_of _ zq84 h.1) h.2 zd84 (fun _ => List.mem_filter.mpr ⟨List.mem_of_getElem? zc84, rfl⟩)
theorem zq85 : zwM zmt zm85 = [126, 1363, 1364, 769, 774, 484, 1366].filterMap (fun p => lw_tbl[p]?) := by decide +kernel
theorem zg85 : ((zwM zmt zm85).all goodWord && zbM zmt zm85) = true := by decide +kernel
theorem zd85 : ∀ r ∈ ze85, ∀ e ∈ r, decode cX11_offer e.1 = .ok (e.2.1, zlen e.2.1 e.2.2.1) := by decide +kernel
theorem zc85 : lw_tbl[1365]? = some (Cond.code zm85.1 zm85.2.1 zm85.2.2.1 zm85.2.2.2.1) := by decide +kernel
theorem zo85 : zokM zm85 := by
  have h := Bool.and_eq_true .. ▸ zg85
  exact zM_ok (zin_of _ zq85 h.1) h.2 zd85 (fun _ => List.mem_filter.mpr ⟨List.mem_of_getElem? zc85, rfl⟩)
theorem zq86 : zwM zmt zm86 = [126, 1383, 1384, 1056, 774, 505, 774, 484, 447, 774, 503, 1076, 774, 769, 774, 484, 1366, 1386, 774, 505].filterMap (fun p => lw_tbl[p]?) := by decide +kernel
theorem zg86 : ((zwM zmt zm86).all goodWord && zbM zmt zm86) = true := by decide +kernel
theorem zd86 : ∀ r ∈ ze86, ∀ e ∈ r, decode cX11_bet e.1 = .ok (e.2.1, zlen e.2.1 e.2.2.1) := by decide +kernel
theorem zc86 : lw_tbl[1385]? = some (Cond.code zm86.1 zm86.2.1 zm86.2.2.1 zm86.2.2.2.1) := by decide +kernel
theorem zo86 : zokM zm86 := by
  have h := Bool.and_eq_true .. ▸ zg86
  exact zM_ok (zin_of _ zq86 h.1) h.2 zd86 (fun _ => List.mem_filter.mpr ⟨List.mem_of_getElem? zc86, rfl⟩)
theorem zq87 : zwM zmt zm87 = [126, 1391, 1392, 1056, 783, 774, 484, 769, 1342, 783, 695, 783, 695, 769, 774, 484, 1366, 1394].filterMap (fun p => lw_tbl[p]?) := by decide +kernel
theorem zg87 : ((zwM zmt zm87).all goodWord && zbM zmt zm87) = true := by decide +kernel
theorem zd87 : ∀ r ∈ ze87, ∀ e ∈ r, decode cX11_take e.1 = .ok (e.2.1, zlen e.2.1 e.2.2.1) := by decide +kernel
theorem zc87 : lw_tbl[1393]? = some (Cond.code zm87.1 zm87.2.1 zm87.2.2.1 zm87.2.2.2.1) := by decide +kernel
theorem zo87 : zokM zm87 := by
  have h := Bool.and_eq_true .. ▸ zg87
  exact zM_ok (zin_of _ zq87 h.1) h.2 zd87 (fun _ => List.mem_filter.mpr ⟨List.mem_of_getElem? zc87, rfl⟩)
theorem zq88 : zwM zmt zm88 = [126, 1396, 1397, 774, 484, 451, 784, 774, 484, 769, 278, 1399].filterMap (fun p => lw_tbl[p]?) := by decide +kernel
theorem zg88 : ((zwM zmt zm88).all goodWord && zbM zmt zm88) = true := by decide +kernel
theorem zd88 : ∀ r ∈ ze88, ∀ e ∈ r, decode cX11_choice e.1 = .ok (e.2.1, zlen e.2.1 e.2.2.1) := by decide +kernel
theorem zc88 : lw_tbl[1398]? = some (Cond.code zm88.1 zm88.2.1 zm88.2.2.1 zm88.2.2.2.1) := by decide +kernel
theorem zo88 : zokM zm88 := by
  have h := Bool.and_eq_true .. ▸ zg88
  exact zM_ok (zin_of _ zq88 h.1) h.2 zd88 (fun _ => List.mem_filter.mpr ⟨List.mem_of_getElem? zc88, rfl⟩)
theorem zq89 : zwM zmt zm89 = [126, 1426, 1427, 774, 484, 451, 784, 774, 484, 1429].filterMap (fun p => lw_tbl[p]?) := by decide +kernel
theorem zg89 : ((zwM zmt zm89).all goodWord && zbM zmt zm89) = true := by decide +kernel
theorem zd89 : ∀ r ∈ ze89, ∀ e ∈ r, decode cX11_both e.1 = .ok (e.2.1, zlen e.2.1 e.2.2.1) := by decide +kernel
theorem zc89 : lw_tbl[1428]? = some (Cond.code zm89.1 zm89.2.1 zm89.2.2.1 zm89.2.2.2.1) := by decide +kernel
theorem zo89 : zokM zm89 := by
  have h := Bool.and_eq_true .. ▸ zg89
  exact zM_ok (zin_of _ zq89 h.1) h.2 zd89 (fun _ => List.mem_filter.mpr ⟨List.mem_of_getElem? zc89, rfl⟩)
