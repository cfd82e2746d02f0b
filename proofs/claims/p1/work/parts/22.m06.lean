theorem zq90 : zwM zmt zm90 = [126, 1439, 1440, 771, 774, 1442].filterMap (fun p => lw_tbl[p]?) := by decide +kernel
theorem zg90 : ((zwM zmt zm90).all goodWord && zbM zmt zm90) = true := by decide +kernel
theorem zd90 : ∀ r ∈ ze90, ∀ e ∈ r, decode cX11_opening e.1 = .ok (e.2.1, zlen e.2.1 e.2.2.1) := by decide +kernel
theorem zc90 : lw_tbl[1441]? = some (Cond.code zm90.1 zm90.2.1 zm90.2.2.1 zm90.2.2.2.1) := by decide +kernel
theorem zo90 : zokM zm90 := by
  have h := Bool.and_eq_true .. ▸ zg90
  exact zM_ok (zin_of _ zq90 h.1) h.2 zd90 (fun _ => List.mem_filter.mpr ⟨List.mem_of_getElem? zc90, rfl⟩)
theorem zq91 : zwM zmt zm91 = [126, 1451, 1452, 769, 259].filterMap (fun p => lw_tbl[p]?) := by decide +kernel
theorem zg91 : ((zwM zmt zm91).all goodWord && zbM zmt zm91) = true := by decide +kernel
theorem zd91 : ∀ r ∈ ze91, ∀ e ∈ r, decode cX11_comes e.1 = .ok (e.2.1, zlen e.2.1 e.2.2.1) := by decide +kernel
theorem zc91 : lw_tbl[1453]? = some (Cond.code zm91.1 zm91.2.1 zm91.2.2.1 zm91.2.2.2.1) := by decide +kernel
theorem zo91 : zokM zm91 := by
  have h := Bool.and_eq_true .. ▸ zg91
  exact zM_ok (zin_of _ zq91 h.1) h.2 zd91 (fun _ => List.mem_filter.mpr ⟨List.mem_of_getElem? zc91, rfl⟩)
theorem zq92 : zwM zmt zm92 = [126, 1459, 1460, 774, 498].filterMap (fun p => lw_tbl[p]?) := by decide +kernel
theorem zg92 : ((zwM zmt zm92).all goodWord && zbM zmt zm92) = true := by decide +kernel
theorem zd92 : ∀ r ∈ ze92, ∀ e ∈ r, decode cX11_clear e.1 = .ok (e.2.1, zlen e.2.1 e.2.2.1) := by decide +kernel
theorem zc92 : lw_tbl[1461]? = some (Cond.code zm92.1 zm92.2.1 zm92.2.2.1 zm92.2.2.2.1) := by decide +kernel
theorem zo92 : zokM zm92 := by
  have h := Bool.and_eq_true .. ▸ zg92
  exact zM_ok (zin_of _ zq92 h.1) h.2 zd92 (fun _ => List.mem_filter.mpr ⟨List.mem_of_getElem? zc92, rfl⟩)
theorem zq93 : zwM zmt zm93 = [126, 1463, 1464, 1466, 769, 275].filterMap (fun p => lw_tbl[p]?) := by decide +kernel
theorem zg93 : ((zwM zmt zm93).all goodWord && zbM zmt zm93) = true := by decide +kernel
theorem zd93 : ∀ r ∈ ze93, ∀ e ∈ r, decode cX11_drawn e.1 = .ok (e.2.1, zlen e.2.1 e.2.2.1) := by decide +kernel
theorem zc93 : lw_tbl[1465]? = some (Cond.code zm93.1 zm93.2.1 zm93.2.2.1 zm93.2.2.2.1) := by decide +kernel
theorem zo93 : zokM zm93 := by
  have h := Bool.and_eq_true .. ▸ zg93
  exact zM_ok (zin_of _ zq93 h.1) h.2 zd93 (fun _ => List.mem_filter.mpr ⟨List.mem_of_getElem? zc93, rfl⟩)
theorem zq94 : zwM zmt zm94 = [126, 1488, 1489, 1466, 769, 275].filterMap (fun p => lw_tbl[p]?) := by decide +kernel
theorem zg94 : ((zwM zmt zm94).all goodWord && zbM zmt zm94) = true := by decide +kernel
theorem zd94 : ∀ r ∈ ze94, ∀ e ∈ r, decode cX11_games e.1 = .ok (e.2.1, zlen e.2.1 e.2.2.1) := by decide +kernel
theorem zc94 : lw_tbl[1490]? = some (Cond.code zm94.1 zm94.2.1 zm94.2.2.1 zm94.2.2.2.1) := by decide +kernel
theorem zo94 : zokM zm94 := by
  have h := Bool.and_eq_true .. ▸ zg94
  exact zM_ok (zin_of _ zq94 h.1) h.2 zd94 (fun _ => List.mem_filter.mpr ⟨List.mem_of_getElem? zc94, rfl⟩)
theorem zq95 : zwM zmt zm95 = [126, 1499, 1500, 1466, 769, 275].filterMap (fun p => lw_tbl[p]?) := by decide +kernel
theorem zg95 : ((zwM zmt zm95).all goodWord && zbM zmt zm95) = true := by decide +kernel
theorem zd95 : ∀ r ∈ ze95, ∀ e ∈ r, decode cX11_looked e.1 = .ok (e.2.1, zlen e.2.1 e.2.2.1) := by decide +kernel
theorem zc95 : lw_tbl[1501]? = some (Cond.code zm95.1 zm95.2.1 zm95.2.2.1 zm95.2.2.2.1) := by decide +kernel
theorem zo95 : zokM zm95 := by
  have h := Bool.and_eq_true .. ▸ zg95
  exact zM_ok (zin_of _ zq95 h.1) h.2 zd95 (fun _ => List.mem_filter.mpr ⟨List.mem_of_getElem? zc95, rfl⟩)
theorem zq96 : zwM zmt zm96 = [126, 1508, 1509, 1511, 778, 778, 390, 391, 135, 778, 774, 1080, 779].filterMap (fun p => lw_tbl[p]?) := by decide +kernel
theorem zg96 : ((zwM zmt zm96).all goodWord && zbM zmt zm96) = true := by decide +kernel
theorem zd96 : ∀ r ∈ ze96, ∀ e ∈ r, decode cX11_mark e.1 = .ok (e.2.1, zlen e.2.1 e.2.2.1) := by decide +kernel
theorem zc96 : lw_tbl[1510]? = some (Cond.code zm96.1 zm96.2.1 zm96.2.2.1 zm96.2.2.2.1) := by decide +kernel
theorem zo96 : zokM zm96 := by
  have h := Bool.and_eq_true .. ▸ zg96
  exact zM_ok (zin_of _ zq96 h.1) h.2 zd96 (fun _ => List.mem_filter.mpr ⟨List.mem_of_getElem? zc96, rfl⟩)
theorem zq97 : zwM zmt zm97 = [126, 1516, 1517, 774, 484, 769, 259, 769, 275, 409, 409, 421, 426, 428, 428, 435, 440, 447, 774, 505, 774, 503, 771, 344, 774, 498, 777, 769, 288, 769, 278, 768, 215].filterMap (fun p => lw_tbl[p]?) := by decide +kernel
theorem zg97 : ((zwM zmt zm97).all goodWord && zbM zmt zm97) = true := by decide +kernel
theorem zd97 : ∀ r ∈ ze97, ∀ e ∈ r, decode cX11_count e.1 = .ok (e.2.1, zlen e.2.1 e.2.2.1) := by decide +kernel
theorem zc97 : lw_tbl[1518]? = some (Cond.code zm97.1 zm97.2.1 zm97.2.2.1 zm97.2.2.2.1) := by decide +kernel
theorem zo97 : zokM zm97 := by
  have h := Bool.and_eq_true .. ▸ zg97
  exact zM_ok (zin_of _ zq97 h.1) h.2 zd97 (fun _ => List.mem_filter.mpr ⟨List.mem_of_getElem? zc97, rfl⟩)
theorem zq98 : zwM zmt zm98 = [126, 1057].filterMap (fun p => lw_tbl[p]?) := by decide +kernel
theorem zg98 : ((zwM zmt zm98).all goodWord && zbM zmt zm98) = true := by decide +kernel
theorem zd98 : ∀ r ∈ ze98, ∀ e ∈ r, decode cX11_isSide e.1 = .ok (e.2.1, zlen e.2.1 e.2.2.1) := by decide +kernel
theorem zc98 : lw_tbl[1058]? = some (Cond.code zm98.1 zm98.2.1 zm98.2.2.1 zm98.2.2.2.1) := by decide +kernel
theorem zo98 : zokM zm98 := by
  have h := Bool.and_eq_true .. ▸ zg98
  exact zM_ok (zin_of _ zq98 h.1) h.2 zd98 (fun _ => List.mem_filter.mpr ⟨List.mem_of_getElem? zc98, rfl⟩)
theorem zq99 : zwM zmt zm99 = [126, 1513, 56, 778, 779].filterMap (fun p => lw_tbl[p]?) := by decide +kernel
theorem zg99 : ((zwM zmt zm99).all goodWord && zbM zmt zm99) = true := by decide +kernel
theorem zd99 : ∀ r ∈ ze99, ∀ e ∈ r, decode cX11_goBack e.1 = .ok (e.2.1, zlen e.2.1 e.2.2.1) := by decide +kernel
theorem zc99 : lw_tbl[1514]? = some (Cond.code zm99.1 zm99.2.1 zm99.2.2.1 zm99.2.2.2.1) := by decide +kernel
theorem zo99 : zokM zm99 := by
  have h := Bool.and_eq_true .. ▸ zg99
  exact zM_ok (zin_of _ zq99 h.1) h.2 zd99 (fun _ => List.mem_filter.mpr ⟨List.mem_of_getElem? zc99, rfl⟩)
theorem zq100 : zwM zmt zm100 = [126, 1078, 27, 775, 776, 775, 776, 390, 391, 135, 775, 776, 774, 1080, 776, 776, 777, 777, 777].filterMap (fun p => lw_tbl[p]?) := by decide +kernel
theorem zg100 : ((zwM zmt zm100).all goodWord && zbM zmt zm100) = true := by decide +kernel
theorem zd100 : ∀ r ∈ ze100, ∀ e ∈ r, decode cX11_remember e.1 = .ok (e.2.1, zlen e.2.1 e.2.2.1) := by decide +kernel
theorem zc100 : lw_tbl[1079]? = some (Cond.code zm100.1 zm100.2.1 zm100.2.2.1 zm100.2.2.2.1) := by decide +kernel
theorem zo100 : zokM zm100 := by
  have h := Bool.and_eq_true .. ▸ zg100
  exact zM_ok (zin_of _ zq100 h.1) h.2 zd100 (fun _ => List.mem_filter.mpr ⟨List.mem_of_getElem? zc100, rfl⟩)
theorem zq101 : zwM zmt zm101 = [126, 975, 20, 777, 977].filterMap (fun p => lw_tbl[p]?) := by decide +kernel
theorem zg101 : ((zwM zmt zm101).all goodWord && zbM zmt zm101) = true := by decide +kernel
theorem zd101 : ∀ r ∈ ze101, ∀ e ∈ r, decode cX11_gameBegan e.1 = .ok (e.2.1, zlen e.2.1 e.2.2.1) := by decide +kernel
theorem zc101 : lw_tbl[976]? = some (Cond.code zm101.1 zm101.2.1 zm101.2.2.1 zm101.2.2.2.1) := by decide +kernel
theorem zo101 : zokM zm101 := by
  have h := Bool.and_eq_true .. ▸ zg101
  exact zM_ok (zin_of _ zq101 h.1) h.2 zd101 (fun _ => List.mem_filter.mpr ⟨List.mem_of_getElem? zc101, rfl⟩)
theorem zq102 : zwM zmt zm102 = [126, 979, 21, 786, 783, 697, 784, 981].filterMap (fun p => lw_tbl[p]?) := by decide +kernel
theorem zg102 : ((zwM zmt zm102).all goodWord && zbM zmt zm102) = true := by decide +kernel
theorem zd102 : ∀ r ∈ ze102, ∀ e ∈ r, decode cX11_gameChanged e.1 = .ok (e.2.1, zlen e.2.1 e.2.2.1) := by decide +kernel
theorem zc102 : lw_tbl[980]? = some (Cond.code zm102.1 zm102.2.1 zm102.2.2.1 zm102.2.2.2.1) := by decide +kernel
theorem zo102 : zokM zm102 := by
  have h := Bool.and_eq_true .. ▸ zg102
  exact zM_ok (zin_of _ zq102 h.1) h.2 zd102 (fun _ => List.mem_filter.mpr ⟨List.mem_of_getElem? zc102, rfl⟩)
theorem zq103 : zwM zmt zm103 = [142, 1598, 1599, 1647].filterMap (fun p => lw_tbl[p]?) := by decide +kernel
theorem zg103 : ((zwM zmt zm103).all goodWord && zbM zmt zm103) = true := by decide +kernel
theorem zd103 : ∀ r ∈ ze103, ∀ e ∈ r, decode cX12_thrown e.1 = .ok (e.2.1, zlen e.2.1 e.2.2.1) := by decide +kernel
theorem zc103 : lw_tbl[1600]? = some (Cond.code zm103.1 zm103.2.1 zm103.2.2.1 zm103.2.2.2.1) := by decide +kernel
theorem zo103 : zokM zm103 := by
  have h := Bool.and_eq_true .. ▸ zg103
  exact zM_ok (zin_of _ zq103 h.1) h.2 zd103 (fun _ => List.mem_filter.mpr ⟨List.mem_of_getElem? zc103, rfl⟩)
theorem zq104 : zwM zmt zm104 = [142, 1612, 1614, 334, 1648, 334, 1651, 334, 1652, 251, 1653, 251, 1615, 1616, 1617, 1618, 1619, 1620, 1621, 1622, 1623, 1624, 1625, 1626, 1627, 1628, 1629, 1630, 1631, 1632, 1633, 1634, 1635, 1636, 1637, 1638, 1656, 334, 1657, 334, 1658, 334, 1659, 251, 1661, 251, 1662, 334, 1664, 334, 1665, 334, 1666, 334, 1667, 334, 1668, 334, 1669, 335, 1671, 1672, 334, 1674, 251, 1675, 251, 1676, 251, 1677, 334, 1678, 334, 1679, 334, 1680, 334, 1681, 334, 1687, 334, 1689, 334, 1690, 334, 1693, 334, 1694, 334, 1699, 334, 1700, 1639, 1643].filterMap (fun p => lw_tbl[p]?) := by decide +kernel
theorem zg104 : ((zwM zmt zm104).all goodWord && zbM zmt zm104) = true := by decide +kernel
theorem zd104 : ∀ r ∈ ze104, ∀ e ∈ r, decode cX12_init e.1 = .ok (e.2.1, zlen e.2.1 e.2.2.1) := by decide +kernel
theorem zc104 : lw_tbl[1613]? = some (Cond.code zm104.1 zm104.2.1 zm104.2.2.1 zm104.2.2.2.1) := by decide +kernel
theorem zo104 : zokM zm104 := by
  have h := Bool.and_eq_true .. ▸ zg104
  exact zM_ok (zin_of _ zq104 h.1) h.2 zd104 (fun _ => List.mem_filter.mpr ⟨List.mem_of_getElem? zc104, rfl⟩)
