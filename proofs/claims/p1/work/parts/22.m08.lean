theorem zq122 : zwM zmt zm122 = [142, 1978, 1979, 1647, 1669].filterMap (fun p => lw_tbl[p]?) := by decide +kernel
theorem zg122 : ((zwM zmt zm122).all goodWord && zbM zmt zm122) = true := by decide +kernel
theorem zd122 : ∀ r ∈ ze122, ∀ e ∈ r, decode cX12_heap e.1 = .ok (e.2.1, zlen e.2.1 e.2.2.1) := by decide +kernel
theorem zc122 : lw_tbl[1980]? = some (Cond.code zm122.1 zm122.2.1 zm122.2.2.1 zm122.2.2.2.1) := by decide +kernel
theorem zo122 : zokM zm122 := by
  have h := Bool.and_eq_true .. ▸ zg122
  exact zM_ok (zin_of _ zq122 h.1) h.2 zd122 (fun _ => List.mem_filter.mpr ⟨List.mem_of_getElem? zc122, rfl⟩)
theorem zq123 : zwM zmt zm123 = [142, 1982, 1983, 1647, 1669].filterMap (fun p => lw_tbl[p]?) := by decide +kernel
theorem zg123 : ((zwM zmt zm123).all goodWord && zbM zmt zm123) = true := by decide +kernel
theorem zd123 : ∀ r ∈ ze123, ∀ e ∈ r, decode cX12_taken e.1 = .ok (e.2.1, zlen e.2.1 e.2.2.1) := by decide +kernel
theorem zc123 : lw_tbl[1984]? = some (Cond.code zm123.1 zm123.2.1 zm123.2.2.1 zm123.2.2.2.1) := by decide +kernel
theorem zo123 : zokM zm123 := by
  have h := Bool.and_eq_true .. ▸ zg123
  exact zM_ok (zin_of _ zq123 h.1) h.2 zd123 (fun _ => List.mem_filter.mpr ⟨List.mem_of_getElem? zc123, rfl⟩)
theorem zq124 : zwM zmt zm124 = [142, 1986, 1987, 1647, 1963, 1669, 1989, 1997].filterMap (fun p => lw_tbl[p]?) := by decide +kernel
theorem zg124 : ((zwM zmt zm124).all goodWord && zbM zmt zm124) = true := by decide +kernel
theorem zd124 : ∀ r ∈ ze124, ∀ e ∈ r, decode cX12_turn e.1 = .ok (e.2.1, zlen e.2.1 e.2.2.1) := by decide +kernel
theorem zc124 : lw_tbl[1988]? = some (Cond.code zm124.1 zm124.2.1 zm124.2.2.1 zm124.2.2.2.1) := by decide +kernel
theorem zo124 : zokM zm124 := by
  have h := Bool.and_eq_true .. ▸ zg124
  exact zM_ok (zin_of _ zq124 h.1) h.2 zd124 (fun _ => List.mem_filter.mpr ⟨List.mem_of_getElem? zc124, rfl⟩)
theorem zq125 : zwM zmt zm125 = [142, 2038, 2039, 1647, 1669, 1963, 1669, 1669, 1669, 1989, 1669].filterMap (fun p => lw_tbl[p]?) := by decide +kernel
theorem zg125 : ((zwM zmt zm125).all goodWord && zbM zmt zm125) = true := by decide +kernel
theorem zd125 : ∀ r ∈ ze125, ∀ e ∈ r, decode cX12_slip e.1 = .ok (e.2.1, zlen e.2.1 e.2.2.1) := by decide +kernel
theorem zc125 : lw_tbl[2040]? = some (Cond.code zm125.1 zm125.2.1 zm125.2.2.1 zm125.2.2.2.1) := by decide +kernel
theorem zo125 : zokM zm125 := by
  have h := Bool.and_eq_true .. ▸ zg125
  exact zM_ok (zin_of _ zq125 h.1) h.2 zd125 (fun _ => List.mem_filter.mpr ⟨List.mem_of_getElem? zc125, rfl⟩)
theorem zq126 : zwM zmt zm126 = [142, 2042, 2043, 1647, 1670].filterMap (fun p => lw_tbl[p]?) := by decide +kernel
theorem zg126 : ((zwM zmt zm126).all goodWord && zbM zmt zm126) = true := by decide +kernel
theorem zd126 : ∀ r ∈ ze126, ∀ e ∈ r, decode cX12_undo e.1 = .ok (e.2.1, zlen e.2.1 e.2.2.1) := by decide +kernel
theorem zc126 : lw_tbl[2044]? = some (Cond.code zm126.1 zm126.2.1 zm126.2.2.1 zm126.2.2.2.1) := by decide +kernel
theorem zo126 : zokM zm126 := by
  have h := Bool.and_eq_true .. ▸ zg126
  exact zM_ok (zin_of _ zq126 h.1) h.2 zd126 (fun _ => List.mem_filter.mpr ⟨List.mem_of_getElem? zc126, rfl⟩)
theorem zq127 : zwM zmt zm127 = [142, 2046, 2047, 1647, 1669].filterMap (fun p => lw_tbl[p]?) := by decide +kernel
theorem zg127 : ((zwM zmt zm127).all goodWord && zbM zmt zm127) = true := by decide +kernel
theorem zd127 : ∀ r ∈ ze127, ∀ e ∈ r, decode cX12_again e.1 = .ok (e.2.1, zlen e.2.1 e.2.2.1) := by decide +kernel
theorem zc127 : lw_tbl[2048]? = some (Cond.code zm127.1 zm127.2.1 zm127.2.2.1 zm127.2.2.2.1) := by decide +kernel
theorem zo127 : zokM zm127 := by
  have h := Bool.and_eq_true .. ▸ zg127
  exact zM_ok (zin_of _ zq127 h.1) h.2 zd127 (fun _ => List.mem_filter.mpr ⟨List.mem_of_getElem? zc127, rfl⟩)
theorem zq128 : zwM zmt zm128 = [142, 2059, 104, 1681, 1682, 1669, 1686, 1669, 1684, 1685, 1997, 1669, 1683].filterMap (fun p => lw_tbl[p]?) := by decide +kernel
theorem zg128 : ((zwM zmt zm128).all goodWord && zbM zmt zm128) = true := by decide +kernel
theorem zd128 : ∀ r ∈ ze128, ∀ e ∈ r, decode cX12_runs e.1 = .ok (e.2.1, zlen e.2.1 e.2.2.1) := by decide +kernel
theorem zc128 : lw_tbl[2060]? = some (Cond.code zm128.1 zm128.2.1 zm128.2.2.1 zm128.2.2.2.1) := by decide +kernel
theorem zo128 : zokM zm128 := by
  have h := Bool.and_eq_true .. ▸ zg128
  exact zM_ok (zin_of _ zq128 h.1) h.2 zd128 (fun _ => List.mem_filter.mpr ⟨List.mem_of_getElem? zc128, rfl⟩)
theorem zq129 : zwM zmt zm129 = [142, 2055, 103, 1993, 2057].filterMap (fun p => lw_tbl[p]?) := by decide +kernel
theorem zg129 : ((zwM zmt zm129).all goodWord && zbM zmt zm129) = true := by decide +kernel
theorem zd129 : ∀ r ∈ ze129, ∀ e ∈ r, decode cX12_runsNow e.1 = .ok (e.2.1, zlen e.2.1 e.2.2.1) := by decide +kernel
theorem zc129 : lw_tbl[2056]? = some (Cond.code zm129.1 zm129.2.1 zm129.2.2.1 zm129.2.2.2.1) := by decide +kernel
theorem zo129 : zokM zm129 := by
  have h := Bool.and_eq_true .. ▸ zg129
  exact zM_ok (zin_of _ zq129 h.1) h.2 zd129 (fun _ => List.mem_filter.mpr ⟨List.mem_of_getElem? zc129, rfl⟩)
theorem zq130 : zwM zmt zm130 = [142, 2050, 2051, 1647, 1963, 2053, 1683, 1684, 1685, 1686].filterMap (fun p => lw_tbl[p]?) := by decide +kernel
theorem zg130 : ((zwM zmt zm130).all goodWord && zbM zmt zm130) = true := by decide +kernel
theorem zd130 : ∀ r ∈ ze130, ∀ e ∈ r, decode cX12_ends e.1 = .ok (e.2.1, zlen e.2.1 e.2.2.1) := by decide +kernel
theorem zc130 : lw_tbl[2052]? = some (Cond.code zm130.1 zm130.2.1 zm130.2.2.1 zm130.2.2.2.1) := by decide +kernel
theorem zo130 : zokM zm130 := by
  have h := Bool.and_eq_true .. ▸ zg130
  exact zM_ok (zin_of _ zq130 h.1) h.2 zd130 (fun _ => List.mem_filter.mpr ⟨List.mem_of_getElem? zc130, rfl⟩)
theorem zq131 : zwM zmt zm131 = [142, 2085, 108, 1688, 1959].filterMap (fun p => lw_tbl[p]?) := by decide +kernel
theorem zg131 : ((zwM zmt zm131).all goodWord && zbM zmt zm131) = true := by decide +kernel
theorem zd131 : ∀ r ∈ ze131, ∀ e ∈ r, decode cX12_laysPack e.1 = .ok (e.2.1, zlen e.2.1 e.2.2.1) := by decide +kernel
theorem zc131 : lw_tbl[2086]? = some (Cond.code zm131.1 zm131.2.1 zm131.2.2.1 zm131.2.2.2.1) := by decide +kernel
theorem zo131 : zokM zm131 := by
  have h := Bool.and_eq_true .. ▸ zg131
  exact zM_ok (zin_of _ zq131 h.1) h.2 zd131 (fun _ => List.mem_filter.mpr ⟨List.mem_of_getElem? zc131, rfl⟩)
theorem zq132 : zwM zmt zm132 = [142, 2089, 109, 2091].filterMap (fun p => lw_tbl[p]?) := by decide +kernel
theorem zg132 : ((zwM zmt zm132).all goodWord && zbM zmt zm132) = true := by decide +kernel
theorem zd132 : ∀ r ∈ ze132, ∀ e ∈ r, decode cX12_rowsOf e.1 = .ok (e.2.1, zlen e.2.1 e.2.2.1) := by decide +kernel
theorem zc132 : lw_tbl[2090]? = some (Cond.code zm132.1 zm132.2.1 zm132.2.2.1 zm132.2.2.2.1) := by decide +kernel
theorem zo132 : zokM zm132 := by
  have h := Bool.and_eq_true .. ▸ zg132
  exact zM_ok (zin_of _ zq132 h.1) h.2 zd132 (fun _ => List.mem_filter.mpr ⟨List.mem_of_getElem? zc132, rfl⟩)
theorem zq133 : zwM zmt zm133 = [142, 2098, 111].filterMap (fun p => lw_tbl[p]?) := by decide +kernel
theorem zg133 : ((zwM zmt zm133).all goodWord && zbM zmt zm133) = true := by decide +kernel
theorem zd133 : ∀ r ∈ ze133, ∀ e ∈ r, decode cX12_goesNext e.1 = .ok (e.2.1, zlen e.2.1 e.2.2.1) := by decide +kernel
theorem zc133 : lw_tbl[2099]? = some (Cond.code zm133.1 zm133.2.1 zm133.2.2.1 zm133.2.2.2.1) := by decide +kernel
theorem zo133 : zokM zm133 := by
  have h := Bool.and_eq_true .. ▸ zg133
  exact zM_ok (zin_of _ zq133 h.1) h.2 zd133 (fun _ => List.mem_filter.mpr ⟨List.mem_of_getElem? zc133, rfl⟩)
theorem zq134 : zwM zmt zm134 = [142, 2081, 107, 2083, 1688, 1691, 1691, 1691].filterMap (fun p => lw_tbl[p]?) := by decide +kernel
theorem zg134 : ((zwM zmt zm134).all goodWord && zbM zmt zm134) = true := by decide +kernel
theorem zd134 : ∀ r ∈ ze134, ∀ e ∈ r, decode cX12_counts e.1 = .ok (e.2.1, zlen e.2.1 e.2.2.1) := by decide +kernel
theorem zc134 : lw_tbl[2082]? = some (Cond.code zm134.1 zm134.2.1 zm134.2.2.1 zm134.2.2.2.1) := by decide +kernel
theorem zo134 : zokM zm134 := by
  have h := Bool.and_eq_true .. ▸ zg134
  exact zM_ok (zin_of _ zq134 h.1) h.2 zd134 (fun _ => List.mem_filter.mpr ⟨List.mem_of_getElem? zc134, rfl⟩)
theorem zq135 : zwM zmt zm135 = [142, 2076, 2077, 1647, 1963, 2079].filterMap (fun p => lw_tbl[p]?) := by decide +kernel
theorem zg135 : ((zwM zmt zm135).all goodWord && zbM zmt zm135) = true := by decide +kernel
theorem zd135 : ∀ r ∈ ze135, ∀ e ∈ r, decode cX12_all e.1 = .ok (e.2.1, zlen e.2.1 e.2.2.1) := by decide +kernel
theorem zc135 : lw_tbl[2078]? = some (Cond.code zm135.1 zm135.2.1 zm135.2.2.1 zm135.2.2.2.1) := by decide +kernel
theorem zo135 : zokM zm135 := by
  have h := Bool.and_eq_true .. ▸ zg135
  exact zM_ok (zin_of _ zq135 h.1) h.2 zd135 (fun _ => List.mem_filter.mpr ⟨List.mem_of_getElem? zc135, rfl⟩)
theorem zq136 : zwM zmt zm136 = [142, 2104, 2105, 1647, 2079].filterMap (fun p => lw_tbl[p]?) := by decide +kernel
theorem zg136 : ((zwM zmt zm136).all goodWord && zbM zmt zm136) = true := by decide +kernel
theorem zd136 : ∀ r ∈ ze136, ∀ e ∈ r, decode cX12_row e.1 = .ok (e.2.1, zlen e.2.1 e.2.2.1) := by decide +kernel
theorem zc136 : lw_tbl[2106]? = some (Cond.code zm136.1 zm136.2.1 zm136.2.2.1 zm136.2.2.2.1) := by decide +kernel
theorem zo136 : zokM zm136 := by
  have h := Bool.and_eq_true .. ▸ zg136
  exact zM_ok (zin_of _ zq136 h.1) h.2 zd136 (fun _ => List.mem_filter.mpr ⟨List.mem_of_getElem? zc136, rfl⟩)
theorem zq137 : zwM zmt zm137 = [142, 2108, 2109, 1647, 1963, 2079].filterMap (fun p => lw_tbl[p]?) := by decide +kernel
theorem zg137 : ((zwM zmt zm137).all goodWord && zbM zmt zm137) = true := by decide +kernel
theorem zd137 : ∀ r ∈ ze137, ∀ e ∈ r, decode cX12_beginner e.1 = .ok (e.2.1, zlen e.2.1 e.2.2.1) := by decide +kernel
theorem zc137 : lw_tbl[2110]? = some (Cond.code zm137.1 zm137.2.1 zm137.2.2.1 zm137.2.2.2.1) := by decide +kernel
theorem zo137 : zokM zm137 := by
  have h := Bool.and_eq_true .. ▸ zg137
  exact zM_ok (zin_of _ zq137 h.1) h.2 zd137 (fun _ => List.mem_filter.mpr ⟨List.mem_of_getElem? zc137, rfl⟩)
theorem zq138 : zwM zmt zm138 = [142, 2112, 2113, 1647, 1955].filterMap (fun p => lw_tbl[p]?) := by decide +kernel
theorem zg138 : ((zwM zmt zm138).all goodWord && zbM zmt zm138) = true := by decide +kernel
theorem zd138 : ∀ r ∈ ze138, ∀ e ∈ r, decode cX12_worth e.1 = .ok (e.2.1, zlen e.2.1 e.2.2.1) := by decide +kernel
theorem zc138 : lw_tbl[2114]? = some (Cond.code zm138.1 zm138.2.1 zm138.2.2.1 zm138.2.2.2.1) := by decide +kernel
theorem zo138 : zokM zm138 := by
  have h := Bool.and_eq_true .. ▸ zg138
  exact zM_ok (zin_of _ zq138 h.1) h.2 zd138 (fun _ => List.mem_filter.mpr ⟨List.mem_of_getElem? zc138, rfl⟩)
theorem zq139 : zwM zmt zm139 = [142, 2116, 2117, 1647, 1963, 1963, 2079].filterMap (fun p => lw_tbl[p]?) := by decide +kernel
theorem zg139 : ((zwM zmt zm139).all goodWord && zbM zmt zm139) = true := by decide +kernel
theorem zd139 : ∀ r ∈ ze139, ∀ e ∈ r, decode cX12_leads e.1 = .ok (e.2.1, zlen e.2.1 e.2.2.1) := by decide +kernel
theorem zc139 : lw_tbl[2118]? = some (Cond.code zm139.1 zm139.2.1 zm139.2.2.1 zm139.2.2.2.1) := by decide +kernel
theorem zo139 : zokM zm139 := by
  have h := Bool.and_eq_true .. ▸ zg139
  exact zM_ok (zin_of _ zq139 h.1) h.2 zd139 (fun _ => List.mem_filter.mpr ⟨List.mem_of_getElem? zc139, rfl⟩)
