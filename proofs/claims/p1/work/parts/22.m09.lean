theorem zq140 : zwM zmt zm140 = [142, 2124, 2125, 1647, 1955].filterMap (fun p => lw_tbl[p]?) := by decide +kernel
theorem zg140 : ((zwM zmt zm140).all goodWord && zbM zmt zm140) = true := by decide +kernel
theorem zd140 : ∀ r ∈ ze140, ∀ e ∈ r, decode cX12_laws e.1 = .ok (e.2.1, zlen e.2.1 e.2.2.1) := by decide +kernel
theorem zc140 : lw_tbl[2126]? = some (Cond.code zm140.1 zm140.2.1 zm140.2.2.1 zm140.2.2.2.1) := by decide +kernel
theorem zo140 : zokM zm140 := by
  have h := Bool.and_eq_true .. ▸ zg140
  exact zM_ok (zin_of _ zq140 h.1) h.2 zd140 (fun _ => List.mem_filter.mpr ⟨List.mem_of_getElem? zc140, rfl⟩)
theorem zq141 : zwM zmt zm141 = [142, 2141, 114, 1695, 1669, 1695].filterMap (fun p => lw_tbl[p]?) := by decide +kernel
theorem zg141 : ((zwM zmt zm141).all goodWord && zbM zmt zm141) = true := by decide +kernel
theorem zd141 : ∀ r ∈ ze141, ∀ e ∈ r, decode cX12_findHidden e.1 = .ok (e.2.1, zlen e.2.1 e.2.2.1) := by decide +kernel
theorem zc141 : lw_tbl[2142]? = some (Cond.code zm141.1 zm141.2.1 zm141.2.2.1 zm141.2.2.2.1) := by decide +kernel
theorem zo141 : zokM zm141 := by
  have h := Bool.and_eq_true .. ▸ zg141
  exact zM_ok (zin_of _ zq141 h.1) h.2 zd141 (fun _ => List.mem_filter.mpr ⟨List.mem_of_getElem? zc141, rfl⟩)
theorem zq142 : zwM zmt zm142 = [142, 2128, 2129, 1647, 1974, 1669].filterMap (fun p => lw_tbl[p]?) := by decide +kernel
theorem zg142 : ((zwM zmt zm142).all goodWord && zbM zmt zm142) = true := by decide +kernel
theorem zd142 : ∀ r ∈ ze142, ∀ e ∈ r, decode cX12_unseen e.1 = .ok (e.2.1, zlen e.2.1 e.2.2.1) := by decide +kernel
theorem zc142 : lw_tbl[2130]? = some (Cond.code zm142.1 zm142.2.1 zm142.2.2.1 zm142.2.2.2.1) := by decide +kernel
theorem zo142 : zokM zm142 := by
  have h := Bool.and_eq_true .. ▸ zg142
  exact zM_ok (zin_of _ zq142 h.1) h.2 zd142 (fun _ => List.mem_filter.mpr ⟨List.mem_of_getElem? zc142, rfl⟩)
theorem zq143 : zwM zmt zm143 = [142, 2137, 113, 2139, 1694, 1695, 2087, 1698, 1696, 1697, 1698, 1993, 1695, 2057, 1696, 1683, 1696, 1697, 1683, 1697, 1694, 1695, 2096, 1698].filterMap (fun p => lw_tbl[p]?) := by decide +kernel
theorem zg143 : ((zwM zmt zm143).all goodWord && zbM zmt zm143) = true := by decide +kernel
theorem zd143 : ∀ r ∈ ze143, ∀ e ∈ r, decode cX12_findOdds e.1 = .ok (e.2.1, zlen e.2.1 e.2.2.1) := by decide +kernel
theorem zc143 : lw_tbl[2138]? = some (Cond.code zm143.1 zm143.2.1 zm143.2.2.1 zm143.2.2.2.1) := by decide +kernel
theorem zo143 : zokM zm143 := by
  have h := Bool.and_eq_true .. ▸ zg143
  exact zM_ok (zin_of _ zq143 h.1) h.2 zd143 (fun _ => List.mem_filter.mpr ⟨List.mem_of_getElem? zc143, rfl⟩)
theorem zq144 : zwM zmt zm144 = [142, 2132, 2133, 1647, 1963, 2135, 1696, 1697, 1698].filterMap (fun p => lw_tbl[p]?) := by decide +kernel
theorem zg144 : ((zwM zmt zm144).all goodWord && zbM zmt zm144) = true := by decide +kernel
theorem zd144 : ∀ r ∈ ze144, ∀ e ∈ r, decode cX12_odds e.1 = .ok (e.2.1, zlen e.2.1 e.2.2.1) := by decide +kernel
theorem zc144 : lw_tbl[2134]? = some (Cond.code zm144.1 zm144.2.1 zm144.2.2.1 zm144.2.2.2.1) := by decide +kernel
theorem zo144 : zokM zm144 := by
  have h := Bool.and_eq_true .. ▸ zg144
  exact zM_ok (zin_of _ zq144 h.1) h.2 zd144 (fun _ => List.mem_filter.mpr ⟨List.mem_of_getElem? zc144, rfl⟩)
theorem zq145 : zwM zmt zm145 = [142, 2149, 115, 1657].filterMap (fun p => lw_tbl[p]?) := by decide +kernel
theorem zg145 : ((zwM zmt zm145).all goodWord && zbM zmt zm145) = true := by decide +kernel
theorem zd145 : ∀ r ∈ ze145, ∀ e ∈ r, decode cX12_offerNow e.1 = .ok (e.2.1, zlen e.2.1 e.2.2.1) := by decide +kernel
theorem zc145 : lw_tbl[2150]? = some (Cond.code zm145.1 zm145.2.1 zm145.2.2.1 zm145.2.2.2.1) := by decide +kernel
theorem zo145 : zokM zm145 := by
  have h := Bool.and_eq_true .. ▸ zg145
  exact zM_ok (zin_of _ zq145 h.1) h.2 zd145 (fun _ => List.mem_filter.mpr ⟨List.mem_of_getElem? zc145, rfl⟩)
theorem zq146 : zwM zmt zm146 = [142, 2144, 2145, 1647, 2147].filterMap (fun p => lw_tbl[p]?) := by decide +kernel
theorem zg146 : ((zwM zmt zm146).all goodWord && zbM zmt zm146) = true := by decide +kernel
theorem zd146 : ∀ r ∈ ze146, ∀ e ∈ r, decode cX12_offer e.1 = .ok (e.2.1, zlen e.2.1 e.2.2.1) := by decide +kernel
theorem zc146 : lw_tbl[2146]? = some (Cond.code zm146.1 zm146.2.1 zm146.2.2.1 zm146.2.2.2.1) := by decide +kernel
theorem zo146 : zokM zm146 := by
  have h := Bool.and_eq_true .. ▸ zg146
  exact zM_ok (zin_of _ zq146 h.1) h.2 zd146 (fun _ => List.mem_filter.mpr ⟨List.mem_of_getElem? zc146, rfl⟩)
theorem zq147 : zwM zmt zm147 = [142, 2159, 2160, 1647, 1974, 1669, 1963, 1669, 1669, 1989, 1669, 1669, 1669, 1669, 2147, 1669, 1669, 1669].filterMap (fun p => lw_tbl[p]?) := by decide +kernel
theorem zg147 : ((zwM zmt zm147).all goodWord && zbM zmt zm147) = true := by decide +kernel
theorem zd147 : ∀ r ∈ ze147, ∀ e ∈ r, decode cX12_bet e.1 = .ok (e.2.1, zlen e.2.1 e.2.2.1) := by decide +kernel
theorem zc147 : lw_tbl[2161]? = some (Cond.code zm147.1 zm147.2.1 zm147.2.2.1 zm147.2.2.2.1) := by decide +kernel
theorem zo147 : zokM zm147 := by
  have h := Bool.and_eq_true .. ▸ zg147
  exact zM_ok (zin_of _ zq147 h.1) h.2 zd147 (fun _ => List.mem_filter.mpr ⟨List.mem_of_getElem? zc147, rfl⟩)
theorem zq148 : zwM zmt zm148 = [142, 2163, 2164, 1647, 1974, 2135, 1696, 1697, 2147, 1698].filterMap (fun p => lw_tbl[p]?) := by decide +kernel
theorem zg148 : ((zwM zmt zm148).all goodWord && zbM zmt zm148) = true := by decide +kernel
theorem zd148 : ∀ r ∈ ze148, ∀ e ∈ r, decode cX12_take e.1 = .ok (e.2.1, zlen e.2.1 e.2.2.1) := by decide +kernel
theorem zc148 : lw_tbl[2165]? = some (Cond.code zm148.1 zm148.2.1 zm148.2.2.1 zm148.2.2.2.1) := by decide +kernel
theorem zo148 : zokM zm148 := by
  have h := Bool.and_eq_true .. ▸ zg148
  exact zM_ok (zin_of _ zq148 h.1) h.2 zd148 (fun _ => List.mem_filter.mpr ⟨List.mem_of_getElem? zc148, rfl⟩)
theorem zq149 : zwM zmt zm149 = [142, 2180, 119, 1997].filterMap (fun p => lw_tbl[p]?) := by decide +kernel
theorem zg149 : ((zwM zmt zm149).all goodWord && zbM zmt zm149) = true := by decide +kernel
theorem zd149 : ∀ r ∈ ze149, ∀ e ∈ r, decode cX12_goesToHeap e.1 = .ok (e.2.1, zlen e.2.1 e.2.2.1) := by decide +kernel
theorem zc149 : lw_tbl[2181]? = some (Cond.code zm149.1 zm149.2.1 zm149.2.2.1 zm149.2.2.2.1) := by decide +kernel
theorem zo149 : zokM zm149 := by
  have h := Bool.and_eq_true .. ▸ zg149
  exact zM_ok (zin_of _ zq149 h.1) h.2 zd149 (fun _ => List.mem_filter.mpr ⟨List.mem_of_getElem? zc149, rfl⟩)
theorem zq150 : zwM zmt zm150 = [142, 2176, 118, 2178, 1701, 1669].filterMap (fun p => lw_tbl[p]?) := by decide +kernel
theorem zg150 : ((zwM zmt zm150).all goodWord && zbM zmt zm150) = true := by decide +kernel
theorem zd150 : ∀ r ∈ ze150, ∀ e ∈ r, decode cX12_canWin e.1 = .ok (e.2.1, zlen e.2.1 e.2.2.1) := by decide +kernel
theorem zc150 : lw_tbl[2177]? = some (Cond.code zm150.1 zm150.2.1 zm150.2.2.1 zm150.2.2.2.1) := by decide +kernel
theorem zo150 : zokM zm150 := by
  have h := Bool.and_eq_true .. ▸ zg150
  exact zM_ok (zin_of _ zq150 h.1) h.2 zd150 (fun _ => List.mem_filter.mpr ⟨List.mem_of_getElem? zc150, rfl⟩)
theorem zq151 : zwM zmt zm151 = [142, 2172, 117, 1993, 2174].filterMap (fun p => lw_tbl[p]?) := by decide +kernel
theorem zg151 : ((zwM zmt zm151).all goodWord && zbM zmt zm151) = true := by decide +kernel
theorem zd151 : ∀ r ∈ ze151, ∀ e ∈ r, decode cX12_findChoice e.1 = .ok (e.2.1, zlen e.2.1 e.2.2.1) := by decide +kernel
theorem zc151 : lw_tbl[2173]? = some (Cond.code zm151.1 zm151.2.1 zm151.2.2.1 zm151.2.2.2.1) := by decide +kernel
theorem zo151 : zokM zm151 := by
  have h := Bool.and_eq_true .. ▸ zg151
  exact zM_ok (zin_of _ zq151 h.1) h.2 zd151 (fun _ => List.mem_filter.mpr ⟨List.mem_of_getElem? zc151, rfl⟩)
theorem zq152 : zwM zmt zm152 = [142, 2167, 2168, 1647, 1963, 1669, 2170].filterMap (fun p => lw_tbl[p]?) := by decide +kernel
theorem zg152 : ((zwM zmt zm152).all goodWord && zbM zmt zm152) = true := by decide +kernel
theorem zd152 : ∀ r ∈ ze152, ∀ e ∈ r, decode cX12_choice e.1 = .ok (e.2.1, zlen e.2.1 e.2.2.1) := by decide +kernel
theorem zc152 : lw_tbl[2169]? = some (Cond.code zm152.1 zm152.2.1 zm152.2.2.1 zm152.2.2.2.1) := by decide +kernel
theorem zo152 : zokM zm152 := by
  have h := Bool.and_eq_true .. ▸ zg152
  exact zM_ok (zin_of _ zq152 h.1) h.2 zd152 (fun _ => List.mem_filter.mpr ⟨List.mem_of_getElem? zc152, rfl⟩)
theorem zq153 : zwM zmt zm153 = [142, 2188, 120, 2178, 1669].filterMap (fun p => lw_tbl[p]?) := by decide +kernel
theorem zg153 : ((zwM zmt zm153).all goodWord && zbM zmt zm153) = true := by decide +kernel
theorem zd153 : ∀ r ∈ ze153, ∀ e ∈ r, decode cX12_mustWin e.1 = .ok (e.2.1, zlen e.2.1 e.2.2.1) := by decide +kernel
theorem zc153 : lw_tbl[2189]? = some (Cond.code zm153.1 zm153.2.1 zm153.2.2.1 zm153.2.2.2.1) := by decide +kernel
theorem zo153 : zokM zm153 := by
  have h := Bool.and_eq_true .. ▸ zg153
  exact zM_ok (zin_of _ zq153 h.1) h.2 zd153 (fun _ => List.mem_filter.mpr ⟨List.mem_of_getElem? zc153, rfl⟩)
theorem zq154 : zwM zmt zm154 = [142, 2183, 2184, 1647, 1963, 1669, 1993, 2186].filterMap (fun p => lw_tbl[p]?) := by decide +kernel
theorem zg154 : ((zwM zmt zm154).all goodWord && zbM zmt zm154) = true := by decide +kernel
theorem zd154 : ∀ r ∈ ze154, ∀ e ∈ r, decode cX12_both_ e.1 = .ok (e.2.1, zlen e.2.1 e.2.2.1) := by decide +kernel
theorem zc154 : lw_tbl[2185]? = some (Cond.code zm154.1 zm154.2.1 zm154.2.2.1 zm154.2.2.2.1) := by decide +kernel
theorem zo154 : zokM zm154 := by
  have h := Bool.and_eq_true .. ▸ zg154
  exact zM_ok (zin_of _ zq154 h.1) h.2 zd154 (fun _ => List.mem_filter.mpr ⟨List.mem_of_getElem? zc154, rfl⟩)
theorem zq155 : zwM zmt zm155 = [142, 2191, 2192, 1647, 1963, 1657].filterMap (fun p => lw_tbl[p]?) := by decide +kernel
theorem zg155 : ((zwM zmt zm155).all goodWord && zbM zmt zm155) = true := by decide +kernel
theorem zd155 : ∀ r ∈ ze155, ∀ e ∈ r, decode cX12_opening e.1 = .ok (e.2.1, zlen e.2.1 e.2.2.1) := by decide +kernel
theorem zc155 : lw_tbl[2193]? = some (Cond.code zm155.1 zm155.2.1 zm155.2.2.1 zm155.2.2.2.1) := by decide +kernel
theorem zo155 : zokM zm155 := by
  have h := Bool.and_eq_true .. ▸ zg155
  exact zM_ok (zin_of _ zq155 h.1) h.2 zd155 (fun _ => List.mem_filter.mpr ⟨List.mem_of_getElem? zc155, rfl⟩)
theorem zq156 : zwM zmt zm156 = [142, 2199, 2200, 1647, 1955].filterMap (fun p => lw_tbl[p]?) := by decide +kernel
theorem zg156 : ((zwM zmt zm156).all goodWord && zbM zmt zm156) = true := by decide +kernel
theorem zd156 : ∀ r ∈ ze156, ∀ e ∈ r, decode cX12_comes e.1 = .ok (e.2.1, zlen e.2.1 e.2.2.1) := by decide +kernel
theorem zc156 : lw_tbl[2201]? = some (Cond.code zm156.1 zm156.2.1 zm156.2.2.1 zm156.2.2.2.1) := by decide +kernel
theorem zo156 : zokM zm156 := by
  have h := Bool.and_eq_true .. ▸ zg156
  exact zM_ok (zin_of _ zq156 h.1) h.2 zd156 (fun _ => List.mem_filter.mpr ⟨List.mem_of_getElem? zc156, rfl⟩)
