theorem zq105 : zwM zmt zm105 = [142, 1822, 61, 1649, 1650, 1649, 1650, 1651, 1652, 1650, 1654, 1655].filterMap (fun p => lw_tbl[p]?) := by decide +kernel
theorem zg105 : ((zwM zmt zm105).all goodWord && zbM zmt zm105) = true := by decide +kernel
theorem zd105 : ∀ r ∈ ze105, ∀ e ∈ r, decode cX12_cutAll e.1 = .ok (e.2.1, zlen e.2.1 e.2.2.1) := by decide +kernel
theorem zc105 : lw_tbl[1823]? = some (Cond.code zm105.1 zm105.2.1 zm105.2.2.1 zm105.2.2.2.1) := by decide +kernel
theorem zo105 : zokM zm105 := by
  have h := Bool.and_eq_true .. ▸ zg105
  exact zM_ok (zin_of _ zq105 h.1) h.2 zd105 (fun _ => List.mem_filter.mpr ⟨List.mem_of_getElem? zc105, rfl⟩)
theorem zq106 : zwM zmt zm106 = [142, 1964].filterMap (fun p => lw_tbl[p]?) := by decide +kernel
theorem zg106 : ((zwM zmt zm106).all goodWord && zbM zmt zm106) = true := by decide +kernel
theorem zd106 : ∀ r ∈ ze106, ∀ e ∈ r, decode cX12_within e.1 = .ok (e.2.1, zlen e.2.1 e.2.2.1) := by decide +kernel
theorem zc106 : lw_tbl[1965]? = some (Cond.code zm106.1 zm106.2.1 zm106.2.2.1 zm106.2.2.2.1) := by decide +kernel
theorem zo106 : zokM zm106 := by
  have h := Bool.and_eq_true .. ▸ zg106
  exact zM_ok (zin_of _ zq106 h.1) h.2 zd106 (fun _ => List.mem_filter.mpr ⟨List.mem_of_getElem? zc106, rfl⟩)
theorem zq107 : zwM zmt zm107 = [142, 1641, 59, 1657, 1657, 1657].filterMap (fun p => lw_tbl[p]?) := by decide +kernel
theorem zg107 : ((zwM zmt zm107).all goodWord && zbM zmt zm107) = true := by decide +kernel
theorem zd107 : ∀ r ∈ ze107, ∀ e ∈ r, decode cX12_standsAsAlways e.1 = .ok (e.2.1, zlen e.2.1 e.2.2.1) := by decide +kernel
theorem zc107 : lw_tbl[1642]? = some (Cond.code zm107.1 zm107.2.1 zm107.2.2.1 zm107.2.2.2.1) := by decide +kernel
theorem zo107 : zokM zm107 := by
  have h := Bool.and_eq_true .. ▸ zg107
  exact zM_ok (zin_of _ zq107 h.1) h.2 zd107 (fun _ => List.mem_filter.mpr ⟨List.mem_of_getElem? zc107, rfl⟩)
theorem zq108 : zwM zmt zm108 = [142, 1817, 1818, 1647, 1820, 1660, 1663, 1639, 1655, 1651, 1654, 1655, 1657, 1657, 1661, 1662, 1660, 1671, 1669, 1669, 1669, 1643, 1670, 1692].filterMap (fun p => lw_tbl[p]?) := by decide +kernel
theorem zg108 : ((zwM zmt zm108).all goodWord && zbM zmt zm108) = true := by decide +kernel
theorem zd108 : ∀ r ∈ ze108, ∀ e ∈ r, decode cX12_table e.1 = .ok (e.2.1, zlen e.2.1 e.2.2.1) := by decide +kernel
theorem zc108 : lw_tbl[1819]? = some (Cond.code zm108.1 zm108.2.1 zm108.2.2.1 zm108.2.2.2.1) := by decide +kernel
theorem zo108 : zokM zm108 := by
  have h := Bool.and_eq_true .. ▸ zg108
  exact zM_ok (zin_of _ zq108 h.1) h.2 zd108 (fun _ => List.mem_filter.mpr ⟨List.mem_of_getElem? zc108, rfl⟩)
theorem zq109 : zwM zmt zm109 = [142, 1881, 72, 1657].filterMap (fun p => lw_tbl[p]?) := by decide +kernel
theorem zg109 : ((zwM zmt zm109).all goodWord && zbM zmt zm109) = true := by decide +kernel
theorem zd109 : ∀ r ∈ ze109, ∀ e ∈ r, decode cX12_cards e.1 = .ok (e.2.1, zlen e.2.1 e.2.2.1) := by decide +kernel
theorem zc109 : lw_tbl[1882]? = some (Cond.code zm109.1 zm109.2.1 zm109.2.2.1 zm109.2.2.2.1) := by decide +kernel
theorem zo109 : zokM zm109 := by
  have h := Bool.and_eq_true .. ▸ zg109
  exact zM_ok (zin_of _ zq109 h.1) h.2 zd109 (fun _ => List.mem_filter.mpr ⟨List.mem_of_getElem? zc109, rfl⟩)
theorem zq110 : zwM zmt zm110 = [142, 1932, 1933, 1647, 1820, 1663, 1665, 1665, 1655, 1651, 1654, 1655, 1939].filterMap (fun p => lw_tbl[p]?) := by decide +kernel
theorem zg110 : ((zwM zmt zm110).all goodWord && zbM zmt zm110) = true := by decide +kernel
theorem zd110 : ∀ r ∈ ze110, ∀ e ∈ r, decode cX12_deal e.1 = .ok (e.2.1, zlen e.2.1 e.2.2.1) := by decide +kernel
theorem zc110 : lw_tbl[1934]? = some (Cond.code zm110.1 zm110.2.1 zm110.2.2.1 zm110.2.2.2.1) := by decide +kernel
theorem zo110 : zokM zm110 := by
  have h := Bool.and_eq_true .. ▸ zg110
  exact zM_ok (zin_of _ zq110 h.1) h.2 zd110 (fun _ => List.mem_filter.mpr ⟨List.mem_of_getElem? zc110, rfl⟩)
theorem zq111 : zwM zmt zm111 = [142, 1941, 86, 1669, 1669, 1665, 1665, 1643, 1670].filterMap (fun p => lw_tbl[p]?) := by decide +kernel
theorem zg111 : ((zwM zmt zm111).all goodWord && zbM zmt zm111) = true := by decide +kernel
theorem zd111 : ∀ r ∈ ze111, ∀ e ∈ r, decode cX12_dealsRead e.1 = .ok (e.2.1, zlen e.2.1 e.2.2.1) := by decide +kernel
theorem zc111 : lw_tbl[1942]? = some (Cond.code zm111.1 zm111.2.1 zm111.2.2.1 zm111.2.2.2.1) := by decide +kernel
theorem zo111 : zokM zm111 := by
  have h := Bool.and_eq_true .. ▸ zg111
  exact zM_ok (zin_of _ zq111 h.1) h.2 zd111 (fun _ => List.mem_filter.mpr ⟨List.mem_of_getElem? zc111, rfl⟩)
theorem zq112 : zwM zmt zm112 = [142, 1944, 1945, 1647, 1820, 1655, 1651, 1654, 1655, 1657].filterMap (fun p => lw_tbl[p]?) := by decide +kernel
theorem zg112 : ((zwM zmt zm112).all goodWord && zbM zmt zm112) = true := by decide +kernel
theorem zd112 : ∀ r ∈ ze112, ∀ e ∈ r, decode cX12_book e.1 = .ok (e.2.1, zlen e.2.1 e.2.2.1) := by decide +kernel
theorem zc112 : lw_tbl[1946]? = some (Cond.code zm112.1 zm112.2.1 zm112.2.2.1 zm112.2.2.2.1) := by decide +kernel
theorem zo112 : zokM zm112 := by
  have h := Bool.and_eq_true .. ▸ zg112
  exact zM_ok (zin_of _ zq112 h.1) h.2 zd112 (fun _ => List.mem_filter.mpr ⟨List.mem_of_getElem? zc112, rfl⟩)
theorem zq113 : zwM zmt zm113 = [142, 1995, 92, 1669, 1669].filterMap (fun p => lw_tbl[p]?) := by decide +kernel
theorem zg113 : ((zwM zmt zm113).all goodWord && zbM zmt zm113) = true := by decide +kernel
theorem zd113 : ∀ r ∈ ze113, ∀ e ∈ r, decode cX12_copies e.1 = .ok (e.2.1, zlen e.2.1 e.2.2.1) := by decide +kernel
theorem zc113 : lw_tbl[1996]? = some (Cond.code zm113.1 zm113.2.1 zm113.2.2.1 zm113.2.2.2.1) := by decide +kernel
theorem zo113 : zokM zm113 := by
  have h := Bool.and_eq_true .. ▸ zg113
  exact zM_ok (zin_of _ zq113 h.1) h.2 zd113 (fun _ => List.mem_filter.mpr ⟨List.mem_of_getElem? zc113, rfl⟩)
theorem zq114 : zwM zmt zm114 = [142, 1991, 91, 1670, 1670, 1993, 1670, 1670].filterMap (fun p => lw_tbl[p]?) := by decide +kernel
theorem zg114 : ((zwM zmt zm114).all goodWord && zbM zmt zm114) = true := by decide +kernel
theorem zd114 : ∀ r ∈ ze114, ∀ e ∈ r, decode cX12_keeps e.1 = .ok (e.2.1, zlen e.2.1 e.2.2.1) := by decide +kernel
theorem zc114 : lw_tbl[1992]? = some (Cond.code zm114.1 zm114.2.1 zm114.2.2.1 zm114.2.2.2.1) := by decide +kernel
theorem zo114 : zokM zm114 := by
  have h := Bool.and_eq_true .. ▸ zg114
  exact zM_ok (zin_of _ zq114 h.1) h.2 zd114 (fun _ => List.mem_filter.mpr ⟨List.mem_of_getElem? zc114, rfl⟩)
theorem zq115 : zwM zmt zm115 = [142, 1645, 60, 1669, 1669, 1669, 1657, 1669, 1669, 1669, 1669, 1669, 1669].filterMap (fun p => lw_tbl[p]?) := by decide +kernel
theorem zg115 : ((zwM zmt zm115).all goodWord && zbM zmt zm115) = true := by decide +kernel
theorem zd115 : ∀ r ∈ ze115, ∀ e ∈ r, decode cX12_begins e.1 = .ok (e.2.1, zlen e.2.1 e.2.2.1) := by decide +kernel
theorem zc115 : lw_tbl[1646]? = some (Cond.code zm115.1 zm115.2.1 zm115.2.2.1 zm115.2.2.2.1) := by decide +kernel
theorem zo115 : zokM zm115 := by
  have h := Bool.and_eq_true .. ▸ zg115
  exact zM_ok (zin_of _ zq115 h.1) h.2 zd115 (fun _ => List.mem_filter.mpr ⟨List.mem_of_getElem? zc115, rfl⟩)
theorem zq116 : zwM zmt zm116 = [142, 1961, 89, 1657].filterMap (fun p => lw_tbl[p]?) := by decide +kernel
theorem zg116 : ((zwM zmt zm116).all goodWord && zbM zmt zm116) = true := by decide +kernel
theorem zd116 : ∀ r ∈ ze116, ∀ e ∈ r, decode cX12_kinds e.1 = .ok (e.2.1, zlen e.2.1 e.2.2.1) := by decide +kernel
theorem zc116 : lw_tbl[1962]? = some (Cond.code zm116.1 zm116.2.1 zm116.2.2.1 zm116.2.2.2.1) := by decide +kernel
theorem zo116 : zokM zm116 := by
  have h := Bool.and_eq_true .. ▸ zg116
  exact zM_ok (zin_of _ zq116 h.1) h.2 zd116 (fun _ => List.mem_filter.mpr ⟨List.mem_of_getElem? zc116, rfl⟩)
theorem zq117 : zwM zmt zm117 = [142, 1957, 88, 1959].filterMap (fun p => lw_tbl[p]?) := by decide +kernel
theorem zg117 : ((zwM zmt zm117).all goodWord && zbM zmt zm117) = true := by decide +kernel
theorem zd117 : ∀ r ∈ ze117, ∀ e ∈ r, decode cX12_isKind e.1 = .ok (e.2.1, zlen e.2.1 e.2.2.1) := by decide +kernel
theorem zc117 : lw_tbl[1958]? = some (Cond.code zm117.1 zm117.2.1 zm117.2.2.1 zm117.2.2.2.1) := by decide +kernel
theorem zo117 : zokM zm117 := by
  have h := Bool.and_eq_true .. ▸ zg117
  exact zM_ok (zin_of _ zq117 h.1) h.2 zd117 (fun _ => List.mem_filter.mpr ⟨List.mem_of_getElem? zc117, rfl⟩)
theorem zq118 : zwM zmt zm118 = [142, 1999, 93, 1669, 1669, 1669, 1669, 1669, 1669].filterMap (fun p => lw_tbl[p]?) := by decide +kernel
theorem zg118 : ((zwM zmt zm118).all goodWord && zbM zmt zm118) = true := by decide +kernel
theorem zd118 : ∀ r ∈ ze118, ∀ e ∈ r, decode cX12_isWon e.1 = .ok (e.2.1, zlen e.2.1 e.2.2.1) := by decide +kernel
theorem zc118 : lw_tbl[2000]? = some (Cond.code zm118.1 zm118.2.1 zm118.2.2.1 zm118.2.2.2.1) := by decide +kernel
theorem zo118 : zokM zm118 := by
  have h := Bool.and_eq_true .. ▸ zg118
  exact zM_ok (zin_of _ zq118 h.1) h.2 zd118 (fun _ => List.mem_filter.mpr ⟨List.mem_of_getElem? zc118, rfl⟩)
theorem zq119 : zwM zmt zm119 = [142, 1975].filterMap (fun p => lw_tbl[p]?) := by decide +kernel
theorem zg119 : ((zwM zmt zm119).all goodWord && zbM zmt zm119) = true := by decide +kernel
theorem zd119 : ∀ r ∈ ze119, ∀ e ∈ r, decode cX12_isSide e.1 = .ok (e.2.1, zlen e.2.1 e.2.2.1) := by decide +kernel
theorem zc119 : lw_tbl[1976]? = some (Cond.code zm119.1 zm119.2.1 zm119.2.2.1 zm119.2.2.2.1) := by decide +kernel
theorem zo119 : zokM zm119 := by
  have h := Bool.and_eq_true .. ▸ zg119
  exact zM_ok (zin_of _ zq119 h.1) h.2 zd119 (fun _ => List.mem_filter.mpr ⟨List.mem_of_getElem? zc119, rfl⟩)
theorem zq120 : zwM zmt zm120 = [142, 1952, 1953, 1647, 1955].filterMap (fun p => lw_tbl[p]?) := by decide +kernel
theorem zg120 : ((zwM zmt zm120).all goodWord && zbM zmt zm120) = true := by decide +kernel
theorem zd120 : ∀ r ∈ ze120, ∀ e ∈ r, decode cX12_kind e.1 = .ok (e.2.1, zlen e.2.1 e.2.2.1) := by decide +kernel
theorem zc120 : lw_tbl[1954]? = some (Cond.code zm120.1 zm120.2.1 zm120.2.2.1 zm120.2.2.2.1) := by decide +kernel
theorem zo120 : zokM zm120 := by
  have h := Bool.and_eq_true .. ▸ zg120
  exact zM_ok (zin_of _ zq120 h.1) h.2 zd120 (fun _ => List.mem_filter.mpr ⟨List.mem_of_getElem? zc120, rfl⟩)
theorem zq121 : zwM zmt zm121 = [142, 1971, 1972, 1647, 1974, 1669].filterMap (fun p => lw_tbl[p]?) := by decide +kernel
theorem zg121 : ((zwM zmt zm121).all goodWord && zbM zmt zm121) = true := by decide +kernel
theorem zd121 : ∀ r ∈ ze121, ∀ e ∈ r, decode cX12_card e.1 = .ok (e.2.1, zlen e.2.1 e.2.2.1) := by decide +kernel
theorem zc121 : lw_tbl[1973]? = some (Cond.code zm121.1 zm121.2.1 zm121.2.2.1 zm121.2.2.2.1) := by decide +kernel
theorem zo121 : zokM zm121 := by
  have h := Bool.and_eq_true .. ▸ zg121
  exact zM_ok (zin_of _ zq121 h.1) h.2 zd121 (fun _ => List.mem_filter.mpr ⟨List.mem_of_getElem? zc121, rfl⟩)
