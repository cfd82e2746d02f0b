theorem zq157 : zwM zmt zm157 = [142, 2203, 2204, 1669, 1647, 1647].filterMap (fun p => lw_tbl[p]?) := by decide +kernel
theorem zg157 : ((zwM zmt zm157).all goodWord && zbM zmt zm157) = true := by decide +kernel
theorem zd157 : ∀ r ∈ ze157, ∀ e ∈ r, decode cX12_orders e.1 = .ok (e.2.1, zlen e.2.1 e.2.2.1) := by decide +kernel
theorem zc157 : lw_tbl[2205]? = some (Cond.code zm157.1 zm157.2.1 zm157.2.2.1 zm157.2.2.2.1) := by decide +kernel
theorem zo157 : zokM zm157 := by
  have h := Bool.and_eq_true .. ▸ zg157
  exact zM_ok (zin_of _ zq157 h.1) h.2 zd157 (fun _ => List.mem_filter.mpr ⟨List.mem_of_getElem? zc157, rfl⟩)
theorem zq158 : zwM zmt zm158 = [142, 2207, 2208, 1647, 1669].filterMap (fun p => lw_tbl[p]?) := by decide +kernel
theorem zg158 : ((zwM zmt zm158).all goodWord && zbM zmt zm158) = true := by decide +kernel
theorem zd158 : ∀ r ∈ ze158, ∀ e ∈ r, decode cX12_clear e.1 = .ok (e.2.1, zlen e.2.1 e.2.2.1) := by decide +kernel
theorem zc158 : lw_tbl[2209]? = some (Cond.code zm158.1 zm158.2.1 zm158.2.2.1 zm158.2.2.2.1) := by decide +kernel
theorem zo158 : zokM zm158 := by
  have h := Bool.and_eq_true .. ▸ zg158
  exact zM_ok (zin_of _ zq158 h.1) h.2 zd158 (fun _ => List.mem_filter.mpr ⟨List.mem_of_getElem? zc158, rfl⟩)
theorem zq159 : zwM zmt zm159 = [142, 2211, 2212, 1647, 1963, 1879].filterMap (fun p => lw_tbl[p]?) := by decide +kernel
theorem zg159 : ((zwM zmt zm159).all goodWord && zbM zmt zm159) = true := by decide +kernel
theorem zd159 : ∀ r ∈ ze159, ∀ e ∈ r, decode cX12_drawn e.1 = .ok (e.2.1, zlen e.2.1 e.2.2.1) := by decide +kernel
theorem zc159 : lw_tbl[2213]? = some (Cond.code zm159.1 zm159.2.1 zm159.2.2.1 zm159.2.2.2.1) := by decide +kernel
theorem zo159 : zokM zm159 := by
  have h := Bool.and_eq_true .. ▸ zg159
  exact zM_ok (zin_of _ zq159 h.1) h.2 zd159 (fun _ => List.mem_filter.mpr ⟨List.mem_of_getElem? zc159, rfl⟩)
theorem zq160 : zwM zmt zm160 = [142, 2227, 2228, 1647, 1963, 1963, 1963, 1879].filterMap (fun p => lw_tbl[p]?) := by decide +kernel
theorem zg160 : ((zwM zmt zm160).all goodWord && zbM zmt zm160) = true := by decide +kernel
theorem zd160 : ∀ r ∈ ze160, ∀ e ∈ r, decode cX12_games e.1 = .ok (e.2.1, zlen e.2.1 e.2.2.1) := by decide +kernel
theorem zc160 : lw_tbl[2229]? = some (Cond.code zm160.1 zm160.2.1 zm160.2.2.1 zm160.2.2.2.1) := by decide +kernel
theorem zo160 : zokM zm160 := by
  have h := Bool.and_eq_true .. ▸ zg160
  exact zM_ok (zin_of _ zq160 h.1) h.2 zd160 (fun _ => List.mem_filter.mpr ⟨List.mem_of_getElem? zc160, rfl⟩)
theorem zq161 : zwM zmt zm161 = [142, 2235, 2236, 1647, 1963, 1963, 1879].filterMap (fun p => lw_tbl[p]?) := by decide +kernel
theorem zg161 : ((zwM zmt zm161).all goodWord && zbM zmt zm161) = true := by decide +kernel
theorem zd161 : ∀ r ∈ ze161, ∀ e ∈ r, decode cX12_looked e.1 = .ok (e.2.1, zlen e.2.1 e.2.2.1) := by decide +kernel
theorem zc161 : lw_tbl[2237]? = some (Cond.code zm161.1 zm161.2.1 zm161.2.2.1 zm161.2.2.2.1) := by decide +kernel
theorem zo161 : zokM zm161 := by
  have h := Bool.and_eq_true .. ▸ zg161
  exact zM_ok (zin_of _ zq161 h.1) h.2 zd161 (fun _ => List.mem_filter.mpr ⟨List.mem_of_getElem? zc161, rfl⟩)
theorem zq162 : zwM zmt zm162 = [142, 2239, 2240, 1647, 1963, 1671, 1671, 1993].filterMap (fun p => lw_tbl[p]?) := by decide +kernel
theorem zg162 : ((zwM zmt zm162).all goodWord && zbM zmt zm162) = true := by decide +kernel
theorem zd162 : ∀ r ∈ ze162, ∀ e ∈ r, decode cX12_mark e.1 = .ok (e.2.1, zlen e.2.1 e.2.2.1) := by decide +kernel
theorem zc162 : lw_tbl[2241]? = some (Cond.code zm162.1 zm162.2.1 zm162.2.2.1 zm162.2.2.2.1) := by decide +kernel
theorem zo162 : zokM zm162 := by
  have h := Bool.and_eq_true .. ▸ zg162
  exact zM_ok (zin_of _ zq162 h.1) h.2 zd162 (fun _ => List.mem_filter.mpr ⟨List.mem_of_getElem? zc162, rfl⟩)
theorem zq163 : zwM zmt zm163 = [142, 2243, 2244, 1647, 1959, 1879, 1669, 1669, 1669, 1669, 1669, 1669, 1669, 1669, 1669, 1669, 1669, 1657, 1669, 1670, 1657, 1657, 1649].filterMap (fun p => lw_tbl[p]?) := by decide +kernel
theorem zg163 : ((zwM zmt zm163).all goodWord && zbM zmt zm163) = true := by decide +kernel
theorem zd163 : ∀ r ∈ ze163, ∀ e ∈ r, decode cX12_count e.1 = .ok (e.2.1, zlen e.2.1 e.2.2.1) := by decide +kernel
theorem zc163 : lw_tbl[2245]? = some (Cond.code zm163.1 zm163.2.1 zm163.2.2.1 zm163.2.2.2.1) := by decide +kernel
theorem zo163 : zokM zm163 := by
  have h := Bool.and_eq_true .. ▸ zg163
  exact zM_ok (zin_of _ zq163 h.1) h.2 zd163 (fun _ => List.mem_filter.mpr ⟨List.mem_of_getElem? zc163, rfl⟩)
