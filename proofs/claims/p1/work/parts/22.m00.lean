theorem zq0 : zwM zmt zm0 = [133, 339, 341, 334, 345, 334, 346, 334, 347].filterMap (fun p => lw_tbl[p]?) := by decide +kernel
theorem zg0 : ((zwM zmt zm0).all goodWord && zbM zmt zm0) = true := by decide +kernel
theorem zd0 : ∀ r ∈ ze0, ∀ e ∈ r, decode cX0_init e.1 = .ok (e.2.1, zlen e.2.1 e.2.2.1) := by decide +kernel
theorem zc0 : lw_tbl[340]? = some (Cond.code zm0.1 zm0.2.1 zm0.2.2.1 zm0.2.2.2.1) := by decide +kernel
theorem zo0 : zokM zm0 := by
  have h := Bool.and_eq_true .. ▸ zg0
  exact zM_ok (zin_of _ zq0 h.1) h.2 zd0 (fun _ => List.mem_filter.mpr ⟨List.mem_of_getElem? zc0, rfl⟩)
theorem zq1 : zwM zmt zm1 = [133, 966, 967, 342].filterMap (fun p => lw_tbl[p]?) := by decide +kernel
theorem zg1 : ((zwM zmt zm1).all goodWord && zbM zmt zm1) = true := by decide +kernel
theorem zd1 : ∀ r ∈ ze1, ∀ e ∈ r, decode cX0_reset e.1 = .ok (e.2.1, zlen e.2.1 e.2.2.1) := by decide +kernel
theorem zc1 : lw_tbl[968]? = some (Cond.code zm1.1 zm1.2.1 zm1.2.2.1 zm1.2.2.2.1) := by decide +kernel
theorem zo1 : zokM zm1 := by
  have h := Bool.and_eq_true .. ▸ zg1
  exact zM_ok (zin_of _ zq1 h.1) h.2 zd1 (fun _ => List.mem_filter.mpr ⟨List.mem_of_getElem? zc1, rfl⟩)
theorem zq2 : zwM zmt zm2 = [133, 1443, 1444, 342].filterMap (fun p => lw_tbl[p]?) := by decide +kernel
theorem zg2 : ((zwM zmt zm2).all goodWord && zbM zmt zm2) = true := by decide +kernel
theorem zd2 : ∀ r ∈ ze2, ∀ e ∈ r, decode cX0_fitting e.1 = .ok (e.2.1, zlen e.2.1 e.2.2.1) := by decide +kernel
theorem zc2 : lw_tbl[1445]? = some (Cond.code zm2.1 zm2.2.1 zm2.2.2.1 zm2.2.2.2.1) := by decide +kernel
theorem zo2 : zokM zm2 := by
  have h := Bool.and_eq_true .. ▸ zg2
  exact zM_ok (zin_of _ zq2 h.1) h.2 zd2 (fun _ => List.mem_filter.mpr ⟨List.mem_of_getElem? zc2, rfl⟩)
theorem zq3 : zwM zmt zm3 = [138, 567, 569, 570, 397, 136, 572, 251, 589].filterMap (fun p => lw_tbl[p]?) := by decide +kernel
theorem zg3 : ((zwM zmt zm3).all goodWord && zbM zmt zm3) = true := by decide +kernel
theorem zd3 : ∀ r ∈ ze3, ∀ e ∈ r, decode cX1_init e.1 = .ok (e.2.1, zlen e.2.1 e.2.2.1) := by decide +kernel
theorem zc3 : lw_tbl[568]? = some (Cond.code zm3.1 zm3.2.1 zm3.2.2.1 zm3.2.2.2.1) := by decide +kernel
theorem zo3 : zokM zm3 := by
  have h := Bool.and_eq_true .. ▸ zg3
  exact zM_ok (zin_of _ zq3 h.1) h.2 zd3 (fun _ => List.mem_filter.mpr ⟨List.mem_of_getElem? zc3, rfl⟩)
theorem zq4 : zwM zmt zm4 = [138, 1176, 1177, 1179, 572, 436, 572, 419, 572, 448, 1183, 572, 1211, 572, 444, 572, 436, 1212].filterMap (fun p => lw_tbl[p]?) := by decide +kernel
theorem zg4 : ((zwM zmt zm4).all goodWord && zbM zmt zm4) = true := by decide +kernel
theorem zd4 : ∀ r ∈ ze4, ∀ e ∈ r, decode cX1_go e.1 = .ok (e.2.1, zlen e.2.1 e.2.2.1) := by decide +kernel
theorem zc4 : lw_tbl[1178]? = some (Cond.code zm4.1 zm4.2.1 zm4.2.2.1 zm4.2.2.2.1) := by decide +kernel
theorem zo4 : zokM zm4 := by
  have h := Bool.and_eq_true .. ▸ zg4
  exact zM_ok (zin_of _ zq4 h.1) h.2 zd4 (fun _ => List.mem_filter.mpr ⟨List.mem_of_getElem? zc4, rfl⟩)
theorem zq5 : zwM zmt zm5 = [138, 1214, 39, 576, 580, 583, 585].filterMap (fun p => lw_tbl[p]?) := by decide +kernel
theorem zg5 : ((zwM zmt zm5).all goodWord && zbM zmt zm5) = true := by decide +kernel
theorem zd5 : ∀ r ∈ ze5, ∀ e ∈ r, decode cX1_answer e.1 = .ok (e.2.1, zlen e.2.1 e.2.2.1) := by decide +kernel
theorem zc5 : lw_tbl[1215]? = some (Cond.code zm5.1 zm5.2.1 zm5.2.2.1 zm5.2.2.2.1) := by decide +kernel
theorem zo5 : zokM zm5 := by
  have h := Bool.and_eq_true .. ▸ zg5
  exact zM_ok (zin_of _ zq5 h.1) h.2 zd5 (fun _ => List.mem_filter.mpr ⟨List.mem_of_getElem? zc5, rfl⟩)
theorem zq6 : zwM zmt zm6 = [138, 1181, 32, 593, 251, 590, 334, 591, 334, 592, 251, 593, 587, 588, 588].filterMap (fun p => lw_tbl[p]?) := by decide +kernel
theorem zg6 : ((zwM zmt zm6).all goodWord && zbM zmt zm6) = true := by decide +kernel
theorem zd6 : ∀ r ∈ ze6, ∀ e ∈ r, decode cX1_forgetStates e.1 = .ok (e.2.1, zlen e.2.1 e.2.2.1) := by decide +kernel
theorem zc6 : lw_tbl[1182]? = some (Cond.code zm6.1 zm6.2.1 zm6.2.2.1 zm6.2.2.2.1) := by decide +kernel
theorem zo6 : zokM zm6 := by
  have h := Bool.and_eq_true .. ▸ zg6
  exact zM_ok (zin_of _ zq6 h.1) h.2 zd6 (fun _ => List.mem_filter.mpr ⟨List.mem_of_getElem? zc6, rfl⟩)
theorem zq7 : zwM zmt zm7 = [138, 1185, 33, 1187, 1196, 593, 588, 1203].filterMap (fun p => lw_tbl[p]?) := by decide +kernel
theorem zg7 : ((zwM zmt zm7).all goodWord && zbM zmt zm7) = true := by decide +kernel
theorem zd7 : ∀ r ∈ ze7, ∀ e ∈ r, decode cX1_noteState e.1 = .ok (e.2.1, zlen e.2.1 e.2.2.1) := by decide +kernel
theorem zc7 : lw_tbl[1186]? = some (Cond.code zm7.1 zm7.2.1 zm7.2.2.1 zm7.2.2.2.1) := by decide +kernel
theorem zo7 : zokM zm7 := by
  have h := Bool.and_eq_true .. ▸ zg7
  exact zM_ok (zin_of _ zq7 h.1) h.2 zd7 (fun _ => List.mem_filter.mpr ⟨List.mem_of_getElem? zc7, rfl⟩)
theorem zq8 : zwM zmt zm8 = [138, 1205, 37, 587, 590, 587, 589, 591, 587, 592, 587, 593, 588, 587, 587, 587].filterMap (fun p => lw_tbl[p]?) := by decide +kernel
theorem zg8 : ((zwM zmt zm8).all goodWord && zbM zmt zm8) = true := by decide +kernel
theorem zd8 : ∀ r ∈ ze8, ∀ e ∈ r, decode cX1_addState e.1 = .ok (e.2.1, zlen e.2.1 e.2.2.1) := by decide +kernel
theorem zc8 : lw_tbl[1206]? = some (Cond.code zm8.1 zm8.2.1 zm8.2.2.1 zm8.2.2.2.1) := by decide +kernel
theorem zo8 : zokM zm8 := by
  have h := Bool.and_eq_true .. ▸ zg8
  exact zM_ok (zin_of _ zq8 h.1) h.2 zd8 (fun _ => List.mem_filter.mpr ⟨List.mem_of_getElem? zc8, rfl⟩)
theorem zq9 : zwM zmt zm9 = [138, 1189, 34, 572, 408, 572, 408, 589, 572, 424, 589, 589].filterMap (fun p => lw_tbl[p]?) := by decide +kernel
theorem zg9 : ((zwM zmt zm9).all goodWord && zbM zmt zm9) = true := by decide +kernel
theorem zd9 : ∀ r ∈ ze9, ∀ e ∈ r, decode cX1_makeKey e.1 = .ok (e.2.1, zlen e.2.1 e.2.2.1) := by decide +kernel
theorem zc9 : lw_tbl[1190]? = some (Cond.code zm9.1 zm9.2.1 zm9.2.2.1 zm9.2.2.2.1) := by decide +kernel
theorem zo9 : zokM zm9 := by
  have h := Bool.and_eq_true .. ▸ zg9
  exact zM_ok (zin_of _ zq9 h.1) h.2 zd9 (fun _ => List.mem_filter.mpr ⟨List.mem_of_getElem? zc9, rfl⟩)
theorem zq10 : zwM zmt zm10 = [138, 1198, 36, 589, 1200, 589, 1201, 589, 1202].filterMap (fun p => lw_tbl[p]?) := by decide +kernel
theorem zg10 : ((zwM zmt zm10).all goodWord && zbM zmt zm10) = true := by decide +kernel
theorem zd10 : ∀ r ∈ ze10, ∀ e ∈ r, decode cX1_hashOfKey e.1 = .ok (e.2.1, zlen e.2.1 e.2.2.1) := by decide +kernel
theorem zc10 : lw_tbl[1199]? = some (Cond.code zm10.1 zm10.2.1 zm10.2.2.1 zm10.2.2.2.1) := by decide +kernel
theorem zo10 : zokM zm10 := by
  have h := Bool.and_eq_true .. ▸ zg10
  exact zM_ok (zin_of _ zq10 h.1) h.2 zd10 (fun _ => List.mem_filter.mpr ⟨List.mem_of_getElem? zc10, rfl⟩)
theorem zq11 : zwM zmt zm11 = [135, 393, 395, 396, 397, 136, 483, 334, 485, 334, 487, 334, 491, 334, 494, 334, 496, 334, 499, 334, 500, 334, 501].filterMap (fun p => lw_tbl[p]?) := by decide +kernel
theorem zg11 : ((zwM zmt zm11).all goodWord && zbM zmt zm11) = true := by decide +kernel
theorem zd11 : ∀ r ∈ ze11, ∀ e ∈ r, decode cX2_init e.1 = .ok (e.2.1, zlen e.2.1 e.2.2.1) := by decide +kernel
theorem zc11 : lw_tbl[394]? = some (Cond.code zm11.1 zm11.2.1 zm11.2.2.1 zm11.2.2.2.1) := by decide +kernel
theorem zo11 : zokM zm11 := by
  have h := Bool.and_eq_true .. ▸ zg11
  exact zM_ok (zin_of _ zq11 h.1) h.2 zd11 (fun _ => List.mem_filter.mpr ⟨List.mem_of_getElem? zc11, rfl⟩)
theorem zq12 : zwM zmt zm12 = [135, 749, 750, 489, 487, 487, 752].filterMap (fun p => lw_tbl[p]?) := by decide +kernel
theorem zg12 : ((zwM zmt zm12).all goodWord && zbM zmt zm12) = true := by decide +kernel
theorem zd12 : ∀ r ∈ ze12, ∀ e ∈ r, decode cX2_startEmpty e.1 = .ok (e.2.1, zlen e.2.1 e.2.2.1) := by decide +kernel
theorem zc12 : lw_tbl[751]? = some (Cond.code zm12.1 zm12.2.1 zm12.2.2.1 zm12.2.2.2.1) := by decide +kernel
theorem zo12 : zokM zm12 := by
  have h := Bool.and_eq_true .. ▸ zg12
  exact zM_ok (zin_of _ zq12 h.1) h.2 zd12 (fun _ => List.mem_filter.mpr ⟨List.mem_of_getElem? zc12, rfl⟩)
theorem zq13 : zwM zmt zm13 = [135, 1010, 1011, 1013, 487, 487, 489].filterMap (fun p => lw_tbl[p]?) := by decide +kernel
theorem zg13 : ((zwM zmt zm13).all goodWord && zbM zmt zm13) = true := by decide +kernel
theorem zd13 : ∀ r ∈ ze13, ∀ e ∈ r, decode cX2_dealRows e.1 = .ok (e.2.1, zlen e.2.1 e.2.2.1) := by decide +kernel
theorem zc13 : lw_tbl[1012]? = some (Cond.code zm13.1 zm13.2.1 zm13.2.2.1 zm13.2.2.2.1) := by decide +kernel
theorem zo13 : zokM zm13 := by
  have h := Bool.and_eq_true .. ▸ zg13
  exact zM_ok (zin_of _ zq13 h.1) h.2 zd13 (fun _ => List.mem_filter.mpr ⟨List.mem_of_getElem? zc13, rfl⟩)
theorem zq14 : zwM zmt zm14 = [135, 753, 754, 483, 282, 263, 756, 483, 485, 487, 760, 483, 485, 487, 760, 492, 493, 495, 497, 502, 504].filterMap (fun p => lw_tbl[p]?) := by decide +kernel
theorem zg14 : ((zwM zmt zm14).all goodWord && zbM zmt zm14) = true := by decide +kernel
theorem zd14 : ∀ r ∈ ze14, ∀ e ∈ r, decode cX2_startDealt e.1 = .ok (e.2.1, zlen e.2.1 e.2.2.1) := by decide +kernel
theorem zc14 : lw_tbl[755]? = some (Cond.code zm14.1 zm14.2.1 zm14.2.2.1 zm14.2.2.2.1) := by decide +kernel
theorem zo14 : zokM zm14 := by
  have h := Bool.and_eq_true .. ▸ zg14
  exact zM_ok (zin_of _ zq14 h.1) h.2 zd14 (fun _ => List.mem_filter.mpr ⟨List.mem_of_getElem? zc14, rfl⟩)
