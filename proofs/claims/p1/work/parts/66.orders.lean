/-! the law's own 'orders': the class throws, the law catches it -/
section ZORD
abbrev cL_orders : ByteArray := method_3_code
def yL_orders : MethodName := ⟨"BeggarHeapsLaw", "orders", "(LBeggarHeaps;[J)I"⟩
theorem zoX_0 : decode cX11_orders 0 = .ok (.aload_n 0, 1) := by decide +kernel
theorem zoX_1 : decode cX11_orders 1 = .ok (.getfield 48, 3) := by decide +kernel
theorem zoX_4 : decode cX11_orders 4 = .ok (.getfield 158, 3) := by decide +kernel
theorem zoX_7 : decode cX11_orders 7 = .ok (.getfield 343, 3) := by decide +kernel
theorem zoX_10 : decode cX11_orders 10 = .ok (.ifCond .ne 14, 3) := by decide +kernel
theorem zoX_13 : decode cX11_orders 13 = .ok (.new 344, 3) := by decide +kernel
theorem zoX_16 : decode cX11_orders 16 = .ok (.dup, 1) := by decide +kernel
theorem zoX_17 : decode cX11_orders 17 = .ok (.ldc_w 346, 3) := by decide +kernel
theorem zoX_20 : decode cX11_orders 20 = .ok (.invokespecial 348, 3) := by decide +kernel
theorem zoX_23 : decode cX11_orders 23 = .ok (.athrow, 1) := by decide +kernel
theorem zoL_0 : decode cL_orders 0 = .ok (.aload_n 1, 1) := by decide +kernel
theorem zoL_1 : decode cL_orders 1 = .ok (.iconst 0, 1) := by decide +kernel
theorem zoL_2 : decode cL_orders 2 = .ok (.aload_n 0, 1) := by decide +kernel
theorem zoL_3 : decode cL_orders 3 = .ok (.invokevirtual 7, 3) := by decide +kernel
theorem zoL_11 : decode cL_orders 11 = .ok (.astore_n 2, 1) := by decide +kernel
theorem zoL_12 : decode cL_orders 12 = .ok (.iconst 1, 1) := by decide +kernel
theorem zoL_13 : decode cL_orders 13 = .ok (.ireturn, 1) := by decide +kernel
theorem zow48 : Cond.fieldLink RX11 48 "BeggarHeaps" "game" "LBeggarHeaps$Game;" ∈ zAl := zmem_of 774 (by decide +kernel) rfl
theorem zow158 : Cond.fieldLink RX11 158 "BeggarHeaps$Game" "play" "LBeggarHeaps$Play;" ∈ zAl := zmem_of 484 (by decide +kernel) rfl
theorem zow343 : Cond.fieldLink RX11 343 "BeggarHeaps$Play" "heaps" "I" ∈ zAl := zmem_of 440 (by decide +kernel) rfl
theorem zow344 : Cond.classLink RX11 344 zNSE ∈ zAl := zmem_of 1527 (by decide +kernel) rfl
theorem zowini : Cond.initialized zNSE ∈ zAl := zmem_of 148 (by decide +kernel) rfl
theorem zow7 : Cond.methodLink "BeggarHeapsLaw" 7 yX11_orders ∈ zAl := zmem_of 1523 (by decide +kernel) rfl
theorem zown : Cond.instanceMethod yX11_orders ∈ zAl := zmem_of 1524 (by decide +kernel) rfl
theorem zows : Cond.selects RX11 yX11_orders yX11_orders ∈ zAl := zmem_of 1525 (by decide +kernel) rfl
theorem zowc : Cond.code yX11_orders cX11_orders 1 (some .int) ∈ zAl := zmem_of 1526 (by decide +kernel) rfl
theorem zowX : Cond.initialized RX11 ∈ zAl := zmem_of 126 (by decide +kernel) rfl
theorem zow13 : Cond.classLink "BeggarHeapsLaw" 13 zNSE ∈ zAl := zmem_of 1522 (by decide +kernel) rfl
theorem zow139 : Cond.methodLink "BeggarHeapsLaw" 139 yL_orders ∈ zAl := zmem_of 1519 (by decide +kernel) rfl
theorem zowst : Cond.static yL_orders ∈ zAl := zmem_of 1520 (by decide +kernel) rfl
theorem zowcw : Cond.codeWith yL_orders cL_orders 3 (some .int) [(0, 8, 11, 13)] ∈ zAl := zmem_of 1521 (by decide +kernel) rfl
theorem zowL : Cond.initialized "BeggarHeapsLaw" ∈ zAl := zmem_of 125 (by decide +kernel) rfl
/-- a game that has taken no heap -/
theorem zord_ok {cs : List ZC} {a : Nat} (h : zord cs a = true) : ∃ (fs : List Value) (g : Nat) (gs : List Value) (q : Nat) (ps : List Value), zn cs a = some (.inl (11, fs)) ∧ zn fs 6 = some (.ref g) ∧ zn cs g = some (.inl (2, gs)) ∧ zn gs 0 = some (.ref q) ∧ zn cs q = some (.inl (5, ps)) ∧ zn ps 11 = some (.int 0) := by
  unfold zord at h
  split at h
  · rename_i fs h1
    split at h
    · rename_i g h2
      split at h
      · rename_i gs h3
        split at h
        · rename_i q h4
          split at h
          · rename_i ps h5
            split at h
            · rename_i h6
              exact ⟨fs, g, gs, q, ps, h1, h2, h3, h4, h5, h6⟩
            · cases h
          · cases h
        · cases h
      · cases h
    · cases h
  · cases h
def zorm1 : Room := { frames := 6, cells := 1, slots := 6, locals := 100 }
def zorm2 : Room := { frames := 7, cells := 1, slots := 6, locals := 140 }
/-- at the start of either method -/
def zoP (D : va_G) (cA : Nat → ClassId) (rh : Nat → Int32) (ad : Nat → Nat) (cs : List ZC) (av : List Value) (sz : Nat) : Array Value → State → Prop := va_Pc av (fun U => U.heap.size = sz ∧ va_P D zcl (zW cA rh ad cs) U.heap ∧ ZX D cA U ∧ zThr (fun q => sz ≤ q) U)
theorem zoP_blind {D : va_G} {cA : Nat → ClassId} {rh : Nat → Int32} {ad : Nat → Nat} {cs : List ZC} {av : List Value} {sz : Nat} : FrameBlind (zoP D cA rh ad cs av sz) := fun a U g mk q => by
  obtain ⟨q0, q1, q2, q3, q4⟩ := q
  exact ⟨q0, q1, q2, q3.call g mk a, q4.call g mk a⟩
set_option maxHeartbeats 2000000 in
/-- BeggarHeaps.orders throws -/
theorem zo_throw (l : Launch) (hl0 : l.stackTraces = false) {D : va_G} {cA : Nat → ClassId} {rh : Nat → Int32} {ad : Nat → Nat} {cs : List ZC} {a : Nat} (ho : zord cs a = true) (sz : Nat) :
    vx_Met l yX11_orders (Cond.code yX11_orders cX11_orders 1 (some .int) :: zAl) zorm1 (zoP D cA rh ad cs [.ref (ad a)] sz) (va_Qi (S := Unit) (fun _ _ => False) (fun _ _ => True) (fun q => sz ≤ q)) (vx_X (fun _ : Unit => True) (fun E _ _ => E = zNSE) (fun q => sz ≤ q)) 1 6 (fun q => sz ≤ q) := by
  refine vx_ofW (cc := cX11_orders) (maxL := 1) (ret := some .int) (by decide) rfl ?_
  intro p e s m args below meth c s₁ B hml htab hv
  obtain ⟨rfl, hsz, hP, hX, hT⟩ := hv
  have hts0 := atoms_spec (ws := Cond.code yX11_orders cX11_orders 1 (some .int) :: zAl) B.pre
  have hts : ∀ w ∈ zAl, w.before ([Value.ref (ad a)] : List Value).toArray s = true := fun w hw => hts0 w (List.mem_cons_of_mem _ hw)
  have hown : s.vm.findClass RX11 = some m.cls := findClass_of_methodNamed B.named
  have hx := B.exec
  have hb := B.bytes
  have hK := hX.1
  obtain ⟨fs, g, gs, q, ps, h1, h2, h3, h4, h5, h6⟩ := zord_ok ho
  have hl := lv_entry ([.ref (ad a)]) (n := 1) (Nat.le_of_ble_eq_true rfl)
  rw [lg_entry_eq]
  generalize (lg_sl ([.ref (ad a)]) ++ List.replicate (1 - (lg_sl ([.ref (ad a)])).length) Slot.unset).toArray = ls at hl ⊢
  have hl : lv_has ls 1 [(0, .ref (ad a))] := hl
  have e2 : (fs.map (zc rh ad))[6]? = some (.ref (ad g)) := by rw [List.getElem?_map, ← zn_eq, h2]; rfl
  have e4 : (gs.map (zc rh ad))[0]? = some (.ref (ad q)) := by rw [List.getElem?_map, ← zn_eq, h4]; rfl
  have e6 : (ps.map (zc rh ad))[11]? = some (.int 0) := by rw [List.getElem?_map, ← zn_eq, h6]; rfl
  refine lv_aload_n hx hb zoX_0 rfl (lv_at hl 0 rfl) ?_
  refine va_get (ref := "BeggarHeaps") hx hb hts (zcw_ok 11 (RX11, TX11, 19) rfl) hown hK hP a (zW_get h1) rfl 6 (by decide) (hts _ zow48) (fun _ h9 => h9) e2 zoX_1 ?_
  refine va_get (ref := "BeggarHeaps$Game") hx hb hts (zcw_ok 2 (RX2, TX2, 16) rfl) hown hK hP g (zW_get h3) rfl 0 (by decide) (hts _ zow158) (fun _ h9 => h9) e4 zoX_4 ?_
  refine va_get (ref := "BeggarHeaps$Play") hx hb hts (zcw_ok 5 (RX5, TX5, 15) rfl) hown hK hP q (zW_get h5) rfl 11 (by decide) (hts _ zow343) (fun _ h9 => h9) e6 zoX_7 ?_
  refine lv_if_ne (tgt := 24) hx hb zoX_10 (by decide) (fun h => absurd rfl h) (fun _ => ?_)
  obtain ⟨sa, hsa⟩ := hT.2.2.2
  refine zx_throw (rest := []) hx hb hl0 hown (hts _ zow344) (hts _ zowini) rfl rfl (zXn_ok hts hT) hT hsa (A := fun q => sz ≤ q) va_S.rf (hl.1.trans hml.symm) zoX_13 zoX_16 zoX_17 zoX_20 zoX_23 (fun x hx => (htab x hx).elim) (by decide) (by decide) (by decide) (by decide) B.notSynchronized (fun t hvm hz hk => ⟨(), trivial, rfl, hz, fun q9 hq _ => hk q9 hq⟩) (fun z hz => nomatch hz) (by decide) (by decide)
set_option maxHeartbeats 2000000 in
/-- the law's own orders catches it and answers 1 -/
theorem zo_law (l : Launch) (hl0 : l.stackTraces = false) {D : va_G} {cA : Nat → ClassId} {rh : Nat → Int32} {ad : Nat → Nat} {cs : List ZC} {a o : Nat} (ho : zord cs a = true) (sz : Nat) :
    Met l yL_orders (Cond.codeWith yL_orders cL_orders 3 (some .int) [(0, 8, 11, 13)] :: zAl) zorm2 (zoP D cA rh ad cs [.ref (ad a), .ref (ad o)] sz) (va_Qi (S := Unit) (fun r _ => r = 1) (fun _ _ => True) (fun q => sz ≤ q)) 1 6 (fun q => sz ≤ q) := by
  refine va_MetW (cc := cL_orders) (maxL := 3) (ret := some .int) (hh := [(0, 8, 11, 13)]) (by decide) rfl ?_
  intro p e s m args below meth c s₁ B hml hv
  obtain ⟨rfl, hsz, hP, hX, hT⟩ := hv
  subst hsz
  have hts0 := atoms_spec (ws := Cond.codeWith yL_orders cL_orders 3 (some .int) [(0, 8, 11, 13)] :: zAl) B.pre
  have hts : ∀ w ∈ zAl, w.before ([Value.ref (ad a), Value.ref (ad o)] : List Value).toArray s = true := fun w hw => hts0 w (List.mem_cons_of_mem _ hw)
  have hown : s.vm.findClass "BeggarHeapsLaw" = some m.cls := findClass_of_methodNamed B.named
  have htab : c.exceptionTable.toList = [⟨0, 8, 11, 13⟩] := vx_table (x := yL_orders) B (hts0 _ List.mem_cons_self)
  have hx := B.exec
  have hb := B.bytes
  have hr := B.returns
  have hK := hX.1
  obtain ⟨fs, g, gs, q, ps, h1, -⟩ := zord_ok ho
  have hl := lv_entry ([.ref (ad a), .ref (ad o)]) (n := 3) (Nat.le_of_ble_eq_true rfl)
  rw [lg_entry_eq]
  generalize (lg_sl ([.ref (ad a), .ref (ad o)]) ++ List.replicate (3 - (lg_sl ([.ref (ad a), .ref (ad o)])).length) Slot.unset).toArray = ls at hl ⊢
  have hl : lv_has ls 3 [(0, .ref (ad a)), (1, .ref (ad o))] := hl
  refine lv_aload_n hx hb zoL_0 rfl (lv_at hl 1 rfl) ?_
  refine lv_iconst (v := 0) hx hb zoL_1 (by decide) ?_
  refine lv_aload_n hx hb zoL_2 rfl (lv_at hl 0 rfl) ?_
  refine vx_calli (A0 := fun q => s.heap.size ≤ q) (H0 := s.heap) (vx_runV (As := []) (rest := [.int 0, .ref (ad o)]) ⟨hx, hb, hml, hown, hts⟩ (zo_throw l hl0 ho s.heap.size) ⟨callB_of 0 hts (zgoodIn zAl_good zowc) rfl rfl rfl (hts _ zowX) (hts _ zow7) (by decide +kernel) ⟨by decide, by decide⟩, hts _ zown, hts _ zows⟩ ⟨zoP_blind, va_recv hK hP (ci := 11) (q0 := a) rfl (zW_get h1), fun U hU hW => ⟨rfl, by rw [hU], by rw [hU]; exact hP, hX.warm hW, hT.step (H := s.heap) (locs := []) va_S.rf hU hW (fun _ h => h)⟩⟩ rfl rfl hl.1 rfl (lv_room (Nat.le_of_ble_eq_true rfl)) zoL_3 ⟨by decide, by decide⟩) va_S.rf (fun q _ h => h) (fun q h => h) (fun q _ h => h) ?_ (fun r u t H1 locs1 ht hvm hw => hw.elim)
  intro E ce q9 u t H1 locs1 ht hvm hp hE hz hk hS hc hcv hcl
  subst hE
  refine zx_catch (own := "BeggarHeapsLaw") (name := zNSE) (E := zNSE) hown ⟨0, 8, 11, 13⟩ htab (by decide) (by decide) (hts _ zow13) (va_Nw.use rfl (hT.1 _ (by simp [zXb]))) hc hcv hcl ?_
  show W p l e _ s m _ below meth c H1 locs1 _ _ _ (F0 m 11 ls [.ref q9])
  refine lv_astore_n hx hb zoL_11 rfl hl (by decide) rfl (fun ls' hl' => ?_)
  refine lv_iconst (v := 1) hx hb zoL_12 (by decide) ?_
  refine W.widen (k := 1) (n := 6) (by decide) (by decide) ?_
  exact W.iret hx hb hr (fun t ht hW => ⟨⟨1, (), rfl, rfl, trivial⟩, hS.F ht⟩) hS.2.2 zoL_13
/-- what is told of the String of words and of the throw -/
def zZ (A : Nat → Prop) (U : State) (b : Nat) : Prop := zStr A U b ∧ zThr A U
theorem zZ_ZS : zZS zZ := ⟨fun A U b g mk a h => ⟨zStr_ZS.1 A U b g mk a h.1, h.2.call g mk a⟩, fun A B s U b H locs h hS hU hW hAB => ⟨zStr_ZS.2 A B s U b H locs h.1 hS hU hW hAB, h.2.step hS hU hW hAB⟩⟩
theorem zZ_J (l : Launch) : zJ l zAl zZ := fun p e R s m args below meth c H locs mc ms Q cc pc ls rest own A b hx hb hml hown hts hZS => zJ_ok l p e R s m args below meth c H locs mc ms Q cc pc ls rest own A b hx hb hml hown hts hZS.1
set_option maxHeartbeats 2000000 in
theorem zZ_JO (l : Launch) (hl0 : l.stackTraces = false) (mt : Nat → ZMI) (bd : Nat → Int × Int) (rh : Nat → Int32) (D : va_G) (cA : Nat → ClassId) : zJO l zAl mt bd rh zZ D cA := by
  intro p e R s m args below meth c H locs mc ms Q pc ls rest A ad d j cs a o idx x2 hf hd hP hD hS hls hmc hms hrest ho hdg hwi kk
  obtain ⟨f1, f2, f3, f4, f5, f6, f7, f8, f9, f10, f11, f12, f13, f14, f15⟩ := hf
  obtain ⟨hown9, hidx⟩ := hwi.2.2.2 rfl
  rw [hown9] at f5
  subst hidx
  have hA : ∀ q, H.size ≤ q → A q := fun q h => f10 q (Nat.le_trans hS.1 h)
  have hG : GoodIn zAl (va_wsS "BeggarHeapsLaw" 139 yL_orders (Cond.codeWith yL_orders cL_orders 3 (some .int) [(0, 8, 11, 13)] :: zAl)) := by
    intro w hw
    have hw' : w ∈ zAl := by
      simp only [va_wsS, List.mem_append, List.mem_cons, List.not_mem_nil, or_false] at hw
      rcases hw with (rfl | rfl | rfl) | rfl | hw
      · exact zow139
      · exact zowst
      · exact zowL
      · exact zowcw
      · exact hw
    exact ⟨hw', zAl_good w hw'⟩
  refine va_calli (vx_runSW (Ts := zAl) (own := "BeggarHeapsLaw") (As := [.ref (ad a), .ref (ad o)]) (rest := rest) ⟨f1, f2, f3, f5, f6⟩ (zo_law l hl0 (D := D) (cA := cA) (rh := rh) (ad := ad) (o := o) ho H.size) (vx_cwSW 2 f6 hG rfl rfl rfl (by decide +kernel) ⟨by show 7 + 1 ≤ _; omega, by show 8 + (3 + 11) + 140 ≤ _; omega⟩) ⟨zoP_blind, fun U hU hW => ⟨rfl, by rw [hU], by rw [hU]; exact hP, f8.warm hW, f9.2.step hS hU hW hA⟩⟩ rfl rfl hls rfl (lv_room hrest) hdg ⟨by omega, by omega⟩) hS (fun q _ h => hA q h) (fun q h => hA q h) (fun r u t H1 locs1 ht hvm hr hB hz hk hS1 => ?_)
  subst hr
  refine W.widen (k := mc + 100) (n := ms + 10000) (by omega) (by omega) ?_
  exact kk H1 locs1 (hP.kept fun k q hq => hk q.1 (hP k q hq).lt (fun h => absurd (hP k q hq).lt (Nat.not_lt.mpr h))) hD hS1
/-- at the law's entry -/
theorem zThr_ex {args : Array Value} {s : State} (hts : ∀ w ∈ lw_tbl, w.before args s = true) (hgv : (Jvm.Cond.and given_1 narrow_1).before args s = true) : zThr (fun q => s.heap.size ≤ q) s := by
  have hs := flat_of_before _ hgv
  have hat : ∀ (p : Nat) (w : Cond), (flatC (Jvm.Cond.and given_1 narrow_1))[p]? = some w → w.before args s = true := fun p w h => hs w (List.mem_of_getElem? h)
  have hA : ∀ a : Nat, a < s.heap.size → ¬ (fun q : Nat => s.heap.size ≤ q) a := fun a h => Nat.not_le.mpr h
  have hex := hat 185 (Cond.exactly (.string RX11 346) "java/lang/String") (by decide +kernel)
  obtain ⟨a, c, cA, kA, q1, -⟩ := Cond.exactly_spec (args := args) (first := s) (o := none) (s := s) (idx := []) (t := .string RX11 346) (cls := "java/lang/String") hex
  have hini : (Cond.initialized Bundle.tN).before args s = true := hts _ (List.mem_of_getElem? (i := 145) (by decide +kernel))
  refine ⟨fun w hw => va_Nw.of (zXb_t w hw) (hts w ?_), vx_Zqof (hts _ (List.mem_of_getElem? (i := 1554) (by decide +kernel))) hini (hat 9 _ (by decide +kernel)) hA, vx_Zqof (hts _ (List.mem_of_getElem? (i := 1556) (by decide +kernel))) hini (hat 10 _ (by decide +kernel)) hA, a, vk_R.of (hts _ (List.mem_of_getElem? (i := 1566) (by decide +kernel))) q1⟩
  simp only [zXb, List.mem_cons, List.not_mem_nil, or_false] at hw
  rcases hw with rfl | rfl | rfl | rfl
  · exact List.mem_of_getElem? (i := 1529) (by decide +kernel)
  · exact List.mem_of_getElem? (i := 1531) (by decide +kernel)
  · exact List.mem_of_getElem? (i := 1533) (by decide +kernel)
  · exact List.mem_of_getElem? (i := 1535) (by decide +kernel)
end ZORD
