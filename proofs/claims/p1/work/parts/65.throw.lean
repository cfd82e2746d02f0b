/-! a NoSuchElementException is made, thrown and caught -/
section ZTHROW
abbrev zNSE : String := "java/util/NoSuchElementException"
abbrev zRTE : String := "java/lang/RuntimeException"
abbrev zEXC : String := "java/lang/Exception"
theorem zx_0 : decode prog_28_method_4_code 0 = .ok (.aload_n 0, 1) := by decide +kernel
theorem zx_1 : decode prog_28_method_4_code 1 = .ok (.aload_n 1, 1) := by decide +kernel
theorem zx_2 : decode prog_28_method_4_code 2 = .ok (.invokespecial 13, 3) := by decide +kernel
theorem zx_5 : decode prog_28_method_4_code 5 = .ok (.return_, 1) := by decide +kernel
/-- the constructor's words, beside those of Throwable and of the two constructors between -/
def zXo : List Cond := [.methodLink RX11 348 (Bundle.initS zNSE), .instantiable zNSE 6, .castable zNSE zNSE, .selects zNSE Bundle.tFill0 Bundle.tFill0, .selects zNSE Bundle.tFill Bundle.tFill, .lays zNSE Bundle.tN "cause" "Ljava/lang/Throwable;", .lays zNSE Bundle.tN "stackTrace" Bundle.steD, .lays zNSE Bundle.tN "suppressedExceptions" Bundle.listD, .lays zNSE Bundle.tN "detailMessage" "Ljava/lang/String;", .isRef (.static Bundle.tN "UNASSIGNED_STACK" Bundle.steD), .isRef (.static Bundle.tN "SUPPRESSED_SENTINEL" Bundle.listD), .fieldLink Bundle.tN 198 Bundle.tN "backtrace" "Ljava/lang/Object;", .lays Bundle.tN Bundle.tN "backtrace" "Ljava/lang/Object;", .lays zNSE Bundle.tN "backtrace" "Ljava/lang/Object;"]
def zXw : List Cond := Bundle.throwableAtoms ++ (Bundle.throwableSAtoms ++ (Bundle.passSAtoms zNSE zRTE 13 prog_28_method_4_code ++ (Bundle.chainSAtoms zRTE [zEXC] ++ zXo)))
def zXb : List Cond := [.castable zNSE zNSE, .declares (Bundle.initS zRTE), .declares (Bundle.initS zEXC), .declares (Bundle.initS Bundle.tN)]
theorem zXn_in : zXw.filter vx_no = [145, 1549, 1558, 1560, 1563, 1565, 1550, 1551, 155, 156, 1552, 1557, 1561, 1581, 1539, 1582, 1541, 1583, 1543, 1553, 1555, 1545, 1577, 1578, 1580, 1545, 1568, 1569, 1570, 1571, 1531, 1571, 1572, 1573, 1574, 1533, 1574, 1575, 1576, 1577, 1535, 1567, 1528, 1529, 1536, 1537, 1538, 1540, 1542, 1544, 1548, 1547, 1546].filterMap (fun p => lw_tbl[p]?) := by decide +kernel
theorem zXn_b : ((zXw.filter vx_no).filter (fun w => !goodWord w)).all (fun w => decide (w ∈ zXb)) = true := by decide +kernel
theorem zXn_t : (zXw.filter vx_no).all vx_ot = true := by decide +kernel
/-- what is told beside the good words -/
def zThr (A : Nat → Prop) (U : State) : Prop := (∀ w ∈ zXb, va_Nw w U) ∧ vx_Zq Bundle.tN "UNASSIGNED_STACK" Bundle.steD A U U.heap ∧ vx_Zq Bundle.tN "SUPPRESSED_SENTINEL" Bundle.listD A U U.heap ∧ ∃ sa, vk_R RX11 346 "no heap was taken in this game" sa U
theorem zXb_t : ∀ w ∈ zXb, w.onTables = true := by
  intro w hw
  simp only [zXb, List.mem_cons, List.not_mem_nil, or_false] at hw
  rcases hw with rfl | rfl | rfl | rfl <;> rfl
theorem zXb_w {s U : State} (hW : s.WarmedH U.vm) (h : ∀ w ∈ zXb, va_Nw w s) : ∀ w ∈ zXb, va_Nw w U := by
  intro w hw
  have h1 := h w hw
  simp only [zXb, List.mem_cons, List.not_mem_nil, or_false] at hw
  rcases hw with rfl | rfl | rfl | rfl
  · exact va_Nw.warmC hW h1
  · exact va_Nw.warmD hW h1
  · exact va_Nw.warmD hW h1
  · exact va_Nw.warmD hW h1
theorem zThr.call {A : Nat → Prop} {U : State} (h : zThr A U) (g : JFrame) (mk : MethodId) (a : Array Value) : zThr A (U.calling g mk a) := by
  obtain ⟨h1, h2, h3, sa, h4⟩ := h
  exact ⟨fun w hw => va_Nw.same (u := U) (U := U.calling g mk a) (zXb_t w hw) rfl (h1 w hw), vx_Zq.moved (u := U) (U := U.calling g mk a) (Vm.Alike.refl U.vm) h2, vx_Zq.moved (u := U) (U := U.calling g mk a) (Vm.Alike.refl U.vm) h3, sa, vk_R.same (u := U) (U := U.calling g mk a) rfl h4⟩
theorem zThr.step {A B : Nat → Prop} {s U : State} {H : Heap} {locs : List Loc} (h : zThr A s) (hS : va_S A s.heap H locs) (hU : U.heap = H) (hW : s.WarmedH U.vm) (hAB : ∀ q, B q → A q) : zThr B U := by
  obtain ⟨h1, h2, h3, sa, h4⟩ := h
  refine ⟨zXb_w hW h1, ?_, ?_, sa, vk_R.warm hW h4⟩
  · rw [hU]; exact vx_Zq.narrow (vx_Zq.moved hW.alike (h2.kept hS.2.1)) hAB
  · rw [hU]; exact vx_Zq.narrow (vx_Zq.moved hW.alike (h3.kept hS.2.1)) hAB
theorem zXn_ok {A : Nat → Prop} {args : Array Value} {s : State} (hts : ∀ w ∈ zAl, w.before args s = true) (hT : zThr A s) : ∀ w ∈ zXw.filter vx_no, w.before args s = true := by
  intro w hw
  by_cases hg : goodWord w = true
  · refine hts w (List.mem_filter.mpr ⟨?_, hg⟩)
    rw [zXn_in] at hw
    obtain ⟨i, -, hi⟩ := List.mem_filterMap.mp hw
    exact List.mem_of_getElem? hi
  · have h1 := of_decide_eq_true (List.all_eq_true.mp zXn_b w (List.mem_filter.mpr ⟨hw, by rw [Bool.eq_false_iff.mpr hg]; rfl⟩))
    exact va_Nw.use (zXb_t w h1) (hT.1 w h1)
variable {p : Program} {l : Launch} {e : Env} {R : Room} {s : State} {m : MethodId} {args : Array Value} {below : List Frame} {meth : Method} {c : Code} {H : Heap} {locs : List Loc} {cells slots : Nat}
/-- the search through a table of one row, its class resolved or not -/
theorem zx_find {S : State} {f : JFrame} {q : Addr} {x : ExceptionTableEntry} {cT : ClassId} {ce : Cell} (hm : S.vm.method? f.method = some meth) (hc : meth.code = some c) (ht : c.exceptionTable.toList = [x]) (hx : covers x f.pc = true) (h0 : x.catchType ≠ 0) (hl : S.vm.ClassLinks e.platform f.method.cls x.catchType cT) (hce : S.heap[q]? = some ce) (hv : ∀ k, ce.vm ≠ .statics k) (hk : ∃ k, S.vm.classes[ce.cls]? = some k) (hk2 : ∃ k, S.vm.classes[cT]? = some k) (hfit : S.vm.assignable ce.cls cT = true) (P : Handler → Pre) (E : CtlPost) (d : Bool) (acts : List Action) :
    wp (findHandler f q) P E e d acts S ↔ P (.found x.handlerPc) d acts (S.setVm (S.vm.noted f.method.cls x.catchType (.cls cT))) := by
  have hA : S.vm.Alike (S.vm.noted f.method.cls x.catchType (.cls cT)) := (Vm.Alike.refl S.vm).noted _ _ _
  obtain ⟨r1, r2⟩ := (resolveClass_links e.toSetting hl).op (op := VmOp.resolveClass f.method.cls x.catchType) rfl
  obtain ⟨k1, g1⟩ := hk
  obtain ⟨k2, g2⟩ := hk2
  obtain ⟨k3, g3, -⟩ := hA.2.2 _ _ g1
  obtain ⟨k4, g4, -⟩ := hA.2.2 _ _ g2
  have g5 : (S.vm.noted f.method.cls x.catchType (.cls cT)).assignable ce.cls cT = true := by rw [hA.assignable]; exact hfit
  rw [W.findHandler_eq hm hc, ht]
  simp only [covers] at hx
  simp [findHandler.go, hx, h0, r1, r2, hce, hv, g3, g4, g5, VmOp.dirties, VmOp.acts]
theorem zx_catch {own name E : String} {ce : Cell} {q : Addr} {pc : Nat} {ls : Array Slot} {rest : List Value} {Q : State → Prop} (hown : s.vm.findClass own = some m.cls) (x : ExceptionTableEntry) (ht : c.exceptionTable.toList = [x]) (hx : covers x pc = true) (h0 : x.catchType ≠ 0) (hlink : (Cond.classLink own x.catchType name).before args s = true) (hcast : (Cond.castable E name).before args s = true) (hcell : H[q]? = some ce) (hv : ce.vm = .none) (hcl : s.vm.findClass E = some ce.cls)
    (kk : W p l e R s m args below meth c H locs cells slots Q (F0 m x.handlerPc ls [.ref q])) : vx_W p l e R s m args below meth c H locs cells slots Q (F0 m pc ls rest) q := by
  intro T hT X
  have hpl : e.platform.magicAccessors = ({} : Platform).magicAccessors := by rw [X.admits.platform]
  obtain ⟨c3, c4, h3, h4, hasg⟩ := Cond.castable_spec hcast
  cases Option.some.inj (h3.symm.trans hcl)
  obtain ⟨c5, h5, hlk⟩ := Cond.classLink_spec hown hlink e.platform hpl
  cases Option.some.inj (h4.symm.trans h5)
  obtain ⟨dk, _, _, kt, hd, _, _, _, _, hkt, _, hopen⟩ := hlk.here
  have hW := X.warmed
  obtain ⟨k6, h6, -⟩ := hW.alike.2.2 _ _ hkt
  obtain ⟨k7, h7, -⟩ := Vm.findClass_spec hcl
  obtain ⟨k8, h8, -⟩ := hW.alike.2.2 _ _ h7
  have hf := zx_find (S := (T.setTop (F0 m pc ls rest)).pushFrame (.throwing q)) (f := F0 m pc ls rest) (q := q) (cT := c4) (ce := ce) (e := e) X.method' X.code ht hx h0 (hW.classLinks hlk) (show T.heap[q]? = some ce by rw [hT]; exact hcell) (fun k => by rw [hv]; simp) ⟨k8, h8⟩ ⟨k6, h6⟩ (show T.vm.assignable ce.cls c4 = true by rw [hW.alike.assignable]; exact hasg)
  have hW' := hW.noted hd hopen (State.rightAt_cls hlk)
  obtain ⟨t, a1, b1⟩ := kk (T.setVm (T.vm.noted m.cls x.catchType (.cls c4))) hT (X.noted hW')
  refine ⟨t, ?_, b1⟩
  obtain ⟨go, hw⟩ := At.throwing (g := F0 m pc ls rest) X.here q
  refine Steps.head go hw ?_
  obtain ⟨g₀, hfr⟩ := X.frames_eq
  rw [stepThread_throwing (frames_entered X.here.top _)]
  have hst : (stepThrowing e ((T.setTop (F0 m pc ls rest)).pushFrame (.throwing q)) q (.java (F0 m pc ls rest) :: T.frames.tail)).1 = (((T.setTop (F0 m pc ls rest)).pushFrame (.throwing q)).setVm (T.vm.noted m.cls x.catchType (.cls c4))).setFrames (.java (F0 m x.handlerPc ls [.ref q]) :: T.frames.tail) := by
    simp only [stepThrowing, searchFrame, vmDo]
    generalize hr : Sem.go _ e false [] _ = res
    obtain ⟨as, rfl, -⟩ := Sem.eq_ok_of hr (a := Handler.found x.handlerPc) (s' := ((T.setTop (F0 m pc ls rest)).pushFrame (.throwing q)).setVm (T.vm.noted m.cls x.catchType (.cls c4))) (acts' := []) (by simp [hf]; rfl)
    rfl
  rw [hst]
  have e2 : ∀ vm' : Vm, (((T.setTop (F0 m pc ls rest)).pushFrame (.throwing q)).setVm vm').setFrames (.java (F0 m x.handlerPc ls [.ref q]) :: T.frames.tail) = (T.setVm vm').setTop (F0 m x.handlerPc ls [.ref q]) := by
    intro vm'
    have hfr' : (T.setVm vm').frames = .java g₀ :: below := hfr
    have h1 : ∀ (u : State) (F G : List Frame), ((u.setFrames F).setVm vm').setFrames G = (u.setVm vm').setFrames G := fun u F G => by
      show ((u.setVm vm').setFrames F).setFrames G = _
      rw [State.setFrames_setFrames]
    rw [State.setTop_of_frames _ hfr', hfr, List.tail_cons, State.pushFrame, State.setTop_of_frames _ hfr, h1, h1]
  rw [e2]
  exact a1
set_option maxHeartbeats 1000000 in
/-- the constructor runs, and what it made is thrown out of the method -/
theorem zx_ctor {V : State} (X : Stand p l e R s m args below meth c V [] cells slots) (hexec : p.tables.exec = Jvm.exec) (htr : e.platform.stackTraces = false) (hown : s.vm.findClass RX11 = some m.cls) (h : ∀ w ∈ zXw, w.before args s = true)
    {a : Addr} {cX : ClassId} {kX : Class} (hfX : s.vm.findClass zNSE = some cX) (hkX : s.vm.classes[cX]? = some kX) (hcell : V.heap[a]? = some (freshCell cX kX)) (hnew : s.heap.size ≤ a) {msg : Value} (hmsg : msg.isRef = true)
    {g : JFrame} (hg : g.method = m) (hsize : g.locals.size = c.maxLocals) (hlocked : g.locked = none) (hent : g.entered = []) {rest : List Value} (hstack : g.stack = msg :: .ref a :: .ref a :: rest) (hd : decode c.code g.pc = .ok (.invokespecial 348, 3)) (hd3 : decode c.code (g.pc + 3) = .ok (.athrow, 1)) (hout : ∀ x ∈ c.exceptionTable.toList, covers x (g.pc + 3) = false)
    (hRf : 5 < R.frames) (hRl : 2 * g.monitorRoom + ((Value.ref a :: rest).map fun v => v.category).sum + 81 ≤ R.locals) (hlocks : meth.locks = false) :
    ∃ U : State, Steps p.tables e below (V.setTop g) U ∧ U.status = .running ∧ Ended U below (.threw a) ∧ s.WarmedH U.vm ∧ s.sameButNew ({ U with vm := s.vm } : State) [] cells slots ∧ ∃ ce : Cell, U.heap[a]? = some ce ∧ ce.cls = cX ∧ ce.vm = .none := by
  have howns : e.platform.frameOwnsMonitors = true := by rw [X.admits.platform]
  have hfin : e.platform.finalization = false := by rw [X.admits.platform]
  have hpl : e.platform.magicAccessors = ({} : Platform).magicAccessors := by rw [X.admits.platform]
  have ho : ∀ w ∈ zXo, w.holds args s none s [] = true := fun w hw => h w (by simp [zXw, hw])
  obtain ⟨T, Z0, L, -, Y⟩ := ThrowableC.of_atoms (args := args) howns hfin hpl (fun x hx => h x (by simp [zXw, hx]))
  obtain ⟨Z, M, LZ, LM, hnZ⟩ := Init0T.ofS_atoms (args := args) hpl L Y (fun x hx => h x (by simp [zXw, hx]))
  obtain ⟨P, LP, hPm, hPs⟩ := PassC.ofS_atoms (args := args) (s := s) hpl (X := zNSE) (Y := zRTE) (by decide) ⟨by decide, by decide⟩ zx_0 zx_1 zx_2 zx_5 (fun x hx => h x (by simp [zXw, hx]))
  obtain ⟨P', Ps, hlen, LP', hLs, hPm', hsup, hpass⟩ := Bundle.chainS (args := args) hpl hnZ [zEXC] zRTE (by decide) (by decide) (fun x hx => h x (by simp [zXw, hx]))
  have hlink : PassesOn (Z.m T.toThrowableT) ((P :: P' :: Ps).map (·.toPassT)) := ⟨Option.some.inj (hPs.symm.trans hPm'), hsup, hpass⟩
  have hLall : ∀ P9, P9 ∈ P :: P' :: Ps → P9.LinksS e.platform s := by
    intro P9 h9
    rcases List.mem_cons.mp h9 with rfl | h9
    · exact LP
    · rcases List.mem_cons.mp h9 with rfl | h9
      · exact LP'
      · exact hLs P9 h9
  have hfP : s.vm.findClass zNSE = some P.m.cls := findClass_of_methodNamed hPm
  cases Option.some.inj (hfX.symm.trans hfP)
  obtain ⟨c1, k1, hc1, hk, hord, -, -, -⟩ := Cond.instantiable_spec (ho (.instantiable zNSE 6) (by simp [zXo]))
  cases Option.some.inj (hc1.symm.trans hfP)
  cases Option.some.inj (hkX.symm.trans hk)
  have hsel : ∀ (y : MethodName) (my : MethodId), (Cond.selects zNSE y y).holds args s none s [] = true → s.methodNamed? y = some my → s.methodFound? y.cls y.name y.desc = some my → selectMethod e.platform s.vm P.m.cls my = .method my := by
    intro y my hw h1 h2
    obtain ⟨c2, r2, m2, q1, q2, q3, q4, -⟩ := Cond.selects_spec hw
    cases Option.some.inj (q1.symm.trans hfP)
    cases Option.some.inj (q2.symm.trans h2)
    cases Option.some.inj (q3.symm.trans h1)
    rw [Launch.admits_selectMethod X.admits]; exact q4
  have hsel0 := hsel _ _ (ho (.selects zNSE Bundle.tFill0 Bundle.tFill0) (by simp [zXo])) Y.fill0 (State.methodFound?_of_named Y.fill0 (by decide))
  have hselF := hsel _ _ (ho (.selects zNSE Bundle.tFill Bundle.tFill) (by simp [zXo])) Y.fill (State.methodFound?_of_named Y.fill (by decide))
  obtain ⟨cS, hcS, hiss⟩ := Y.statics
  obtain ⟨u0, hu0⟩ := Cond.staticRefV Y.unassigned L.unassignedStatic L.statics hcS hiss (ho (.isRef (.static Bundle.tN "UNASSIGNED_STACK" Bundle.steD)) (by simp [zXo]))
  obtain ⟨sen, hsen⟩ := Cond.staticRefV Y.sentinel L.sentinelStatic L.statics hcS hiss (ho (.isRef (.static Bundle.tN "SUPPRESSED_SENTINEL" Bundle.listD)) (by simp [zXo]))
  obtain ⟨ci, ib, fB, hkB, hgB, haB, hsB, -, hnB, htB, hffB⟩ := Cond.ownField (t := .object "java/lang/Object") Y.found L.cls (by decide +kernel) (ho (.fieldLink Bundle.tN 198 Bundle.tN "backtrace" "Ljava/lang/Object;") (by simp [zXo])) (ho (.lays Bundle.tN Bundle.tN "backtrace" "Ljava/lang/Object;") (by simp [zXo])) e.platform hpl
  obtain ⟨cV, hcV', heV, -, hkeep⟩ := X.same.2.2.2.2.2 T.aS cS hcS
  have hcV : V.heap[T.aS]? = some cV := hcV'
  have hneS : T.aS ≠ a := Nat.ne_of_lt (Nat.lt_of_lt_of_le (Array.getElem?_eq_some_iff.mp hcS).1 hnew)
  have hknS : cV.vm ≠ .unknown := by
    rw [heV]; intro hu
    rw [show cS.vm = .unknown from hu] at hiss
    cases hiss
  have hkp : ∀ i, cV.slots[i]? = cS.slots[i]? := fun i => hkeep i (by simp)
  obtain ⟨iM, hffM⟩ := Y.msg
  obtain ⟨tyC, dC, hdC, hnC⟩ := Cond.laysAt hfP hk Y.cause (ho (.lays zNSE Bundle.tN "cause" "Ljava/lang/Throwable;") (by simp [zXo]))
  obtain ⟨tyS, dS, hdS, hnS⟩ := Cond.laysAt hfP hk Y.stack (ho (.lays zNSE Bundle.tN "stackTrace" Bundle.steD) (by simp [zXo]))
  obtain ⟨tyP, dP, hdP, hnP⟩ := Cond.laysAt hfP hk Y.supp (ho (.lays zNSE Bundle.tN "suppressedExceptions" Bundle.listD) (by simp [zXo]))
  obtain ⟨tyM, dM, hdM, hnM⟩ := Cond.laysAt hfP hk hffM (ho (.lays zNSE Bundle.tN "detailMessage" "Ljava/lang/String;") (by simp [zXo]))
  obtain ⟨tyB, dB, hdB, hnB'⟩ := Cond.laysAt hfP hk hffB (ho (.lays zNSE Bundle.tN "backtrace" "Ljava/lang/Object;") (by simp [zXo]))
  have bC := Cond.laysApart hdB hdC hnB' hnC (by rw [hnB, Y.causeName]; decide)
  have bS := Cond.laysApart hdB hdS hnB' hnS (by rw [hnB, Y.stackName]; decide)
  have bP := Cond.laysApart hdB hdP hnB' hnP (by rw [hnB, Y.suppName]; decide)
  have hskip : SkipFacts T e.platform s (fun u => u) u0 ((preparedCellV T.toThrowableT (freshCell P.m.cls kX) a u0 sen).withEntry V.cur) :=
    ⟨{ ci198 := ci, i198 := ib, fBack := fB }, ⟨hkB, hgB, haB, hsB⟩, by
      have h9 := fresh_default (c := P.m.cls) tyB
      rw [htB] at h9
      simpa [preparedCellV, Cell.setSlot, Cell.withEntry, Array.getElem?_setIfInBounds, bC, bS, bP, bC.symm, bS.symm, bP.symm, defaultValue] using h9, fun _ _ => rfl⟩
  obtain ⟨tm, mC, cdC, kC, vm₁, hnC1, -, -, -, -, -, -, -, hW₁, st1⟩ := Steps.initColdS (tb := p.tables) (e := e) (below := below) (s := s) (U := V) X.here hexec X.warmed hpl hown (t := Bundle.initS zNSE) rfl rfl ⟨by decide, by decide⟩
    (ho (.methodLink RX11 348 (Bundle.initS zNSE)) (by simp [zXo])) (h (.instanceMethod (Bundle.initS zNSE)) (by simp [zXw, Bundle.passSAtoms])) (bytes := prog_28_method_4_code) (maxL := 2) (h (.code (Bundle.initS zNSE) prog_28_method_4_code 2 none) (by simp [zXw, Bundle.passSAtoms]))
    (f := g) hg (a := a) (msg := msg) (rest := .ref a :: rest) hstack hd
  cases Option.some.inj (hnC1.symm.trans hPm)
  have X₁ := X.noted hW₁
  have hl2 : (P :: P' :: Ps).length = 3 := by simp [hlen]
  obtain ⟨vm₂, X₂, st2⟩ := X₁.ctorMessageOffV hexec (g := { g with stack := .ref a :: rest }) hg hsize T L Z LZ M LM (P :: P' :: Ps) hLall hlink (u0 := u0) (sen := sen) (self := a) hmsg (cell := freshCell P.m.cls kX) (cellS := cV)
    hcell (fun _ => by simp) (by simp) rfl rfl hsel0 hselF hcV hneS hknS (by rw [hkp]; exact hu0) (by rw [hkp]; exact hsen)
    (Takes.of_laid hk hord tyC (by rw [Y.causeType]; rfl)) (Takes.of_laid hk hord tyS (by rw [Y.stackType]; exact fits_refV_array _ u0)) (Takes.of_laid hk hord tyP (by rw [Y.suppType]; exact fits_refV_object _ sen))
    (Takes.of_laid hk hord tyM (by rw [Y.msgType]; exact fits_refV_object _ ⟨msg, hmsg⟩)) Y.objLocals hskip htr [] hd (by rw [hl2]; exact hRf) (by rw [hl2]; exact hRl)
  obtain ⟨hwalk, hrun, hended, hWU, hsame⟩ := X₂.athrowLeaves hexec (g := { g with stack := .ref a :: rest, pc := g.pc + 3 }) hg hlocked hent hout (a := a) (rest := rest) rfl hd3 hlocks
  have hlt : a < ((V.setVm vm₁).setVm vm₂).heap.size := (Array.getElem?_eq_some_iff.mp hcell).1
  have hU := heapAt_setCell_self (s := (V.setVm vm₁).setVm vm₂) (plainBareV T.toThrowableT (freshCell P.m.cls kX) a u0 sen msg) hlt
  refine ⟨_, st1 _ (fun acts => ?_), hrun, hended, hWU, hsame.weaken (fun y hy hlt' => ?_) (Nat.le_refl _) (Nat.le_refl _), _, hU, rfl, rfl⟩
  · rw [doInvoke_state]
    exact st2 _ hwalk
  · exfalso
    have hb : y.base = a := by
      simp only [List.nil_append, List.mem_cons, List.not_mem_nil, or_false] at hy
      rcases hy with rfl | rfl | rfl | rfl | rfl <;> rfl
    rw [hb] at hlt'
    exact Nat.not_lt.mpr hnew hlt'
variable {mc ms : Nat} {free : Addr → Prop} {ls : Array Slot} {rest : List Value} {Qc : Array Value → State → Outcome → State → Prop} {XC : String → State → State → Prop}
set_option maxHeartbeats 1000000 in
/-- new; dup; ldc_w; invokespecial; athrow -/
theorem zx_throw {cc : ByteArray} {pc sa : Nat} (hexec : p.tables.exec = Jvm.exec) (hb : c.code = cc) (hl : l.stackTraces = false) {A : Nat → Prop} (hown : s.vm.findClass RX11 = some m.cls) (hk : (Cond.classLink RX11 344 zNSE).before args s = true) (hini : (Cond.initialized zNSE).before args s = true) (hgk : goodWord (.classLink RX11 344 zNSE) = true) (hgi : goodWord (.initialized zNSE) = true) (hat : ∀ w ∈ zXw.filter vx_no, w.before args s = true) (hT : zThr A s) (hstr : vk_R RX11 346 "no heap was taken in this game" sa s) (hS : va_S A s.heap H locs) (hsize : ls.size = c.maxLocals)
    (d0 : decode cc pc = .ok (.new 344, 3)) (d3 : decode cc (pc + 3) = .ok (.dup, 1)) (d4 : decode cc (pc + 4) = .ok (.ldc_w 346, 3)) (d7 : decode cc (pc + 7) = .ok (.invokespecial 348, 3)) (d10 : decode cc (pc + 10) = .ok (.athrow, 1)) (hout : ∀ x ∈ c.exceptionTable.toList, covers x (pc + 10) = false)
    (hRf : 5 < R.frames) (hRl : (rest.map fun v => v.category).sum + 82 ≤ R.locals) (hRc : cells + 1 ≤ R.cells) (hRs : slots + 6 ≤ R.slots) (hlocks : meth.locks = false)
    (hx : ∀ t : State, s.vm.Alike t.vm → H.size ≤ t.heap.size → (∀ q : Nat, q < H.size → t.heap[q]? = H[q]?) → XC zNSE s t) (hf : ∀ z ∈ locs, free z.base) (hc : cells + 1 ≤ mc) (hs : slots + 6 ≤ ms) :
    W p l e R s m args below meth c H locs cells slots (vx_MQ below Qc XC args s mc ms free) (F0 m pc ls rest) := by
  intro T hTH X
  have htr : e.platform.stackTraces = false := (show e.platform.stackTraces = l.stackTraces by rw [X.admits.platform]).trans hl
  have Y := vx_rebase X (R' := { frames := R.frames, locals := R.locals, cells := 1, slots := 6 }) (Nat.le_refl _) (Nat.le_refl _) hRc hRs
  obtain ⟨s', hA⟩ : ∃ z, z = (T.setVm s.vm).setFrames (.invoking m args :: below) := ⟨_, rfl⟩
  rw [← hA] at Y
  have hvm : s'.vm = s.vm := by rw [hA]; rfl
  have hhp : s'.heap = H := by rw [hA]; exact hTH
  have hW0 : s.WarmedH s'.vm := by rw [hvm]; exact State.WarmedH.refl s
  have hat' : ∀ w ∈ zXw.filter vx_no, w.before args s' = true := fun w hw => vx_ot_at hW0 hvm.symm (List.all_eq_true.mp zXn_t w hw) (hat w hw)
  have hk' : (Cond.classLink RX11 344 zNSE).before args s' = true := word_at hW0 (good_of_word hgk) hk
  have hini' : (Cond.initialized zNSE).before args s' = true := word_at hW0 (good_of_word hgi) hini
  have hU' : vx_Zq Bundle.tN "UNASSIGNED_STACK" Bundle.steD A s' s'.heap := by rw [hhp]; exact vx_Zq.moved hW0.alike (hT.2.1.kept hS.2.1)
  have hN' : vx_Zq Bundle.tN "SUPPRESSED_SENTINEL" Bundle.listD A s' s'.heap := by rw [hhp]; exact vx_Zq.moved hW0.alike (hT.2.2.1.kept hS.2.1)
  have h : ∀ w ∈ zXw, w.before args s' = true := vx_own hat' (vx_isRefq hU'.1) (vx_isRefq hN'.1) hU'.2.word hN'.2.word
  have hown' : s'.vm.findClass RX11 = some m.cls := by rw [hvm]; exact hown
  have hins : (Cond.instantiable zNSE 6).before args s' = true := h _ (by simp [zXw, zXo])
  obtain ⟨vm₁, cX, kX, hfX, hkX, -, -, X₁, st1⟩ := Y.newCold hexec (own := RX11) (C := zNSE) (index := 344) (n := 6) hown' hk' hins hini' (g := F0 m pc ls rest) rfl (by rw [hb]; exact d0) (Nat.le_refl _) (Nat.le_refl _)
  generalize hT1 : (T.setVm vm₁).pushCell { cls := cX, slots := kX.instanceTypes.map defaultValue, vm := .none } = T1 at X₁ st1
  have hcat : (Value.ref T.heap.size).category = 1 := rfl
  have hcellA : T1.heap[T.heap.size]? = some (freshCell cX kX) := by rw [← hT1]; exact State.heap_pushCell_size _ _
  have d3' : decode c.code (pc + 3) = .ok (.dup, 1) := by rw [hb]; exact d3
  have d4' : decode c.code (pc + 4) = .ok (.ldc_w 346, 3) := by rw [hb]; exact d4
  have hstr' : vk_R RX11 346 "no heap was taken in this game" sa s' := vk_R.warm hW0 hstr
  obtain ⟨U, hsteps, hrun, hend, hW, hsame, ce, hce, hcls, hcv⟩ := zx_ctor X₁ hexec htr hown' h hfX hkX hcellA (by rw [hhp, hTH]; exact Nat.le_refl _) (msg := .ref sa) rfl
    (g := { method := m, pc := pc + 7, locals := ls, stack := .ref sa :: .ref T.heap.size :: .ref T.heap.size :: rest, locked := none }) rfl hsize rfl rfl (rest := rest) rfl
    (by rw [hb]; exact d7) (by rw [hb]; exact d10) hout hRf (by simp only [List.map_cons, List.sum_cons, hcat, JFrame.monitorRoom]; simp; omega) hlocks
  obtain ⟨f1, f2⟩ := vx_frame hsame
  rw [hhp] at f1 f2
  have hWs : s.WarmedH U.vm := State.WarmedH.trans hW0 hW
  have hcl : s.vm.findClass zNSE = some ce.cls := by
    rw [hcls, ← hvm]
    exact hfX
  have hall : s.sameButNew ({ U with vm := s.vm } : State) locs mc ms := by
    subst hA
    obtain ⟨e1, e2⟩ := hsame
    rw [State.setFrames_setFrames] at e1
    have h2 : (T.setVm s.vm).sameButNew ({ U with vm := s.vm } : State) [] (0 + 1) (0 + 6) := ⟨e1, e2⟩
    have h3 := X.same.trans h2
    rw [List.append_nil] at h3
    exact h3.mono hc hs
  refine ⟨U, ?_, .threw T.heap.size, hrun, hend, Or.inr ⟨T.heap.size, rfl, zNSE, ce, locs, hx U hWs.alike f1 (fun q hq => f2 q hq (fun z hz => nomatch hz)), hce, hcv, hcl, hWs, hall, hf⟩⟩
  refine st1 _ ?_
  show Steps p.tables e below (T1.setTop { method := m, pc := pc + 3, locals := ls, stack := .ref T.heap.size :: rest, locked := none }) _
  jvm_step X₁.here [X₁.here.top, hexec, d3', Value.category]
  exact X₁.ldcStringW hexec (own := RX11) (text := "no heap was taken in this game") (index := 346) (a := sa) hown' hstr'.1 hstr'.2
    (g := { method := m, pc := pc + 4, locals := ls, stack := .ref T.heap.size :: .ref T.heap.size :: rest, locked := none }) rfl d4' _ hsteps
end ZTHROW
