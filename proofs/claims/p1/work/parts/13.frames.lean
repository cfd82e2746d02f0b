/-! what a frame rests on; a call's end -/
section ZFRM
/-- the private constructors that nest mates call: class, entry, method -/
def znl : List (String × Nat × MethodName) := [(RX11, 28, yX0_init), (RX11, 47, yX2_init), (RX11, 65, yX7_init), (RX11, 72, yX1_init), (RX11, 95, yX3_init), (RX1, 11, yX5_init), (RX2, 11, yX5_init), (RX3, 46, yX5_init)]
def zyLen : MethodName := ⟨"java/lang/String", "length", "()I"⟩
def zyChr : MethodName := ⟨"java/lang/String", "charAt", "(I)C"⟩
/-- words on calls and constants -/
def zwi (Al : List Cond) (mt : Nat → ZMI) (own : String) (i : Instr) (x1 x2 : Nat) : Prop := match i with
  | .invokevirtual idx => (x1 = 0 → Cond.methodLink own idx (mt x2).1 ∈ Al) ∧ (x1 = 4 → Cond.methodLink own idx zyLen ∈ Al) ∧ (x1 = 5 → Cond.methodLink own idx zyChr ∈ Al)
  | .invokestatic idx => (x1 = 0 → Cond.methodLink own idx (mt x2).1 ∈ Al) ∧ (x1 = 2 → Cond.methodLink own idx arraycopyName ∈ Al) ∧ (x1 = 3 → Cond.methodLink own idx Lib.Math.min.name ∈ Al) ∧ (x1 = 8 → own = "BeggarHeapsLaw" ∧ idx = 139)
  | .invokespecial idx => (x1 = 0 → Cond.methodLink own idx (mt x2).1 ∈ Al) ∧ (x1 = 6 → (own, idx, (mt x2).1) ∈ znl) ∧ (x1 = 1 → Cond.methodLink own idx objectInit ∈ Al)
  | .ldc idx => x1 = 7 → own = RX10 ∧ idx = 19
  | .ldc2_w idx => Cond.constantLong own idx (lN x1) ∈ Al
  | _ => True
/-- a method's instructions are what the table says -/
def zEok (Al : List Cond) (mt : Nat → ZMI) (M : ZMI) : Prop := ∀ r ∈ M.2.2.2.2.2.2.2.2.2, ∀ e ∈ r, decode M.2.1 e.1 = .ok (e.2.1, zlen e.2.1 e.2.2.1) ∧ zwd Al M.1.cls M.1.name e.2.1 (e.2.2.2.1, e.2.2.2.2) ∧ zwi Al mt M.1.cls e.2.1 e.2.2.2.1 e.2.2.2.2
/-- a method can be called -/
def zMok (Al : List Cond) (M : ZMI) : Prop :=
  plainName M.1.cls = true ∧ Cond.code M.1 M.2.1 M.2.2.1 M.2.2.2.1 ∈ Al ∧ Cond.initialized M.1.cls ∈ Al ∧ (M.1.cls ≠ "java/lang/invoke/MethodHandle" ∧ M.1.cls ≠ "java/lang/invoke/VarHandle" ∧ (parseMethodDescriptor M.1.desc).map (fun d => d.parameters.length) = some M.2.2.2.2.2.2.2.1) ∧ (∃ q, zcl[M.2.2.2.2.2.2.2.2.1]? = some q ∧ q.1 = M.1.cls) ∧
  (M.2.2.2.2.1 = 0 → Cond.instanceMethod M.1 ∈ Al ∧ Cond.selects M.1.cls M.1 M.1 ∈ Al) ∧ (M.2.2.2.2.1 = 1 → Cond.static M.1 ∈ Al) ∧ (M.2.2.2.2.1 = 2 → M.1.name = "<init>" ∧ Cond.instanceMethod M.1 ∈ Al ∧ M.2.2.2.1 = none)
/-- the words of the JDK's -/
def zAl0 (Al : List Cond) : Prop := Cond.instanceMethod objectInit ∈ Al ∧ Cond.code objectInit ⟨#[0xb1]⟩ 1 none ∈ Al ∧ Cond.native arraycopyName ∈ Al ∧ Cond.static arraycopyName ∈ Al ∧ Cond.initialized "java/lang/System" ∈ Al ∧ Cond.static Lib.Math.min.name ∈ Al ∧ Cond.initialized "java/lang/Math" ∈ Al ∧ Cond.code Lib.Math.min.name Lib.Math.min.code 2 (some .int) ∈ Al
def zGood (Al : List Cond) : Prop := ∀ w ∈ Al, (w.onTables && w.keeps) = true ∨ ∃ ty, w = .arrayClass ty
/-- what holds of the tables at a frame's start -/
def ZX (D : va_G) (cA : Nat → ClassId) (s : State) : Prop := va_K D zcl (ztys cA) s ∧ va_AO RX2 s ∧ va_AO RX5 s ∧ ∀ q ∈ znl, va_Nw (.methodLinkNest q.1 q.2.1 q.2.2 "BeggarHeaps") s
theorem ZX.warm {D : va_G} {cA : Nat → ClassId} {s U : State} (h : ZX D cA s) (hW : s.WarmedH U.vm) : ZX D cA U := ⟨va_K.moved hW.alike h.1, va_AO.moved hW.alike h.2.1, va_AO.moved hW.alike h.2.2.1, fun q hq => va_Nw.warmM hW (h.2.2.2 q hq)⟩
theorem ZX.call {D : va_G} {cA : Nat → ClassId} {U : State} (h : ZX D cA U) (g : JFrame) (mk : MethodId) (a : Array Value) : ZX D cA (U.calling g mk a) :=
  ⟨va_K.moved (u := U) (U := U.calling g mk a) (Vm.Alike.refl U.vm) h.1, va_AO.moved (u := U) (U := U.calling g mk a) (Vm.Alike.refl U.vm) h.2.1, va_AO.moved (u := U) (U := U.calling g mk a) (Vm.Alike.refl U.vm) h.2.2.1, fun q hq => va_Nw.same (u := U) (U := U.calling g mk a) rfl rfl (h.2.2.2 q hq)⟩
/-- what is told of the String of words: kept at a call -/
def zZS (ZS : (Nat → Prop) → State → Nat → Prop) : Prop :=
  (∀ (A : Nat → Prop) (U : State) (b : Nat) (g : JFrame) (mk : MethodId) (a : Array Value), ZS A U b → ZS A (U.calling g mk a) b) ∧
  (∀ (A B : Nat → Prop) (s U : State) (b : Nat) (H : Heap) (locs : List Loc), ZS A s b → va_S A s.heap H locs → U.heap = H → s.WarmedH U.vm → (∀ q, B q → A q) → ZS B U b)
def zPc (D : va_G) (cA : Nat → ClassId) (ZS : (Nat → Prop) → State → Nat → Prop) (rh : Nat → Int32) (ad : Nat → Nat) (av : List Value) (cs : List ZC) (sz : Nat) : Array Value → State → Prop := va_Pc (av.map (zc rh ad)) (fun U => U.heap.size = sz ∧ va_P D zcl (zW cA rh ad cs) U.heap ∧ va_D (fun _ => True) (zW cA rh ad cs) ∧ ZX D cA U ∧ ZS (va_A (zW cA rh ad cs) sz) U (ad 1000000))
def zQc (D : va_G) (cA : Nat → ClassId) (rh : Nat → Int32) (ad : Nat → Nat) (n : Nat) (A : Nat → Prop) (rv : Option Value) (cs' : List ZC) : Array Value → State → Outcome → State → Prop := fun _ st oc t => (∃ ad' : Nat → Nat, oc = .returned (rv.map (zc rh ad')) ∧ zAg ad ad' n ∧ va_P D zcl (zW cA rh ad' cs') t.heap ∧ va_D A (zW cA rh ad' cs')) ∧ va_F A st t
theorem zPc_blind {D : va_G} {cA : Nat → ClassId} {ZS : (Nat → Prop) → State → Nat → Prop} (hZ : zZS ZS) {rh : Nat → Int32} {ad : Nat → Nat} {av : List Value} {cs : List ZC} {sz : Nat} : FrameBlind (zPc D cA ZS rh ad av cs sz) := fun a U g mk q => by
  obtain ⟨q0, q1, q2, q3, q4, q5⟩ := q
  exact ⟨q0, q1, q2, q3, q4.call g mk a, hZ.1 _ _ _ g mk a q5⟩
theorem zL_args {rh : Nat → Int32} {ad : Nat → Nat} : ∀ (vs : List Value) (i : Nat), zL rh ad (lv_args i vs) = lv_args i (vs.map (zc rh ad))
  | [], _ => rfl
  | v :: vs, i => by
    simp only [lv_args, zL, List.map_cons, zc_cat]
    congr 1
    exact zL_args vs _
theorem zlg_len {rh : Nat → Int32} {ad : Nat → Nat} : ∀ vs : List Value, (lg_sl (vs.map (zc rh ad))).length = (lg_sl vs).length
  | [] => rfl
  | v :: vs => by
    have ih := zlg_len (rh := rh) (ad := ad) vs
    simp only [lg_sl, List.map_cons, List.flatMap_cons, List.length_append, zc_cat] at ih ⊢
    rw [ih]
    congr 1
    by_cases h : v.category = 2 <;> simp [h]
variable {p : Program} {l : Launch} {e : Env} {R : Room} {s : State} {m : MethodId} {args : Array Value} {below : List Frame} {meth : Method} {c : Code} {H : Heap} {locs : List Loc} {mc ms : Nat} {Q : State → Prop}
variable {rh : Nat → Int32} {ad : Nat → Nat} {cA : Nat → ClassId} {D : va_G} {A : Nat → Prop} {cs cs' : List ZC} {pc : Nat} {ls : Array Slot} {st0 rest : List Value} {rv : Option Value} {mM' sM' : Nat} {a : Array Value} {free : Addr → Prop}
theorem z_cont (hr : va_Run p l e R s m args below meth c H locs mc ms mM' sM' (F0 m pc ls st0) rest (zQc D cA rh ad cs.length (va_A (zW cA rh ad cs) H.size) rv cs' a) free) (hS : va_S A s.heap H locs) (hF : ∀ q, va_A (zW cA rh ad cs) H.size q → A q) (hf : ∀ q, free q → A q)
    (kk : ∀ (ad' : Nat → Nat) (H1 : Heap) (locs1 : List Loc), zAg ad ad' cs.length → va_P D zcl (zW cA rh ad' cs') H1 → va_D A (zW cA rh ad' cs') → va_S A s.heap H1 locs1 → W p l e R s m args below meth c H1 locs1 (mc + mM') (ms + sM') Q (F0 m (pc + 3) ls ((rv.map (zc rh ad')).toList ++ rest))) : W p l e R s m args below meth c H locs mc ms Q (F0 m pc ls st0) := by
  intro T hT X
  obtain ⟨v, st₀, t, T', L, h0, X', hL, e1, e2, ⟨⟨ad', hv, hg, hp, hd⟩, hz, hk⟩, st⟩ := hr T hT X
  cases hv
  rw [h0] at hz hk
  obtain ⟨t2, a1, b1⟩ := kk ad' T'.heap (locs ++ L) hg (by rw [e1]; exact hp) (hd.weaken (fun _ q _ hq => hF _ hq))
    ⟨Nat.le_trans hS.1 (by rw [e1]; exact hz), fun q h1 h2 => by rw [e1, hk q (Nat.lt_of_lt_of_le h1 hS.1) (fun z => h2 (hF q z))]; exact hS.2.1 q h1 h2, fun q hq => by
      rcases List.mem_append.mp hq with h | h
      · exact hS.2.2 q h
      · exact hf _ (hL q h)⟩ T' rfl X'
  exact ⟨t2, st t2 a1, b1⟩
end ZFRM
