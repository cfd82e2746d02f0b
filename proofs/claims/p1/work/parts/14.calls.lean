/-! calls -/
section ZCL
theorem zsum_c {rh : Nat → Int32} {ad : Nat → Nat} (r : List Value) : ((r.map (zc rh ad)).map fun v => v.category).sum = zsum r := by
  unfold zsum
  rw [List.map_map]
  congr 1
  exact List.map_congr_left fun v _ => zc_cat rh ad v
theorem zcall_ok {mt : Nat → ZMI} {ih : ZF} {d j : Nat} {lw : Bool} {sl : ZL} {stop pc : Nat} {loc : ZL} {st : List Value} {cs : List ZC} {mc ms jj kd : Nat} {o : Option Value × List ZC} (h : zcall mt ih d j lw sl stop pc loc st cs mc ms jj kd = some o) :
    ∃ (d' : Nat) (av r : List Value) (rv : Option Value) (cs' : List ZC), d = d' + 1 ∧ zpop (bif Nat.beq kd 1 then (mt jj).2.2.2.2.2.2.2.1 else (mt jj).2.2.2.2.2.2.2.1 + 1) st [] = some (av, r) ∧ kd = (mt jj).2.2.2.2.1 ∧ (lg_sl av).length ≤ (mt jj).2.2.1 ∧ (mt jj).2.2.1 ≤ 21 ∧ zsum r ≤ 8 ∧ mc + (mt jj).2.2.2.2.2.1 ≤ (mt j).2.2.2.2.2.1 ∧ ms + (mt jj).2.2.2.2.2.2.1 ≤ (mt j).2.2.2.2.2.2.1 ∧ zwS cs.length r = true ∧ zwL cs.length loc = true ∧
      (kd ≠ 1 → ∃ (b : Nat) (as : List Value), av = .ref b :: as ∧ (kd = 0 → zisO cs (mt jj).2.2.2.2.2.2.2.2.1 (.ref b) = true)) ∧ ih d' jj false [] 0 0 (lv_args 0 av) [] cs 0 0 = some (rv, cs') ∧ rv.isSome = (mt jj).2.2.2.1.isSome ∧ cs.length ≤ cs'.length ∧ ih d j lw sl stop (pc + 3) loc (rv.toList ++ r) cs' (mc + (mt jj).2.2.2.2.2.1) (ms + (mt jj).2.2.2.2.2.2.1) = some o := by
  unfold zcall at h
  split at h
  · rename_i d' y0 c0 maxL ret kd' mM' sM' na ci E y1 c1 l1 r1 k1 mM sM n1 i1 E1 e1 e2
    split at h
    · rename_i av r hp
      obtain ⟨h1, h2⟩ := zbif h
      simp only [zln_eq, zwS'_eq, zwL'_eq, Bool.and_eq_true, decide_eq_true_eq] at h1
      obtain ⟨⟨a1, a2, a3⟩, ⟨b1, b2, b3⟩, ⟨c1', c2'⟩, d1⟩ := h1
      rw [e1, e2]
      dsimp only
      have hrec : kd ≠ 1 → ∃ (b : Nat) (as : List Value), av = .ref b :: as ∧ (kd = 0 → zisO cs ci (.ref b) = true) := by
        intro hk
        have hb : Nat.beq kd 1 = false := by
          cases hq : Nat.beq kd 1 with
          | false => rfl
          | true => exact absurd (Nat.eq_of_beq_eq_true hq) hk
        rw [hb, cond_false] at d1
        split at d1
        · rename_i b as
          refine ⟨b, as, rfl, fun h0 => ?_⟩
          rw [h0, show Nat.beq 0 0 = true from rfl, cond_true] at d1
          exact d1
        · cases d1
      split at h2
      · rename_i cs' hi
        obtain ⟨g1, g2⟩ := zbif h2
        rw [zfN_eq, zfN_eq, zfN_eq] at g2
        rw [zln_eq, zln_eq, Bool.and_eq_true] at g1
        refine ⟨d', av, r, none, cs', rfl, hp, Nat.eq_of_beq_eq_true a1, a2, a3, b1, b2, b3, c1', c2', hrec, hi, ?_, Nat.le_of_ble_eq_true g1.2, g2⟩
        cases ret
        · rfl
        · cases g1.1
      · rename_i v cs' hi
        obtain ⟨g1, g2⟩ := zbif h2
        rw [zfN_eq, zfN_eq, zfN_eq] at g2
        rw [zln_eq, zln_eq, Bool.and_eq_true] at g1
        refine ⟨d', av, r, some v, cs', rfl, hp, Nat.eq_of_beq_eq_true a1, a2, a3, b1, b2, b3, c1', c2', hrec, hi, ?_, Nat.le_of_ble_eq_true g1.2, g2⟩
        rw [g1.1]
        rfl
      · cases h2
    · cases h
  · cases h
/-- a frame of method j: what stays while it runs -/
def ZFr (Al : List Cond) (mt : Nat → ZMI) (bd : Nat → Int × Int) (rh : Nat → Int32) (ZS : (Nat → Prop) → State → Nat → Prop) (D : va_G) (cA : Nat → ClassId) (p : Program) (R : Room) (s : State) (m : MethodId) (args : Array Value) (meth : Method) (c : Code) (A : Nat → Prop) (ad : Nat → Nat) (d j : Nat) (lw : Bool) : Prop :=
  p.tables.exec = Jvm.exec ∧ c.code = (mt j).2.1 ∧ c.maxLocals = (mt j).2.2.1 ∧ meth.name = (mt j).1.name ∧ s.vm.findClass (mt j).1.cls = some m.cls ∧ (∀ w ∈ Al, w.before args s = true) ∧ zEok Al mt (mt j) ∧ ZX D cA s ∧ ZS A s (ad 1000000) ∧ (∀ q, s.heap.size ≤ q → A q) ∧ d ≤ R.frames ∧ 40 * d ≤ R.locals ∧ (mt j).2.2.2.2.2.1 ≤ R.cells ∧ (mt j).2.2.2.2.2.2.1 ≤ R.slots ∧ (zlw bd lw = true → va_X (ad 1000001) 7 rh s s.heap ∧ ad 1000001 < s.heap.size ∧ ¬ A (ad 1000001))
theorem ZFr.ag {Al : List Cond} {mt : Nat → ZMI} {bd : Nat → Int × Int} {rh : Nat → Int32} {ZS : (Nat → Prop) → State → Nat → Prop} {D : va_G} {cA : Nat → ClassId} {p : Program} {R : Room} {s : State} {m : MethodId} {args : Array Value} {meth : Method} {c : Code} {A : Nat → Prop} {ad ad' : Nat → Nat} {d j n : Nat} {lw : Bool} (h : ZFr Al mt bd rh ZS D cA p R s m args meth c A ad d j lw) (hA : zAg ad ad' n) : ZFr Al mt bd rh ZS D cA p R s m args meth c A ad' d j lw := by
  obtain ⟨h1, h2, h3, h4, h5, h6, h7, h8, h9, h10⟩ := h
  refine ⟨h1, h2, h3, h4, h5, h6, h7, h8, ?_, ?_⟩
  · rw [hA 1000000 (Or.inr (Nat.le_refl _))]; exact h9
  · rw [hA 1000001 (Or.inr (by omega))]; exact h10
/-- where a run ends: at the stop, or at a return -/
def zfin (M : ZMI) (lw : Bool) (sl : ZL) (stop pc' : Nat) (loc' : ZL) (st' : List Value) (rv : Option Value) (mc' ms' : Nat) : Prop :=
  (lw = true ∧ pc' = stop ∧ st' = [] ∧ loc' = sl ∧ rv = none ∧ mc' ≤ 1000 ∧ ms' ≤ 200000) ∨ (∃ v : Value, st' = [v] ∧ rv = some v ∧ decode M.2.1 pc' = .ok (.ireturn, 1) ∧ zisI v = true ∧ mc' ≤ M.2.2.2.2.2.1 ∧ ms' ≤ M.2.2.2.2.2.2.1 ∧ (M.2.2.2.1 = some .int ∨ (M.2.2.2.1 = some .boolean ∧ zisB v = true))) ∨ (st' = [] ∧ rv = none ∧ decode M.2.1 pc' = .ok (.return_, 1) ∧ mc' ≤ M.2.2.2.2.2.1 ∧ ms' ≤ M.2.2.2.2.2.2.1 ∧ M.2.2.2.1 = none)
/-- what a run of n steps says of the machine -/
def ZSnd (l : Launch) (Al : List Cond) (mt : Nat → ZMI) (bd : Nat → Int × Int) (rh : Nat → Int32) (ZS : (Nat → Prop) → State → Nat → Prop) (D : va_G) (cA : Nat → ClassId) (n : Nat) : Prop :=
  ∀ (d j : Nat) (lw : Bool) (sl : ZL) (stop pc : Nat) (loc : ZL) (st : List Value) (cs : List ZC) (mc ms : Nat) (rv : Option Value) (cs' : List ZC), zrun mt bd n d j lw sl stop pc loc st cs mc ms = some (rv, cs') →
  ∀ (p : Program) (e : Env) (R : Room) (s : State) (m : MethodId) (args : Array Value) (below : List Frame) (meth : Method) (c : Code) (H : Heap) (locs : List Loc) (Q : State → Prop) (ad : Nat → Nat) (ls : Array Slot) (A : Nat → Prop),
    ZFr Al mt bd rh ZS D cA p R s m args meth c A ad d j lw → mc ≤ (mt j).2.2.2.2.2.1 → ms ≤ (mt j).2.2.2.2.2.2.1 → va_P D zcl (zW cA rh ad cs) H → va_D A (zW cA rh ad cs) → va_S A s.heap H locs → lv_has ls (mt j).2.2.1 (zL rh ad loc) →
    (∀ (ad' : Nat → Nat) (H' : Heap) (locs' : List Loc) (ls' : Array Slot) (mc' ms' pc' : Nat) (loc' : ZL) (st' : List Value), zAg ad ad' cs.length → va_P D zcl (zW cA rh ad' cs') H' → va_D A (zW cA rh ad' cs') → va_S A s.heap H' locs' → lv_has ls' (mt j).2.2.1 (zL rh ad' loc') → zfin (mt j) lw sl stop pc' loc' st' rv mc' ms' → W p l e R s m args below meth c H' locs' mc' ms' Q (F0 m pc' ls' (st'.map (zc rh ad')))) →
    W p l e R s m args below meth c H locs mc ms Q (F0 m pc ls (st.map (zc rh ad)))
def zrm (M : ZMI) (d : Nat) : Room := { frames := d, cells := M.2.2.2.2.2.1, slots := M.2.2.2.2.2.2.1, locals := 40 * d }
set_option maxHeartbeats 2000000 in
/-- a method's contract out of its run -/
theorem zmet {l : Launch} {Al : List Cond} {mt : Nat → ZMI} {bd : Nat → Int × Int} {rh : Nat → Int32} {ZS : (Nat → Prop) → State → Nat → Prop} {D : va_G} {cA : Nat → ClassId} {n : Nat} (hS : ZSnd l Al mt bd rh ZS D cA n) {d j : Nat} (hM : zMok Al (mt j)) (hEk : zEok Al mt (mt j)) {av : List Value} {cs cs' : List ZC} {rv : Option Value} (hlen : (lg_sl av).length ≤ (mt j).2.2.1)
    (h : zrun mt bd n d j false [] 0 0 (lv_args 0 av) [] cs 0 0 = some (rv, cs')) (ad : Nat → Nat) (sz : Nat) :
    Met l (mt j).1 (Cond.code (mt j).1 (mt j).2.1 (mt j).2.2.1 (mt j).2.2.2.1 :: Al) (zrm (mt j) d) (zPc D cA ZS rh ad av cs sz) (zQc D cA rh ad cs.length (va_A (zW cA rh ad cs) sz) rv cs') (mt j).2.2.2.2.2.1 (mt j).2.2.2.2.2.2.1 (va_A (zW cA rh ad cs) sz) := by
  refine Met.ofW (cc := (mt j).2.1) (maxL := (mt j).2.2.1) (ret := (mt j).2.2.2.1) hM.1 rfl ?_
  intro p e s m args below meth c s₁ B hml hv
  obtain ⟨rfl, hsz, hP, hD0, hX, hZ⟩ := hv
  have hts := atoms_spec (ws := Cond.code (mt j).1 (mt j).2.1 (mt j).2.2.1 (mt j).2.2.2.1 :: Al) B.pre
  have hown : s.vm.findClass (mt j).1.cls = some m.cls := findClass_of_methodNamed B.named
  have hname : meth.name = (mt j).1.name := (name_of_methodNamed B.named B.method).1
  have hlocks := B.notSynchronized
  have hr := B.returns
  subst hsz
  have hD := hD0.self (sz := s.heap.size)
  have hl := lv_entry (av.map (zc rh ad)) (n := (mt j).2.2.1) (by rw [zlg_len]; exact hlen)
  rw [lg_entry_eq]
  rw [← zL_args] at hl
  refine hS d j false [] 0 0 _ [] cs 0 0 rv cs' h p e _ s m _ below meth c s.heap [] _ ad _ (va_A (zW cA rh ad cs) s.heap.size) ⟨B.exec, B.bytes, hml, hname, hown, fun w hw => hts w (List.mem_cons_of_mem _ hw), hEk, hX, hZ, fun q h => Or.inr h, Nat.le_refl _, Nat.le_refl _, Nat.le_refl _, Nat.le_refl _, fun h => by cases h⟩ (Nat.zero_le _) (Nat.zero_le _) hP hD va_S.rf hl ?_
  intro ad' H' locs' ls' mc' ms' pc' loc' st' g1 g2 g3 g4 g5 g6
  rcases g6 with ⟨z, -⟩ | ⟨v, rfl, rfl, q3, q4, q5, q6, q7⟩ | ⟨rfl, rfl, q3, q5, q6, q7⟩
  · cases z
  · refine W.widen q5 q6 ?_
    obtain ⟨x, ex⟩ := zisI_ok (rh := rh) (ad := ad') q4
    rw [List.map_cons, List.map_nil, ex]
    rcases q7 with q7 | ⟨q7, q8⟩
    · exact W.iret B.exec B.bytes (hr.trans q7) (fun t ht hW => ⟨⟨ad', by rw [Option.map_some, ex], g1, by rw [ht]; exact g2, g3⟩, g4.F ht⟩) g4.2.2 q3
    · refine W.zret B.exec B.bytes (hr.trans q7) ?_ (fun t ht hW => ⟨⟨ad', by rw [Option.map_some, ex], g1, by rw [ht]; exact g2, g3⟩, g4.F ht⟩) g4.2.2 q3
      have h8 := zfit_ok (rh := rh) (ad := ad') (ty := .boolean) (v := v) (by cases v <;> first | exact q8 | (cases q8; done))
      rw [ex] at h8
      exact h8.1
  · refine W.widen q5 q6 ?_
    exact W.vret B.exec B.bytes (hr.trans q7) (fun t ht hW => ⟨⟨ad', rfl, g1, by rw [ht]; exact g2, g3⟩, g4.F ht⟩) g4.2.2 q3
end ZCL
