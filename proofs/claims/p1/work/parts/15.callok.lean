/-! a call of a method with a number -/
section ZCK
variable {p : Program} {l : Launch} {e : Env} {R : Room} {s : State} {m : MethodId} {args : Array Value} {below : List Frame} {meth : Method} {c : Code} {H : Heap} {locs : List Loc} {mc ms : Nat} {Q : State → Prop}
variable {Al : List Cond} {mt : Nat → ZMI} {bd : Nat → Int × Int} {rh : Nat → Int32} {ZS : (Nat → Prop) → State → Nat → Prop} {D : va_G} {cA : Nat → ClassId} {ad : Nat → Nat} {A : Nat → Prop} {cs : List ZC} {n d j pc : Nat} {lw : Bool} {sl : ZL} {stop : Nat} {loc : ZL} {st : List Value} {ls : Array Slot} {rv0 : Option Value} {cs0 : List ZC}
theorem zgoodIn (hg : zGood Al) {w : Cond} (hw : w ∈ Al) : GoodIn Al (w :: Al) := fun v hv => by
  rcases List.mem_cons.mp hv with rfl | h
  · exact ⟨hw, hg _ hw⟩
  · exact ⟨h, hg _ h⟩
theorem zpre (hZ : zZS ZS) (hX : ZX D cA s) (hZS : ZS A s (ad 1000000)) (hP : va_P D zcl (zW cA rh ad cs) H) (hD : va_D A (zW cA rh ad cs)) (hS : va_S A s.heap H locs) (hA : ∀ q, s.heap.size ≤ q → A q) (av : List Value) (U : State) (hU : U.heap = H) (hW : s.WarmedH U.vm) : zPc D cA ZS rh ad av cs H.size (av.map (zc rh ad)).toArray U := by
  have hF : ∀ q, va_A (zW cA rh ad cs) H.size q → A q := by
    intro q hq
    rcases hq with ⟨k, e, h⟩ | h
    · exact hD.2 k _ h
    · exact hA q (Nat.le_trans hS.1 h)
  exact ⟨rfl, by rw [hU], by rw [hU]; exact hP, hD.weaken (fun _ _ _ _ => trivial), hX.warm hW, hZ.2 A _ s U _ H locs hZS hS hU hW hF⟩
set_option maxHeartbeats 2000000 in
/-- the call itself is told by 'mk'; behind it the run goes on -/
theorem z_call (hI : ZSnd l Al mt bd rh ZS D cA n) (hMa : ∀ i, (mt i).2.2.2.2.1 ≤ 2 → zMok Al (mt i)) (hEa : ∀ i, zEok Al mt (mt i)) {jj kd : Nat} (hk2 : kd ≤ 2) (hf : ZFr Al mt bd rh ZS D cA p R s m args meth c A ad d j lw)
    (hP : va_P D zcl (zW cA rh ad cs) H) (hD : va_D A (zW cA rh ad cs)) (hS : va_S A s.heap H locs) (hl : lv_has ls (mt j).2.2.1 (zL rh ad loc))
    (h : zcall mt (zrun mt bd n) d j lw sl stop pc loc st cs mc ms jj kd = some (rv0, cs0))
    (mk : ∀ (d' : Nat) (av r : List Value) (rv : Option Value) (cs' : List ZC), d = d' + 1 → st = av.reverse ++ r → av.length = (bif Nat.beq kd 1 then (mt jj).2.2.2.2.2.2.2.1 else (mt jj).2.2.2.2.2.2.2.1 + 1) → kd = (mt jj).2.2.2.2.1 → (mt jj).2.2.1 ≤ 21 → zsum r ≤ 8 → mc + (mt jj).2.2.2.2.2.1 ≤ R.cells ∧ ms + (mt jj).2.2.2.2.2.2.1 ≤ R.slots →
      (kd ≠ 1 → ∃ (b : Nat) (as : List Value), av = .ref b :: as ∧ (kd = 0 → zisO cs (mt jj).2.2.2.2.2.2.2.2.1 (.ref b) = true)) →
      Met l (mt jj).1 (Cond.code (mt jj).1 (mt jj).2.1 (mt jj).2.2.1 (mt jj).2.2.2.1 :: Al) (zrm (mt jj) d') (zPc D cA ZS rh ad av cs H.size) (zQc D cA rh ad cs.length (va_A (zW cA rh ad cs) H.size) rv cs') (mt jj).2.2.2.2.2.1 (mt jj).2.2.2.2.2.2.1 (va_A (zW cA rh ad cs) H.size) →
      va_Run p l e R s m args below meth c H locs mc ms (mt jj).2.2.2.2.2.1 (mt jj).2.2.2.2.2.2.1 (F0 m pc ls (st.map (zc rh ad))) (r.map (zc rh ad)) (zQc D cA rh ad cs.length (va_A (zW cA rh ad cs) H.size) rv cs' (av.map (zc rh ad)).toArray) (va_A (zW cA rh ad cs) H.size))
    (kk : ∀ (ad' : Nat → Nat) (H' : Heap) (locs' : List Loc) (ls' : Array Slot) (mc' ms' pc' : Nat) (loc' : ZL) (st' : List Value), zAg ad ad' cs.length → va_P D zcl (zW cA rh ad' cs0) H' → va_D A (zW cA rh ad' cs0) → va_S A s.heap H' locs' → lv_has ls' (mt j).2.2.1 (zL rh ad' loc') → zfin (mt j) lw sl stop pc' loc' st' rv0 mc' ms' → W p l e R s m args below meth c H' locs' mc' ms' Q (F0 m pc' ls' (st'.map (zc rh ad')))) :
    W p l e R s m args below meth c H locs mc ms Q (F0 m pc ls (st.map (zc rh ad))) := by
  obtain ⟨d', av, r, rv, cs', e1, e2, e3, e4, e5, e6, e7, e8, e9, e10, e11, e12, e13, e14, e15⟩ := zcall_ok h
  obtain ⟨p1, p2⟩ := zpop_ok0 e2
  have hA := hf.2.2.2.2.2.2.2.2.2.1
  have hRc := hf.2.2.2.2.2.2.2.2.2.2.2.2.1
  have hRs := hf.2.2.2.2.2.2.2.2.2.2.2.2.2.1
  have hF : ∀ q, va_A (zW cA rh ad cs) H.size q → A q := by
    intro q hq
    rcases hq with ⟨k, e, h⟩ | h
    · exact hD.2 k _ h
    · exact hA q (Nat.le_trans hS.1 h)
  have hm := zmet hI (hMa jj (e3 ▸ hk2)) (hEa jj) e4 e12 ad H.size
  refine z_cont (mk d' av r rv cs' e1 p1 p2 e3 e5 e6 ⟨Nat.le_trans e7 hRc, Nat.le_trans e8 hRs⟩ e11 hm) hS hF hF (fun ad' H1 locs1 g1 g2 g3 g4 => ?_)
  have h9 := hI d j lw sl stop (pc + 3) loc (rv.toList ++ r) cs' (mc + (mt jj).2.2.2.2.2.1) (ms + (mt jj).2.2.2.2.2.2.1) rv0 cs0 e15 p e R s m args below meth c H1 locs1 Q ad' ls A (hf.ag g1) e7 e8 g2 g3 g4 (by rw [zw_l e10 g1]; exact hl) (fun ad'' H' locs' ls' mc' ms' pc' loc' st' k1 k2 k3 k4 k5 k6 => kk ad'' H' locs' ls' mc' ms' pc' loc' st' (g1.trans k1 e14) k2 k3 k4 k5 k6)
  rw [List.map_append, zw_s e9 g1] at h9
  have e16 : (rv.map (zc rh ad')).toList = rv.toList.map (zc rh ad') := by cases rv <;> rfl
  rw [e16]
  exact h9
theorem zcallB (hg : zGood Al) {jj d' : Nat} (hM : zMok Al (mt jj)) (hts : ∀ w ∈ Al, w.before args s = true) (h21 : (mt jj).2.2.1 ≤ 21) (hfr : d' + 1 ≤ R.frames) (hlo : 40 * (d' + 1) ≤ R.locals) {own : String} {idx : Nat} (hlink : Cond.methodLink own idx (mt jj).1 ∈ Al) {ret : Option FieldType} (hret : (mt jj).2.2.2.1 = ret) :
    CallB R s args own idx (mt jj).1 (mt jj).2.1 (mt jj).2.2.1 ret (Cond.code (mt jj).1 (mt jj).2.1 (mt jj).2.2.1 (mt jj).2.2.2.1 :: Al) (zrm (mt jj) d') (mt jj).2.2.2.2.2.1 (mt jj).2.2.2.2.2.2.1 (mt jj).2.2.2.2.2.2.2.1 := by
  obtain ⟨m1, m2, m3, m4, -⟩ := hM
  exact callB_of _ hts (zgoodIn hg m2) (by rw [hret]) rfl rfl (hts _ m3) (hts _ hlink) m4 ⟨hfr, by show 8 + (_ + 11) + 40 * d' ≤ _; omega⟩
set_option maxHeartbeats 2000000 in
theorem z_runV (hg : zGood Al) (hZ : zZS ZS) (hMa : ∀ i, (mt i).2.2.2.2.1 ≤ 2 → zMok Al (mt i)) (hf : ZFr Al mt bd rh ZS D cA p R s m args meth c A ad d j lw)
    (hP : va_P D zcl (zW cA rh ad cs) H) (hD : va_D A (zW cA rh ad cs)) (hS : va_S A s.heap H locs) (hl : lv_has ls (mt j).2.2.1 (zL rh ad loc)) {idx jj : Nat} (hdg : decode (mt j).2.1 pc = .ok (.invokevirtual idx, 3)) (hlink : Cond.methodLink (mt j).1.cls idx (mt jj).1 ∈ Al) :
    ∀ (d' : Nat) (av r : List Value) (rv : Option Value) (cs' : List ZC), d = d' + 1 → st = av.reverse ++ r → av.length = (bif Nat.beq 0 1 then (mt jj).2.2.2.2.2.2.2.1 else (mt jj).2.2.2.2.2.2.2.1 + 1) → 0 = (mt jj).2.2.2.2.1 → (mt jj).2.2.1 ≤ 21 → zsum r ≤ 8 → mc + (mt jj).2.2.2.2.2.1 ≤ R.cells ∧ ms + (mt jj).2.2.2.2.2.2.1 ≤ R.slots →
      (0 ≠ 1 → ∃ (b : Nat) (as : List Value), av = .ref b :: as ∧ (0 = 0 → zisO cs (mt jj).2.2.2.2.2.2.2.2.1 (.ref b) = true)) →
      Met l (mt jj).1 (Cond.code (mt jj).1 (mt jj).2.1 (mt jj).2.2.1 (mt jj).2.2.2.1 :: Al) (zrm (mt jj) d') (zPc D cA ZS rh ad av cs H.size) (zQc D cA rh ad cs.length (va_A (zW cA rh ad cs) H.size) rv cs') (mt jj).2.2.2.2.2.1 (mt jj).2.2.2.2.2.2.1 (va_A (zW cA rh ad cs) H.size) →
      va_Run p l e R s m args below meth c H locs mc ms (mt jj).2.2.2.2.2.1 (mt jj).2.2.2.2.2.2.1 (F0 m pc ls (st.map (zc rh ad))) (r.map (zc rh ad)) (zQc D cA rh ad cs.length (va_A (zW cA rh ad cs) H.size) rv cs' (av.map (zc rh ad)).toArray) (va_A (zW cA rh ad cs) H.size) := by
  intro d' av r rv cs' e1 e2 e3 e4 e5 e6 e7 e8 hm
  obtain ⟨b, as, rfl, hb⟩ := e8 (by decide)
  obtain ⟨f1, f2, f3, f4, f5, f6, f7, f8, f9, f10, f11, f12, f13, f14, f15⟩ := hf
  have hM := hMa jj (by omega)
  have hM' := hM
  obtain ⟨m1, m2, m3, m4, ⟨q, q1, q2⟩, m6, m7, m8⟩ := hM'
  obtain ⟨i1, i2⟩ := m6 e4.symm
  subst e1
  have hO := hb rfl
  simp only [zisO] at hO
  split at hO
  · rename_i cj fs hz
    have ec := Nat.eq_of_beq_eq_true hO
    subst ec
    obtain ⟨cell, r1, r2, r3⟩ := va_recv f8.1 hP q1 (zW_get hz)
    rw [q2] at r3
    refine va_runV (S := ⟨f1, f2, f3, f5, f6⟩) hm (b := ad b) (As := as.map (zc rh ad)) ⟨zcallB hg hM f6 e5 f11 f12 hlink rfl, f6 _ i1, f6 _ i2⟩ ⟨zPc_blind hZ, ⟨cell, r1, r2, r3⟩, fun U hU hW => zpre hZ f8 f9 hP hD hS f10 (.ref b :: as) U hU hW⟩ rfl (by rw [List.length_map]; exact Nat.succ.inj e3) hl.1 ?_ (lv_room (by rw [zsum_c]; exact e6)) hdg e7
    rw [e2]
    simp [F0, zc, List.map_reverse]
  · cases hO
set_option maxHeartbeats 2000000 in
theorem z_runS (hg : zGood Al) (hZ : zZS ZS) (hMa : ∀ i, (mt i).2.2.2.2.1 ≤ 2 → zMok Al (mt i)) (hf : ZFr Al mt bd rh ZS D cA p R s m args meth c A ad d j lw)
    (hP : va_P D zcl (zW cA rh ad cs) H) (hD : va_D A (zW cA rh ad cs)) (hS : va_S A s.heap H locs) (hl : lv_has ls (mt j).2.2.1 (zL rh ad loc)) {idx jj : Nat} (hdg : decode (mt j).2.1 pc = .ok (.invokestatic idx, 3)) (hlink : Cond.methodLink (mt j).1.cls idx (mt jj).1 ∈ Al) :
    ∀ (d' : Nat) (av r : List Value) (rv : Option Value) (cs' : List ZC), d = d' + 1 → st = av.reverse ++ r → av.length = (bif Nat.beq 1 1 then (mt jj).2.2.2.2.2.2.2.1 else (mt jj).2.2.2.2.2.2.2.1 + 1) → 1 = (mt jj).2.2.2.2.1 → (mt jj).2.2.1 ≤ 21 → zsum r ≤ 8 → mc + (mt jj).2.2.2.2.2.1 ≤ R.cells ∧ ms + (mt jj).2.2.2.2.2.2.1 ≤ R.slots →
      (1 ≠ 1 → ∃ (b : Nat) (as : List Value), av = .ref b :: as ∧ (1 = 0 → zisO cs (mt jj).2.2.2.2.2.2.2.2.1 (.ref b) = true)) →
      Met l (mt jj).1 (Cond.code (mt jj).1 (mt jj).2.1 (mt jj).2.2.1 (mt jj).2.2.2.1 :: Al) (zrm (mt jj) d') (zPc D cA ZS rh ad av cs H.size) (zQc D cA rh ad cs.length (va_A (zW cA rh ad cs) H.size) rv cs') (mt jj).2.2.2.2.2.1 (mt jj).2.2.2.2.2.2.1 (va_A (zW cA rh ad cs) H.size) →
      va_Run p l e R s m args below meth c H locs mc ms (mt jj).2.2.2.2.2.1 (mt jj).2.2.2.2.2.2.1 (F0 m pc ls (st.map (zc rh ad))) (r.map (zc rh ad)) (zQc D cA rh ad cs.length (va_A (zW cA rh ad cs) H.size) rv cs' (av.map (zc rh ad)).toArray) (va_A (zW cA rh ad cs) H.size) := by
  intro d' av r rv cs' e1 e2 e3 e4 e5 e6 e7 e8 hm
  obtain ⟨f1, f2, f3, f4, f5, f6, f7, f8, f9, f10, f11, f12, f13, f14, f15⟩ := hf
  have hM := hMa jj (by omega)
  have hM' := hM
  obtain ⟨m1, m2, m3, m4, ⟨q, q1, q2⟩, m6, m7, m8⟩ := hM'
  have i1 := m7 e4.symm
  subst e1
  refine va_runS (S := ⟨f1, f2, f3, f5, f6⟩) hm (As := av.map (zc rh ad)) ⟨zcallB hg hM f6 e5 f11 f12 hlink rfl, f6 _ i1⟩ ⟨zPc_blind hZ, fun U hU hW => zpre hZ f8 f9 hP hD hS f10 av U hU hW⟩ rfl (by rw [List.length_map]; exact e3) hl.1 ?_ (lv_room (by rw [zsum_c]; exact e6)) hdg e7
  rw [e2]
  simp [F0, List.map_reverse]
set_option maxHeartbeats 2000000 in
theorem z_runI (hg : zGood Al) (hZ : zZS ZS) (hMa : ∀ i, (mt i).2.2.2.2.1 ≤ 2 → zMok Al (mt i)) (hf : ZFr Al mt bd rh ZS D cA p R s m args meth c A ad d j lw)
    (hP : va_P D zcl (zW cA rh ad cs) H) (hD : va_D A (zW cA rh ad cs)) (hS : va_S A s.heap H locs) (hl : lv_has ls (mt j).2.2.1 (zL rh ad loc)) {idx jj : Nat} (hdg : decode (mt j).2.1 pc = .ok (.invokespecial idx, 3)) (hlink : Cond.methodLink (mt j).1.cls idx (mt jj).1 ∈ Al ∨ ((mt j).1.cls, idx, (mt jj).1) ∈ znl) :
    ∀ (d' : Nat) (av r : List Value) (rv : Option Value) (cs' : List ZC), d = d' + 1 → st = av.reverse ++ r → av.length = (bif Nat.beq 2 1 then (mt jj).2.2.2.2.2.2.2.1 else (mt jj).2.2.2.2.2.2.2.1 + 1) → 2 = (mt jj).2.2.2.2.1 → (mt jj).2.2.1 ≤ 21 → zsum r ≤ 8 → mc + (mt jj).2.2.2.2.2.1 ≤ R.cells ∧ ms + (mt jj).2.2.2.2.2.2.1 ≤ R.slots →
      (2 ≠ 1 → ∃ (b : Nat) (as : List Value), av = .ref b :: as ∧ (2 = 0 → zisO cs (mt jj).2.2.2.2.2.2.2.2.1 (.ref b) = true)) →
      Met l (mt jj).1 (Cond.code (mt jj).1 (mt jj).2.1 (mt jj).2.2.1 (mt jj).2.2.2.1 :: Al) (zrm (mt jj) d') (zPc D cA ZS rh ad av cs H.size) (zQc D cA rh ad cs.length (va_A (zW cA rh ad cs) H.size) rv cs') (mt jj).2.2.2.2.2.1 (mt jj).2.2.2.2.2.2.1 (va_A (zW cA rh ad cs) H.size) →
      va_Run p l e R s m args below meth c H locs mc ms (mt jj).2.2.2.2.2.1 (mt jj).2.2.2.2.2.2.1 (F0 m pc ls (st.map (zc rh ad))) (r.map (zc rh ad)) (zQc D cA rh ad cs.length (va_A (zW cA rh ad cs) H.size) rv cs' (av.map (zc rh ad)).toArray) (va_A (zW cA rh ad cs) H.size) := by
  intro d' av r rv cs' e1 e2 e3 e4 e5 e6 e7 e8 hm
  obtain ⟨b, as, rfl, hb⟩ := e8 (by decide)
  obtain ⟨f1, f2, f3, f4, f5, f6, f7, f8, f9, f10, f11, f12, f13, f14, f15⟩ := hf
  have hM := hMa jj (by omega)
  have hM' := hM
  obtain ⟨m1, m2, m3, m4, ⟨q, q1, q2⟩, m6, m7, m8⟩ := hM'
  obtain ⟨i1, i2, i3⟩ := m8 e4.symm
  subst e1
  have hst : (F0 m pc ls (st.map (zc rh ad))).stack = (as.map (zc rh ad)).reverse ++ .ref (ad b) :: r.map (zc rh ad) := by
    rw [e2]
    simp [F0, zc, List.map_reverse]
  rcases hlink with hlink | hlink
  · exact va_runI (S := ⟨f1, f2, f3, f5, f6⟩) hm (b := ad b) (As := as.map (zc rh ad)) ⟨zcallB hg hM f6 e5 f11 f12 hlink i3, i1, f6 _ i2⟩ ⟨zPc_blind hZ, fun U hU hW => zpre hZ f8 f9 hP hD hS f10 (.ref b :: as) U hU hW⟩ rfl (by rw [List.length_map]; exact Nat.succ.inj e3) hl.1 hst (lv_room (by rw [zsum_c]; exact e6)) hdg e7
  · exact va_runIN (S := ⟨f1, f2, f3, f5, f6⟩) hm (b := ad b) (As := as.map (zc rh ad)) ⟨va_cnB _ f6 (zgoodIn hg m2) (by rw [i3]) rfl rfl (f8.2.2.2 _ hlink) (f6 _ m3) m4 ⟨f11, by show 8 + (_ + 11) + 40 * d' ≤ _; omega⟩, i1, f6 _ i2⟩ ⟨zPc_blind hZ, fun U hU hW => zpre hZ f8 f9 hP hD hS f10 (.ref b :: as) U hU hW⟩ rfl (by rw [List.length_map]; exact Nat.succ.inj e3) hl.1 hst (lv_room (by rw [zsum_c]; exact e6)) hdg e7
end ZCK
