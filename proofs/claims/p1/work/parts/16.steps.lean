/-! every run is the machine's -/
section ZST
/-- the String of words: its length, its signs, its address -/
def zJ (l : Launch) (Al : List Cond) (ZS : (Nat → Prop) → State → Nat → Prop) : Prop :=
  ∀ (p : Program) (e : Env) (R : Room) (s : State) (m : MethodId) (args : Array Value) (below : List Frame) (meth : Method) (c : Code) (H : Heap) (locs : List Loc) (mc ms : Nat) (Q : State → Prop) (cc : ByteArray) (pc : Nat) (ls : Array Slot) (rest : List Value) (own : String) (A : Nat → Prop) (b : Nat),
    p.tables.exec = Jvm.exec → c.code = cc → c.maxLocals = ls.size → s.vm.findClass own = some m.cls → (∀ w ∈ Al, w.before args s = true) → ZS A s b → va_S A s.heap H locs → (∀ q, s.heap.size ≤ q → A q) → 4 ≤ R.frames → 160 ≤ R.locals → mc ≤ R.cells → ms ≤ R.slots → (rest.map fun v => v.category).sum ≤ 8 →
    (∀ idx : Nat, Cond.methodLink own idx zyLen ∈ Al → decode cc pc = .ok (.invokevirtual idx, 3) → W p l e R s m args below meth c H locs mc ms Q (F0 m (pc + 3) ls (.int (nI zchars.length) :: rest)) → W p l e R s m args below meth c H locs mc ms Q (F0 m pc ls (.ref b :: rest))) ∧
    (∀ (idx : Nat) (y : Int32), Cond.methodLink own idx zyChr ∈ Al → vp_in y zchars.length → decode cc pc = .ok (.invokevirtual idx, 3) → W p l e R s m args below meth c H locs mc ms Q (F0 m (pc + 3) ls (.int (nI (zchars.getD y.toNatClampNeg 0)) :: rest)) → W p l e R s m args below meth c H locs mc ms Q (F0 m pc ls (.int y :: .ref b :: rest))) ∧
    (own = RX10 → decode cc pc = .ok (.ldc 19, 2) → W p l e R s m args below meth c H locs mc ms Q (F0 m (pc + 2) ls (.ref b :: rest)) → W p l e R s m args below meth c H locs mc ms Q (F0 m pc ls rest))
/-- the law's own 'orders' -/
def zJO (l : Launch) (Al : List Cond) (mt : Nat → ZMI) (bd : Nat → Int × Int) (rh : Nat → Int32) (ZS : (Nat → Prop) → State → Nat → Prop) (D : va_G) (cA : Nat → ClassId) : Prop :=
  ∀ (p : Program) (e : Env) (R : Room) (s : State) (m : MethodId) (args : Array Value) (below : List Frame) (meth : Method) (c : Code) (H : Heap) (locs : List Loc) (mc ms : Nat) (Q : State → Prop) (pc : Nat) (ls : Array Slot) (rest : List Value) (A : Nat → Prop) (ad : Nat → Nat) (d j : Nat) (cs : List ZC) (a o idx x2 : Nat),
    ZFr Al mt bd rh ZS D cA p R s m args meth c A ad d j true → 10 ≤ d → va_P D zcl (zW cA rh ad cs) H → va_D A (zW cA rh ad cs) → va_S A s.heap H locs → ls.size = (mt j).2.2.1 → mc + 100 ≤ R.cells → ms + 10000 ≤ R.slots → (rest.map fun v => v.category).sum ≤ 8 → zord cs a = true → decode (mt j).2.1 pc = .ok (.invokestatic idx, 3) → zwi Al mt (mt j).1.cls (.invokestatic idx) 8 x2 →
    (∀ (H1 : Heap) (locs1 : List Loc), va_P D zcl (zW cA rh ad cs) H1 → va_D A (zW cA rh ad cs) → va_S A s.heap H1 locs1 → W p l e R s m args below meth c H1 locs1 (mc + 100) (ms + 10000) Q (F0 m (pc + 3) ls (.int 1 :: rest))) → W p l e R s m args below meth c H locs mc ms Q (F0 m pc ls (.ref (ad o) :: .ref (ad a) :: rest))
theorem vp_cell_cpy {cI : ClassId} {n : Nat} {f g : Nat → Int32} : vp_cell cI (n, .inl (va_cpy f g 0 0 n)) = vp_cell cI (n, .inl f) := by
  rw [vp_cell_i, vp_cell_i]
  unfold arrV
  congr 1
  congr 1
  funext j
  unfold va_cpy
  dsimp only
  rw [if_pos ⟨Nat.zero_le _, by omega⟩]
  simp
theorem zP_cpy {D : va_G} {ws : va_W} {H : Heap} {q1 a : Nat} {c1 : ClassId} {n : Nat} {f g : Nat → Int32} (h : va_P D zcl (ws.set q1 (a, .inl (c1, n, .inl (va_cpy f g 0 0 n)))) H) : va_P D zcl (ws.set q1 (a, .inl (c1, n, .inl f))) H := by
  intro k q hq
  by_cases e : q1 = k
  · subst e
    by_cases hk : q1 < ws.length
    · rw [List.getElem?_set_self hk] at hq
      cases hq
      have h1 := h q1 _ (List.getElem?_set_self hk)
      show H[a]? = some (vp_cell c1 (n, .inl f))
      rw [← vp_cell_cpy (g := g)]
      exact h1
    · rw [List.getElem?_eq_none (by rw [List.length_set]; omega)] at hq
      cases hq
  · rw [List.getElem?_set_ne e] at hq
    exact h k q (by rw [List.getElem?_set_ne e]; exact hq)
theorem zD_set {A : Nat → Prop} {ws : va_W} {q1 a : Nat} {e0 e1 : va_E} (h : va_D A (ws.set q1 (a, e0))) : va_D A (ws.set q1 (a, e1)) := by
  have key : ∀ (k : Nat) (q : Nat × va_E), (ws.set q1 (a, e1))[k]? = some q → ∃ e2, (ws.set q1 (a, e0))[k]? = some (q.1, e2) := by
    intro k q hq
    by_cases e : q1 = k
    · subst e
      by_cases hk : q1 < ws.length
      · rw [List.getElem?_set_self hk] at hq
        cases hq
        exact ⟨e0, List.getElem?_set_self hk⟩
      · rw [List.getElem?_eq_none (by rw [List.length_set]; omega)] at hq
        cases hq
    · rw [List.getElem?_set_ne e] at hq
      exact ⟨q.2, by rw [List.getElem?_set_ne e]; exact hq⟩
  refine ⟨fun i k x y hi hk hxy => ?_, fun k q hq => ?_⟩
  · obtain ⟨ei, h1⟩ := key i x hi
    obtain ⟨ek, h2⟩ := key k y hk
    exact h.1 i k _ _ h1 h2 hxy
  · obtain ⟨ek, h2⟩ := key k q hq
    exact h.2 k (q.1, ek) h2
theorem znfw : nativeFrameWords "java/lang/System" "arraycopy" 5 + 11 ≤ 32 := by decide +kernel
variable {p : Program} {l : Launch} {e : Env} {R : Room} {s : State} {m : MethodId} {args : Array Value} {below : List Frame} {meth : Method} {c : Code} {H : Heap} {locs : List Loc} {mc ms : Nat} {Q : State → Prop}
variable {Al : List Cond} {mt : Nat → ZMI} {bd : Nat → Int × Int} {rh : Nat → Int32} {ZS : (Nat → Prop) → State → Nat → Prop} {D : va_G} {cA : Nat → ClassId} {ad : Nat → Nat} {A : Nat → Prop} {cs : List ZC} {n d j pc : Nat} {lw : Bool} {loc : ZL} {st : List Value} {ls : Array Slot} {o : Option Value × List ZC}
set_option maxHeartbeats 4000000 in
/-- calls of the JDK's -/
theorem z_prim (hA0 : zAl0 Al) (hJ : zJ l Al ZS) (hf : ZFr Al mt bd rh ZS D cA p R s m args meth c A ad d j lw) (hmc : mc ≤ (mt j).2.2.2.2.2.1) (hms : ms ≤ (mt j).2.2.2.2.2.2.1) (hP : va_P D zcl (zW cA rh ad cs) H) (hD : va_D A (zW cA rh ad cs)) (hS : va_S A s.heap H locs) (hl : lv_has ls (mt j).2.2.1 (zL rh ad loc))
    {i : Instr} {x1 x2 : Nat} (hdg : decode (mt j).2.1 pc = .ok (i, 3)) (hw : zwi Al mt (mt j).1.cls i x1 x2) (hi : (∃ idx, i = .invokevirtual idx ∧ 4 ≤ x1) ∨ (∃ idx, i = .invokestatic idx ∧ (x1 = 2 ∨ x1 = 3)) ∨ (∃ idx, i = .invokespecial idx ∧ x1 = 1))
    {k : ZKW} (h : zprim x1 pc st cs d k = some o) : ZGW p l e R s m args below meth c H locs mc ms Q D cA A rh ad pc st cs ls k o := by
  obtain ⟨f1, f2, f3, f4, f5, f6, f7, f8, f9, f10, f11, f12, f13, f14, f15⟩ := hf
  obtain ⟨a1, a2, a3, a4, a5, a6, a7, a8⟩ := hA0
  have hsz : c.maxLocals = ls.size := f3.trans hl.1.symm
  have hcR : mc ≤ R.cells := Nat.le_trans hmc f13
  have hsR : ms ≤ R.slots := Nat.le_trans hms f14
  rcases hi with ⟨idx, rfl, hx⟩ | ⟨idx, rfl, rfl | rfl⟩ | ⟨idx, rfl, rfl⟩
  · have hx' : x1 = 4 ∨ x1 = 5 ∨ ∃ q : Nat, x1 = q + 6 := by
      by_cases h4 : x1 = 4
      · exact Or.inl h4
      · by_cases h5 : x1 = 5
        · exact Or.inr (Or.inl h5)
        · exact Or.inr (Or.inr ⟨x1 - 6, by omega⟩)
    clear hx
    rcases hx' with rfl | rfl | ⟨q, rfl⟩
    · simp only [zprim] at h
      split at h
      · rename_i a r
        obtain ⟨h1, h2⟩ := zbif h
        rw [zfN_eq] at h2
        simp only [Bool.and_eq_true, decide_eq_true_eq] at h1
        have e1 := Nat.eq_of_beq_eq_true h1.2.2
        subst e1
        refine ⟨_, _, _, h2, rfl, fun kk => ?_⟩
        exact (hJ p e R s m args below meth c H locs mc ms Q (mt j).2.1 pc ls (r.map (zc rh ad)) (mt j).1.cls A (ad 1000000) f1 f2 hsz f5 f6 f9 hS f10 (by omega) (by omega) hcR hsR (by rw [zsum_c]; exact h1.1)).1 idx (hw.2.1 rfl) hdg (kk H locs hP hD hS)
      · cases h
    · simp only [zprim] at h
      split at h
      · rename_i y a r
        obtain ⟨h1, h2⟩ := zbif h
        rw [zfN_eq, zfN_eq] at h2
        simp only [Bool.and_eq_true, decide_eq_true_eq] at h1
        have e1 := Nat.eq_of_beq_eq_true h1.2.2.1
        subst e1
        refine ⟨_, _, _, h2, rfl, fun kk => ?_⟩
        exact (hJ p e R s m args below meth c H locs mc ms Q (mt j).2.1 pc ls (r.map (zc rh ad)) (mt j).1.cls A (ad 1000000) f1 f2 hsz f5 f6 f9 hS f10 (by omega) (by omega) hcR hsR (by rw [zsum_c]; exact h1.1)).2.1 idx y (hw.2.2 rfl) (show ¬ (y < 0 ∨ _ ≤ y.toNatClampNeg) from of_decide_eq_true h1.2.2.2) hdg (kk H locs hP hD hS)
      · cases h
    · exact znone (show (none : ZO) = some o from h)
  · simp only [zprim] at h
    split at h
    · rename_i n dp b sp a r
      split at h
      · rename_i n0 u n1 u1 hz0 hz1
        obtain ⟨h1, h2⟩ := zbif h
        rw [zput_eq] at h2
        simp only [Bool.and_eq_true, decide_eq_true_eq] at h1
        obtain ⟨⟨b1, b2⟩, rfl, rfl, b5, b6, b7⟩ := h1
        subst b7
        refine ⟨_, _, _, h2, List.length_set, fun kk => ?_⟩
        refine va_copyi (ty := .int) f1 f2 hsz f5 (f6 _ (hw.2.1 rfl)) (f6 _ a3) (f6 _ a4) (f6 _ a5) f8.1 hP hD hS a b 0 0 (zW_get hz0) (zW_get hz1) rfl rfl rfl (by decide) (by decide) b5 (by show 0 + _ ≤ _; omega) (by show 0 + _ ≤ _; omega) (fun _ _ => rfl) (by omega) (by rw [zsum_c]; have := znfw; omega) hdg (fun H1 l1 g1 g2 g3 => ?_)
        rw [b6] at g1 g2
        have g1 := zP_cpy g1
        have g2 := zD_set (e1 := .inl (cA 0, n0, .inl (fun j => zi rh (zl (.int 0) u j)))) g2
        have es : (zW cA rh ad cs).set b (ad b, .inl (cA 0, n0, .inl (fun j => zi rh (zl (.int 0) u j)))) = zW cA rh ad (cs.set b (.inr (0, n0, u))) := by
          rw [← zW_set]; rfl
        rw [es] at g1 g2
        exact kk H1 l1 g1 g2 g3
      · cases h
    · cases h
  · simp only [zprim] at h
    split at h
    · rename_i y x r
      obtain ⟨h1, h2⟩ := zbif h
      rw [zfI_eq, zfN_eq] at h2
      simp only [Bool.and_eq_true, decide_eq_true_eq] at h1
      refine ⟨_, _, _, h2, rfl, fun kk => ?_⟩
      exact va_mmin f1 f2 hsz f5 (f6 _ (hw.2.2.1 rfl)) (f6 _ a6) (f6 _ a7) (f6 _ a8) (by omega) (by rw [zsum_c]; omega) hcR hsR hdg (kk H locs hP hD hS)
    · cases h
  · simp only [zprim] at h
    split at h
    · rename_i a r
      obtain ⟨h1, h2⟩ := zbif h
      rw [zfN_eq] at h2
      simp only [Bool.and_eq_true, decide_eq_true_eq] at h1
      refine ⟨_, _, _, h2, rfl, fun kk => ?_⟩
      exact W.objInit f1 f2 f5 (f6 _ (hw.2.2 rfl)) (f6 _ a1) (f6 _ a2) rfl (show ls.size = c.maxLocals from hsz.symm) rfl hdg (by omega) (by show 2 * 0 + _ + 12 ≤ _; rw [zsum_c]; omega) (kk H locs hP hD hS)
    · cases h
end ZST
