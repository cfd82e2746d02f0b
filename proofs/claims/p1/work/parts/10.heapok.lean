/-! .. and that the machine does what they say -/
section ZHO
def ztys (cA : Nat → ClassId) : List (ClassId × FieldType) := [(cA 0, .int), (cA 1, .long), (cA 2, .boolean), (cA 3, .byte), (cA 4, .object RX2), (cA 5, .object RX5)]
/-- the words that an instruction rests on -/
def zwd (Ts : List Cond) (own nm : String) (i : Instr) (x : Nat × Nat) : Prop := match i with
  | .getfield idx => ∃ q : vw_C, zcl[x.1]? = some q ∧ x.2 < q.2.2 ∧ Cond.fieldLink own idx (q.2.1 x.2).1 (q.2.1 x.2).2.1 (q.2.1 x.2).2.2.1 ∈ Ts
  | .putfield idx => ∃ q : vw_C, zcl[x.1]? = some q ∧ x.2 < q.2.2 ∧ Cond.fieldLink own idx (q.2.1 x.2).1 (q.2.1 x.2).2.1 (q.2.1 x.2).2.2.1 ∈ Ts ∧ ((q.2.1 x.2).2.2.2 = false ∨ (nm = "<init>" ∧ (q.2.1 x.2).2.2.2 = true ∧ (q.2.1 x.2).1 = own))
  | .new idx => ∃ q : vw_C, zcl[x.1]? = some q ∧ Cond.classLink own idx q.1 ∈ Ts ∧ Cond.instantiable q.1 q.2.2 ∈ Ts ∧ Cond.initialized q.1 ∈ Ts
  | .newarray t => Cond.arrayClass (newarray.typeOf t) ∈ Ts
  | .anewarray idx => (x.1 = 4 ∧ Cond.classLink own idx RX2 ∈ Ts) ∨ (x.1 = 5 ∧ Cond.classLink own idx RX5 ∈ Ts)
  | _ => True
/-- the words on the classes' fields -/
def zcw (Ts : List Cond) : Prop := ∀ (ci : Nat) (q : vw_C), zcl[ci]? = some q → ∀ w ∈ u_ws q.1 q.2.1 q.2.2, w ∈ Ts
theorem zcl_ty : ∀ (ci : Nat) (q : vw_C), zcl[ci]? = some q → (∀ k, k < q.2.2 → parseFieldDescriptor (q.2.1 k).2.2.1 = some (ztf ci k)) ∧ (∀ a, a < q.2.2 → ∀ b, b < q.2.2 → a ≠ b → (q.2.1 a).2.1 ≠ (q.2.1 b).2.1) := by
  intro ci q h
  match ci, h with
  | 0, h => cases h; exact ⟨tyX0_ok, nmX0⟩
  | 1, h => cases h; exact ⟨tyX1_ok, nmX1⟩
  | 2, h => cases h; exact ⟨tyX2_ok, nmX2⟩
  | 3, h => cases h; exact ⟨tyX3_ok, nmX3⟩
  | 4, h => cases h; exact ⟨tyX4_ok, nmX4⟩
  | 5, h => cases h; exact ⟨tyX5_ok, nmX5⟩
  | 6, h => cases h; exact ⟨tyX6_ok, nmX6⟩
  | 7, h => cases h; exact ⟨tyX7_ok, nmX7⟩
  | 8, h => cases h; exact ⟨tyX8_ok, nmX8⟩
  | 9, h => cases h; exact ⟨tyX9_ok, nmX9⟩
  | 10, h => cases h; exact ⟨tyX10_ok, nmX10⟩
  | 11, h => cases h; exact ⟨tyX11_ok, nmX11⟩
  | 12, h => cases h; exact ⟨tyX12_ok, nmX12⟩
  | n + 13, h => cases h
variable {p : Program} {l : Launch} {e : Env} {R : Room} {s : State} {m : MethodId} {args : Array Value} {below : List Frame} {meth : Method} {c : Code} {H : Heap} {locs : List Loc} {cells slots : Nat} {Q : State → Prop}
variable {cc : ByteArray} {bd : Nat → Int × Int} {rh : Nat → Int32} {ad : Nat → Nat} {cA : Nat → ClassId} {D : va_G} {A : Nat → Prop} {cs : List ZC} {nL pc L : Nat} {ls : Array Slot} {loc : ZL} {st : List Value} {o : Option Value × List ZC} {own : String} {Ts : List Cond}
theorem zi_c {v : Value} (h : zisI v = true) : Value.int (zi rh v) = zc rh ad v := by cases v <;> first | rfl | (cases h; done)
theorem zj_c {v : Value} (h : zisJ v = true) : Value.long (zj v) = zc rh ad v := by cases v <;> first | rfl | (cases h; done)
theorem zr_c {v : Value} (h : zisA v = true) : va_rf (zr ad v) = zc rh ad v := by cases v <;> first | rfl | (cases h; done)
set_option maxHeartbeats 4000000 in
theorem z_hr (hx : p.tables.exec = Jvm.exec) (hb : c.code = cc) (hE : zEnv bd rh) (hts : ∀ w ∈ Ts, w.before args s = true) (hcw : zcw Ts) (hown : s.vm.findClass own = some m.cls) (hK : va_K D zcl (ztys cA) s) (hP : va_P D zcl (zW cA rh ad cs) H) (hS : va_S A s.heap H locs)
    {nm : String} {i : Instr} {x : Nat × Nat} (hdg : decode cc pc = .ok (i, zlen i L)) (hl : lv_has ls nL (zL rh ad loc)) (hw : zwd Ts own nm i x) {lw : Bool} (hX : zlw bd lw = true → va_X (ad 1000001) 7 rh s s.heap ∧ ad 1000001 < s.heap.size ∧ ¬ A (ad 1000001))
    {k : ZK} (h : zhr bd lw cs i x pc loc st k = some o) : ZG p l e R s m args below meth c H locs cells slots Q nL rh ad pc st ls k o := by
  cases i with
  | getfield idx =>
    simp only [zhr] at h
    split at h
    · rename_i a r
      split at h
      · rename_i ci fs hz
        obtain ⟨h1, h2⟩ := zbif h
        have e1 := Nat.eq_of_beq_eq_true h1
        subst e1
        split at h2
        · rename_i v hv
          rw [zgo_eq] at h2
          obtain ⟨q, q1, q2, q3⟩ := hw
          refine ⟨_, _, _, h2, fun kk => ?_⟩
          have hg : (fs.map (zc rh ad))[x.2]? = some (zc rh ad v) := by
            rw [zn_eq] at hv
            rw [List.getElem?_map, hv]
            rfl
          exact va_get (ref := (q.2.1 x.2).1) hx hb hts (hcw _ _ q1) hown hK hP a (zW_get hz) q1 x.2 q2 (hts _ q3) (fun _ h9 => h9) hg hdg (kk ls hl)
        · cases h2
      · cases h
    · cases h
  | iaload =>
    simp only [zhr] at h
    split at h
    · rename_i y a r
      cases hb2 : (zlw bd lw && Nat.beq a 1000001) with
      | true =>
        rw [hb2, cond_true] at h
        rw [Bool.and_eq_true] at hb2
        obtain ⟨h1, h2⟩ := zbif h
        rw [zpush_eq] at h2
        have e1 := Nat.eq_of_beq_eq_true hb2.2
        subst e1
        obtain ⟨g1, g2, g3⟩ := hX hb2.1
        refine ⟨_, _, _, h2, fun kk => ?_⟩
        have h5 := kk ls hl
        rw [List.map_cons, zsc_ok hE] at h5
        exact va_sld hx hb g1 g2 g3 hS (show ¬ (y < 0 ∨ 7 ≤ y.toNatClampNeg) from of_decide_eq_true h1) hdg h5
      | false =>
        rw [hb2, cond_false] at h
        obtain ⟨n, u, h1, h2, h3, h4⟩ := zald_ok h
        refine ⟨_, _, _, h4, fun kk => ?_⟩
        have h5 := kk ls hl
        rw [List.map_cons, ← zi_c h3] at h5
        exact va_iald hx hb hK hP a 0 (zW_get h1) rfl h2 hdg h5
    · cases h
  | laload =>
    simp only [zhr] at h
    split at h
    · rename_i y a r
      obtain ⟨n, u, h1, h2, h3, h4⟩ := zald_ok h
      refine ⟨_, _, _, h4, fun kk => ?_⟩
      have h5 := kk ls hl
      rw [List.map_cons, ← zj_c h3] at h5
      exact va_lald hx hb hK hP a 1 (zW_get h1) rfl h2 hdg h5
    · cases h
  | baload =>
    simp only [zhr] at h
    split at h
    · rename_i y a r
      obtain ⟨n, u, h1, h2, h3, h4⟩ := zald_ok h
      refine ⟨_, _, _, h4, fun kk => ?_⟩
      have h5 := kk ls hl
      rw [List.map_cons, ← zi_c h3] at h5
      exact va_zald hx hb hK hP a 2 (zW_get h1) rfl h2 hdg h5
    · cases h
  | aaload =>
    simp only [zhr] at h
    split at h
    · rename_i y a r
      cases hb2 : Nat.beq x.1 4 with
      | true =>
        rw [hb2, cond_true] at h
        obtain ⟨n, u, h1, h2, h3, h4⟩ := zald_ok h
        refine ⟨_, _, _, h4, fun kk => ?_⟩
        have h5 := kk ls hl
        rw [List.map_cons, ← zr_c h3] at h5
        exact va_aldq hx hb hK hP a 4 (zW_get h1) rfl h2 hdg h5
      | false =>
        rw [hb2, cond_false] at h
        obtain ⟨n, u, h1, h2, h3, h4⟩ := zald_ok h
        refine ⟨_, _, _, h4, fun kk => ?_⟩
        have h5 := kk ls hl
        rw [List.map_cons, ← zr_c h3] at h5
        exact va_aldq hx hb hK hP a 5 (zW_get h1) rfl h2 hdg h5
    · cases h
  | arraylength =>
    simp only [zhr] at h
    split at h
    · rename_i a r
      cases hb2 : (zlw bd lw && Nat.beq a 1000001) with
      | true =>
        rw [hb2, cond_true, zpush_eq] at h
        rw [Bool.and_eq_true] at hb2
        have e1 := Nat.eq_of_beq_eq_true hb2.2
        subst e1
        obtain ⟨g1, g2, g3⟩ := hX hb2.1
        exact ⟨_, _, _, h, fun kk => va_slen hx hb g1 g2 g3 hS hdg (kk ls hl)⟩
      | false =>
        rw [hb2, cond_false] at h
        split at h
        · rename_i t n u hz
          obtain ⟨h1, h2⟩ := zbif h
          rw [zpush_eq] at h2
          refine ⟨_, _, _, h2, fun kk => ?_⟩
          have ht : t < 6 := of_decide_eq_true h1
          have hn : (zA rh ad t n u).1 = n := by unfold zA; split <;> rfl
          obtain ⟨ty, hty⟩ : ∃ ty, (ztys cA)[t]? = some (cA t, ty) := by
            match t, ht with
            | 0, _ => exact ⟨_, rfl⟩
            | 1, _ => exact ⟨_, rfl⟩
            | 2, _ => exact ⟨_, rfl⟩
            | 3, _ => exact ⟨_, rfl⟩
            | 4, _ => exact ⟨_, rfl⟩
            | 5, _ => exact ⟨_, rfl⟩
            | q + 6, h => omega
          exact va_alen hx hb hK hP a t (zW_get hz) hty (by rw [hn]) hdg (kk ls hl)
        · cases h
    · cases h
  | _ => exact znone (show (none : ZO) = some o from h)
/-- the cells are written: their world behind it -/
def ZGW (p : Program) (l : Launch) (e : Env) (R : Room) (s : State) (m : MethodId) (args : Array Value) (below : List Frame) (meth : Method) (c : Code) (H : Heap) (locs : List Loc) (cells slots : Nat) (Q : State → Prop) (D : va_G) (cA : Nat → ClassId) (A : Nat → Prop) (rh : Nat → Int32) (ad : Nat → Nat) (pc : Nat) (st : List Value) (cs : List ZC) (ls : Array Slot) (k : ZKW) (o : Option Value × List ZC) : Prop :=
  ∃ (pc' : Nat) (st' : List Value) (cs' : List ZC), k pc' st' cs' = some o ∧ cs'.length = cs.length ∧ ((∀ (H' : Heap) (locs' : List Loc), va_P D zcl (zW cA rh ad cs') H' → va_D A (zW cA rh ad cs') → va_S A s.heap H' locs' → W p l e R s m args below meth c H' locs' cells slots Q (F0 m pc' ls (st'.map (zc rh ad)))) → W p l e R s m args below meth c H locs cells slots Q (F0 m pc ls (st.map (zc rh ad))))
set_option maxHeartbeats 4000000 in
theorem z_hw (hx : p.tables.exec = Jvm.exec) (hb : c.code = cc) (hts : ∀ w ∈ Ts, w.before args s = true) (hcw : zcw Ts) (hown : s.vm.findClass own = some m.cls) (hK : va_K D zcl (ztys cA) s) (hP : va_P D zcl (zW cA rh ad cs) H) (hD : va_D A (zW cA rh ad cs)) (hS : va_S A s.heap H locs)
    {i : Instr} {x : Nat × Nat} (hdg : decode cc pc = .ok (i, zlen i L)) (hw : zwd Ts own meth.name i x)
    {k : ZKW} (h : zhw cs i x pc st k = some o) : ZGW p l e R s m args below meth c H locs cells slots Q D cA A rh ad pc st cs ls k o := by
  cases i with
  | putfield idx =>
    simp only [zhw] at h
    split at h
    · rename_i v a r
      split at h
      · rename_i ci fs hz
        obtain ⟨h1, h2⟩ := zbif h
        rw [zfset_eq, zput_eq] at h2
        simp only [Bool.and_eq_true, decide_eq_true_eq] at h1
        obtain ⟨h3, h4, h5⟩ := h1
        have e1 := Nat.eq_of_beq_eq_true h3
        subst e1
        obtain ⟨q, q1, q2, q3, q4⟩ := hw
        obtain ⟨t1, t2⟩ := zcl_ty _ _ q1
        obtain ⟨f1, f2⟩ := zfit_ok (rh := rh) (ad := ad) h5
        refine ⟨_, _, _, h2, List.length_set, fun kk => ?_⟩
        have hlen : x.2 < (fs.map (zc rh ad)).length := by rw [List.length_map]; exact h4
        have es : ∀ a, (zW cA rh ad cs).set a (ad a, .inr (x.1, (fs.map (zc rh ad)).set x.2 (zc rh ad v))) = zW cA rh ad (cs.set a (.inl (x.1, fs.set x.2 v))) := by
          intro a
          rw [← zW_set, zE, List.map_set]
        rcases q4 with q4 | ⟨q4, q5, q6⟩
        · refine va_put (ref := (q.2.1 x.2).1) hx hb hts (hcw _ _ q1) (ztf x.1) t1 t2 hown hK hP hD hS a (zW_get hz) q1 x.2 q2 (hts _ q3) (fun _ h9 => h9) q4 (t1 _ q2) f1 f2 hlen hdg (fun H1 l1 g1 g2 g3 => ?_)
          rw [es a] at g1 g2
          exact kk H1 l1 g1 g2 g3
        · refine va_putF (ref := (q.2.1 x.2).1) hx hb hts (hcw _ _ q1) (ztf x.1) t1 t2 hown hK hP hD hS a (zW_get hz) q1 x.2 q2 (hts _ q3) (fun _ h9 => h9) q5 q4 q6 (t1 _ q2) f1 f2 hlen hdg (fun H1 l1 g1 g2 g3 => ?_)
          rw [es a] at g1 g2
          exact kk H1 l1 g1 g2 g3
      · cases h
    · cases h
  | iastore =>
    simp only [zhw] at h
    split at h
    · rename_i v y a r
      obtain ⟨n, u, h1, h2, h3, h4, h9⟩ := zast_ok h
      refine ⟨_, _, _, h4, List.length_set, fun kk => ?_⟩
      rw [List.map_cons, ← zi_c h3]
      refine va_iast hx hb hK hP hD hS a 0 (zW_get h1) rfl h2 hdg (fun H1 l1 g1 g2 g3 => ?_)
      have es : (zW cA rh ad cs).set a (ad a, .inl (cA 0, n, .inl (upd (fun j => zi rh (zl (.int 0) u j)) y.toNatClampNeg (zi rh v)))) = zW cA rh ad (cs.set a (.inr (0, n, zpu (zd 0) u y.toNatClampNeg v))) := by
        rw [← zW_set, zu_i h9]; rfl
      rw [es] at g1 g2
      exact kk H1 l1 g1 g2 g3
    · cases h
  | lastore =>
    simp only [zhw] at h
    split at h
    · rename_i v y a r
      obtain ⟨n, u, h1, h2, h3, h4, h9⟩ := zast_ok h
      refine ⟨_, _, _, h4, List.length_set, fun kk => ?_⟩
      rw [List.map_cons, ← zj_c h3]
      refine va_last hx hb hK hP hD hS a 1 (zW_get h1) rfl h2 hdg (fun H1 l1 g1 g2 g3 => ?_)
      have es : (zW cA rh ad cs).set a (ad a, .inl (cA 1, n, .inr (.inl (vp_updL (fun j => zj (zl (.long 0) u j)) y.toNatClampNeg (zj v))))) = zW cA rh ad (cs.set a (.inr (1, n, zpu (zd 1) u y.toNatClampNeg v))) := by
        rw [← zW_set, zu_j h9]; rfl
      rw [es] at g1 g2
      exact kk H1 l1 g1 g2 g3
    · cases h
  | bastore =>
    simp only [zhw] at h
    split at h
    · rename_i v y a r
      obtain ⟨n, u, h1, h2, h3, h4, h9⟩ := zast_ok h
      refine ⟨_, _, _, h4, List.length_set, fun kk => ?_⟩
      have h5 : zisI v = true ∧ vp_nar .boolean (zi rh v) = zi rh v := by
        cases v <;> first | (cases h3; done) | skip
        rcases of_decide_eq_true h3 with rfl | rfl
        · exact ⟨rfl, (by show vp_nar .boolean 0 = 0; decide +kernel)⟩
        · exact ⟨rfl, (by show vp_nar .boolean 1 = 1; decide +kernel)⟩
      rw [List.map_cons, ← zi_c h5.1]
      refine va_zast hx hb hK hP hD hS a 2 (zW_get h1) rfl h2 hdg (fun H1 l1 g1 g2 g3 => ?_)
      rw [h5.2] at g1 g2
      have es : (zW cA rh ad cs).set a (ad a, .inl (cA 2, n, .inl (upd (fun j => zi rh (zl (.int 0) u j)) y.toNatClampNeg (zi rh v)))) = zW cA rh ad (cs.set a (.inr (2, n, zpu (zd 2) u y.toNatClampNeg v))) := by
        rw [← zW_set, zu_i h9]; rfl
      rw [es] at g1 g2
      exact kk H1 l1 g1 g2 g3
    · cases h
  | aastore =>
    simp only [zhw] at h
    split at h
    · rename_i v y a r
      have ho : ∀ ci, zisO cs ci v = true → ∃ (b : Nat) (vs : List Value), v = .ref b ∧ zn cs b = some (.inl (ci, vs)) := by
        intro ci hv
        cases v <;> first | (cases hv; done) | skip
        rename_i b
        simp only [zisO] at hv
        split at hv
        · rename_i cj vs hz
          rw [Nat.eq_of_beq_eq_true hv] at hz
          exact ⟨b, vs, rfl, hz⟩
        · cases hv
      cases hb2 : Nat.beq x.1 4 with
      | true =>
        rw [hb2, cond_true] at h
        obtain ⟨n, u, h1, h2, h3, h4, h9⟩ := zast_ok h
        obtain ⟨b, vs, rfl, hz⟩ := ho _ h3
        refine ⟨_, _, _, h4, List.length_set, fun kk => ?_⟩
        refine va_astq (r := (RX2, TX2, 16)) hx hb hK hP hD hS a 4 b 2 (zW_get h1) rfl (zW_get hz) rfl h2 hdg (fun H1 l1 g1 g2 g3 => ?_)
        have es : (zW cA rh ad cs).set a (ad a, .inl (cA 4, n, .inr (.inr (.inr (.inr (va_up (fun j => zr ad (zl .null u j)) y.toNatClampNeg (some (ad b)))))))) = zW cA rh ad (cs.set a (.inr (4, n, zpu (zd 4) u y.toNatClampNeg (.ref b)))) := by
          rw [← zW_set, zu_r h9]; rfl
        rw [es] at g1 g2
        exact kk H1 l1 g1 g2 g3
      | false =>
        rw [hb2, cond_false] at h
        obtain ⟨n, u, h1, h2, h3, h4, h9⟩ := zast_ok h
        obtain ⟨b, vs, rfl, hz⟩ := ho _ h3
        refine ⟨_, _, _, h4, List.length_set, fun kk => ?_⟩
        refine va_astq (r := (RX5, TX5, 15)) hx hb hK hP hD hS a 5 b 5 (zW_get h1) rfl (zW_get hz) rfl h2 hdg (fun H1 l1 g1 g2 g3 => ?_)
        have es : (zW cA rh ad cs).set a (ad a, .inl (cA 5, n, .inr (.inr (.inr (.inr (va_up (fun j => zr ad (zl .null u j)) y.toNatClampNeg (some (ad b)))))))) = zW cA rh ad (cs.set a (.inr (5, n, zpu (zd 5) u y.toNatClampNeg (.ref b)))) := by
          rw [← zW_set, zu_r h9]; rfl
        rw [es] at g1 g2
        exact kk H1 l1 g1 g2 g3
    · cases h
  | _ => exact znone (show (none : ZO) = some o from h)
end ZHO
