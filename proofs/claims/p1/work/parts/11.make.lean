/-! making objects and rows -/
section ZMK
theorem zdf_c (rh : Nat → Int32) (ad : Nat → Nat) (ci : Nat) : (zdf ci).map (zc rh ad) = zdf ci := by unfold zdf; split <;> rfl
theorem zdf_ok : ∀ (ci : Nat) (q : vw_C), zcl[ci]? = some q → (∀ j, j < q.2.2 → defaultValue (ztf ci j) = vp_V (zdf ci) j) ∧ (zdf ci).length = q.2.2 := by
  intro ci q h
  match ci, h with
  | 0, h => cases h; exact ⟨by decide +kernel, rfl⟩
  | 1, h => cases h; exact ⟨by decide +kernel, rfl⟩
  | 2, h => cases h; exact ⟨by decide +kernel, rfl⟩
  | 3, h => cases h; exact ⟨by decide +kernel, rfl⟩
  | 4, h => cases h; exact ⟨by decide +kernel, rfl⟩
  | 5, h => cases h; exact ⟨by decide +kernel, rfl⟩
  | 6, h => cases h; exact ⟨by decide +kernel, rfl⟩
  | 7, h => cases h; exact ⟨by decide +kernel, rfl⟩
  | 8, h => cases h; exact ⟨by decide +kernel, rfl⟩
  | 9, h => cases h; exact ⟨by decide +kernel, rfl⟩
  | 10, h => cases h; exact ⟨by decide +kernel, rfl⟩
  | 11, h => cases h; exact ⟨by decide +kernel, rfl⟩
  | 12, h => cases h; exact ⟨by decide +kernel, rfl⟩
  | n + 13, h => cases h
variable {p : Program} {l : Launch} {e : Env} {R : Room} {s : State} {m : MethodId} {args : Array Value} {below : List Frame} {meth : Method} {c : Code} {H : Heap} {locs : List Loc} {mc ms : Nat} {Q : State → Prop}
variable {cc : ByteArray} {bd : Nat → Int × Int} {rh : Nat → Int32} {ad : Nat → Nat} {cA : Nat → ClassId} {D : va_G} {A : Nat → Prop} {cs : List ZC} {nL pc L : Nat} {ls : Array Slot} {loc : ZL} {st : List Value} {o : Option Value × List ZC} {own : String} {Ts : List Cond} {mM sM : Nat}
def ZGN (p : Program) (l : Launch) (e : Env) (R : Room) (s : State) (m : MethodId) (args : Array Value) (below : List Frame) (meth : Method) (c : Code) (H : Heap) (locs : List Loc) (mc ms : Nat) (Q : State → Prop) (D : va_G) (cA : Nat → ClassId) (A : Nat → Prop) (nL : Nat) (rh : Nat → Int32) (ad : Nat → Nat) (pc : Nat) (loc : ZL) (st : List Value) (cs : List ZC) (ls : Array Slot) (k : ZKN) (o : Option Value × List ZC) : Prop :=
  ∃ (pc' : Nat) (st' : List Value) (cs' : List ZC) (mc' ms' : Nat), k pc' st' cs' mc' ms' = some o ∧ cs.length ≤ cs'.length ∧ ((∀ (ad' : Nat → Nat) (H' : Heap) (locs' : List Loc), zAg ad ad' cs.length → va_P D zcl (zW cA rh ad' cs') H' → va_D A (zW cA rh ad' cs') → va_S A s.heap H' locs' → lv_has ls nL (zL rh ad' loc) → W p l e R s m args below meth c H' locs' mc' ms' Q (F0 m pc' ls (st'.map (zc rh ad')))) → W p l e R s m args below meth c H locs mc ms Q (F0 m pc ls (st.map (zc rh ad))))
/-- behind a making: the new cell q at the end of the world -/
theorem z_made {N pc' : Nat} {q : ZC} {r : List Value} {k : ZKN} (hc : ∀ ad', zE cA rh ad' q = zE cA rh ad q) (hl : lv_has ls nL (zL rh ad loc)) (hz : zwS cs.length r = true ∧ zwL cs.length loc = true ∧ zwC cs.length cs = true ∧ cs.length < 1000000 ∧ mc + 1 ≤ mM ∧ ms + N ≤ sM ∧ k pc' (.ref cs.length :: r) (cs ++ [q]) (mc + 1) (ms + N) = some o)
    (main : (∀ (a : Nat) (H1 : Heap), va_P D zcl (zW cA rh ad cs ++ [(a, zE cA rh ad q)]) H1 → va_D A (zW cA rh ad cs ++ [(a, zE cA rh ad q)]) → va_S A s.heap H1 locs → W p l e R s m args below meth c H1 locs (mc + 1) (ms + N) Q (F0 m pc' ls (.ref a :: r.map (zc rh ad)))) → W p l e R s m args below meth c H locs mc ms Q (F0 m pc ls (st.map (zc rh ad)))) :
    ZGN p l e R s m args below meth c H locs mc ms Q D cA A nL rh ad pc loc st cs ls k o := by
  obtain ⟨h1, h2, h3, h4, h5, h6, h7⟩ := hz
  refine ⟨_, _, _, _, _, h7, by simp, fun kk => main (fun a H1 g1 g2 g3 => ?_)⟩
  have hA := zAg.up (ad := ad) (q := a) h4
  have e := zW_push (cA := cA) (rh := rh) (ad := ad) (q := a) h3 h4 (hc (zup ad cs.length a))
  rw [← e] at g1 g2
  have h8 := kk (zup ad cs.length a) H1 locs hA g1 g2 g3 (by rw [zw_l h2 hA]; exact hl)
  rw [List.map_cons, zw_s h1 hA] at h8
  rw [show zc rh (zup ad cs.length a) (.ref cs.length) = .ref a by simp [zc, zup]] at h8
  exact h8
set_option maxHeartbeats 4000000 in
theorem z_hn (hx : p.tables.exec = Jvm.exec) (hb : c.code = cc) (hts : ∀ w ∈ Ts, w.before args s = true) (hcw : zcw Ts) (hown : s.vm.findClass own = some m.cls) (hK : va_K D zcl (ztys cA) s) (hP : va_P D zcl (zW cA rh ad cs) H) (hD : va_D A (zW cA rh ad cs)) (hS : va_S A s.heap H locs) (hA : ∀ q, s.heap.size ≤ q → A q)
    (hRc : mM ≤ R.cells) (hRs : sM ≤ R.slots) (hO4 : va_AO RX2 s) (hO5 : va_AO RX5 s) {nm : String} {i : Instr} {x : Nat × Nat} (hdg : decode cc pc = .ok (i, zlen i L)) (hl : lv_has ls nL (zL rh ad loc)) (hw : zwd Ts own nm i x)
    {k : ZKN} (h : zhn mM sM cs i x pc loc st mc ms k = some o) : ZGN p l e R s m args below meth c H locs mc ms Q D cA A nL rh ad pc loc st cs ls k o := by
  cases i with
  | new idx =>
    simp only [zhn] at h
    have hz := znew_ok h
    obtain ⟨q, q1, q2, q3, q4⟩ := hw
    obtain ⟨t1, t2⟩ := zcl_ty _ _ q1
    obtain ⟨d1, d2⟩ := zdf_ok _ _ q1
    rw [d2] at hz
    refine z_made (q := .inl (x.1, zdf x.1)) (fun ad' => by simp only [zE, zdf_c]) hl hz (fun kk => ?_)
    refine va_new (ci := x.1) (fs := zdf x.1) hx hb hts (hcw _ _ q1) (ztf x.1) t1 hown (hts _ q2) (hts _ q3) (hts _ q4) hK hP hD hS hA q1 d1 (Nat.le_trans hz.2.2.2.2.1 hRc) (Nat.le_trans hz.2.2.2.2.2.1 hRs) hdg (fun a H1 g1 g2 g3 => ?_)
    refine kk a H1 ?_ ?_ g3
    · simp only [zE, zdf_c]; exact g1
    · simp only [zE, zdf_c]; exact g2
  | newarray t =>
    simp only [zhn] at h
    split at h
    · rename_i t' y r ht
      obtain ⟨h1, h2⟩ := zbif h
      rw [zfN_eq] at h2
      obtain ⟨y1, y2⟩ := of_decide_eq_true h1
      have hz := znew_ok h2
      cases t <;> simp only [zat] at ht <;> cases ht
      · refine z_made (q := .inr (2, y.toNatClampNeg, [])) (fun ad' => rfl) hl hz (fun kk => ?_)
        refine va_newa (atype := .boolean) (a0 := zA rh ad 2 y.toNatClampNeg []) hx hb (hts _ hw) rfl hK hP hD hS hA (fun _ => rfl) y1 rfl (by show y.toNatClampNeg * 1 ≤ _; omega) (Nat.le_trans hz.2.2.2.2.1 hRc) (Nat.le_trans hz.2.2.2.2.2.1 hRs) hdg (fun a cA' H1 k1 g1 g2 g3 => ?_)
        have e1 : cA' = cA 2 := Option.some.inj ((show s.vm.findClass _ = some cA' from (k1.2 6 (cA', .boolean) rfl).2).symm.trans (hK.2 2 (cA 2, .boolean) rfl).2)
        subst e1
        exact kk a H1 g1 g2 g3
      · refine z_made (q := .inr (3, y.toNatClampNeg, [])) (fun ad' => rfl) hl hz (fun kk => ?_)
        refine va_newa (atype := .byte) (a0 := zA rh ad 3 y.toNatClampNeg []) hx hb (hts _ hw) rfl hK hP hD hS hA (fun _ => rfl) y1 rfl (by show y.toNatClampNeg * 1 ≤ _; omega) (Nat.le_trans hz.2.2.2.2.1 hRc) (Nat.le_trans hz.2.2.2.2.2.1 hRs) hdg (fun a cA' H1 k1 g1 g2 g3 => ?_)
        have e1 : cA' = cA 3 := Option.some.inj ((show s.vm.findClass _ = some cA' from (k1.2 6 (cA', .byte) rfl).2).symm.trans (hK.2 3 (cA 3, .byte) rfl).2)
        subst e1
        exact kk a H1 g1 g2 g3
      · refine z_made (q := .inr (0, y.toNatClampNeg, [])) (fun ad' => rfl) hl hz (fun kk => ?_)
        refine va_newa (atype := .int) (a0 := zA rh ad 0 y.toNatClampNeg []) hx hb (hts _ hw) rfl hK hP hD hS hA (fun _ => rfl) y1 rfl (by show y.toNatClampNeg * 4 ≤ _; omega) (Nat.le_trans hz.2.2.2.2.1 hRc) (Nat.le_trans hz.2.2.2.2.2.1 hRs) hdg (fun a cA' H1 k1 g1 g2 g3 => ?_)
        have e1 : cA' = cA 0 := Option.some.inj ((show s.vm.findClass _ = some cA' from (k1.2 6 (cA', .int) rfl).2).symm.trans (hK.2 0 (cA 0, .int) rfl).2)
        subst e1
        exact kk a H1 g1 g2 g3
      · refine z_made (q := .inr (1, y.toNatClampNeg, [])) (fun ad' => rfl) hl hz (fun kk => ?_)
        refine va_newa (atype := .long) (a0 := zA rh ad 1 y.toNatClampNeg []) hx hb (hts _ hw) rfl hK hP hD hS hA (fun _ => rfl) y1 rfl (by show y.toNatClampNeg * 8 ≤ _; omega) (Nat.le_trans hz.2.2.2.2.1 hRc) (Nat.le_trans hz.2.2.2.2.2.1 hRs) hdg (fun a cA' H1 k1 g1 g2 g3 => ?_)
        have e1 : cA' = cA 1 := Option.some.inj ((show s.vm.findClass _ = some cA' from (k1.2 6 (cA', .long) rfl).2).symm.trans (hK.2 1 (cA 1, .long) rfl).2)
        subst e1
        exact kk a H1 g1 g2 g3
    · cases h
  | anewarray idx =>
    simp only [zhn] at h
    split at h
    · rename_i y r
      obtain ⟨h1, h2⟩ := zbif h
      rw [zfN_eq] at h2
      obtain ⟨y1, y2⟩ := of_decide_eq_true h1
      rcases hw with ⟨w1, w2⟩ | ⟨w1, w2⟩
      · rw [w1, show Nat.beq 4 4 = true from rfl, cond_true] at h2
        have hz := znew_ok h2
        refine z_made (q := .inr (4, y.toNatClampNeg, [])) (fun ad' => rfl) hl hz (fun kk => ?_)
        refine va_newq hx hb hown (hts _ w2) hO4 hK hP hD hS hA y1 rfl (by omega) (Nat.le_trans hz.2.2.2.2.1 hRc) (Nat.le_trans hz.2.2.2.2.2.1 hRs) hdg (fun a cA' H1 k1 g1 g2 g3 => ?_)
        obtain ⟨_, _, _, _, _, n1⟩ := (k1.2 6 (cA', .object RX2) rfl).2
        obtain ⟨_, _, _, _, _, n2⟩ := (hK.2 4 (cA 4, .object RX2) rfl).2
        have e1 : cA' = cA 4 := Option.some.inj (n1.symm.trans n2)
        subst e1
        exact kk a H1 g1 g2 g3
      · rw [w1, show Nat.beq 5 4 = false from rfl, cond_false] at h2
        have hz := znew_ok h2
        refine z_made (q := .inr (5, y.toNatClampNeg, [])) (fun ad' => rfl) hl hz (fun kk => ?_)
        refine va_newq hx hb hown (hts _ w2) hO5 hK hP hD hS hA y1 rfl (by omega) (Nat.le_trans hz.2.2.2.2.1 hRc) (Nat.le_trans hz.2.2.2.2.2.1 hRs) hdg (fun a cA' H1 k1 g1 g2 g3 => ?_)
        obtain ⟨_, _, _, _, _, n1⟩ := (k1.2 6 (cA', .object RX5) rfl).2
        obtain ⟨_, _, _, _, _, n2⟩ := (hK.2 5 (cA 5, .object RX5) rfl).2
        have e1 : cA' = cA 5 := Option.some.inj (n1.symm.trans n2)
        subst e1
        exact kk a H1 g1 g2 g3
    · cases h
  | _ => exact znone (show (none : ZO) = some o from h)
end ZMK
