/-! cells: a row (tag, length, what was written) or an object (number of its class, fields) -/
section ZCE
/-- what was written, the newest first; a place p from 1000000000 on: all places below p - 1000000000 -/
noncomputable def zl (d : Value) (u : List (Nat × Value)) : Nat → Value := List.rec (motive := fun _ => Nat → Value) (fun _ => d) (fun q _ ih j => bif Nat.ble 1000000000 q.1 then (bif Nat.blt j (q.1 - 1000000000) then q.2 else ih j) else (bif Nat.beq q.1 j then q.2 else ih j)) u
noncomputable def zi (rh : Nat → Int32) : Value → Int32
  | .int x => x
  | .retAddr k => rh k
  | _ => 0
noncomputable def zj : Value → Int64
  | .long x => x
  | _ => 0
noncomputable def zr (ad : Nat → Nat) : Value → Option Nat
  | .ref i => some (ad i)
  | _ => none
noncomputable def zA (rh : Nat → Int32) (ad : Nat → Nat) (t n : Nat) (u : List (Nat × Value)) : vp_A := match t with
  | 1 => (n, .inr (.inl (fun j => zj (zl (.long 0) u j))))
  | 4 => (n, .inr (.inr (.inr (.inr (fun j => zr ad (zl .null u j))))))
  | 5 => (n, .inr (.inr (.inr (.inr (fun j => zr ad (zl .null u j))))))
  | _ => (n, .inl (fun j => zi rh (zl (.int 0) u j)))
noncomputable def zE (cA : Nat → ClassId) (rh : Nat → Int32) (ad : Nat → Nat) : ZC → va_E
  | .inl (ci, fs) => .inr (ci, fs.map (zc rh ad))
  | .inr (t, n, u) => .inl (cA t, zA rh ad t n u)
noncomputable def zW (cA : Nat → ClassId) (rh : Nat → Int32) (ad : Nat → Nat) (cs : List ZC) : va_W := cs.mapIdx (fun k q => (ad k, zE cA rh ad q))
variable {cA : Nat → ClassId} {rh : Nat → Int32} {ad : Nat → Nat} {cs : List ZC}
theorem zW_get {k : Nat} {q : ZC} (h : zn cs k = some q) : (zW cA rh ad cs)[k]? = some (ad k, zE cA rh ad q) := by
  rw [zn_eq] at h
  unfold zW
  rw [List.getElem?_mapIdx, h]
  rfl
theorem zW_set (k : Nat) (q : ZC) : (zW cA rh ad cs).set k (ad k, zE cA rh ad q) = zW cA rh ad (cs.set k q) := by
  apply List.ext_getElem?
  intro j
  unfold zW
  rw [List.getElem?_set, List.getElem?_mapIdx, List.getElem?_mapIdx, List.getElem?_set]
  simp only [List.length_mapIdx]
  by_cases h : k = j
  · subst h
    by_cases h2 : k < cs.length
    · simp [h2]
    · simp [h2]
  · simp [h]
noncomputable def zup (ad : Nat → Nat) (n q : Nat) : Nat → Nat := fun i => if i = n then q else ad i
-- no value speaks of the cell n that isn't there yet
noncomputable def zwV (n : Nat) (v : Value) : Bool := match v with
  | .ref i => Nat.blt i n || Nat.ble 1000000 i
  | _ => true
noncomputable def zwS (n : Nat) (st : List Value) : Bool := st.all (zwV n)
noncomputable def zwL (n : Nat) (l : ZL) : Bool := l.all (fun q => zwV n q.2)
/-- 'all' in a plain form -/
noncomputable def zall {β : Type} (f : β → Bool) (l : List β) : Bool := List.rec (motive := fun _ => Bool) true (fun q _ b => bif f q then b else false) l
theorem zall_eq {β : Type} (f : β → Bool) : ∀ l : List β, zall f l = l.all f
  | [] => rfl
  | q :: r => by
    show (bif f q then zall f r else false) = (f q && r.all f)
    rw [zall_eq f r]
    cases f q <;> rfl
noncomputable def zwS' (n : Nat) (st : List Value) : Bool := zall (zwV n) st
noncomputable def zwL' (n : Nat) (l : ZL) : Bool := zall (fun q => zwV n q.2) l
noncomputable def zwC (n : Nat) (cs : List ZC) : Bool := cs.all (fun q => match q with
  | .inl (_, fs) => zwS n fs
  | .inr (_, _, u) => zwL n u)
noncomputable def zwC' (n : Nat) (cs : List ZC) : Bool := zall (fun q => match q with
  | .inl (_, fs) => zwS' n fs
  | .inr (_, _, u) => zwL' n u) cs
theorem zwS'_eq (n : Nat) (st : List Value) : zwS' n st = zwS n st := zall_eq _ _
theorem zwL'_eq (n : Nat) (l : ZL) : zwL' n l = zwL n l := zall_eq _ _
theorem zwC'_eq (n : Nat) (cs : List ZC) : zwC' n cs = zwC n cs := by
  unfold zwC' zwC
  rw [zall_eq]
  congr 1
  funext q
  match q with
  | .inl (_, fs) => exact zwS'_eq n fs
  | .inr (_, _, u) => exact zwL'_eq n u
/-- the old cells lie where they lay -/
noncomputable def zAg (ad ad' : Nat → Nat) (n : Nat) : Prop := ∀ i : Nat, (i < n ∨ 1000000 ≤ i) → ad' i = ad i
theorem zAg.rf {n : Nat} : zAg ad ad n := fun _ _ => rfl
theorem zAg.trans {ad' ad'' : Nat → Nat} {n n' : Nat} (h1 : zAg ad ad' n) (h2 : zAg ad' ad'' n') (h : n ≤ n') : zAg ad ad'' n := fun i hi => (h2 i (hi.imp (fun z => Nat.lt_of_lt_of_le z h) id)).trans (h1 i hi)
theorem zAg.up {n q : Nat} (hn : n < 1000000) : zAg ad (zup ad n q) n := fun i hi => by
  unfold zup
  rw [if_neg (by omega)]
theorem zw_v {ad' : Nat → Nat} {n : Nat} {v : Value} (h : zwV n v = true) (hA : zAg ad ad' n) : zc rh ad' v = zc rh ad v := by
  cases v <;> first | rfl | skip
  rename_i i
  simp only [zwV, Bool.or_eq_true] at h
  show Value.ref (ad' i) = Value.ref (ad i)
  rw [hA i (h.imp (fun z => (by simpa [Nat.blt_eq] using z)) Nat.le_of_ble_eq_true)]
theorem zw_s {ad' : Nat → Nat} {n : Nat} {st : List Value} (h : zwS n st = true) (hA : zAg ad ad' n) : st.map (zc rh ad') = st.map (zc rh ad) :=
  List.map_congr_left fun v hv => zw_v (List.all_eq_true.mp h v hv) hA
theorem zw_l {ad' : Nat → Nat} {n : Nat} {l : ZL} (h : zwL n l = true) (hA : zAg ad ad' n) : zL rh ad' l = zL rh ad l :=
  List.map_congr_left fun q hq => by rw [zw_v (rh := rh) (List.all_eq_true.mp h q hq) hA]
theorem zw_zl {ad' : Nat → Nat} {n : Nat} : ∀ {u : List (Nat × Value)} (_ : zwL n u = true) (_ : zAg ad ad' n) (j : Nat), zr ad' (zl .null u j) = zr ad (zl .null u j)
  | [], _, _, _ => rfl
  | (i, v) :: r, h, hA, j => by
    simp only [zwL, List.all_cons, Bool.and_eq_true] at h
    have h1 := zw_v (rh := fun _ => 0) h.1 hA
    have hv : zr ad' v = zr ad v := by
      cases v <;> first | rfl | skip
      simp only [zc, Value.ref.injEq] at h1
      simp only [zr, h1]
    have ih := zw_zl (u := r) h.2 hA j
    show zr ad' (bif Nat.ble 1000000000 i then (bif Nat.blt j (i - 1000000000) then v else zl .null r j) else (bif Nat.beq i j then v else zl .null r j)) = zr ad (bif Nat.ble 1000000000 i then (bif Nat.blt j (i - 1000000000) then v else zl .null r j) else (bif Nat.beq i j then v else zl .null r j))
    cases Nat.ble 1000000000 i
    · cases Nat.beq i j
      · exact ih
      · exact hv
    · cases Nat.blt j (i - 1000000000)
      · exact ih
      · exact hv
theorem zw_c {ad' : Nat → Nat} {n : Nat} {q : ZC} (h : (match q with
  | .inl (_, fs) => zwS n fs
  | .inr (_, _, u) => zwL n u) = true) (hA : zAg ad ad' n) : zE cA rh ad' q = zE cA rh ad q := by
  match q, h with
  | .inl (ci, fs), h => simp only [zE]; rw [zw_s h hA]
  | .inr (t, n', u), h =>
    simp only [zE]
    have e : zA rh ad' t n' u = zA rh ad t n' u := by
      unfold zA
      have e4 : (fun j => zr ad' (zl .null u j)) = (fun j => zr ad (zl .null u j)) := funext fun j => zw_zl h hA j
      split <;> first | rfl | rw [e4]
    rw [e]
theorem zW_ag {ad' : Nat → Nat} (h : zwC cs.length cs = true) (hA : zAg ad ad' cs.length) : zW cA rh ad' cs = zW cA rh ad cs := by
  apply List.ext_getElem?
  intro j
  unfold zW
  rw [List.getElem?_mapIdx, List.getElem?_mapIdx]
  cases hj : cs[j]? with
  | none => rfl
  | some q =>
    have hlt : j < cs.length := (List.getElem?_eq_some_iff.mp hj).1
    have hm : q ∈ cs := List.mem_of_getElem? hj
    have e := zw_c (cA := cA) (rh := rh) (q := q) (List.all_eq_true.mp h q hm) hA
    simp only [Option.map_some]
    rw [hA j (Or.inl hlt), e]
theorem zW_push {q : Nat} {c : ZC} (h : zwC cs.length cs = true) (hn : cs.length < 1000000) (hc : zE cA rh (zup ad cs.length q) c = zE cA rh ad c) : zW cA rh (zup ad cs.length q) (cs ++ [c]) = zW cA rh ad cs ++ [(q, zE cA rh ad c)] := by
  have e := zW_ag (cA := cA) (rh := rh) h (zAg.up (ad := ad) (q := q) hn)
  rw [← e]
  unfold zW
  rw [List.mapIdx_append]
  congr 1
  simp only [List.mapIdx_cons, List.mapIdx_nil, Nat.zero_add, hc, zup, if_true]
-- values alike
noncomputable def zeqV (a b : Value) : Bool := match a, b with
  | .int x, .int y => decide (x = y)
  | .long x, .long y => decide (x = y)
  | .null, .null => true
  | .ref i, .ref j => Nat.beq i j
  | _, _ => false
theorem zeqV_ok {a b : Value} (h : zeqV a b = true) : a = b := by
  cases a <;> cases b <;> simp only [zeqV] at h <;> first | rfl | (cases h; done) | (rw [of_decide_eq_true h]; done) | (rw [Nat.eq_of_beq_eq_true h]; done)
/-- what was written, with one more -/
noncomputable def zpu (d : Value) (u : List (Nat × Value)) (i : Nat) (v : Value) : List (Nat × Value) := bif zeqV (zl d u i) v then u else bif Nat.beq i 0 then (1000000001, v) :: u else match u with
  | (p, w) :: r => bif Nat.beq p (1000000000 + i) && zeqV w v then (p + 1, w) :: r else (i, v) :: (p, w) :: r
  | [] => [(i, v)]
theorem zl_cons {d : Value} {p : Nat} {v : Value} {r : List (Nat × Value)} {j : Nat} (hp : p < 1000000000) : zl d ((p, v) :: r) j = if j = p then v else zl d r j := by
  show (bif Nat.ble 1000000000 p then _ else (bif Nat.beq p j then v else zl d r j)) = _
  have h1 : Nat.ble 1000000000 p = false := by
    cases h : Nat.ble 1000000000 p with
    | false => rfl
    | true => exact absurd (Nat.le_of_ble_eq_true h) (by omega)
  rw [h1, cond_false]
  by_cases e : j = p
  · rw [if_pos e, e, Nat.beq_refl, cond_true]
  · rw [if_neg e]
    cases hb : Nat.beq p j with
    | true => exact absurd (Nat.eq_of_beq_eq_true hb).symm e
    | false => rfl
theorem zl_rng {d : Value} {n : Nat} {v : Value} {r : List (Nat × Value)} {j : Nat} : zl d ((1000000000 + n, v) :: r) j = if j < n then v else zl d r j := by
  show (bif Nat.ble 1000000000 (1000000000 + n) then (bif Nat.blt j (1000000000 + n - 1000000000) then v else zl d r j) else _) = _
  rw [Nat.ble_eq_true_of_le (Nat.le_add_right _ _), cond_true, Nat.add_sub_cancel_left]
  by_cases e : j < n
  · rw [if_pos e, show Nat.blt j n = true from Nat.ble_eq_true_of_le e, cond_true]
  · rw [if_neg e]
    cases hb : Nat.blt j n with
    | true => exact absurd (Nat.le_of_ble_eq_true hb) e
    | false => rfl
theorem zl_pu {d : Value} {u : List (Nat × Value)} {i : Nat} {v : Value} (hi : i < 1000000000) (j : Nat) : zl d (zpu d u i v) j = if j = i then v else zl d u j := by
  unfold zpu
  cases h : zeqV (zl d u i) v with
  | true =>
    rw [cond_true]
    by_cases e : j = i
    · rw [if_pos e, e]; exact zeqV_ok h
    · rw [if_neg e]
  | false =>
    rw [cond_false]
    cases h0 : Nat.beq i 0 with
    | true =>
      rw [cond_true, Nat.eq_of_beq_eq_true h0]
      rw [show (1000000001 : Nat) = 1000000000 + 1 from rfl, zl_rng]
      by_cases e : j = 0
      · rw [if_pos e, if_pos (by omega)]
      · rw [if_neg e, if_neg (by omega)]
    | false =>
      rw [cond_false]
      cases u with
      | nil => exact zl_cons hi
      | cons q r =>
        obtain ⟨p, w⟩ := q
        dsimp only
        cases h1 : (Nat.beq p (1000000000 + i) && zeqV w v) with
        | true =>
          rw [cond_true]
          rw [Bool.and_eq_true] at h1
          have e1 := Nat.eq_of_beq_eq_true h1.1
          have e2 := zeqV_ok h1.2
          subst e1; subst e2
          rw [Nat.add_assoc, zl_rng, zl_rng]
          by_cases e : j = i
          · rw [if_pos e, if_pos (by omega)]
          · rw [if_neg e]
            by_cases e3 : j < i
            · rw [if_pos e3, if_pos (by omega)]
            · rw [if_neg e3, if_neg (by omega)]
        | false =>
          rw [cond_false]
          exact zl_cons hi
theorem zu_i {rh : Nat → Int32} {u : List (Nat × Value)} {i : Nat} {v : Value} (hi : i < 1000000000) : upd (fun j => zi rh (zl (.int 0) u j)) i (zi rh v) = (fun j => zi rh (zl (.int 0) (zpu (.int 0) u i v) j)) := by
  funext j
  rw [zl_pu hi]
  unfold upd
  by_cases e : j = i
  · rw [if_pos e, if_pos e]
  · rw [if_neg e, if_neg e]
theorem zu_j {u : List (Nat × Value)} {i : Nat} {v : Value} (hi : i < 1000000000) : vp_updL (fun j => zj (zl (.long 0) u j)) i (zj v) = (fun j => zj (zl (.long 0) (zpu (.long 0) u i v) j)) := by
  funext j
  rw [zl_pu hi]
  unfold vp_updL
  by_cases e : j = i
  · rw [if_pos e, if_pos e]
  · rw [if_neg e, if_neg e]
theorem zu_r {ad : Nat → Nat} {u : List (Nat × Value)} {i a : Nat} (hi : i < 1000000000) : va_up (fun j => zr ad (zl .null u j)) i (some (ad a)) = (fun j => zr ad (zl .null (zpu .null u i (.ref a)) j)) := by
  funext j
  rw [zl_pu hi]
  unfold va_up
  by_cases e : j = i
  · rw [if_pos e, if_pos e]; rfl
  · rw [if_neg e, if_neg e]
noncomputable def zfit : FieldType → Value → Bool
  | .int, .int _ => true
  | .int, .retAddr _ => true
  | .long, .long _ => true
  | .boolean, .int x => decide (x = 0 ∨ x = 1)
  | .object _, .ref _ => true
  | .object _, .null => true
  | .array _, .ref _ => true
  | .array _, .null => true
  | _, _ => false
theorem zfit_ok {ty : FieldType} {v : Value} (h : zfit ty v = true) : narrow ty (zc rh ad v) = zc rh ad v ∧ fits ty (zc rh ad v) = true := by
  cases ty <;> cases v <;> simp only [zfit] at h <;> first | exact ⟨rfl, rfl⟩ | (cases h; done) | skip
  rcases of_decide_eq_true h with rfl | rfl <;> exact ⟨rfl, rfl⟩
end ZCE
