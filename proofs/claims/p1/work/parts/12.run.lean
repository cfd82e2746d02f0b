/-! the run: methods by their numbers -/
section ZRUN
abbrev ZEn : Type := Nat × Instr × Nat × Nat × Nat
/-- name, bytes, locals, answer, kind (0 of an object, 1 static, 2 constructor), cells, slots, parameters, class, instructions -/
abbrev ZMI : Type := MethodName × ByteArray × Nat × Option FieldType × Nat × Nat × Nat × Nat × Nat × List (List ZEn)
def zlke : List ZEn → Nat → Option (Instr × Nat × Nat × Nat)
  | [], _ => none
  | (p, q) :: r, j => bif Nat.beq p j then some q else zlke r j
def zfind (E : List (List ZEn)) (pc : Nat) : Option (Instr × Nat × Nat × Nat) := match zn E (pc / 16) with
  | some r => zlke r pc
  | none => none
theorem zlke_mem : ∀ (r : List ZEn) (j : Nat) (q : Instr × Nat × Nat × Nat), zlke r j = some q → (j, q) ∈ r
  | [], _, _, h => by cases h
  | (p, q) :: r, j, q', h => by
    unfold zlke at h
    cases hb : Nat.beq p j with
    | true =>
      rw [hb] at h
      have e : p = j := Nat.eq_of_beq_eq_true hb
      cases h
      rw [e]
      exact List.mem_cons_self
    | false =>
      rw [hb] at h
      exact List.mem_cons_of_mem _ (zlke_mem r j q' h)
theorem zfind_mem {E : List (List ZEn)} {pc : Nat} {q : Instr × Nat × Nat × Nat} (h : zfind E pc = some q) : ∃ r, r ∈ E ∧ (pc, q) ∈ r := by
  unfold zfind at h
  split at h
  · rename_i r hr
    rw [zn_eq] at hr
    exact ⟨r, List.mem_of_getElem? hr, zlke_mem r pc q h⟩
  · cases h
def zpop : Nat → List Value → List Value → Option (List Value × List Value)
  | 0, st, acc => some (acc, st)
  | n + 1, v :: st, acc => zpop n st (v :: acc)
  | _ + 1, [], _ => none
theorem zpop_ok : ∀ (n : Nat) (st acc av r : List Value), zpop n st acc = some (av, r) → ∃ bs : List Value, av = bs ++ acc ∧ st = bs.reverse ++ r ∧ bs.length = n
  | 0, st, acc, av, r, h => by cases h; exact ⟨[], rfl, rfl, rfl⟩
  | n + 1, [], acc, av, r, h => by cases h
  | n + 1, v :: st, acc, av, r, h => by
    obtain ⟨bs, h1, h2, h3⟩ := zpop_ok n st (v :: acc) av r h
    exact ⟨bs ++ [v], by rw [h1, List.append_assoc]; rfl, by rw [h2, List.reverse_append]; rfl, by rw [List.length_append, h3]; rfl⟩
theorem zpop_ok0 {n : Nat} {st av r : List Value} (h : zpop n st [] = some (av, r)) : st = av.reverse ++ r ∧ av.length = n := by
  obtain ⟨bs, h1, h2, h3⟩ := zpop_ok n st [] av r h
  rw [List.append_nil] at h1
  subst h1
  exact ⟨h2, h3⟩
/-- depth, method, is it the law, locals at the stop, the stop, place, locals, stack, cells, cells made, slots made -/
abbrev ZF : Type := Nat → Nat → Bool → ZL → Nat → Nat → ZL → List Value → List ZC → Nat → Nat → ZO
def zeqL : ZL → ZL → Bool
  | [], [] => true
  | (i, v) :: r, (j, w) :: q => Nat.beq i j && (zeqV v w && zeqL r q)
  | _, _ => false
theorem zeqL_ok : ∀ (a b : ZL), zeqL a b = true → a = b
  | [], [], _ => rfl
  | [], _ :: _, h => by cases h
  | _ :: _, [], h => by cases h
  | (i, v) :: r, (j, w) :: q, h => by
    simp only [zeqL, Bool.and_eq_true] at h
    rw [Nat.eq_of_beq_eq_true h.1, zeqV_ok h.2.1, zeqL_ok r q h.2.2]
def zsum (r : List Value) : Nat := (r.map fun v => v.category).sum
/-- a call of a method with a number -/
def zcall (mt : Nat → ZMI) (ih : ZF) (d j : Nat) (lw : Bool) (sl : ZL) (stop pc : Nat) (loc : ZL) (st : List Value) (cs : List ZC) (mc ms jj : Nat) (kd : Nat) : ZO :=
  match d, mt jj, mt j with
  | d' + 1, (_, _, maxL, ret, kd', mM', sM', na, ci, _), (_, _, _, _, _, mM, sM, _, _, _) =>
    match zpop (bif Nat.beq kd 1 then na else na + 1) st [] with
    | some (av, r) =>
      bif (Nat.beq kd kd' && (decide ((lg_sl av).length ≤ maxL) && decide (maxL ≤ 21))) && ((decide (zsum r ≤ 8) && (decide (mc + mM' ≤ mM) && decide (ms + sM' ≤ sM))) && ((zwS cs.length r && zwL cs.length loc) && (bif Nat.beq kd 1 then true else (match av with
        | .ref b :: _ => bif Nat.beq kd 0 then zisO cs ci (.ref b) else true
        | _ => false)))) then
        (match ih d' jj false [] 0 0 (lv_args 0 av) [] cs 0 0 with
        | some (none, cs') => bif ret.isNone && Nat.ble cs.length cs'.length then zfN (mc + mM') (fun mc' => zfN (ms + sM') (fun ms' => zfN (pc + 3) (fun pc' => ih d j lw sl stop pc' loc r cs' mc' ms'))) else none
        | some (some v, cs') => bif ret.isSome && Nat.ble cs.length cs'.length then zfN (mc + mM') (fun mc' => zfN (ms + sM') (fun ms' => zfN (pc + 3) (fun pc' => ih d j lw sl stop pc' loc (v :: r) cs' mc' ms'))) else none
        | none => none)
      else none
    | none => none
  | _, _, _ => none
def zchars : List Nat := [107, 105, 110, 100, 32, 112, 97, 121, 115, 32, 112, 97, 99, 107, 32, 108, 97, 121, 32, 102, 105, 114, 115, 116, 32, 98, 101, 116, 32, 108, 105, 109, 105, 116, 32, 117, 110, 100, 101, 114, 32, 97, 98, 111, 117, 116, 32, 104, 105, 103, 104, 32, 108, 111, 119, 32, 104, 97, 108, 118, 101, 115, 32, 108, 101, 102, 116, 32, 114, 105, 103, 104, 116, 32, 110, 111, 98, 111, 100, 121, 32, 111, 112, 101, 110, 105, 110, 103, 32, 119, 111, 110, 32, 110, 111, 116, 32, 97, 110, 100, 32, 111, 114, 32, 97, 104, 101, 97, 100, 32, 109, 111, 114, 101, 32, 104, 101, 97, 112, 115, 32, 116, 117, 114, 110, 115, 32]
/-- calls of the JDK's: 1 Object.<init>, 2 arraycopy, 3 Math.min, 4 the words' length, 5 a sign of the words -/
def zprim (x1 pc : Nat) (st : List Value) (cs : List ZC) (d : Nat) (k : ZKW) : ZO := match x1 with
  | 1 => match st with
    | .ref _ :: r => bif decide (zsum r ≤ 8) && decide (1 ≤ d) then zfN (pc + 3) (fun q => k q r cs) else none
    | _ => none
  | 2 => match st with
    | .int n :: .int dp :: .ref b :: .int sp :: .ref a :: r => match zn cs a, zn cs b with
      | some (.inr (0, n0, u)), some (.inr (0, n1, _)) => bif (decide (zsum r ≤ 8) && decide (1 ≤ d)) && decide (sp = 0 ∧ dp = 0 ∧ ¬ n < 0 ∧ n.toNatClampNeg = n0 ∧ n0 = n1) then zput cs b (.inr (0, n1, u)) (pc + 3) r k else none
      | _, _ => none
    | _ => none
  | 3 => match st with
    | .int y :: .int x :: r => bif decide (zsum r ≤ 8) && decide (1 ≤ d) then zfI (if y < x then y else x) (fun z => zfN (pc + 3) (fun q => k q (.int z :: r) cs)) else none
    | _ => none
  | 4 => match st with
    | .ref a :: r => bif decide (zsum r ≤ 8) && (decide (4 ≤ d) && Nat.beq a 1000000) then zfN (pc + 3) (fun q => k q (.int (nI zchars.length) :: r) cs) else none
    | _ => none
  | 5 => match st with
    | .int y :: .ref a :: r => bif decide (zsum r ≤ 8) && (decide (4 ≤ d) && (Nat.beq a 1000000 && zin y zchars.length)) then zfN (zchars.getD y.toNatClampNeg 0) (fun z => zfN (pc + 3) (fun q => k q (.int (nI z) :: r) cs)) else none
    | _ => none
  | _ => none
/-- a is an object of the class whose game has taken no heap -/
def zord (cs : List ZC) (a : Nat) : Bool := match zn cs a with
  | some (.inl (11, fs)) => match zn fs 6 with
    | some (.ref g) => match zn cs g with
      | some (.inl (2, gs)) => match zn gs 0 with
        | some (.ref q) => match zn cs q with
          | some (.inl (5, ps)) => match zn ps 11 with
            | some (.int 0) => true
            | _ => false
          | _ => false
        | _ => false
      | _ => false
    | _ => false
  | _ => false
/-- the law's own 'orders', which catches what the class throws -/
def zordC (lw : Bool) (d mM sM pc : Nat) (st : List Value) (cs : List ZC) (mc ms : Nat) (k : ZKN) : ZO := match st with
  | .ref _ :: .ref a :: r => bif (lw && (zord cs a && decide (10 ≤ d))) && (decide (zsum r ≤ 8) && (decide (mc + 100 ≤ mM) && decide (ms + 10000 ≤ sM))) then zfN (pc + 3) (fun q => zfN (mc + 100) (fun mc' => zfN (ms + 10000) (fun ms' => k q (.int 1 :: r) cs mc' ms'))) else none
  | _ => none
/-- one instruction -/
def zins (mt : Nat → ZMI) (bd : Nat → Int × Int) (ih : ZF) (d j : Nat) (lw : Bool) (sl : ZL) (stop pc : Nat) (loc : ZL) (st : List Value) (cs : List ZC) (mc ms nL : Nat) (ret : Option FieldType) (mM sM : Nat) (i : Instr) (x1 x2 : Nat) : ZO := match i with
  | .ireturn => match st with
    | [v] => bif (zisI v && decide (mc ≤ mM)) && (decide (ms ≤ sM) && (match ret with
      | some .int => true
      | some .boolean => zisB v
      | _ => false)) then some (some v, cs) else none
    | _ => none
  | .return_ => match st with
    | [] => bif (decide (mc ≤ mM) && decide (ms ≤ sM)) && ret.isNone then some (none, cs) else none
    | _ => none
  | .invokevirtual _ => bif Nat.beq x1 0 then zcall mt ih d j lw sl stop pc loc st cs mc ms x2 0 else bif decide (4 ≤ x1) then zprim x1 pc st cs d (fun q r c' => ih d j lw sl stop q loc r c' mc ms) else none
  | .invokestatic _ => bif Nat.beq x1 8 then zordC lw d mM sM pc st cs mc ms (fun q r c' mc' ms' => ih d j lw sl stop q loc r c' mc' ms') else bif Nat.beq x1 0 then zcall mt ih d j lw sl stop pc loc st cs mc ms x2 1 else bif Nat.beq x1 2 || Nat.beq x1 3 then zprim x1 pc st cs d (fun q r c' => ih d j lw sl stop q loc r c' mc ms) else none
  | .invokespecial _ => bif Nat.beq x1 0 || Nat.beq x1 6 then zcall mt ih d j lw sl stop pc loc st cs mc ms x2 2 else bif Nat.beq x1 1 then zprim x1 pc st cs d (fun q r c' => ih d j lw sl stop q loc r c' mc ms) else none
  | .ldc _ => bif Nat.beq x1 7 && (decide (4 ≤ d) && decide (zsum st ≤ 8)) then zgo (pc + 2) loc (.ref 1000000 :: st) (fun q l r => ih d j lw sl stop q l r cs mc ms) else none
  | .ldc2_w _ => zpush (.long (lN x1)) (pc + 3) loc st (fun q l r => ih d j lw sl stop q l r cs mc ms)
  | .getfield _ => zhr bd lw cs i (x1, x2) pc loc st (fun q l r => ih d j lw sl stop q l r cs mc ms)
  | .iaload => zhr bd lw cs i (x1, x2) pc loc st (fun q l r => ih d j lw sl stop q l r cs mc ms)
  | .laload => zhr bd lw cs i (x1, x2) pc loc st (fun q l r => ih d j lw sl stop q l r cs mc ms)
  | .baload => zhr bd lw cs i (x1, x2) pc loc st (fun q l r => ih d j lw sl stop q l r cs mc ms)
  | .aaload => zhr bd lw cs i (x1, x2) pc loc st (fun q l r => ih d j lw sl stop q l r cs mc ms)
  | .arraylength => zhr bd lw cs i (x1, x2) pc loc st (fun q l r => ih d j lw sl stop q l r cs mc ms)
  | .putfield _ => zhw cs i (x1, x2) pc st (fun q r c' => ih d j lw sl stop q loc r c' mc ms)
  | .iastore => zhw cs i (x1, x2) pc st (fun q r c' => ih d j lw sl stop q loc r c' mc ms)
  | .lastore => zhw cs i (x1, x2) pc st (fun q r c' => ih d j lw sl stop q loc r c' mc ms)
  | .bastore => zhw cs i (x1, x2) pc st (fun q r c' => ih d j lw sl stop q loc r c' mc ms)
  | .aastore => zhw cs i (x1, x2) pc st (fun q r c' => ih d j lw sl stop q loc r c' mc ms)
  | .new _ => zhn mM sM cs i (x1, x2) pc loc st mc ms (fun q r c' mc' ms' => ih d j lw sl stop q loc r c' mc' ms')
  | .newarray _ => zhn mM sM cs i (x1, x2) pc loc st mc ms (fun q r c' mc' ms' => ih d j lw sl stop q loc r c' mc' ms')
  | .anewarray _ => zhn mM sM cs i (x1, x2) pc loc st mc ms (fun q r c' mc' ms' => ih d j lw sl stop q loc r c' mc' ms')
  | i => zp bd nL i pc loc st (fun q l r => ih d j lw sl stop q l r cs mc ms)
/-- one step -/
def zstep (mt : Nat → ZMI) (bd : Nat → Int × Int) (ih : ZF) : ZF := fun d j lw sl stop pc loc st cs mc ms =>
  bif lw && Nat.beq pc stop then (match st with
    | [] => bif zeqL loc sl && (decide (mc ≤ 1000) && decide (ms ≤ 200000)) then some (none, cs) else none
    | _ => none)
  else match mt j with
  | (_, _, nL, ret, _, mM, sM, _, _, E) => match zfind E pc with
    | none => none
    | some (i, _, x1, x2) => zins mt bd ih d j lw sl stop pc loc st cs mc ms nL ret mM sM i x1 x2
theorem zstep_ok {mt : Nat → ZMI} {bd : Nat → Int × Int} {ih : ZF} {d j : Nat} {lw : Bool} {sl : ZL} {stop pc : Nat} {loc : ZL} {st : List Value} {cs : List ZC} {mc ms : Nat} {o : Option Value × List ZC} (h : zstep mt bd ih d j lw sl stop pc loc st cs mc ms = some o) :
    (lw = true ∧ pc = stop ∧ st = [] ∧ loc = sl ∧ o = (none, cs) ∧ mc ≤ 1000 ∧ ms ≤ 200000) ∨ ∃ (i : Instr) (L x1 x2 : Nat), zfind (mt j).2.2.2.2.2.2.2.2.2 pc = some (i, L, x1, x2) ∧ zins mt bd ih d j lw sl stop pc loc st cs mc ms (mt j).2.2.1 (mt j).2.2.2.1 (mt j).2.2.2.2.2.1 (mt j).2.2.2.2.2.2.1 i x1 x2 = some o := by
  unfold zstep at h
  cases hb : (lw && Nat.beq pc stop) with
  | true =>
    rw [hb, cond_true] at h
    rw [Bool.and_eq_true] at hb
    refine Or.inl ?_
    split at h
    · have h2 : (zeqL loc sl && (decide (mc ≤ 1000) && decide (ms ≤ 200000))) = true ∧ (some (none, cs) : ZO) = some o := by
        cases hq : (zeqL loc sl && (decide (mc ≤ 1000) && decide (ms ≤ 200000))) with
        | false => rw [hq] at h; cases h
        | true => rw [hq] at h; exact ⟨rfl, h⟩
      simp only [Bool.and_eq_true, decide_eq_true_eq] at h2
      exact ⟨hb.1, Nat.eq_of_beq_eq_true hb.2, rfl, zeqL_ok _ _ h2.1.1, (Option.some.inj h2.2).symm, h2.1.2.1, h2.1.2.2⟩
    · cases h
  | false =>
    rw [hb, cond_false] at h
    refine Or.inr ?_
    have h2 : (match zfind (mt j).2.2.2.2.2.2.2.2.2 pc with
      | none => none
      | some (i, _, x1, x2) => zins mt bd ih d j lw sl stop pc loc st cs mc ms (mt j).2.2.1 (mt j).2.2.2.1 (mt j).2.2.2.2.2.1 (mt j).2.2.2.2.2.2.1 i x1 x2) = some o := h
    cases hz : zfind (mt j).2.2.2.2.2.2.2.2.2 pc with
    | none => rw [hz] at h2; cases h2
    | some q =>
      obtain ⟨i, L, x1, x2⟩ := q
      rw [hz] at h2
      exact ⟨i, L, x1, x2, rfl, h2⟩
def zrun (mt : Nat → ZMI) (bd : Nat → Int × Int) (n : Nat) : ZF := Nat.rec (motive := fun _ => ZF) (fun _ _ _ _ _ _ _ _ _ _ _ => none) (fun _ ih => zstep mt bd ih) n
theorem zrun_succ (mt : Nat → ZMI) (bd : Nat → Int × Int) (n : Nat) : zrun mt bd (n + 1) = zstep mt bd (zrun mt bd n) := rfl
end ZRUN
