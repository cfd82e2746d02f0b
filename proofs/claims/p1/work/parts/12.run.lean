/-! the run: methods by their numbers -/
section ZRUN
abbrev ZEn : Type := Nat × Instr × Nat × Nat × Nat
/-- name, bytes, locals, answer, kind (0 of an object, 1 static, 2 constructor), cells, slots, parameters, class, instructions -/
abbrev ZMI : Type := MethodName × ByteArray × Nat × Option FieldType × Nat × Nat × Nat × Nat × Nat × List (List ZEn)
noncomputable def zlke (l : List ZEn) : Nat → Option (Instr × Nat × Nat × Nat) := List.rec (motive := fun _ => Nat → Option (Instr × Nat × Nat × Nat)) (fun _ => none) (fun q _ ih j => bif Nat.beq q.1 j then some q.2 else ih j) l
noncomputable def zfind (E : List (List ZEn)) (pc : Nat) : Option (Instr × Nat × Nat × Nat) := match zn E (pc / 16) with
  | some r => zlke r pc
  | none => none
theorem zlke_mem : ∀ (r : List ZEn) (j : Nat) (q : Instr × Nat × Nat × Nat), zlke r j = some q → (j, q) ∈ r
  | [], _, _, h => by cases h
  | (p, q) :: r, j, q', h => by
    have h : (bif Nat.beq p j then some q else zlke r j) = some q' := h
    cases hb : Nat.beq p j with
    | true =>
      rw [hb] at h
      have e : p = j := Nat.eq_of_beq_eq_true hb
      cases h
      rw [e]
      exact List.mem_cons_self
    | false =>
      rw [hb] at h
      exact List.mem_cons_of_mem _ (zlke_mem r j q' h)
theorem zfind_mem {E : List (List ZEn)} {pc : Nat} {q : Instr × Nat × Nat × Nat} (h : zfind E pc = some q) : ∃ r, r ∈ E ∧ (pc, q) ∈ r := by
  unfold zfind at h
  split at h
  · rename_i r hr
    rw [zn_eq] at hr
    exact ⟨r, List.mem_of_getElem? hr, zlke_mem r pc q h⟩
  · cases h
noncomputable def zpop : Nat → List Value → List Value → Option (List Value × List Value)
  | 0, st, acc => some (acc, st)
  | n + 1, v :: st, acc => zpop n st (v :: acc)
  | _ + 1, [], _ => none
theorem zpop_ok : ∀ (n : Nat) (st acc av r : List Value), zpop n st acc = some (av, r) → ∃ bs : List Value, av = bs ++ acc ∧ st = bs.reverse ++ r ∧ bs.length = n
  | 0, st, acc, av, r, h => by cases h; exact ⟨[], rfl, rfl, rfl⟩
  | n + 1, [], acc, av, r, h => by cases h
  | n + 1, v :: st, acc, av, r, h => by
    obtain ⟨bs, h1, h2, h3⟩ := zpop_ok n st (v :: acc) av r h
    exact ⟨bs ++ [v], by rw [h1, List.append_assoc]; rfl, by rw [h2, List.reverse_append]; rfl, by rw [List.length_append, h3]; rfl⟩
theorem zpop_ok0 {n : Nat} {st av r : List Value} (h : zpop n st [] = some (av, r)) : st = av.reverse ++ r ∧ av.length = n := by
  obtain ⟨bs, h1, h2, h3⟩ := zpop_ok n st [] av r h
  rw [List.append_nil] at h1
  subst h1
  exact ⟨h2, h3⟩
/-- depth, method, is it the law, locals at the stop, the stop, place, locals, stack, cells, cells made, slots made -/
abbrev ZF : Type := Nat → Nat → Bool → ZL → Nat → Nat → ZL → List Value → List ZC → Nat → Nat → ZO
noncomputable def zeqL : ZL → ZL → Bool
  | [], [] => true
  | (i, v) :: r, (j, w) :: q => Nat.beq i j && (zeqV v w && zeqL r q)
  | _, _ => false
theorem zeqL_ok : ∀ (a b : ZL), zeqL a b = true → a = b
  | [], [], _ => rfl
  | [], _ :: _, h => by cases h
  | _ :: _, [], h => by cases h
  | (i, v) :: r, (j, w) :: q, h => by
    simp only [zeqL, Bool.and_eq_true] at h
    rw [Nat.eq_of_beq_eq_true h.1, zeqV_ok h.2.1, zeqL_ok r q h.2.2]
noncomputable def zsum (r : List Value) : Nat := (r.map fun v => v.category).sum
/-- a call of a method with a number -/
noncomputable def zcall (mt : Nat → ZMI) (ih : ZF) (d j : Nat) (lw : Bool) (sl : ZL) (stop pc : Nat) (loc : ZL) (st : List Value) (cs : List ZC) (mc ms jj : Nat) (kd : Nat) : ZO :=
  match d, mt jj, mt j with
  | d' + 1, (_, _, maxL, ret, kd', mM', sM', na, ci, _), (_, _, _, _, _, mM, sM, _, _, _) =>
    match zpop (bif Nat.beq kd 1 then na else na + 1) st [] with
    | some (av, r) =>
      bif (Nat.beq kd kd' && (decide ((lg_sl av).length ≤ maxL) && decide (maxL ≤ 21))) && ((decide (zsum r ≤ 8) && (decide (mc + mM' ≤ mM) && decide (ms + sM' ≤ sM))) && ((zwS' (zln cs) r && zwL' (zln cs) loc) && (bif Nat.beq kd 1 then true else (match av with
        | .ref b :: _ => bif Nat.beq kd 0 then zisO cs ci (.ref b) else true
        | _ => false)))) then
        (match ih d' jj false [] 0 0 (lv_args 0 av) [] cs 0 0 with
        | some (none, cs') => bif ret.isNone && Nat.ble (zln cs) (zln cs') then zfN (mc + mM') (fun mc' => zfN (ms + sM') (fun ms' => zfN (pc + 3) (fun pc' => ih d j lw sl stop pc' loc r cs' mc' ms'))) else none
        | some (some v, cs') => bif ret.isSome && Nat.ble (zln cs) (zln cs') then zfN (mc + mM') (fun mc' => zfN (ms + sM') (fun ms' => zfN (pc + 3) (fun pc' => ih d j lw sl stop pc' loc (v :: r) cs' mc' ms'))) else none
        | none => none)
      else none
    | none => none
  | _, _, _ => none
noncomputable def zchars : List Nat := [107, 105, 110, 100, 32, 112, 97, 121, 115, 32, 112, 97, 99, 107, 32, 108, 97, 121, 32, 102, 105, 114, 115, 116, 32, 98, 101, 116, 32, 108, 105, 109, 105, 116, 32, 117, 110, 100, 101, 114, 32, 97, 98, 111, 117, 116, 32, 104, 105, 103, 104, 32, 108, 111, 119, 32, 104, 97, 108, 118, 101, 115, 32, 108, 101, 102, 116, 32, 114, 105, 103, 104, 116, 32, 110, 111, 98, 111, 100, 121, 32, 111, 112, 101, 110, 105, 110, 103, 32, 119, 111, 110, 32, 110, 111, 116, 32, 97, 110, 100, 32, 111, 114, 32, 97, 104, 101, 97, 100, 32, 109, 111, 114, 101, 32, 104, 101, 97, 112, 115, 32, 116, 117, 114, 110, 115, 32]
/-- calls of the JDK's: 1 Object.<init>, 2 arraycopy, 3 Math.min, 4 the words' length, 5 a sign of the words -/
noncomputable def zprim (x1 pc : Nat) (st : List Value) (cs : List ZC) (d : Nat) (k : ZKW) : ZO := match x1 with
  | 1 => match st with
    | .ref _ :: r => bif decide (zsum r ≤ 8) && decide (1 ≤ d) then zfN (pc + 3) (fun q => k q r cs) else none
    | _ => none
  | 2 => match st with
    | .int n :: .int dp :: .ref b :: .int sp :: .ref a :: r => match zn cs a, zn cs b with
      | some (.inr (0, n0, u)), some (.inr (0, n1, _)) => bif (decide (zsum r ≤ 8) && decide (1 ≤ d)) && decide (sp = 0 ∧ dp = 0 ∧ ¬ n < 0 ∧ n.toNatClampNeg = n0 ∧ n0 = n1) then zput cs b (.inr (0, n1, u)) (pc + 3) r k else none
      | _, _ => none
    | _ => none
  | 3 => match st with
    | .int y :: .int x :: r => bif decide (zsum r ≤ 8) && decide (1 ≤ d) then zfI (if y < x then y else x) (fun z => zfN (pc + 3) (fun q => k q (.int z :: r) cs)) else none
    | _ => none
  | 4 => match st with
    | .ref a :: r => bif decide (zsum r ≤ 8) && (decide (4 ≤ d) && Nat.beq a 1000000) then zfN (pc + 3) (fun q => k q (.int (nI zchars.length) :: r) cs) else none
    | _ => none
  | 5 => match st with
    | .int y :: .ref a :: r => bif decide (zsum r ≤ 8) && (decide (4 ≤ d) && (Nat.beq a 1000000 && zin y zchars.length)) then zfN (zchars.getD y.toNatClampNeg 0) (fun z => zfN (pc + 3) (fun q => k q (.int (nI z) :: r) cs)) else none
    | _ => none
  | _ => none
/-- a is an object of the class whose game has taken no heap -/
noncomputable def zord (cs : List ZC) (a : Nat) : Bool := match zn cs a with
  | some (.inl (11, fs)) => match zn fs 6 with
    | some (.ref g) => match zn cs g with
      | some (.inl (2, gs)) => match zn gs 0 with
        | some (.ref q) => match zn cs q with
          | some (.inl (5, ps)) => match zn ps 11 with
            | some (.int 0) => true
            | _ => false
          | _ => false
        | _ => false
      | _ => false
    | _ => false
  | _ => false
/-- the law's own 'orders', which catches what the class throws -/
noncomputable def zordC (lw : Bool) (d mM sM pc : Nat) (st : List Value) (cs : List ZC) (mc ms : Nat) (k : ZKN) : ZO := match st with
  | .ref _ :: .ref a :: r => bif (lw && (zord cs a && decide (10 ≤ d))) && (decide (zsum r ≤ 8) && (decide (mc + 100 ≤ mM) && decide (ms + 10000 ≤ sM))) then zfN (pc + 3) (fun q => zfN (mc + 100) (fun mc' => zfN (ms + 10000) (fun ms' => k q (.int 1 :: r) cs mc' ms'))) else none
  | _ => none
/-- one instruction -/
noncomputable def zins (mt : Nat → ZMI) (bd : Nat → Int × Int) (ih : ZF) (d j : Nat) (lw : Bool) (sl : ZL) (stop pc : Nat) (loc : ZL) (st : List Value) (cs : List ZC) (mc ms nL : Nat) (ret : Option FieldType) (mM sM : Nat) (i : Instr) (x1 x2 : Nat) : ZO := match i with
  | .ireturn => match st with
    | [v] => bif (zisI v && decide (mc ≤ mM)) && (decide (ms ≤ sM) && (match ret with
      | some .int => true
      | some .boolean => zisB v
      | _ => false)) then some (some v, cs) else none
    | _ => none
  | .return_ => match st with
    | [] => bif (decide (mc ≤ mM) && decide (ms ≤ sM)) && ret.isNone then some (none, cs) else none
    | _ => none
  | .invokevirtual _ => bif Nat.beq x1 0 then zcall mt ih d j lw sl stop pc loc st cs mc ms x2 0 else bif decide (4 ≤ x1) then zprim x1 pc st cs d (fun q r c' => ih d j lw sl stop q loc r c' mc ms) else none
  | .invokestatic _ => bif Nat.beq x1 8 then zordC lw d mM sM pc st cs mc ms (fun q r c' mc' ms' => ih d j lw sl stop q loc r c' mc' ms') else bif Nat.beq x1 0 then zcall mt ih d j lw sl stop pc loc st cs mc ms x2 1 else bif Nat.beq x1 2 || Nat.beq x1 3 then zprim x1 pc st cs d (fun q r c' => ih d j lw sl stop q loc r c' mc ms) else none
  | .invokespecial _ => bif Nat.beq x1 0 || Nat.beq x1 6 then zcall mt ih d j lw sl stop pc loc st cs mc ms x2 2 else bif Nat.beq x1 1 then zprim x1 pc st cs d (fun q r c' => ih d j lw sl stop q loc r c' mc ms) else none
  | .ldc _ => bif Nat.beq x1 7 && (decide (4 ≤ d) && decide (zsum st ≤ 8)) then zgo (pc + 2) loc (.ref 1000000 :: st) (fun q l r => ih d j lw sl stop q l r cs mc ms) else none
  | .ldc2_w _ => zpush (.long (lN x1)) (pc + 3) loc st (fun q l r => ih d j lw sl stop q l r cs mc ms)
  | .getfield _ => zhr bd lw cs i (x1, x2) pc loc st (fun q l r => ih d j lw sl stop q l r cs mc ms)
  | .iaload => zhr bd lw cs i (x1, x2) pc loc st (fun q l r => ih d j lw sl stop q l r cs mc ms)
  | .laload => zhr bd lw cs i (x1, x2) pc loc st (fun q l r => ih d j lw sl stop q l r cs mc ms)
  | .baload => zhr bd lw cs i (x1, x2) pc loc st (fun q l r => ih d j lw sl stop q l r cs mc ms)
  | .aaload => zhr bd lw cs i (x1, x2) pc loc st (fun q l r => ih d j lw sl stop q l r cs mc ms)
  | .arraylength => zhr bd lw cs i (x1, x2) pc loc st (fun q l r => ih d j lw sl stop q l r cs mc ms)
  | .putfield _ => zhw cs i (x1, x2) pc st (fun q r c' => ih d j lw sl stop q loc r c' mc ms)
  | .iastore => zhw cs i (x1, x2) pc st (fun q r c' => ih d j lw sl stop q loc r c' mc ms)
  | .lastore => zhw cs i (x1, x2) pc st (fun q r c' => ih d j lw sl stop q loc r c' mc ms)
  | .bastore => zhw cs i (x1, x2) pc st (fun q r c' => ih d j lw sl stop q loc r c' mc ms)
  | .aastore => zhw cs i (x1, x2) pc st (fun q r c' => ih d j lw sl stop q loc r c' mc ms)
  | .new _ => zhn mM sM cs i (x1, x2) pc loc st mc ms (fun q r c' mc' ms' => ih d j lw sl stop q loc r c' mc' ms')
  | .newarray _ => zhn mM sM cs i (x1, x2) pc loc st mc ms (fun q r c' mc' ms' => ih d j lw sl stop q loc r c' mc' ms')
  | .anewarray _ => zhn mM sM cs i (x1, x2) pc loc st mc ms (fun q r c' mc' ms' => ih d j lw sl stop q loc r c' mc' ms')
  | i => zp bd nL i pc loc st (fun q l r => ih d j lw sl stop q l r cs mc ms)
abbrev ZFn : Type := (Nat → ZMI) → (Nat → Int × Int) → ZF → Nat → Nat → Bool → ZL → Nat → Nat → ZL → List Value → List ZC → Nat → Nat → Nat → Option FieldType → Nat → Nat → Instr → Nat → Nat → ZO
noncomputable def zo_iconst_n (i : Instr) : Int := match i with
  | .iconst x => x
  | _ => 0
noncomputable def zx_iconst : ZFn := fun mt bd ih d j lw sl stop pc loc st cs mc ms nL ret mM sM i x1 x2 => (fun (o_n : Int) => zpush (.int (Int32.ofInt o_n)) (pc + 1) loc st (fun q l r => ih d j lw sl stop q l r cs mc ms)) (zo_iconst_n i)
noncomputable def zo_bipush_n (i : Instr) : Int := match i with
  | .bipush x => x
  | _ => 0
noncomputable def zx_bipush : ZFn := fun mt bd ih d j lw sl stop pc loc st cs mc ms nL ret mM sM i x1 x2 => (fun (o_n : Int) => zpush (.int (Int8.ofInt o_n).toInt32) (pc + 2) loc st (fun q l r => ih d j lw sl stop q l r cs mc ms)) (zo_bipush_n i)
noncomputable def zo_sipush_n (i : Instr) : Int := match i with
  | .sipush x => x
  | _ => 0
noncomputable def zx_sipush : ZFn := fun mt bd ih d j lw sl stop pc loc st cs mc ms nL ret mM sM i x1 x2 => (fun (o_n : Int) => zpush (.int (Int16.ofInt o_n).toInt32) (pc + 3) loc st (fun q l r => ih d j lw sl stop q l r cs mc ms)) (zo_sipush_n i)
noncomputable def zo_lconst_n (i : Instr) : Fin 2 := match i with
  | .lconst x => x
  | _ => 0
noncomputable def zx_lconst : ZFn := fun mt bd ih d j lw sl stop pc loc st cs mc ms nL ret mM sM i x1 x2 => (fun (o_n : Fin 2) => zpush (.long (Int64.ofNat (o_n : Nat))) (pc + 1) loc st (fun q l r => ih d j lw sl stop q l r cs mc ms)) (zo_lconst_n i)
noncomputable def zo_iload_n_j (i : Instr) : Fin 4 := match i with
  | .iload_n x => x
  | _ => 0
noncomputable def zx_iload_n : ZFn := fun mt bd ih d j lw sl stop pc loc st cs mc ms nL ret mM sM i x1 x2 => (fun (o_j : Fin 4) => zload zisI o_j (pc + 1) loc st (fun q l r => ih d j lw sl stop q l r cs mc ms)) (zo_iload_n_j i)
noncomputable def zo_iload_j (i : Instr) : Nat := match i with
  | .iload x => x
  | _ => 0
noncomputable def zx_iload : ZFn := fun mt bd ih d j lw sl stop pc loc st cs mc ms nL ret mM sM i x1 x2 => (fun (o_j : Nat) => zload zisI o_j (pc + 2) loc st (fun q l r => ih d j lw sl stop q l r cs mc ms)) (zo_iload_j i)
noncomputable def zo_aload_n_j (i : Instr) : Fin 4 := match i with
  | .aload_n x => x
  | _ => 0
noncomputable def zx_aload_n : ZFn := fun mt bd ih d j lw sl stop pc loc st cs mc ms nL ret mM sM i x1 x2 => (fun (o_j : Fin 4) => zload zisA o_j (pc + 1) loc st (fun q l r => ih d j lw sl stop q l r cs mc ms)) (zo_aload_n_j i)
noncomputable def zo_aload_j (i : Instr) : Nat := match i with
  | .aload x => x
  | _ => 0
noncomputable def zx_aload : ZFn := fun mt bd ih d j lw sl stop pc loc st cs mc ms nL ret mM sM i x1 x2 => (fun (o_j : Nat) => zload zisA o_j (pc + 2) loc st (fun q l r => ih d j lw sl stop q l r cs mc ms)) (zo_aload_j i)
noncomputable def zo_lload_n_j (i : Instr) : Fin 4 := match i with
  | .lload_n x => x
  | _ => 0
noncomputable def zx_lload_n : ZFn := fun mt bd ih d j lw sl stop pc loc st cs mc ms nL ret mM sM i x1 x2 => (fun (o_j : Fin 4) => zload zisJ o_j (pc + 1) loc st (fun q l r => ih d j lw sl stop q l r cs mc ms)) (zo_lload_n_j i)
noncomputable def zo_lload_j (i : Instr) : Nat := match i with
  | .lload x => x
  | _ => 0
noncomputable def zx_lload : ZFn := fun mt bd ih d j lw sl stop pc loc st cs mc ms nL ret mM sM i x1 x2 => (fun (o_j : Nat) => zload zisJ o_j (pc + 2) loc st (fun q l r => ih d j lw sl stop q l r cs mc ms)) (zo_lload_j i)
noncomputable def zo_istore_n_j (i : Instr) : Fin 4 := match i with
  | .istore_n x => x
  | _ => 0
noncomputable def zx_istore_n : ZFn := fun mt bd ih d j lw sl stop pc loc st cs mc ms nL ret mM sM i x1 x2 => (fun (o_j : Fin 4) => zstore1 zisI nL o_j (pc + 1) loc st (fun q l r => ih d j lw sl stop q l r cs mc ms)) (zo_istore_n_j i)
noncomputable def zo_istore_j (i : Instr) : Nat := match i with
  | .istore x => x
  | _ => 0
noncomputable def zx_istore : ZFn := fun mt bd ih d j lw sl stop pc loc st cs mc ms nL ret mM sM i x1 x2 => (fun (o_j : Nat) => zstore1 zisI nL o_j (pc + 2) loc st (fun q l r => ih d j lw sl stop q l r cs mc ms)) (zo_istore_j i)
noncomputable def zo_astore_n_j (i : Instr) : Fin 4 := match i with
  | .astore_n x => x
  | _ => 0
noncomputable def zx_astore_n : ZFn := fun mt bd ih d j lw sl stop pc loc st cs mc ms nL ret mM sM i x1 x2 => (fun (o_j : Fin 4) => zstore1 zisA nL o_j (pc + 1) loc st (fun q l r => ih d j lw sl stop q l r cs mc ms)) (zo_astore_n_j i)
noncomputable def zo_astore_j (i : Instr) : Nat := match i with
  | .astore x => x
  | _ => 0
noncomputable def zx_astore : ZFn := fun mt bd ih d j lw sl stop pc loc st cs mc ms nL ret mM sM i x1 x2 => (fun (o_j : Nat) => zstore1 zisA nL o_j (pc + 2) loc st (fun q l r => ih d j lw sl stop q l r cs mc ms)) (zo_astore_j i)
noncomputable def zo_lstore_n_j (i : Instr) : Fin 4 := match i with
  | .lstore_n x => x
  | _ => 0
noncomputable def zx_lstore_n : ZFn := fun mt bd ih d j lw sl stop pc loc st cs mc ms nL ret mM sM i x1 x2 => (fun (o_j : Fin 4) => zstore2 nL o_j (pc + 1) loc st (fun q l r => ih d j lw sl stop q l r cs mc ms)) (zo_lstore_n_j i)
noncomputable def zo_lstore_j (i : Instr) : Nat := match i with
  | .lstore x => x
  | _ => 0
noncomputable def zx_lstore : ZFn := fun mt bd ih d j lw sl stop pc loc st cs mc ms nL ret mM sM i x1 x2 => (fun (o_j : Nat) => zstore2 nL o_j (pc + 2) loc st (fun q l r => ih d j lw sl stop q l r cs mc ms)) (zo_lstore_j i)
noncomputable def zo_iinc_j (i : Instr) : Nat := match i with
  | .iinc x _ => x
  | _ => 0
noncomputable def zo_iinc_n (i : Instr) : Int := match i with
  | .iinc _ x => x
  | _ => 0
noncomputable def zx_iinc : ZFn := fun mt bd ih d j lw sl stop pc loc st cs mc ms nL ret mM sM i x1 x2 => (fun (o_j : Nat) (o_n : Int) => match zlk loc o_j with
    | some (.int x) => bif decide (o_j < nL) then zfI (x + Int32.ofInt o_n) (fun y => zff1 o_j loc (fun l => zgo (pc + 3) ((o_j, .int y) :: l) st (fun q l r => ih d j lw sl stop q l r cs mc ms))) else none
    | _ => none) (zo_iinc_j i) (zo_iinc_n i)
noncomputable def zx_iadd : ZFn := fun mt bd ih d j lw sl stop pc loc st cs mc ms nL ret mM sM i x1 x2 => zbinI (fun x y => x + y) (pc + 1) loc st (fun q l r => ih d j lw sl stop q l r cs mc ms)
noncomputable def zx_imul : ZFn := fun mt bd ih d j lw sl stop pc loc st cs mc ms nL ret mM sM i x1 x2 => zbinI (fun x y => x * y) (pc + 1) loc st (fun q l r => ih d j lw sl stop q l r cs mc ms)
noncomputable def zx_ior : ZFn := fun mt bd ih d j lw sl stop pc loc st cs mc ms nL ret mM sM i x1 x2 => zbinI (fun x y => x ||| y) (pc + 1) loc st (fun q l r => ih d j lw sl stop q l r cs mc ms)
noncomputable def zx_ishl : ZFn := fun mt bd ih d j lw sl stop pc loc st cs mc ms nL ret mM sM i x1 x2 => zbinI (fun x y => x <<< (y &&& 31)) (pc + 1) loc st (fun q l r => ih d j lw sl stop q l r cs mc ms)
noncomputable def zx_ishr : ZFn := fun mt bd ih d j lw sl stop pc loc st cs mc ms nL ret mM sM i x1 x2 => zbinI (fun x y => x >>> (y &&& 31)) (pc + 1) loc st (fun q l r => ih d j lw sl stop q l r cs mc ms)
noncomputable def zx_isub : ZFn := fun mt bd ih d j lw sl stop pc loc st cs mc ms nL ret mM sM i x1 x2 => match st with
    | .retAddr jj :: .int x :: r => bif decide (x = 100 ∧ jj < 8) then zpush (.retAddr (jj + 8)) (pc + 1) loc r (fun q l r => ih d j lw sl stop q l r cs mc ms) else none
    | st => zbinI (fun x y => x - y) (pc + 1) loc st (fun q l r => ih d j lw sl stop q l r cs mc ms)
noncomputable def zx_iand : ZFn := fun mt bd ih d j lw sl stop pc loc st cs mc ms nL ret mM sM i x1 x2 => match st with
    | .int x :: .retAddr jj :: r => bif decide (x = 63 ∧ jj = 0) then zpush (.retAddr 7) (pc + 1) loc r (fun q l r => ih d j lw sl stop q l r cs mc ms) else none
    | st => zbinI (fun x y => x &&& y) (pc + 1) loc st (fun q l r => ih d j lw sl stop q l r cs mc ms)
noncomputable def zx_irem : ZFn := fun mt bd ih d j lw sl stop pc loc st cs mc ms nL ret mM sM i x1 x2 => match st with
    | .int y :: .int x :: r => bif decide (¬ y = 0) then zpush (.int (x - x / y * y)) (pc + 1) loc r (fun q l r => ih d j lw sl stop q l r cs mc ms) else none
    | _ => none
noncomputable def zx_idiv : ZFn := fun mt bd ih d j lw sl stop pc loc st cs mc ms nL ret mM sM i x1 x2 => match st with
    | .int y :: .int x :: r => bif decide (¬ y = 0) then zpush (.int (x / y)) (pc + 1) loc r (fun q l r => ih d j lw sl stop q l r cs mc ms) else none
    | _ => none
noncomputable def zx_ladd : ZFn := fun mt bd ih d j lw sl stop pc loc st cs mc ms nL ret mM sM i x1 x2 => zbinJ (fun x y => x + y) (pc + 1) loc st (fun q l r => ih d j lw sl stop q l r cs mc ms)
noncomputable def zx_lsub : ZFn := fun mt bd ih d j lw sl stop pc loc st cs mc ms nL ret mM sM i x1 x2 => zbinJ (fun x y => x - y) (pc + 1) loc st (fun q l r => ih d j lw sl stop q l r cs mc ms)
noncomputable def zx_lmul : ZFn := fun mt bd ih d j lw sl stop pc loc st cs mc ms nL ret mM sM i x1 x2 => zbinJ (fun x y => x * y) (pc + 1) loc st (fun q l r => ih d j lw sl stop q l r cs mc ms)
noncomputable def zx_lor : ZFn := fun mt bd ih d j lw sl stop pc loc st cs mc ms nL ret mM sM i x1 x2 => zbinJ (fun x y => x ||| y) (pc + 1) loc st (fun q l r => ih d j lw sl stop q l r cs mc ms)
noncomputable def zx_lxor : ZFn := fun mt bd ih d j lw sl stop pc loc st cs mc ms nL ret mM sM i x1 x2 => zbinJ (fun x y => x ^^^ y) (pc + 1) loc st (fun q l r => ih d j lw sl stop q l r cs mc ms)
noncomputable def zx_land : ZFn := fun mt bd ih d j lw sl stop pc loc st cs mc ms nL ret mM sM i x1 x2 => zbinJ (fun x y => x &&& y) (pc + 1) loc st (fun q l r => ih d j lw sl stop q l r cs mc ms)
noncomputable def zx_lshl : ZFn := fun mt bd ih d j lw sl stop pc loc st cs mc ms nL ret mM sM i x1 x2 => zshJ (fun x y => x <<< (y.toInt64 &&& 63)) (pc + 1) loc st (fun q l r => ih d j lw sl stop q l r cs mc ms)
noncomputable def zx_lshr : ZFn := fun mt bd ih d j lw sl stop pc loc st cs mc ms nL ret mM sM i x1 x2 => zshJ (fun x y => x >>> (y.toInt64 &&& 63)) (pc + 1) loc st (fun q l r => ih d j lw sl stop q l r cs mc ms)
noncomputable def zx_lushr : ZFn := fun mt bd ih d j lw sl stop pc loc st cs mc ms nL ret mM sM i x1 x2 => zshJ (fun x y => (x.toUInt64 >>> (y.toInt64.toUInt64 &&& Int64.toUInt64 63)).toInt64) (pc + 1) loc st (fun q l r => ih d j lw sl stop q l r cs mc ms)
noncomputable def zx_lcmp : ZFn := fun mt bd ih d j lw sl stop pc loc st cs mc ms nL ret mM sM i x1 x2 => match st with
    | .long y :: .long x :: r => zpush (.int (lg_cmp x y)) (pc + 1) loc r (fun q l r => ih d j lw sl stop q l r cs mc ms)
    | _ => none
noncomputable def zx_i2l : ZFn := fun mt bd ih d j lw sl stop pc loc st cs mc ms nL ret mM sM i x1 x2 => match st with
    | .int x :: r => zpush (.long x.toInt64) (pc + 1) loc r (fun q l r => ih d j lw sl stop q l r cs mc ms)
    | _ => none
noncomputable def zx_l2i : ZFn := fun mt bd ih d j lw sl stop pc loc st cs mc ms nL ret mM sM i x1 x2 => match st with
    | .long x :: r => zpush (.int x.toInt32) (pc + 1) loc r (fun q l r => ih d j lw sl stop q l r cs mc ms)
    | _ => none
noncomputable def zx_dup : ZFn := fun mt bd ih d j lw sl stop pc loc st cs mc ms nL ret mM sM i x1 x2 => match st with
    | v :: r => bif decide (v.category = 1) then zgo (pc + 1) loc (v :: v :: r) (fun q l r => ih d j lw sl stop q l r cs mc ms) else none
    | _ => none
noncomputable def zx_dup2 : ZFn := fun mt bd ih d j lw sl stop pc loc st cs mc ms nL ret mM sM i x1 x2 => match st with
    | v :: w :: r => bif decide (v.category = 1 ∧ w.category = 1) then zgo (pc + 1) loc (v :: w :: v :: w :: r) (fun q l r => ih d j lw sl stop q l r cs mc ms) else none
    | _ => none
noncomputable def zx_pop : ZFn := fun mt bd ih d j lw sl stop pc loc st cs mc ms nL ret mM sM i x1 x2 => match st with
    | v :: r => bif decide (v.category = 1) then zgo (pc + 1) loc r (fun q l r => ih d j lw sl stop q l r cs mc ms) else none
    | _ => none
noncomputable def zo_goto_off (i : Instr) : Int := match i with
  | .goto x => x
  | _ => 0
noncomputable def zx_goto : ZFn := fun mt bd ih d j lw sl stop pc loc st cs mc ms nL ret mM sM i x1 x2 => (fun (o_off : Int) => zjump pc o_off loc st (fun q l r => ih d j lw sl stop q l r cs mc ms)) (zo_goto_off i)
noncomputable def zo_ifCond_q (i : Instr) : ClassFile.Cond := match i with
  | .ifCond x _ => x
  | _ => .eq
noncomputable def zo_ifCond_off (i : Instr) : Int := match i with
  | .ifCond _ x => x
  | _ => 0
noncomputable def zx_ifCond : ZFn := fun mt bd ih d j lw sl stop pc loc st cs mc ms nL ret mM sM i x1 x2 => (fun (o_q : ClassFile.Cond) (o_off : Int) => match st with
    | v :: r => match o_q with
      | .eq => zif bd 0 false v (.int 0) pc o_off loc r (fun q l r => ih d j lw sl stop q l r cs mc ms)
      | .ne => zif bd 0 true v (.int 0) pc o_off loc r (fun q l r => ih d j lw sl stop q l r cs mc ms)
      | .lt => zif bd 1 false v (.int 0) pc o_off loc r (fun q l r => ih d j lw sl stop q l r cs mc ms)
      | .ge => zif bd 2 false (.int 0) v pc o_off loc r (fun q l r => ih d j lw sl stop q l r cs mc ms)
      | .gt => zif bd 1 false (.int 0) v pc o_off loc r (fun q l r => ih d j lw sl stop q l r cs mc ms)
      | .le => zif bd 2 false v (.int 0) pc o_off loc r (fun q l r => ih d j lw sl stop q l r cs mc ms)
    | _ => none) (zo_ifCond_q i) (zo_ifCond_off i)
noncomputable def zo_if_icmp_q (i : Instr) : ClassFile.Cond := match i with
  | .if_icmp x _ => x
  | _ => .eq
noncomputable def zo_if_icmp_off (i : Instr) : Int := match i with
  | .if_icmp _ x => x
  | _ => 0
noncomputable def zx_if_icmp : ZFn := fun mt bd ih d j lw sl stop pc loc st cs mc ms nL ret mM sM i x1 x2 => (fun (o_q : ClassFile.Cond) (o_off : Int) => match st with
    | w :: v :: r => match o_q with
      | .eq => zif bd 0 false v w pc o_off loc r (fun q l r => ih d j lw sl stop q l r cs mc ms)
      | .ne => zif bd 0 true v w pc o_off loc r (fun q l r => ih d j lw sl stop q l r cs mc ms)
      | .lt => zif bd 1 false v w pc o_off loc r (fun q l r => ih d j lw sl stop q l r cs mc ms)
      | .ge => zif bd 2 false w v pc o_off loc r (fun q l r => ih d j lw sl stop q l r cs mc ms)
      | .gt => zif bd 1 false w v pc o_off loc r (fun q l r => ih d j lw sl stop q l r cs mc ms)
      | .le => zif bd 2 false v w pc o_off loc r (fun q l r => ih d j lw sl stop q l r cs mc ms)
    | _ => none) (zo_if_icmp_q i) (zo_if_icmp_off i)
noncomputable def zo_ifnonnull_off (i : Instr) : Int := match i with
  | .ifnonnull x => x
  | _ => 0
noncomputable def zx_ifnonnull : ZFn := fun mt bd ih d j lw sl stop pc loc st cs mc ms nL ret mM sM i x1 x2 => (fun (o_off : Int) => match st with
    | .ref _ :: r => zjump pc o_off loc r (fun q l r => ih d j lw sl stop q l r cs mc ms)
    | .null :: r => zgo (pc + 3) loc r (fun q l r => ih d j lw sl stop q l r cs mc ms)
    | _ => none) (zo_ifnonnull_off i)
noncomputable def zo_tableswitch_d (i : Instr) : Int := match i with
  | .tableswitch x _ _ _ => x
  | _ => 0
noncomputable def zo_tableswitch_lo (i : Instr) : Int := match i with
  | .tableswitch _ x _ _ => x
  | _ => 0
noncomputable def zo_tableswitch_hi (i : Instr) : Int := match i with
  | .tableswitch _ _ x _ => x
  | _ => 0
noncomputable def zo_tableswitch_offs (i : Instr) : Array Int := match i with
  | .tableswitch _ _ _ x => x
  | _ => #[]
noncomputable def zx_tableswitch : ZFn := fun mt bd ih d j lw sl stop pc loc st cs mc ms nL ret mM sM i x1 x2 => (fun (o_d : Int) (o_lo : Int) (o_hi : Int) (o_offs : Array Int) => zsw bd o_d o_lo o_hi o_offs pc loc st (fun q l r => ih d j lw sl stop q l r cs mc ms)) (zo_tableswitch_d i) (zo_tableswitch_lo i) (zo_tableswitch_hi i) (zo_tableswitch_offs i)
noncomputable def zx_getfield : ZFn := fun mt bd ih d j lw sl stop pc loc st cs mc ms nL ret mM sM i x1 x2 => match st with
    | .ref a :: r => match zn cs a with
      | some (.inl (ci, fs)) => bif Nat.beq ci x1 then (match zn fs x2 with
        | some v => zgo (pc + 3) loc (v :: r) (fun q l r => ih d j lw sl stop q l r cs mc ms)
        | none => none) else none
      | _ => none
    | _ => none
noncomputable def zx_iaload : ZFn := fun mt bd ih d j lw sl stop pc loc st cs mc ms nL ret mM sM i x1 x2 => match st with
    | .int y :: .ref a :: r => bif zlw bd lw && Nat.beq a 1000001 then (bif zin y 7 then zpush (zsc bd y.toNatClampNeg) (pc + 1) loc r (fun q l r => ih d j lw sl stop q l r cs mc ms) else none) else zald 0 zisI cs a y (pc + 1) loc r (fun q l r => ih d j lw sl stop q l r cs mc ms)
    | _ => none
noncomputable def zx_laload : ZFn := fun mt bd ih d j lw sl stop pc loc st cs mc ms nL ret mM sM i x1 x2 => match st with
    | .int y :: .ref a :: r => zald 1 zisJ cs a y (pc + 1) loc r (fun q l r => ih d j lw sl stop q l r cs mc ms)
    | _ => none
noncomputable def zx_baload : ZFn := fun mt bd ih d j lw sl stop pc loc st cs mc ms nL ret mM sM i x1 x2 => match st with
    | .int y :: .ref a :: r => zald 2 zisI cs a y (pc + 1) loc r (fun q l r => ih d j lw sl stop q l r cs mc ms)
    | _ => none
noncomputable def zx_aaload : ZFn := fun mt bd ih d j lw sl stop pc loc st cs mc ms nL ret mM sM i x1 x2 => match st with
    | .int y :: .ref a :: r => bif Nat.beq x1 4 then zald 4 zisA cs a y (pc + 1) loc r (fun q l r => ih d j lw sl stop q l r cs mc ms) else zald 5 zisA cs a y (pc + 1) loc r (fun q l r => ih d j lw sl stop q l r cs mc ms)
    | _ => none
noncomputable def zx_arraylength : ZFn := fun mt bd ih d j lw sl stop pc loc st cs mc ms nL ret mM sM i x1 x2 => match st with
    | .ref a :: r => bif zlw bd lw && Nat.beq a 1000001 then zpush (.int 7) (pc + 1) loc r (fun q l r => ih d j lw sl stop q l r cs mc ms) else (match zn cs a with
      | some (.inr (t, n, _)) => bif decide (t < 6) then zpush (.int (Int32.ofNat n)) (pc + 1) loc r (fun q l r => ih d j lw sl stop q l r cs mc ms) else none
      | _ => none)
    | _ => none
noncomputable def zx_putfield : ZFn := fun mt bd ih d j lw sl stop pc loc st cs mc ms nL ret mM sM i x1 x2 => match st with
    | v :: .ref a :: r => match zn cs a with
      | some (.inl (ci, fs)) => bif Nat.beq ci x1 && (decide (x2 < fs.length) && zfit (ztf ci x2) v) then zfset fs v x2 (fun g => zput cs a (.inl (ci, g)) (pc + 3) r (fun q r c' => ih d j lw sl stop q loc r c' mc ms)) else none
      | _ => none
    | _ => none
noncomputable def zx_iastore : ZFn := fun mt bd ih d j lw sl stop pc loc st cs mc ms nL ret mM sM i x1 x2 => match st with
    | v :: .int y :: .ref a :: r => zast 0 zisI cs a y v (pc + 1) r (fun q r c' => ih d j lw sl stop q loc r c' mc ms)
    | _ => none
noncomputable def zx_lastore : ZFn := fun mt bd ih d j lw sl stop pc loc st cs mc ms nL ret mM sM i x1 x2 => match st with
    | v :: .int y :: .ref a :: r => zast 1 zisJ cs a y v (pc + 1) r (fun q r c' => ih d j lw sl stop q loc r c' mc ms)
    | _ => none
noncomputable def zx_bastore : ZFn := fun mt bd ih d j lw sl stop pc loc st cs mc ms nL ret mM sM i x1 x2 => match st with
    | v :: .int y :: .ref a :: r => zast 2 zisB cs a y v (pc + 1) r (fun q r c' => ih d j lw sl stop q loc r c' mc ms)
    | _ => none
noncomputable def zx_aastore : ZFn := fun mt bd ih d j lw sl stop pc loc st cs mc ms nL ret mM sM i x1 x2 => match st with
    | v :: .int y :: .ref a :: r => bif Nat.beq x1 4 then zast 4 (zisO cs 2) cs a y v (pc + 1) r (fun q r c' => ih d j lw sl stop q loc r c' mc ms) else zast 5 (zisO cs 5) cs a y v (pc + 1) r (fun q r c' => ih d j lw sl stop q loc r c' mc ms)
    | _ => none
noncomputable def zx_new : ZFn := fun mt bd ih d j lw sl stop pc loc st cs mc ms nL ret mM sM i x1 x2 => znew mM sM cs (.inl (x1, zdf x1)) (zdf x1).length (pc + 3) loc st mc ms (fun q r c' mc' ms' => ih d j lw sl stop q loc r c' mc' ms')
noncomputable def zo_newarray_t (i : Instr) : ArrayType := match i with
  | .newarray x => x
  | _ => .int
noncomputable def zx_newarray : ZFn := fun mt bd ih d j lw sl stop pc loc st cs mc ms nL ret mM sM i x1 x2 => (fun (o_t : ArrayType) => match zat o_t, st with
    | some t', .int y :: r => bif decide (¬ y < 0 ∧ y.toNatClampNeg ≤ 100000) then zfN y.toNatClampNeg (fun n => znew mM sM cs (.inr (t', n, [])) n (pc + 2) loc r mc ms (fun q r c' mc' ms' => ih d j lw sl stop q loc r c' mc' ms')) else none
    | _, _ => none) (zo_newarray_t i)
noncomputable def zx_anewarray : ZFn := fun mt bd ih d j lw sl stop pc loc st cs mc ms nL ret mM sM i x1 x2 => match st with
    | .int y :: r => bif decide (¬ y < 0 ∧ y.toNatClampNeg ≤ 100000) then zfN y.toNatClampNeg (fun n => bif Nat.beq x1 4 then znew mM sM cs (.inr (4, n, [])) n (pc + 3) loc r mc ms (fun q r c' mc' ms' => ih d j lw sl stop q loc r c' mc' ms') else znew mM sM cs (.inr (5, n, [])) n (pc + 3) loc r mc ms (fun q r c' mc' ms' => ih d j lw sl stop q loc r c' mc' ms')) else none
    | _ => none
noncomputable def zx_ireturn : ZFn := fun mt bd ih d j lw sl stop pc loc st cs mc ms nL ret mM sM i x1 x2 => match st with
    | [v] => bif (zisI v && decide (mc ≤ mM)) && (decide (ms ≤ sM) && (match ret with
      | some .int => true
      | some .boolean => zisB v
      | _ => false)) then some (some v, cs) else none
    | _ => none
noncomputable def zx_return_ : ZFn := fun mt bd ih d j lw sl stop pc loc st cs mc ms nL ret mM sM i x1 x2 => match st with
    | [] => bif (decide (mc ≤ mM) && decide (ms ≤ sM)) && ret.isNone then some (none, cs) else none
    | _ => none
noncomputable def zx_invokevirtual : ZFn := fun mt bd ih d j lw sl stop pc loc st cs mc ms nL ret mM sM i x1 x2 => bif Nat.beq x1 0 then zcall mt ih d j lw sl stop pc loc st cs mc ms x2 0 else bif decide (4 ≤ x1) then zprim x1 pc st cs d (fun q r c' => ih d j lw sl stop q loc r c' mc ms) else none
noncomputable def zx_invokestatic : ZFn := fun mt bd ih d j lw sl stop pc loc st cs mc ms nL ret mM sM i x1 x2 => bif Nat.beq x1 8 then zordC lw d mM sM pc st cs mc ms (fun q r c' mc' ms' => ih d j lw sl stop q loc r c' mc' ms') else bif Nat.beq x1 0 then zcall mt ih d j lw sl stop pc loc st cs mc ms x2 1 else bif Nat.beq x1 2 || Nat.beq x1 3 then zprim x1 pc st cs d (fun q r c' => ih d j lw sl stop q loc r c' mc ms) else none
noncomputable def zx_invokespecial : ZFn := fun mt bd ih d j lw sl stop pc loc st cs mc ms nL ret mM sM i x1 x2 => bif Nat.beq x1 0 || Nat.beq x1 6 then zcall mt ih d j lw sl stop pc loc st cs mc ms x2 2 else bif Nat.beq x1 1 then zprim x1 pc st cs d (fun q r c' => ih d j lw sl stop q loc r c' mc ms) else none
noncomputable def zx_ldc : ZFn := fun mt bd ih d j lw sl stop pc loc st cs mc ms nL ret mM sM i x1 x2 => bif Nat.beq x1 7 && (decide (4 ≤ d) && decide (zsum st ≤ 8)) then zgo (pc + 2) loc (.ref 1000000 :: st) (fun q l r => ih d j lw sl stop q l r cs mc ms) else none
noncomputable def zx_ldc2_w : ZFn := fun mt bd ih d j lw sl stop pc loc st cs mc ms nL ret mM sM i x1 x2 => zpush (.long (lN x1)) (pc + 3) loc st (fun q l r => ih d j lw sl stop q l r cs mc ms)
/-- the number of an instruction's function -/
noncomputable def zkd (i : Instr) : Nat := match i with
  | .aload_n _ => 0
  | .iload_n _ => 1
  | .getfield _ => 2
  | .iload _ => 3
  | .iconst _ => 4
  | .iaload => 5
  | .iadd => 6
  | .goto _ => 7
  | .if_icmp _ _ => 8
  | .iinc _ _ => 9
  | .iastore => 10
  | .bipush _ => 11
  | .sipush _ => 12
  | .ifCond _ _ => 13
  | .istore_n _ => 14
  | .istore _ => 15
  | .putfield _ => 16
  | .imul => 17
  | .ireturn => 18
  | .invokevirtual _ => 19
  | .dup => 20
  | .isub => 21
  | .aload _ => 22
  | .return_ => 23
  | .iand => 24
  | .lconst _ => 25
  | .lload_n _ => 26
  | .lload _ => 27
  | .astore_n _ => 28
  | .astore _ => 29
  | .lstore_n _ => 30
  | .lstore _ => 31
  | .ior => 32
  | .ishl => 33
  | .ishr => 34
  | .irem => 35
  | .idiv => 36
  | .ladd => 37
  | .lsub => 38
  | .lmul => 39
  | .lor => 40
  | .lxor => 41
  | .land => 42
  | .lshl => 43
  | .lshr => 44
  | .lushr => 45
  | .lcmp => 46
  | .i2l => 47
  | .l2i => 48
  | .dup2 => 49
  | .pop => 50
  | .ifnonnull _ => 51
  | .tableswitch _ _ _ _ => 52
  | .laload => 53
  | .baload => 54
  | .aaload => 55
  | .arraylength => 56
  | .lastore => 57
  | .bastore => 58
  | .aastore => 59
  | .new _ => 60
  | .newarray _ => 61
  | .anewarray _ => 62
  | .invokestatic _ => 63
  | .invokespecial _ => 64
  | .ldc _ => 65
  | .ldc2_w _ => 66
  | _ => 999
noncomputable def zfns : List ZFn := [zx_aload_n, zx_iload_n, zx_getfield, zx_iload, zx_iconst, zx_iaload, zx_iadd, zx_goto, zx_if_icmp, zx_iinc, zx_iastore, zx_bipush, zx_sipush, zx_ifCond, zx_istore_n, zx_istore, zx_putfield, zx_imul, zx_ireturn, zx_invokevirtual, zx_dup, zx_isub, zx_aload, zx_return_, zx_iand, zx_lconst, zx_lload_n, zx_lload, zx_astore_n, zx_astore, zx_lstore_n, zx_lstore, zx_ior, zx_ishl, zx_ishr, zx_irem, zx_idiv, zx_ladd, zx_lsub, zx_lmul, zx_lor, zx_lxor, zx_land, zx_lshl, zx_lshr, zx_lushr, zx_lcmp, zx_i2l, zx_l2i, zx_dup2, zx_pop, zx_ifnonnull, zx_tableswitch, zx_laload, zx_baload, zx_aaload, zx_arraylength, zx_lastore, zx_bastore, zx_aastore, zx_new, zx_newarray, zx_anewarray, zx_invokestatic, zx_invokespecial, zx_ldc, zx_ldc2_w]
noncomputable def zins2 : ZFn := fun mt bd ih d j lw sl stop pc loc st cs mc ms nL ret mM sM i x1 x2 => match zn zfns (zkd i) with
  | some f => f mt bd ih d j lw sl stop pc loc st cs mc ms nL ret mM sM i x1 x2
  | none => none
set_option maxHeartbeats 4000000 in
theorem zins2_eq (mt : Nat → ZMI) (bd : Nat → Int × Int) (ih : ZF) (d j : Nat) (lw : Bool) (sl : ZL) (stop pc : Nat) (loc : ZL) (st : List Value) (cs : List ZC) (mc ms nL : Nat) (ret : Option FieldType) (mM sM : Nat) (i : Instr) (x1 x2 : Nat) : zins2 mt bd ih d j lw sl stop pc loc st cs mc ms nL ret mM sM i x1 x2 = zins mt bd ih d j lw sl stop pc loc st cs mc ms nL ret mM sM i x1 x2 := by
  cases i <;> rfl
/-- one step -/
noncomputable def zstep (mt : Nat → ZMI) (bd : Nat → Int × Int) (ih : ZF) : ZF := fun d j lw sl stop pc loc st cs mc ms =>
  bif lw && Nat.beq pc stop then (match st with
    | [] => bif zeqL loc sl && (decide (mc ≤ 1000) && decide (ms ≤ 200000)) then some (none, cs) else none
    | _ => none)
  else match mt j with
  | (_, _, nL, ret, _, mM, sM, _, _, E) => match zfind E pc with
    | none => none
    | some (i, _, x1, x2) => zins2 mt bd ih d j lw sl stop pc loc st cs mc ms nL ret mM sM i x1 x2
theorem zstep_ok {mt : Nat → ZMI} {bd : Nat → Int × Int} {ih : ZF} {d j : Nat} {lw : Bool} {sl : ZL} {stop pc : Nat} {loc : ZL} {st : List Value} {cs : List ZC} {mc ms : Nat} {o : Option Value × List ZC} (h : zstep mt bd ih d j lw sl stop pc loc st cs mc ms = some o) :
    (lw = true ∧ pc = stop ∧ st = [] ∧ loc = sl ∧ o = (none, cs) ∧ mc ≤ 1000 ∧ ms ≤ 200000) ∨ ∃ (i : Instr) (L x1 x2 : Nat), zfind (mt j).2.2.2.2.2.2.2.2.2 pc = some (i, L, x1, x2) ∧ zins mt bd ih d j lw sl stop pc loc st cs mc ms (mt j).2.2.1 (mt j).2.2.2.1 (mt j).2.2.2.2.2.1 (mt j).2.2.2.2.2.2.1 i x1 x2 = some o := by
  unfold zstep at h
  cases hb : (lw && Nat.beq pc stop) with
  | true =>
    rw [hb, cond_true] at h
    rw [Bool.and_eq_true] at hb
    refine Or.inl ?_
    split at h
    · have h2 : (zeqL loc sl && (decide (mc ≤ 1000) && decide (ms ≤ 200000))) = true ∧ (some (none, cs) : ZO) = some o := by
        cases hq : (zeqL loc sl && (decide (mc ≤ 1000) && decide (ms ≤ 200000))) with
        | false => rw [hq] at h; cases h
        | true => rw [hq] at h; exact ⟨rfl, h⟩
      simp only [Bool.and_eq_true, decide_eq_true_eq] at h2
      exact ⟨hb.1, Nat.eq_of_beq_eq_true hb.2, rfl, zeqL_ok _ _ h2.1.1, (Option.some.inj h2.2).symm, h2.1.2.1, h2.1.2.2⟩
    · cases h
  | false =>
    rw [hb, cond_false] at h
    refine Or.inr ?_
    have h2 : (match zfind (mt j).2.2.2.2.2.2.2.2.2 pc with
      | none => none
      | some (i, _, x1, x2) => zins2 mt bd ih d j lw sl stop pc loc st cs mc ms (mt j).2.2.1 (mt j).2.2.2.1 (mt j).2.2.2.2.2.1 (mt j).2.2.2.2.2.2.1 i x1 x2) = some o := h
    cases hz : zfind (mt j).2.2.2.2.2.2.2.2.2 pc with
    | none => rw [hz] at h2; cases h2
    | some q =>
      obtain ⟨i, L, x1, x2⟩ := q
      rw [hz] at h2
      dsimp only at h2
      rw [zins2_eq] at h2
      exact ⟨i, L, x1, x2, rfl, h2⟩
noncomputable def zrun (mt : Nat → ZMI) (bd : Nat → Int × Int) (n : Nat) : ZF := Nat.rec (motive := fun _ => ZF) (fun _ _ _ _ _ _ _ _ _ _ _ => none) (fun _ ih => zstep mt bd ih) n
theorem zrun_succ (mt : Nat → ZMI) (bd : Nat → Int × Int) (n : Nat) : zrun mt bd (n + 1) = zstep mt bd (zrun mt bd n) := rfl
end ZRUN
