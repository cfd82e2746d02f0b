/-! instructions that read and write cells -/
section ZHD
noncomputable def zd (t : Nat) : Value := match t with
  | 1 => .long 0
  | 4 => .null
  | 5 => .null
  | _ => .int 0
noncomputable def zin (y : Int32) (n : Nat) : Bool := decide (¬ (y < 0 ∨ n ≤ y.toNatClampNeg))
noncomputable def zald (t : Nat) (ok : Value → Bool) (cs : List ZC) (a : Nat) (y : Int32) (pc : Nat) (loc : ZL) (r : List Value) (k : ZK) : ZO := match zn cs a with
  | some (.inr (t', n, u)) => bif Nat.beq t' t && zin y n then zfV (zl (zd t) u y.toNatClampNeg) (fun v => bif ok v then zgo pc loc (v :: r) k else none) else none
  | _ => none
theorem zald_ok {t : Nat} {ok : Value → Bool} {cs : List ZC} {a : Nat} {y : Int32} {pc : Nat} {loc : ZL} {r : List Value} {k : ZK} {o : Option Value × List ZC} (h : zald t ok cs a y pc loc r k = some o) :
    ∃ (n : Nat) (u : List (Nat × Value)), zn cs a = some (.inr (t, n, u)) ∧ vp_in y n ∧ ok (zl (zd t) u y.toNatClampNeg) = true ∧ k pc loc (zl (zd t) u y.toNatClampNeg :: r) = some o := by
  unfold zald at h
  split at h
  · rename_i t' n u hz
    obtain ⟨h1, h2⟩ := zbif h
    rw [Bool.and_eq_true] at h1
    rw [zfV_eq] at h2
    obtain ⟨h3, h4⟩ := zbif h2
    rw [zgo_eq] at h4
    have e := Nat.eq_of_beq_eq_true h1.1
    subst e
    exact ⟨n, u, hz, (show ¬ (y < 0 ∨ n ≤ y.toNatClampNeg) from of_decide_eq_true h1.2), h3, h4⟩
  · cases h
/-- an int of the script: a number where it is known, else by its name -/
noncomputable def zsc (bd : Nat → Int × Int) (y : Nat) : Value := bif decide ((bd y).1 = (bd y).2) then .int (Int32.ofInt (bd y).1) else .retAddr y
theorem zsc_ok {bd : Nat → Int × Int} {rh : Nat → Int32} (hE : zEnv bd rh) (ad : Nat → Nat) (y : Nat) : zc rh ad (zsc bd y) = .int (rh y) := by
  unfold zsc
  by_cases h : (bd y).1 = (bd y).2
  · rw [decide_eq_true h]
    have h1 := hE y
    show Value.int (Int32.ofInt (bd y).1) = _
    rw [show (bd y).1 = (rh y).toInt by omega, Int32.ofInt_toInt]
  · rw [decide_eq_false h]
    rfl
/-- may the script be read? -/
noncomputable def zlw (bd : Nat → Int × Int) (lw : Bool) : Bool := lw && decide ((bd 20).1 = 1)
/-- reading -/
noncomputable def zhr (bd : Nat → Int × Int) (lw : Bool) (cs : List ZC) (i : Instr) (x : Nat × Nat) (pc : Nat) (loc : ZL) (st : List Value) (k : ZK) : ZO := match i with
  | .getfield _ => match st with
    | .ref a :: r => match zn cs a with
      | some (.inl (ci, fs)) => bif Nat.beq ci x.1 then (match zn fs x.2 with
        | some v => zgo (pc + 3) loc (v :: r) k
        | none => none) else none
      | _ => none
    | _ => none
  | .iaload => match st with
    | .int y :: .ref a :: r => bif zlw bd lw && Nat.beq a 1000001 then (bif zin y 7 then zpush (zsc bd y.toNatClampNeg) (pc + 1) loc r k else none) else zald 0 zisI cs a y (pc + 1) loc r k
    | _ => none
  | .laload => match st with
    | .int y :: .ref a :: r => zald 1 zisJ cs a y (pc + 1) loc r k
    | _ => none
  | .baload => match st with
    | .int y :: .ref a :: r => zald 2 zisI cs a y (pc + 1) loc r k
    | _ => none
  | .aaload => match st with
    | .int y :: .ref a :: r => bif Nat.beq x.1 4 then zald 4 zisA cs a y (pc + 1) loc r k else zald 5 zisA cs a y (pc + 1) loc r k
    | _ => none
  | .arraylength => match st with
    | .ref a :: r => bif zlw bd lw && Nat.beq a 1000001 then zpush (.int 7) (pc + 1) loc r k else (match zn cs a with
      | some (.inr (t, n, _)) => bif decide (t < 6) then zpush (.int (Int32.ofNat n)) (pc + 1) loc r k else none
      | _ => none)
    | _ => none
  | _ => none
noncomputable def zf0 (l : List (Nat × Value)) (k : List (Nat × Value) → ZO) : ZO := match l with
  | [] => k []
  | (p, v) :: r => zfN p (fun q => k ((q, v) :: r))
theorem zf0_eq (l : List (Nat × Value)) (k : List (Nat × Value) → ZO) : zf0 l k = k l := by
  cases l with
  | nil => rfl
  | cons q r =>
    obtain ⟨p, v⟩ := q
    exact zfN_eq p (fun q => k ((q, v) :: r))
abbrev ZKW : Type := Nat → List Value → List ZC → ZO
noncomputable def zput (cs : List ZC) (a : Nat) (q : ZC) (pc : Nat) (r : List Value) (k : ZKW) : ZO := zfset cs q a (fun cs' => zfN pc (fun j => k j r cs'))
theorem zput_eq (cs : List ZC) (a : Nat) (q : ZC) (pc : Nat) (r : List Value) (k : ZKW) : zput cs a q pc r k = k pc r (cs.set a q) := by simp only [zput, zfset_eq, zfN_eq]
noncomputable def zast (t : Nat) (ok : Value → Bool) (cs : List ZC) (a : Nat) (y : Int32) (v : Value) (pc : Nat) (r : List Value) (k : ZKW) : ZO := match zn cs a with
  | some (.inr (t', n, u)) => bif Nat.beq t' t && (zin y n && (ok v && Nat.blt y.toNatClampNeg 1000000000)) then zfN y.toNatClampNeg (fun j => zf0 (zpu (zd t) u j v) (fun u' => zput cs a (.inr (t, n, u')) pc r k)) else none
  | _ => none
theorem zast_ok {t : Nat} {ok : Value → Bool} {cs : List ZC} {a : Nat} {y : Int32} {v : Value} {pc : Nat} {r : List Value} {k : ZKW} {o : Option Value × List ZC} (h : zast t ok cs a y v pc r k = some o) :
    ∃ (n : Nat) (u : List (Nat × Value)), zn cs a = some (.inr (t, n, u)) ∧ vp_in y n ∧ ok v = true ∧ k pc r (cs.set a (.inr (t, n, zpu (zd t) u y.toNatClampNeg v))) = some o ∧ y.toNatClampNeg < 1000000000 := by
  unfold zast at h
  split at h
  · rename_i t' n u hz
    obtain ⟨h1, h2⟩ := zbif h
    rw [Bool.and_eq_true, Bool.and_eq_true, Bool.and_eq_true] at h1
    rw [zfN_eq, zf0_eq, zput_eq] at h2
    have e := Nat.eq_of_beq_eq_true h1.1
    subst e
    exact ⟨n, u, hz, (show ¬ (y < 0 ∨ n ≤ y.toNatClampNeg) from of_decide_eq_true h1.2.1), h1.2.2.1, h2, Nat.le_of_ble_eq_true h1.2.2.2⟩
  · cases h
noncomputable def zisB : Value → Bool
  | .int x => decide (x = 0 ∨ x = 1)
  | _ => false
/-- the cell b is an object of the class ci -/
noncomputable def zisO (cs : List ZC) (ci : Nat) : Value → Bool
  | .ref b => match zn cs b with
    | some (.inl (cj, _)) => Nat.beq cj ci
    | _ => false
  | _ => false
/-- writing -/
noncomputable def zhw (cs : List ZC) (i : Instr) (x : Nat × Nat) (pc : Nat) (st : List Value) (k : ZKW) : ZO := match i with
  | .putfield _ => match st with
    | v :: .ref a :: r => match zn cs a with
      | some (.inl (ci, fs)) => bif Nat.beq ci x.1 && (decide (x.2 < fs.length) && zfit (ztf ci x.2) v) then zfset fs v x.2 (fun g => zput cs a (.inl (ci, g)) (pc + 3) r k) else none
      | _ => none
    | _ => none
  | .iastore => match st with
    | v :: .int y :: .ref a :: r => zast 0 zisI cs a y v (pc + 1) r k
    | _ => none
  | .lastore => match st with
    | v :: .int y :: .ref a :: r => zast 1 zisJ cs a y v (pc + 1) r k
    | _ => none
  | .bastore => match st with
    | v :: .int y :: .ref a :: r => zast 2 zisB cs a y v (pc + 1) r k
    | _ => none
  | .aastore => match st with
    | v :: .int y :: .ref a :: r => bif Nat.beq x.1 4 then zast 4 (zisO cs 2) cs a y v (pc + 1) r k else zast 5 (zisO cs 5) cs a y v (pc + 1) r k
    | _ => none
  | _ => none
/-- a new object's fields -/
noncomputable def zdf (ci : Nat) : List Value := match ci with
  | 0 => [.int 0, .null, .null, .null]
  | 1 => [.null, .int 0, .int 0, .int 0, .int 0, .int 0, .long 0, .null, .null, .null, .null, .null]
  | 2 => [.null, .null, .null, .int 0, .null, .int 0, .int 0, .null, .int 0, .null, .int 0, .null, .null, .null, .int 0, .int 0]
  | 3 => [.null, .int 0, .null, .int 0, .int 0]
  | 4 => [.null, .int 0, .int 0, .null, .null, .null, .null, .null, .int 0]
  | 5 => [.null, .null, .null, .null, .null, .null, .int 0, .int 0, .int 0, .int 0, .int 0, .int 0, .int 0, .int 0, .int 0]
  | 6 => [.null, .null, .null, .null, .null, .int 0, .int 0, .int 0]
  | 7 => [.null, .null, .int 0, .long 0]
  | 8 => [.null, .null, .null, .null, .null, .null, .null, .int 0, .null, .null, .null, .null, .null, .int 0, .int 0, .int 0, .int 0, .int 0]
  | 9 => [.int 0, .null, .null, .null, .null, .int 0, .int 0, .int 0, .int 0, .int 0, .int 0, .int 0, .int 0, .int 0, .null, .null]
  | 10 => [.null, .null, .int 0, .int 0, .int 0, .int 0, .int 0, .int 0, .int 0, .long 0]
  | 11 => [.null, .null, .null, .null, .null, .null, .null, .null, .int 0, .int 0, .null, .null, .null, .null, .null, .null, .null, .null, .int 0]
  | _ => [.int 0, .null, .int 0, .int 0, .null, .null, .null, .int 0, .int 0, .null, .null, .null, .null, .int 0, .null, .null, .int 0, .null, .null, .null, .null, .null, .null, .int 0, .null, .int 0, .int 0, .null, .null, .null, .null, .null, .null, .null, .null, .int 0, .int 0, .int 0, .int 0, .int 0, .null, .int 0, .null, .null, .int 0, .int 0, .null, .null, .int 0, .int 0, .int 0, .int 0, .null, .null, .int 0, .long 0]
/-- the tag of a row of numbers -/
noncomputable def zat (t : ArrayType) : Option Nat := match t with
  | .int => some 0
  | .long => some 1
  | .boolean => some 2
  | .byte => some 3
  | _ => none
abbrev ZKN : Type := Nat → List Value → List ZC → Nat → Nat → ZO
noncomputable def znew (mM sM : Nat) (cs : List ZC) (q : ZC) (N pc : Nat) (loc : ZL) (r : List Value) (mc ms : Nat) (k : ZKN) : ZO :=
  zfN (zln cs) (fun n => bif (zwS' n r && zwL' n loc) && (zwC' n cs && (decide (n < 1000000) && (decide (mc + 1 ≤ mM) && decide (ms + N ≤ sM)))) then zfS (cs ++ [q]) (fun cs' => zfN pc (fun j => zfN (mc + 1) (fun mc' => zfN (ms + N) (fun ms' => k j (.ref n :: r) cs' mc' ms')))) else none)
theorem znew_ok {mM sM : Nat} {cs : List ZC} {q : ZC} {N pc : Nat} {loc : ZL} {r : List Value} {mc ms : Nat} {k : ZKN} {o : Option Value × List ZC} (h : znew mM sM cs q N pc loc r mc ms k = some o) :
    zwS cs.length r = true ∧ zwL cs.length loc = true ∧ zwC cs.length cs = true ∧ cs.length < 1000000 ∧ mc + 1 ≤ mM ∧ ms + N ≤ sM ∧ k pc (.ref cs.length :: r) (cs ++ [q]) (mc + 1) (ms + N) = some o := by
  unfold znew at h
  rw [zfN_eq, zln_eq, zwS'_eq, zwL'_eq, zwC'_eq] at h
  obtain ⟨h1, h2⟩ := zbif h
  simp only [zfS_eq, zfN_eq] at h2
  simp only [Bool.and_eq_true, decide_eq_true_eq] at h1
  exact ⟨h1.1.1, h1.1.2, h1.2.1, h1.2.2.1, h1.2.2.2.1, h1.2.2.2.2, h2⟩
/-- making -/
noncomputable def zhn (mM sM : Nat) (cs : List ZC) (i : Instr) (x : Nat × Nat) (pc : Nat) (loc : ZL) (st : List Value) (mc ms : Nat) (k : ZKN) : ZO := match i with
  | .new _ => znew mM sM cs (.inl (x.1, zdf x.1)) (zdf x.1).length (pc + 3) loc st mc ms k
  | .newarray t => match zat t, st with
    | some t', .int y :: r => bif decide (¬ y < 0 ∧ y.toNatClampNeg ≤ 100000) then zfN y.toNatClampNeg (fun n => znew mM sM cs (.inr (t', n, [])) n (pc + 2) loc r mc ms k) else none
    | _, _ => none
  | .anewarray _ => match st with
    | .int y :: r => bif decide (¬ y < 0 ∧ y.toNatClampNeg ≤ 100000) then zfN y.toNatClampNeg (fun n => bif Nat.beq x.1 4 then znew mM sM cs (.inr (4, n, [])) n (pc + 3) loc r mc ms k else znew mM sM cs (.inr (5, n, [])) n (pc + 3) loc r mc ms k) else none
    | _ => none
  | _ => none
end ZHD
