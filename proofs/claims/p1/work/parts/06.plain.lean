/-! instructions that change the frame alone -/
section ZP
abbrev ZK : Type := Nat → ZL → List Value → ZO
noncomputable def zpush (v : Value) (pc : Nat) (loc : ZL) (st : List Value) (k : ZK) : ZO := zfV v (fun w => zfN pc (fun q => k q loc (w :: st)))
theorem zpush_eq (v : Value) (pc : Nat) (loc : ZL) (st : List Value) (k : ZK) : zpush v pc loc st k = k pc loc (v :: st) := by simp only [zpush, zfV_eq, zfN_eq]
noncomputable def zgo (pc : Nat) (loc : ZL) (st : List Value) (k : ZK) : ZO := zfN pc (fun q => k q loc st)
theorem zgo_eq (pc : Nat) (loc : ZL) (st : List Value) (k : ZK) : zgo pc loc st k = k pc loc st := by simp only [zgo, zfN_eq]
noncomputable def zjump (pc : Nat) (off : Int) (loc : ZL) (st : List Value) (k : ZK) : ZO := zfN ((pc : Int) + off).toNat (fun q => bif decide ((pc : Int) + off = (q : Int)) then k q loc st else none)
theorem zjump_ok {pc : Nat} {off : Int} {loc : ZL} {st : List Value} {k : ZK} {o : Option Value × List ZC} (h : zjump pc off loc st k = some o) : ∃ q : Nat, (pc : Int) + off = (q : Int) ∧ k q loc st = some o := by
  simp only [zjump, zfN_eq] at h
  refine ⟨((pc : Int) + off).toNat, ?_⟩
  by_cases e : (pc : Int) + off = ((((pc : Int) + off).toNat : Nat) : Int)
  · rw [decide_eq_true e] at h
    exact ⟨e, h⟩
  · rw [decide_eq_false e] at h
    cases h
noncomputable def zisI : Value → Bool
  | .int _ => true
  | .retAddr _ => true
  | _ => false
noncomputable def zisA : Value → Bool
  | .ref _ => true
  | .null => true
  | _ => false
noncomputable def zisJ : Value → Bool
  | .long _ => true
  | _ => false
theorem zisI_ok {rh : Nat → Int32} {ad : Nat → Nat} {v : Value} (h : zisI v = true) : ∃ x : Int32, zc rh ad v = .int x := by cases v <;> first | exact ⟨_, rfl⟩ | (cases h; done)
theorem zisJ_ok {rh : Nat → Int32} {ad : Nat → Nat} {v : Value} (h : zisJ v = true) : ∃ x : Int64, zc rh ad v = .long x := by cases v <;> first | exact ⟨_, rfl⟩ | (cases h; done)
theorem zisA_ok {rh : Nat → Int32} {ad : Nat → Nat} {v : Value} (h : zisA v = true) : zc rh ad v = .null ∨ ∃ x : Nat, zc rh ad v = .ref x := by cases v <;> first | exact Or.inl rfl | exact Or.inr ⟨_, rfl⟩ | (cases h; done)
noncomputable def zload (t : Value → Bool) (j pc : Nat) (loc : ZL) (st : List Value) (k : ZK) : ZO := match zlk loc j with
  | some v => bif t v then zgo pc loc (v :: st) k else none
  | none => none
theorem zload_ok {t : Value → Bool} {j pc : Nat} {loc : ZL} {st : List Value} {k : ZK} {o : Option Value × List ZC} (h : zload t j pc loc st k = some o) : ∃ v : Value, zlk loc j = some v ∧ t v = true ∧ k pc loc (v :: st) = some o := by
  unfold zload at h
  cases e : zlk loc j with
  | none => rw [e] at h; cases h
  | some v =>
    rw [e] at h
    dsimp only at h
    cases ht : t v with
    | false => rw [ht] at h; cases h
    | true => rw [ht, cond_true, zgo_eq] at h; exact ⟨v, rfl, ht, h⟩
noncomputable def zstore1 (t : Value → Bool) (nL j pc : Nat) (loc : ZL) (st : List Value) (k : ZK) : ZO := match st with
  | v :: r => bif t v && decide (j < nL) then zff1 j loc (fun l => zgo pc ((j, v) :: l) r k) else none
  | [] => none
theorem zstore1_ok {t : Value → Bool} {nL j pc : Nat} {loc : ZL} {st : List Value} {k : ZK} {o : Option Value × List ZC} (h : zstore1 t nL j pc loc st k = some o) : ∃ (v : Value) (r : List Value), st = v :: r ∧ t v = true ∧ j < nL ∧ k pc ((j, v) :: zf1 j loc) r = some o := by
  cases st with
  | nil => cases h
  | cons v r =>
    simp only [zstore1] at h
    cases ht : (t v && decide (j < nL)) with
    | false => rw [ht] at h; cases h
    | true =>
      rw [ht, cond_true, zff1_eq, zgo_eq] at h
      rw [Bool.and_eq_true, decide_eq_true_eq] at ht
      exact ⟨v, r, rfl, ht.1, ht.2, h⟩
noncomputable def zstore2 (nL j pc : Nat) (loc : ZL) (st : List Value) (k : ZK) : ZO := match st with
  | v :: r => bif zisJ v && decide (j + 1 < nL) then zff2 j loc (fun l => zgo pc ((j, v) :: l) r k) else none
  | [] => none
theorem zstore2_ok {nL j pc : Nat} {loc : ZL} {st : List Value} {k : ZK} {o : Option Value × List ZC} (h : zstore2 nL j pc loc st k = some o) : ∃ (v : Value) (r : List Value), st = v :: r ∧ zisJ v = true ∧ j + 1 < nL ∧ k pc ((j, v) :: zf2 j loc) r = some o := by
  cases st with
  | nil => cases h
  | cons v r =>
    simp only [zstore2] at h
    cases ht : (zisJ v && decide (j + 1 < nL)) with
    | false => rw [ht] at h; cases h
    | true =>
      rw [ht, cond_true, zff2_eq, zgo_eq] at h
      rw [Bool.and_eq_true, decide_eq_true_eq] at ht
      exact ⟨v, r, rfl, ht.1, ht.2, h⟩
noncomputable def zbinI (f : Int32 → Int32 → Int32) (pc : Nat) (loc : ZL) (st : List Value) (k : ZK) : ZO := match st with
  | .int y :: .int x :: r => zpush (.int (f x y)) pc loc r k
  | _ => none
theorem zbinI_ok {f : Int32 → Int32 → Int32} {pc : Nat} {loc : ZL} {st : List Value} {k : ZK} {o : Option Value × List ZC} (h : zbinI f pc loc st k = some o) : ∃ (x y : Int32) (r : List Value), st = .int y :: .int x :: r ∧ k pc loc (.int (f x y) :: r) = some o := by
  unfold zbinI at h
  split at h
  · rw [zpush_eq] at h; exact ⟨_, _, _, rfl, h⟩
  · cases h
noncomputable def zbinJ (f : Int64 → Int64 → Int64) (pc : Nat) (loc : ZL) (st : List Value) (k : ZK) : ZO := match st with
  | .long y :: .long x :: r => zpush (.long (f x y)) pc loc r k
  | _ => none
theorem zbinJ_ok {f : Int64 → Int64 → Int64} {pc : Nat} {loc : ZL} {st : List Value} {k : ZK} {o : Option Value × List ZC} (h : zbinJ f pc loc st k = some o) : ∃ (x y : Int64) (r : List Value), st = .long y :: .long x :: r ∧ k pc loc (.long (f x y) :: r) = some o := by
  unfold zbinJ at h
  split at h
  · rw [zpush_eq] at h; exact ⟨_, _, _, rfl, h⟩
  · cases h
noncomputable def zshJ (f : Int64 → Int32 → Int64) (pc : Nat) (loc : ZL) (st : List Value) (k : ZK) : ZO := match st with
  | .int y :: .long x :: r => zpush (.long (f x y)) pc loc r k
  | _ => none
theorem zshJ_ok {f : Int64 → Int32 → Int64} {pc : Nat} {loc : ZL} {st : List Value} {k : ZK} {o : Option Value × List ZC} (h : zshJ f pc loc st k = some o) : ∃ (x : Int64) (y : Int32) (r : List Value), st = .int y :: .long x :: r ∧ k pc loc (.long (f x y) :: r) = some o := by
  unfold zshJ at h
  split at h
  · rw [zpush_eq] at h; exact ⟨_, _, _, rfl, h⟩
  · cases h
/-- a branch: is it op a b (or not, if ng)? then by off, else behind -/
noncomputable def zif (bd : Nat → Int × Int) (op : Nat) (ng : Bool) (a b : Value) (pc : Nat) (off : Int) (loc : ZL) (r : List Value) (k : ZK) : ZO := match zcmp bd op a b with
  | some t => bif xor t ng then zjump pc off loc r k else bif decide (0 ≤ (pc : Int) + off) then zgo (pc + 3) loc r k else none
  | none => none
theorem zif_ok {bd : Nat → Int × Int} {rh : Nat → Int32} (hE : zEnv bd rh) (ad : Nat → Nat) {op : Nat} {ng : Bool} {a b : Value} {pc : Nat} {off : Int} {loc : ZL} {r : List Value} {k : ZK} {o : Option Value × List ZC} (h : zif bd op ng a b pc off loc r k = some o) :
    ∃ (x y : Int32) (q : Nat), zc rh ad a = .int x ∧ zc rh ad b = .int y ∧ (pc : Int) + off = (q : Int) ∧ ((k q loc r = some o ∧ (ng = false → zqP op x y) ∧ (ng = true → ¬ zqP op x y)) ∨ (k (pc + 3) loc r = some o ∧ (ng = false → ¬ zqP op x y) ∧ (ng = true → zqP op x y))) := by
  unfold zif at h
  cases e : zcmp bd op a b with
  | none => rw [e] at h; cases h
  | some t =>
    rw [e] at h
    dsimp only at h
    obtain ⟨x, y, h1, h2, h3, h4⟩ := zcmp_ok (ad := ad) hE e
    have out : ∀ {k' : ZO}, (bif decide (0 ≤ (pc : Int) + off) then k' else none) = some o → (pc : Int) + off = ((((pc : Int) + off).toNat : Nat) : Int) ∧ k' = some o := by
      intro k' hk
      by_cases e0 : 0 ≤ (pc : Int) + off
      · rw [decide_eq_true e0] at hk
        exact ⟨(Int.toNat_of_nonneg e0).symm, hk⟩
      · rw [decide_eq_false e0] at hk
        cases hk
    cases t <;> cases ng
    · rw [show (false ^^ false) = false from rfl, cond_false, zgo_eq] at h
      obtain ⟨g1, g2⟩ := out h
      exact ⟨x, y, _, h1, h2, g1, Or.inr ⟨g2, fun _ => h4 rfl, fun z => by cases z⟩⟩
    · rw [show (false ^^ true) = true from rfl, cond_true] at h
      obtain ⟨q, g1, g2⟩ := zjump_ok h
      exact ⟨x, y, q, h1, h2, g1, Or.inl ⟨g2, (fun z => by cases z), fun _ => h4 rfl⟩⟩
    · rw [show (true ^^ false) = true from rfl, cond_true] at h
      obtain ⟨q, g1, g2⟩ := zjump_ok h
      exact ⟨x, y, q, h1, h2, g1, Or.inl ⟨g2, fun _ => h3 rfl, (fun z => by cases z)⟩⟩
    · rw [show (true ^^ true) = false from rfl, cond_false, zgo_eq] at h
      obtain ⟨g1, g2⟩ := out h
      exact ⟨x, y, _, h1, h2, g1, Or.inr ⟨g2, (fun z => by cases z), fun _ => h3 rfl⟩⟩
noncomputable def zsw (bd : Nat → Int × Int) (d lo hi : Int) (offs : Array Int) (pc : Nat) (loc : ZL) (st : List Value) (k : ZK) : ZO := match st with
  | v :: r => match zb bd v with
    | some q => bif decide (q.2 < lo ∨ hi < q.1) then zjump pc d loc r k else bif decide (q.1 = q.2 ∧ lo ≤ q.1 ∧ q.1 ≤ hi) then (match zn offs.toList (q.1 - lo).toNat with
      | some off => zjump pc off loc r k
      | none => none) else none
    | none => none
  | [] => none
/-- the length of an instruction -/
noncomputable def zlen (i : Instr) (L : Nat) : Nat := match i with
  | .tableswitch _ _ _ _ => L
  | .bipush _ => 2
  | .iload _ => 2
  | .aload _ => 2
  | .lload _ => 2
  | .istore _ => 2
  | .astore _ => 2
  | .lstore _ => 2
  | .ldc _ => 2
  | .newarray _ => 2
  | .sipush _ => 3
  | .iinc _ _ => 3
  | .goto _ => 3
  | .ifCond _ _ => 3
  | .if_icmp _ _ => 3
  | .ifnonnull _ => 3
  | .ifnull _ => 3
  | .getfield _ => 3
  | .putfield _ => 3
  | .new _ => 3
  | .anewarray _ => 3
  | .invokevirtual _ => 3
  | .invokespecial _ => 3
  | .invokestatic _ => 3
  | .ldc2_w _ => 3
  | _ => 1
/-- the instructions that change the frame alone -/
noncomputable def zp (bd : Nat → Int × Int) (nL : Nat) (i : Instr) (pc : Nat) (loc : ZL) (st : List Value) (k : ZK) : ZO := match i with
  | .iconst n => zpush (.int (Int32.ofInt n)) (pc + 1) loc st k
  | .bipush n => zpush (.int (Int8.ofInt n).toInt32) (pc + 2) loc st k
  | .sipush n => zpush (.int (Int16.ofInt n).toInt32) (pc + 3) loc st k
  | .lconst n => zpush (.long (Int64.ofNat (n : Nat))) (pc + 1) loc st k
  | .iload_n j => zload zisI j (pc + 1) loc st k
  | .iload j => zload zisI j (pc + 2) loc st k
  | .aload_n j => zload zisA j (pc + 1) loc st k
  | .aload j => zload zisA j (pc + 2) loc st k
  | .lload_n j => zload zisJ j (pc + 1) loc st k
  | .lload j => zload zisJ j (pc + 2) loc st k
  | .istore_n j => zstore1 zisI nL j (pc + 1) loc st k
  | .istore j => zstore1 zisI nL j (pc + 2) loc st k
  | .astore_n j => zstore1 zisA nL j (pc + 1) loc st k
  | .astore j => zstore1 zisA nL j (pc + 2) loc st k
  | .lstore_n j => zstore2 nL j (pc + 1) loc st k
  | .lstore j => zstore2 nL j (pc + 2) loc st k
  | .iinc j n => match zlk loc j with
    | some (.int x) => bif decide (j < nL) then zfI (x + Int32.ofInt n) (fun y => zff1 j loc (fun l => zgo (pc + 3) ((j, .int y) :: l) st k)) else none
    | _ => none
  | .iadd => zbinI (fun x y => x + y) (pc + 1) loc st k
  | .imul => zbinI (fun x y => x * y) (pc + 1) loc st k
  | .ior => zbinI (fun x y => x ||| y) (pc + 1) loc st k
  | .ishl => zbinI (fun x y => x <<< (y &&& 31)) (pc + 1) loc st k
  | .ishr => zbinI (fun x y => x >>> (y &&& 31)) (pc + 1) loc st k
  | .isub => match st with
    | .retAddr j :: .int x :: r => bif decide (x = 100 ∧ j < 8) then zpush (.retAddr (j + 8)) (pc + 1) loc r k else none
    | st => zbinI (fun x y => x - y) (pc + 1) loc st k
  | .iand => match st with
    | .int x :: .retAddr j :: r => bif decide (x = 63 ∧ j = 0) then zpush (.retAddr 7) (pc + 1) loc r k else none
    | st => zbinI (fun x y => x &&& y) (pc + 1) loc st k
  | .irem => match st with
    | .int y :: .int x :: r => bif decide (¬ y = 0) then zpush (.int (x - x / y * y)) (pc + 1) loc r k else none
    | _ => none
  | .idiv => match st with
    | .int y :: .int x :: r => bif decide (¬ y = 0) then zpush (.int (x / y)) (pc + 1) loc r k else none
    | _ => none
  | .ladd => zbinJ (fun x y => x + y) (pc + 1) loc st k
  | .lsub => zbinJ (fun x y => x - y) (pc + 1) loc st k
  | .lmul => zbinJ (fun x y => x * y) (pc + 1) loc st k
  | .lor => zbinJ (fun x y => x ||| y) (pc + 1) loc st k
  | .lxor => zbinJ (fun x y => x ^^^ y) (pc + 1) loc st k
  | .land => zbinJ (fun x y => x &&& y) (pc + 1) loc st k
  | .lshl => zshJ (fun x y => x <<< (y.toInt64 &&& 63)) (pc + 1) loc st k
  | .lshr => zshJ (fun x y => x >>> (y.toInt64 &&& 63)) (pc + 1) loc st k
  | .lushr => zshJ (fun x y => (x.toUInt64 >>> (y.toInt64.toUInt64 &&& Int64.toUInt64 63)).toInt64) (pc + 1) loc st k
  | .lcmp => match st with
    | .long y :: .long x :: r => zpush (.int (lg_cmp x y)) (pc + 1) loc r k
    | _ => none
  | .i2l => match st with
    | .int x :: r => zpush (.long x.toInt64) (pc + 1) loc r k
    | _ => none
  | .l2i => match st with
    | .long x :: r => zpush (.int x.toInt32) (pc + 1) loc r k
    | _ => none
  | .dup => match st with
    | v :: r => bif decide (v.category = 1) then zgo (pc + 1) loc (v :: v :: r) k else none
    | _ => none
  | .dup2 => match st with
    | v :: w :: r => bif decide (v.category = 1 ∧ w.category = 1) then zgo (pc + 1) loc (v :: w :: v :: w :: r) k else none
    | _ => none
  | .pop => match st with
    | v :: r => bif decide (v.category = 1) then zgo (pc + 1) loc r k else none
    | _ => none
  | .goto off => zjump pc off loc st k
  | .ifCond q off => match st with
    | v :: r => match q with
      | .eq => zif bd 0 false v (.int 0) pc off loc r k
      | .ne => zif bd 0 true v (.int 0) pc off loc r k
      | .lt => zif bd 1 false v (.int 0) pc off loc r k
      | .ge => zif bd 2 false (.int 0) v pc off loc r k
      | .gt => zif bd 1 false (.int 0) v pc off loc r k
      | .le => zif bd 2 false v (.int 0) pc off loc r k
    | _ => none
  | .if_icmp q off => match st with
    | w :: v :: r => match q with
      | .eq => zif bd 0 false v w pc off loc r k
      | .ne => zif bd 0 true v w pc off loc r k
      | .lt => zif bd 1 false v w pc off loc r k
      | .ge => zif bd 2 false w v pc off loc r k
      | .gt => zif bd 1 false w v pc off loc r k
      | .le => zif bd 2 false v w pc off loc r k
    | _ => none
  | .ifnonnull off => match st with
    | .ref _ :: r => zjump pc off loc r k
    | .null :: r => zgo (pc + 3) loc r k
    | _ => none
  | .tableswitch d lo hi offs => zsw bd d lo hi offs pc loc st k
  | _ => none
end ZP
