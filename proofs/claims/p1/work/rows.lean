section
/-! AN ABSTRACT MACHINE over cells by their numbers. Its values are the machine's own: '.ref i' is the cell of number i (from 1000000 on: things of the start), '.retAddr k' an int of which only bounds are known, rh k. -/
section ZM
abbrev ZC : Type := (Nat × List Value) ⊕ (Nat × Nat × List (Nat × Value))
abbrev ZO : Type := Option (Option Value × List ZC)
abbrev ZL : Type := List (Nat × Value)
def zc (rh : Nat → Int32) (ad : Nat → Nat) (v : Value) : Value := match v with
  | .ref i => .ref (ad i)
  | .retAddr k => .int (rh k)
  | .int x => .int x
  | .long x => .long x
  | .float x => .float x
  | .double x => .double x
  | .null => .null
theorem zc_cat (rh : Nat → Int32) (ad : Nat → Nat) (v : Value) : (zc rh ad v).category = v.category := by cases v <;> rfl
-- numbers in a plain form, before they are used
def zfN {α : Type} (n : Nat) (k : Nat → α) : α := Nat.rec (k 0) (fun m _ => k (m + 1)) n
theorem zfN_eq {α : Type} (n : Nat) (k : Nat → α) : zfN n k = k n := by cases n <;> rfl
theorem z_nI (x : Int32) : nI x.toBitVec.toNat = x := Int32.toBitVec_inj.mp (BitVec.eq_of_toNat_eq (pk_tn x.toBitVec.isLt))
theorem z_lN (x : Int64) : lN x.toBitVec.toNat = x := by
  refine Int64.toBitVec_inj.mp (BitVec.eq_of_toNat_eq ?_)
  show (BitVec.ofNat 64 _).toNat = _
  rw [BitVec.toNat_ofNat]
  exact Nat.mod_eq_of_lt x.toBitVec.isLt
def zfI {α : Type} (x : Int32) (k : Int32 → α) : α := zfN x.toBitVec.toNat (fun n => k (nI n))
theorem zfI_eq {α : Type} (x : Int32) (k : Int32 → α) : zfI x k = k x := by unfold zfI; rw [zfN_eq, z_nI]
def zfJ {α : Type} (x : Int64) (k : Int64 → α) : α := zfN x.toBitVec.toNat (fun n => k (lN n))
theorem zfJ_eq {α : Type} (x : Int64) (k : Int64 → α) : zfJ x k = k x := by unfold zfJ; rw [zfN_eq, z_lN]
def zfV {α : Type} (v : Value) (k : Value → α) : α := match v with
  | .int x => zfI x (fun y => k (.int y))
  | .long x => zfJ x (fun y => k (.long y))
  | .ref a => zfN a (fun b => k (.ref b))
  | .retAddr a => zfN a (fun b => k (.retAddr b))
  | .float x => k (.float x)
  | .double x => k (.double x)
  | .null => k .null
theorem zfV_eq {α : Type} (v : Value) (k : Value → α) : zfV v k = k v := by cases v <;> simp [zfV, zfI_eq, zfJ_eq, zfN_eq]
def zfS {α β : Type} : List β → (List β → α) → α
  | [], k => k []
  | a :: r, k => zfS r (fun r' => k (a :: r'))
theorem zfS_eq {α β : Type} (l : List β) : ∀ k : List β → α, zfS l k = k l := by
  induction l with
  | nil => intro k; rfl
  | cons a r ih => intro k; exact ih _
def zn {β : Type} : List β → Nat → Option β
  | [], _ => none
  | a :: _, 0 => some a
  | _ :: r, n + 1 => zn r n
theorem zn_eq {β : Type} (l : List β) : ∀ n : Nat, zn l n = l[n]? := by
  induction l with
  | nil => intro n; rfl
  | cons a r ih => intro n; cases n with
    | zero => rfl
    | succ n => simp only [zn, List.getElem?_cons_succ]; exact ih n
-- locals
def zlk : ZL → Nat → Option Value
  | [], _ => none
  | (i, v) :: r, j => bif Nat.beq i j then some v else zlk r j
theorem zlk_mem : ∀ (l : ZL) (j : Nat) (v : Value), zlk l j = some v → (j, v) ∈ l
  | [], _, _, h => by cases h
  | (i, w) :: r, j, v, h => by
    unfold zlk at h
    cases hb : Nat.beq i j with
    | true =>
      rw [hb] at h
      have e : i = j := Nat.eq_of_beq_eq_true hb
      cases h
      rw [e]
      exact List.mem_cons_self
    | false =>
      rw [hb] at h
      exact List.mem_cons_of_mem _ (zlk_mem r j v h)
def zL (rh : Nat → Int32) (ad : Nat → Nat) (l : ZL) : ZL := l.map (fun q => (q.1, zc rh ad q.2))
theorem z_at {rh : Nat → Int32} {ad : Nat → Nat} {ls : Array Slot} {nL : Nat} {l : ZL} {j : Nat} {v : Value} (h : lv_has ls nL (zL rh ad l)) (hk : zlk l j = some v) : ls[j]? = some (.val (zc rh ad v)) :=
  h.2.2 (j, zc rh ad v) (List.mem_map.mpr ⟨(j, v), zlk_mem l j v hk, rfl⟩)
def zf1 (i : Nat) (l : ZL) : ZL := l.filter (fun q => !(q.1 == i) && !(q.1 + 1 == i && q.2.category == 2))
def zf2 (i : Nat) (l : ZL) : ZL := l.filter (fun q => !(q.1 == i) && (!(q.1 == i + 1) && !(q.1 + 1 == i && q.2.category == 2)))
theorem z_st1 {rh : Nat → Int32} {ad : Nat → Nat} {i : Nat} {v : Value} {l : ZL} : (i, zc rh ad v) :: (zL rh ad l).filter (fun q => !(q.1 == i) && !(q.1 + 1 == i && q.2.category == 2)) = zL rh ad ((i, v) :: zf1 i l) := by
  unfold zL zf1
  rw [List.filter_map, List.map_cons]
  congr 2
  apply List.filter_congr
  intro q _
  simp only [Function.comp, zc_cat]
theorem z_st2 {rh : Nat → Int32} {ad : Nat → Nat} {i : Nat} {v : Value} {l : ZL} : (i, zc rh ad v) :: (zL rh ad l).filter (fun q => !(q.1 == i) && (!(q.1 == i + 1) && !(q.1 + 1 == i && q.2.category == 2))) = zL rh ad ((i, v) :: zf2 i l) := by
  unfold zL zf2
  rw [List.filter_map, List.map_cons]
  congr 2
  apply List.filter_congr
  intro q _
  simp only [Function.comp, zc_cat]
theorem z_lk {rh : Nat → Int32} {ad : Nat → Nat} {l : ZL} {j : Nat} {v : Value} (hk : zlk l j = some v) : ∃ k : Nat, (zL rh ad l)[k]? = some (j, zc rh ad v) :=
  List.mem_iff_getElem?.mp (List.mem_map.mpr ⟨(j, v), zlk_mem l j v hk, rfl⟩)
-- what is known of an int
def zb (bd : Nat → Int × Int) (v : Value) : Option (Int × Int) := match v with
  | .int x => some (x.toInt, x.toInt)
  | .retAddr k => some (bd k)
  | _ => none
def zEnv (bd : Nat → Int × Int) (rh : Nat → Int32) : Prop := ∀ k : Nat, (bd k).1 ≤ (rh k).toInt ∧ (rh k).toInt ≤ (bd k).2
theorem zb_ok {bd : Nat → Int × Int} {rh : Nat → Int32} (hE : zEnv bd rh) {ad : Nat → Nat} {v : Value} {q : Int × Int} (h : zb bd v = some q) : ∃ x : Int32, zc rh ad v = .int x ∧ q.1 ≤ x.toInt ∧ x.toInt ≤ q.2 := by
  cases v <;> simp only [zb] at h <;> try (cases h; done)
  · cases h; exact ⟨_, rfl, Int.le_refl _, Int.le_refl _⟩
  · cases h; exact ⟨_, rfl, (hE _).1, (hE _).2⟩
-- 0: eq, 1: lt, 2: le
def zq (op : Nat) (a b : Int × Int) : Option Bool := match op with
  | 0 => if a.1 = a.2 ∧ b.1 = b.2 ∧ a.1 = b.1 then some true else if a.2 < b.1 ∨ b.2 < a.1 then some false else none
  | 1 => if a.2 < b.1 then some true else if b.2 ≤ a.1 then some false else none
  | _ => if a.2 ≤ b.1 then some true else if b.2 < a.1 then some false else none
def zqP (op : Nat) (x y : Int32) : Prop := match op with
  | 0 => x = y
  | 1 => x < y
  | _ => x ≤ y
theorem zq_ok {op : Nat} {a b : Int × Int} {x y : Int32} {r : Bool} (hx1 : a.1 ≤ x.toInt) (hx2 : x.toInt ≤ a.2) (hy1 : b.1 ≤ y.toInt) (hy2 : y.toInt ≤ b.2) (h : zq op a b = some r) : (r = true → zqP op x y) ∧ (r = false → ¬ zqP op x y) := by
  match op with
  | 0 =>
    simp only [zq] at h
    simp only [zqP]
    rw [← Int32.toInt_inj]
    split at h
    · cases h; constructor <;> intro h <;> first | (cases h; done) | omega
    · split at h
      · cases h; constructor <;> intro h <;> first | (cases h; done) | omega
      · cases h
  | 1 =>
    simp only [zq] at h
    simp only [zqP]
    rw [Int32.lt_iff_toInt_lt]
    split at h
    · cases h; constructor <;> intro h <;> first | (cases h; done) | omega
    · split at h
      · cases h; constructor <;> intro h <;> first | (cases h; done) | omega
      · cases h
  | n + 2 =>
    simp only [zq] at h
    simp only [zqP]
    rw [Int32.le_iff_toInt_le]
    split at h
    · cases h; constructor <;> intro h <;> first | (cases h; done) | omega
    · split at h
      · cases h; constructor <;> intro h <;> first | (cases h; done) | omega
      · cases h
/-- two ints held against each other: yes, no, or not known -/
def zcmp (bd : Nat → Int × Int) (op : Nat) (a b : Value) : Option Bool := match a, b with
  | .retAddr i, .retAddr j => if i = j ∧ op = 0 then some true else match zb bd (.retAddr i), zb bd (.retAddr j) with
    | some p, some q => zq op p q
    | _, _ => none
  | a, b => match zb bd a, zb bd b with
    | some p, some q => zq op p q
    | _, _ => none
theorem zcmp_ok {bd : Nat → Int × Int} {rh : Nat → Int32} (hE : zEnv bd rh) {ad : Nat → Nat} {op : Nat} {a b : Value} {r : Bool} (h : zcmp bd op a b = some r) : ∃ x y : Int32, zc rh ad a = .int x ∧ zc rh ad b = .int y ∧ (r = true → zqP op x y) ∧ (r = false → ¬ zqP op x y) := by
  have main : (match zb bd a, zb bd b with
    | some p, some q => zq op p q
    | _, _ => none) = some r → ∃ x y : Int32, zc rh ad a = .int x ∧ zc rh ad b = .int y ∧ (r = true → zqP op x y) ∧ (r = false → ¬ zqP op x y) := by
    intro h
    cases ha : zb bd a with
    | none => rw [ha] at h; simp at h
    | some p =>
      cases hb : zb bd b with
      | none => rw [ha, hb] at h; simp at h
      | some q =>
        rw [ha, hb] at h
        obtain ⟨x, h1, h2, h3⟩ := zb_ok (ad := ad) hE ha
        obtain ⟨y, g1, g2, g3⟩ := zb_ok (ad := ad) hE hb
        exact ⟨x, y, h1, g1, zq_ok h2 h3 g2 g3 h⟩
  cases a <;> cases b <;> first | exact main h | skip
  rename_i i j
  simp only [zcmp] at h
  split at h
  · rename_i hij
    cases h
    obtain ⟨rfl, rfl⟩ := hij
    exact ⟨rh i, rh i, rfl, rfl, fun _ => rfl, fun h => by cases h⟩
  · exact main h
end ZM
end
section
/-! instructions that change the frame alone -/
section ZP
abbrev ZK : Type := Nat → ZL → List Value → ZO
def zpush (v : Value) (pc : Nat) (loc : ZL) (st : List Value) (k : ZK) : ZO := zfV v (fun w => zfN pc (fun q => k q loc (w :: st)))
theorem zpush_eq (v : Value) (pc : Nat) (loc : ZL) (st : List Value) (k : ZK) : zpush v pc loc st k = k pc loc (v :: st) := by simp only [zpush, zfV_eq, zfN_eq]
def zgo (pc : Nat) (loc : ZL) (st : List Value) (k : ZK) : ZO := zfN pc (fun q => k q loc st)
theorem zgo_eq (pc : Nat) (loc : ZL) (st : List Value) (k : ZK) : zgo pc loc st k = k pc loc st := by simp only [zgo, zfN_eq]
def zjump (pc : Nat) (off : Int) (loc : ZL) (st : List Value) (k : ZK) : ZO := zfN ((pc : Int) + off).toNat (fun q => bif decide ((pc : Int) + off = (q : Int)) then k q loc st else none)
theorem zjump_ok {pc : Nat} {off : Int} {loc : ZL} {st : List Value} {k : ZK} {o : Option Value × List ZC} (h : zjump pc off loc st k = some o) : ∃ q : Nat, (pc : Int) + off = (q : Int) ∧ k q loc st = some o := by
  simp only [zjump, zfN_eq] at h
  refine ⟨((pc : Int) + off).toNat, ?_⟩
  by_cases e : (pc : Int) + off = ((((pc : Int) + off).toNat : Nat) : Int)
  · rw [decide_eq_true e] at h
    exact ⟨e, h⟩
  · rw [decide_eq_false e] at h
    cases h
def zisI : Value → Bool
  | .int _ => true
  | .retAddr _ => true
  | _ => false
def zisA : Value → Bool
  | .ref _ => true
  | .null => true
  | _ => false
def zisJ : Value → Bool
  | .long _ => true
  | _ => false
theorem zisI_ok {rh : Nat → Int32} {ad : Nat → Nat} {v : Value} (h : zisI v = true) : ∃ x : Int32, zc rh ad v = .int x := by cases v <;> first | exact ⟨_, rfl⟩ | (cases h; done)
theorem zisJ_ok {rh : Nat → Int32} {ad : Nat → Nat} {v : Value} (h : zisJ v = true) : ∃ x : Int64, zc rh ad v = .long x := by cases v <;> first | exact ⟨_, rfl⟩ | (cases h; done)
theorem zisA_ok {rh : Nat → Int32} {ad : Nat → Nat} {v : Value} (h : zisA v = true) : zc rh ad v = .null ∨ ∃ x : Nat, zc rh ad v = .ref x := by cases v <;> first | exact Or.inl rfl | exact Or.inr ⟨_, rfl⟩ | (cases h; done)
def zload (t : Value → Bool) (j pc : Nat) (loc : ZL) (st : List Value) (k : ZK) : ZO := match zlk loc j with
  | some v => bif t v then zgo pc loc (v :: st) k else none
  | none => none
theorem zload_ok {t : Value → Bool} {j pc : Nat} {loc : ZL} {st : List Value} {k : ZK} {o : Option Value × List ZC} (h : zload t j pc loc st k = some o) : ∃ v : Value, zlk loc j = some v ∧ t v = true ∧ k pc loc (v :: st) = some o := by
  unfold zload at h
  cases e : zlk loc j with
  | none => rw [e] at h; cases h
  | some v =>
    rw [e] at h
    dsimp only at h
    cases ht : t v with
    | false => rw [ht] at h; cases h
    | true => rw [ht, cond_true, zgo_eq] at h; exact ⟨v, rfl, ht, h⟩
def zstore1 (t : Value → Bool) (nL j pc : Nat) (loc : ZL) (st : List Value) (k : ZK) : ZO := match st with
  | v :: r => bif t v && decide (j < nL) then zfS ((j, v) :: zf1 j loc) (fun l => zgo pc l r k) else none
  | [] => none
theorem zstore1_ok {t : Value → Bool} {nL j pc : Nat} {loc : ZL} {st : List Value} {k : ZK} {o : Option Value × List ZC} (h : zstore1 t nL j pc loc st k = some o) : ∃ (v : Value) (r : List Value), st = v :: r ∧ t v = true ∧ j < nL ∧ k pc ((j, v) :: zf1 j loc) r = some o := by
  cases st with
  | nil => cases h
  | cons v r =>
    simp only [zstore1] at h
    cases ht : (t v && decide (j < nL)) with
    | false => rw [ht] at h; cases h
    | true =>
      rw [ht, cond_true, zfS_eq, zgo_eq] at h
      rw [Bool.and_eq_true, decide_eq_true_eq] at ht
      exact ⟨v, r, rfl, ht.1, ht.2, h⟩
def zstore2 (nL j pc : Nat) (loc : ZL) (st : List Value) (k : ZK) : ZO := match st with
  | v :: r => bif zisJ v && decide (j + 1 < nL) then zfS ((j, v) :: zf2 j loc) (fun l => zgo pc l r k) else none
  | [] => none
theorem zstore2_ok {nL j pc : Nat} {loc : ZL} {st : List Value} {k : ZK} {o : Option Value × List ZC} (h : zstore2 nL j pc loc st k = some o) : ∃ (v : Value) (r : List Value), st = v :: r ∧ zisJ v = true ∧ j + 1 < nL ∧ k pc ((j, v) :: zf2 j loc) r = some o := by
  cases st with
  | nil => cases h
  | cons v r =>
    simp only [zstore2] at h
    cases ht : (zisJ v && decide (j + 1 < nL)) with
    | false => rw [ht] at h; cases h
    | true =>
      rw [ht, cond_true, zfS_eq, zgo_eq] at h
      rw [Bool.and_eq_true, decide_eq_true_eq] at ht
      exact ⟨v, r, rfl, ht.1, ht.2, h⟩
def zbinI (f : Int32 → Int32 → Int32) (pc : Nat) (loc : ZL) (st : List Value) (k : ZK) : ZO := match st with
  | .int y :: .int x :: r => zpush (.int (f x y)) pc loc r k
  | _ => none
theorem zbinI_ok {f : Int32 → Int32 → Int32} {pc : Nat} {loc : ZL} {st : List Value} {k : ZK} {o : Option Value × List ZC} (h : zbinI f pc loc st k = some o) : ∃ (x y : Int32) (r : List Value), st = .int y :: .int x :: r ∧ k pc loc (.int (f x y) :: r) = some o := by
  unfold zbinI at h
  split at h
  · rw [zpush_eq] at h; exact ⟨_, _, _, rfl, h⟩
  · cases h
def zbinJ (f : Int64 → Int64 → Int64) (pc : Nat) (loc : ZL) (st : List Value) (k : ZK) : ZO := match st with
  | .long y :: .long x :: r => zpush (.long (f x y)) pc loc r k
  | _ => none
theorem zbinJ_ok {f : Int64 → Int64 → Int64} {pc : Nat} {loc : ZL} {st : List Value} {k : ZK} {o : Option Value × List ZC} (h : zbinJ f pc loc st k = some o) : ∃ (x y : Int64) (r : List Value), st = .long y :: .long x :: r ∧ k pc loc (.long (f x y) :: r) = some o := by
  unfold zbinJ at h
  split at h
  · rw [zpush_eq] at h; exact ⟨_, _, _, rfl, h⟩
  · cases h
def zshJ (f : Int64 → Int32 → Int64) (pc : Nat) (loc : ZL) (st : List Value) (k : ZK) : ZO := match st with
  | .int y :: .long x :: r => zpush (.long (f x y)) pc loc r k
  | _ => none
theorem zshJ_ok {f : Int64 → Int32 → Int64} {pc : Nat} {loc : ZL} {st : List Value} {k : ZK} {o : Option Value × List ZC} (h : zshJ f pc loc st k = some o) : ∃ (x : Int64) (y : Int32) (r : List Value), st = .int y :: .long x :: r ∧ k pc loc (.long (f x y) :: r) = some o := by
  unfold zshJ at h
  split at h
  · rw [zpush_eq] at h; exact ⟨_, _, _, rfl, h⟩
  · cases h
/-- a branch: is it op a b (or not, if ng)? then by off, else behind -/
def zif (bd : Nat → Int × Int) (op : Nat) (ng : Bool) (a b : Value) (pc : Nat) (off : Int) (loc : ZL) (r : List Value) (k : ZK) : ZO := match zcmp bd op a b with
  | some t => bif xor t ng then zjump pc off loc r k else zgo (pc + 3) loc r k
  | none => none
theorem zif_ok {bd : Nat → Int × Int} {rh : Nat → Int32} (hE : zEnv bd rh) (ad : Nat → Nat) {op : Nat} {ng : Bool} {a b : Value} {pc : Nat} {off : Int} {loc : ZL} {r : List Value} {k : ZK} {o : Option Value × List ZC} (h : zif bd op ng a b pc off loc r k = some o) :
    ∃ x y : Int32, zc rh ad a = .int x ∧ zc rh ad b = .int y ∧ ((∃ q : Nat, (pc : Int) + off = (q : Int) ∧ k q loc r = some o ∧ (ng = false → zqP op x y) ∧ (ng = true → ¬ zqP op x y)) ∨ (k (pc + 3) loc r = some o ∧ (ng = false → ¬ zqP op x y) ∧ (ng = true → zqP op x y))) := by
  unfold zif at h
  cases e : zcmp bd op a b with
  | none => rw [e] at h; cases h
  | some t =>
    rw [e] at h
    dsimp only at h
    obtain ⟨x, y, h1, h2, h3, h4⟩ := zcmp_ok (ad := ad) hE e
    refine ⟨x, y, h1, h2, ?_⟩
    cases t <;> cases ng
    · rw [show (false ^^ false) = false from rfl, cond_false, zgo_eq] at h
      exact Or.inr ⟨h, fun _ => h4 rfl, fun z => by cases z⟩
    · rw [show (false ^^ true) = true from rfl, cond_true] at h
      obtain ⟨q, g1, g2⟩ := zjump_ok h
      exact Or.inl ⟨q, g1, g2, (fun z => by cases z), fun _ => h4 rfl⟩
    · rw [show (true ^^ false) = true from rfl, cond_true] at h
      obtain ⟨q, g1, g2⟩ := zjump_ok h
      exact Or.inl ⟨q, g1, g2, fun _ => h3 rfl, (fun z => by cases z)⟩
    · rw [show (true ^^ true) = false from rfl, cond_false, zgo_eq] at h
      exact Or.inr ⟨h, (fun z => by cases z), fun _ => h3 rfl⟩
def zsw (bd : Nat → Int × Int) (d lo hi : Int) (offs : Array Int) (pc : Nat) (loc : ZL) (st : List Value) (k : ZK) : ZO := match st with
  | v :: r => match zb bd v with
    | some q => bif decide (q.2 < lo ∨ hi < q.1) then zjump pc d loc r k else bif decide (q.1 = q.2 ∧ lo ≤ q.1 ∧ q.1 ≤ hi) then (match zn offs.toList (q.1 - lo).toNat with
      | some off => zjump pc off loc r k
      | none => none) else none
    | none => none
  | [] => none
/-- the length of an instruction -/
def zlen (i : Instr) (L : Nat) : Nat := match i with
  | .tableswitch _ _ _ _ => L
  | .bipush _ => 2
  | .iload _ => 2
  | .aload _ => 2
  | .lload _ => 2
  | .istore _ => 2
  | .astore _ => 2
  | .lstore _ => 2
  | .ldc _ => 2
  | .newarray _ => 2
  | .sipush _ => 3
  | .iinc _ _ => 3
  | .goto _ => 3
  | .ifCond _ _ => 3
  | .if_icmp _ _ => 3
  | .ifnonnull _ => 3
  | .ifnull _ => 3
  | .getfield _ => 3
  | .putfield _ => 3
  | .new _ => 3
  | .anewarray _ => 3
  | .invokevirtual _ => 3
  | .invokespecial _ => 3
  | .invokestatic _ => 3
  | .ldc2_w _ => 3
  | _ => 1
/-- the instructions that change the frame alone -/
def zp (bd : Nat → Int × Int) (nL : Nat) (i : Instr) (pc : Nat) (loc : ZL) (st : List Value) (k : ZK) : ZO := match i with
  | .iconst n => zpush (.int (Int32.ofInt n)) (pc + 1) loc st k
  | .bipush n => zpush (.int (Int8.ofInt n).toInt32) (pc + 2) loc st k
  | .sipush n => zpush (.int (Int16.ofInt n).toInt32) (pc + 3) loc st k
  | .lconst n => zpush (.long (Int64.ofNat (n : Nat))) (pc + 1) loc st k
  | .iload_n j => zload zisI j (pc + 1) loc st k
  | .iload j => zload zisI j (pc + 2) loc st k
  | .aload_n j => zload zisA j (pc + 1) loc st k
  | .aload j => zload zisA j (pc + 2) loc st k
  | .lload_n j => zload zisJ j (pc + 1) loc st k
  | .lload j => zload zisJ j (pc + 2) loc st k
  | .istore_n j => zstore1 zisI nL j (pc + 1) loc st k
  | .istore j => zstore1 zisI nL j (pc + 2) loc st k
  | .astore_n j => zstore1 zisA nL j (pc + 1) loc st k
  | .astore j => zstore1 zisA nL j (pc + 2) loc st k
  | .lstore_n j => zstore2 nL j (pc + 1) loc st k
  | .lstore j => zstore2 nL j (pc + 2) loc st k
  | .iinc j n => match zlk loc j with
    | some (.int x) => bif decide (j < nL) then zfI (x + Int32.ofInt n) (fun y => zfS ((j, .int y) :: zf1 j loc) (fun l => zgo (pc + 3) l st k)) else none
    | _ => none
  | .iadd => zbinI (fun x y => x + y) (pc + 1) loc st k
  | .imul => zbinI (fun x y => x * y) (pc + 1) loc st k
  | .ior => zbinI (fun x y => x ||| y) (pc + 1) loc st k
  | .ishl => zbinI (fun x y => x <<< (y &&& 31)) (pc + 1) loc st k
  | .ishr => zbinI (fun x y => x >>> (y &&& 31)) (pc + 1) loc st k
  | .isub => match st with
    | .retAddr j :: .int x :: r => bif decide (x = 100 ∧ j < 8) then zpush (.retAddr (j + 8)) (pc + 1) loc r k else none
    | st => zbinI (fun x y => x - y) (pc + 1) loc st k
  | .iand => match st with
    | .int x :: .retAddr j :: r => bif decide (x = 63 ∧ j = 0) then zpush (.retAddr 7) (pc + 1) loc r k else none
    | st => zbinI (fun x y => x &&& y) (pc + 1) loc st k
  | .irem => match st with
    | .int y :: .int x :: r => bif decide (¬ y = 0) then zpush (.int (x - x / y * y)) (pc + 1) loc r k else none
    | _ => none
  | .idiv => match st with
    | .int y :: .int x :: r => bif decide (¬ y = 0) then zpush (.int (x / y)) (pc + 1) loc r k else none
    | _ => none
  | .ladd => zbinJ (fun x y => x + y) (pc + 1) loc st k
  | .lsub => zbinJ (fun x y => x - y) (pc + 1) loc st k
  | .lmul => zbinJ (fun x y => x * y) (pc + 1) loc st k
  | .lor => zbinJ (fun x y => x ||| y) (pc + 1) loc st k
  | .lxor => zbinJ (fun x y => x ^^^ y) (pc + 1) loc st k
  | .land => zbinJ (fun x y => x &&& y) (pc + 1) loc st k
  | .lshl => zshJ (fun x y => x <<< (y.toInt64 &&& 63)) (pc + 1) loc st k
  | .lshr => zshJ (fun x y => x >>> (y.toInt64 &&& 63)) (pc + 1) loc st k
  | .lushr => zshJ (fun x y => (x.toUInt64 >>> (y.toInt64.toUInt64 &&& Int64.toUInt64 63)).toInt64) (pc + 1) loc st k
  | .lcmp => match st with
    | .long y :: .long x :: r => zpush (.int (lg_cmp x y)) (pc + 1) loc r k
    | _ => none
  | .i2l => match st with
    | .int x :: r => zpush (.long x.toInt64) (pc + 1) loc r k
    | _ => none
  | .l2i => match st with
    | .long x :: r => zpush (.int x.toInt32) (pc + 1) loc r k
    | _ => none
  | .dup => match st with
    | v :: r => bif decide (v.category = 1) then zgo (pc + 1) loc (v :: v :: r) k else none
    | _ => none
  | .dup2 => match st with
    | v :: w :: r => bif decide (v.category = 1 ∧ w.category = 1) then zgo (pc + 1) loc (v :: w :: v :: w :: r) k else none
    | _ => none
  | .pop => match st with
    | v :: r => bif decide (v.category = 1) then zgo (pc + 1) loc r k else none
    | _ => none
  | .goto off => zjump pc off loc st k
  | .ifCond q off => match st with
    | v :: r => match q with
      | .eq => zif bd 0 false v (.int 0) pc off loc r k
      | .ne => zif bd 0 true v (.int 0) pc off loc r k
      | .lt => zif bd 1 false v (.int 0) pc off loc r k
      | .ge => zif bd 2 false (.int 0) v pc off loc r k
      | .gt => zif bd 1 false (.int 0) v pc off loc r k
      | .le => zif bd 2 false v (.int 0) pc off loc r k
    | _ => none
  | .if_icmp q off => match st with
    | w :: v :: r => match q with
      | .eq => zif bd 0 false v w pc off loc r k
      | .ne => zif bd 0 true v w pc off loc r k
      | .lt => zif bd 1 false v w pc off loc r k
      | .ge => zif bd 2 false w v pc off loc r k
      | .gt => zif bd 1 false w v pc off loc r k
      | .le => zif bd 2 false v w pc off loc r k
    | _ => none
  | .ifnonnull off => match st with
    | .ref _ :: r => zjump pc off loc r k
    | .null :: r => zgo (pc + 3) loc r k
    | _ => none
  | .tableswitch d lo hi offs => zsw bd d lo hi offs pc loc st k
  | _ => none
end ZP
end
