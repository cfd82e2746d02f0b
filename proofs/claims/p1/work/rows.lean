section
/-! AN ABSTRACT MACHINE over cells by their numbers. Its values are the machine's own: '.ref i' is the cell of number i (from 1000000 on: things of the start), '.retAddr k' an int of which only bounds are known, rh k. -/
section ZM
abbrev ZC : Type := (Nat × List Value) ⊕ (Nat × Nat × List (Nat × Value))
abbrev ZO : Type := Option (Option Value × List ZC)
abbrev ZL : Type := List (Nat × Value)
def zc (rh : Nat → Int32) (ad : Nat → Nat) (v : Value) : Value := match v with
  | .ref i => .ref (ad i)
  | .retAddr k => .int (rh k)
  | .int x => .int x
  | .long x => .long x
  | .float x => .float x
  | .double x => .double x
  | .null => .null
theorem zc_cat (rh : Nat → Int32) (ad : Nat → Nat) (v : Value) : (zc rh ad v).category = v.category := by cases v <;> rfl
-- numbers in a plain form, before they are used
def zfN {α : Type} (n : Nat) (k : Nat → α) : α := Nat.rec (k 0) (fun m _ => k (m + 1)) n
theorem zfN_eq {α : Type} (n : Nat) (k : Nat → α) : zfN n k = k n := by cases n <;> rfl
theorem z_nI (x : Int32) : nI x.toBitVec.toNat = x := Int32.toBitVec_inj.mp (BitVec.eq_of_toNat_eq (pk_tn x.toBitVec.isLt))
theorem z_lN (x : Int64) : lN x.toBitVec.toNat = x := by
  refine Int64.toBitVec_inj.mp (BitVec.eq_of_toNat_eq ?_)
  show (BitVec.ofNat 64 _).toNat = _
  rw [BitVec.toNat_ofNat]
  exact Nat.mod_eq_of_lt x.toBitVec.isLt
def zfI {α : Type} (x : Int32) (k : Int32 → α) : α := zfN x.toBitVec.toNat (fun n => k (nI n))
theorem zfI_eq {α : Type} (x : Int32) (k : Int32 → α) : zfI x k = k x := by unfold zfI; rw [zfN_eq, z_nI]
def zfJ {α : Type} (x : Int64) (k : Int64 → α) : α := zfN x.toBitVec.toNat (fun n => k (lN n))
theorem zfJ_eq {α : Type} (x : Int64) (k : Int64 → α) : zfJ x k = k x := by unfold zfJ; rw [zfN_eq, z_lN]
def zfV {α : Type} (v : Value) (k : Value → α) : α := match v with
  | .int x => zfI x (fun y => k (.int y))
  | .long x => zfJ x (fun y => k (.long y))
  | .ref a => zfN a (fun b => k (.ref b))
  | .retAddr a => zfN a (fun b => k (.retAddr b))
  | .float x => k (.float x)
  | .double x => k (.double x)
  | .null => k .null
theorem zfV_eq {α : Type} (v : Value) (k : Value → α) : zfV v k = k v := by cases v <;> simp [zfV, zfI_eq, zfJ_eq, zfN_eq]
def zfS {α β : Type} : List β → (List β → α) → α
  | [], k => k []
  | a :: r, k => zfS r (fun r' => k (a :: r'))
theorem zfS_eq {α β : Type} (l : List β) : ∀ k : List β → α, zfS l k = k l := by
  induction l with
  | nil => intro k; rfl
  | cons a r ih => intro k; exact ih _
def zn {β : Type} : List β → Nat → Option β
  | [], _ => none
  | a :: _, 0 => some a
  | _ :: r, n + 1 => zn r n
theorem zn_eq {β : Type} (l : List β) : ∀ n : Nat, zn l n = l[n]? := by
  induction l with
  | nil => intro n; rfl
  | cons a r ih => intro n; cases n with
    | zero => rfl
    | succ n => simp only [zn, List.getElem?_cons_succ]; exact ih n
-- locals
def zlk : ZL → Nat → Option Value
  | [], _ => none
  | (i, v) :: r, j => bif Nat.beq i j then some v else zlk r j
theorem zlk_mem : ∀ (l : ZL) (j : Nat) (v : Value), zlk l j = some v → (j, v) ∈ l
  | [], _, _, h => by cases h
  | (i, w) :: r, j, v, h => by
    unfold zlk at h
    cases hb : Nat.beq i j with
    | true =>
      rw [hb] at h
      have e : i = j := Nat.eq_of_beq_eq_true hb
      cases h
      rw [e]
      exact List.mem_cons_self
    | false =>
      rw [hb] at h
      exact List.mem_cons_of_mem _ (zlk_mem r j v h)
def zL (rh : Nat → Int32) (ad : Nat → Nat) (l : ZL) : ZL := l.map (fun q => (q.1, zc rh ad q.2))
theorem z_at {rh : Nat → Int32} {ad : Nat → Nat} {ls : Array Slot} {nL : Nat} {l : ZL} {j : Nat} {v : Value} (h : lv_has ls nL (zL rh ad l)) (hk : zlk l j = some v) : ls[j]? = some (.val (zc rh ad v)) :=
  h.2.2 (j, zc rh ad v) (List.mem_map.mpr ⟨(j, v), zlk_mem l j v hk, rfl⟩)
def zf1 (i : Nat) (l : ZL) : ZL := l.filter (fun q => !(q.1 == i) && !(q.1 + 1 == i && q.2.category == 2))
def zf2 (i : Nat) (l : ZL) : ZL := l.filter (fun q => !(q.1 == i) && (!(q.1 == i + 1) && !(q.1 + 1 == i && q.2.category == 2)))
theorem z_st1 {rh : Nat → Int32} {ad : Nat → Nat} {i : Nat} {v : Value} {l : ZL} : (i, zc rh ad v) :: (zL rh ad l).filter (fun q => !(q.1 == i) && !(q.1 + 1 == i && q.2.category == 2)) = zL rh ad ((i, v) :: zf1 i l) := by
  unfold zL zf1
  rw [List.filter_map, List.map_cons]
  congr 2
  apply List.filter_congr
  intro q _
  simp only [Function.comp, zc_cat]
theorem z_st2 {rh : Nat → Int32} {ad : Nat → Nat} {i : Nat} {v : Value} {l : ZL} : (i, zc rh ad v) :: (zL rh ad l).filter (fun q => !(q.1 == i) && (!(q.1 == i + 1) && !(q.1 + 1 == i && q.2.category == 2))) = zL rh ad ((i, v) :: zf2 i l) := by
  unfold zL zf2
  rw [List.filter_map, List.map_cons]
  congr 2
  apply List.filter_congr
  intro q _
  simp only [Function.comp, zc_cat]
theorem z_lk {rh : Nat → Int32} {ad : Nat → Nat} {l : ZL} {j : Nat} {v : Value} (hk : zlk l j = some v) : ∃ k : Nat, (zL rh ad l)[k]? = some (j, zc rh ad v) :=
  List.mem_iff_getElem?.mp (List.mem_map.mpr ⟨(j, v), zlk_mem l j v hk, rfl⟩)
-- what is known of an int
def zb (bd : Nat → Int × Int) (v : Value) : Option (Int × Int) := match v with
  | .int x => some (x.toInt, x.toInt)
  | .retAddr k => some (bd k)
  | _ => none
def zEnv (bd : Nat → Int × Int) (rh : Nat → Int32) : Prop := ∀ k : Nat, (bd k).1 ≤ (rh k).toInt ∧ (rh k).toInt ≤ (bd k).2
theorem zb_ok {bd : Nat → Int × Int} {rh : Nat → Int32} (hE : zEnv bd rh) {ad : Nat → Nat} {v : Value} {q : Int × Int} (h : zb bd v = some q) : ∃ x : Int32, zc rh ad v = .int x ∧ q.1 ≤ x.toInt ∧ x.toInt ≤ q.2 := by
  cases v <;> simp only [zb] at h <;> try (cases h; done)
  · cases h; exact ⟨_, rfl, Int.le_refl _, Int.le_refl _⟩
  · cases h; exact ⟨_, rfl, (hE _).1, (hE _).2⟩
-- 0: eq, 1: lt, 2: le
def zq (op : Nat) (a b : Int × Int) : Option Bool := match op with
  | 0 => if a.1 = a.2 ∧ b.1 = b.2 ∧ a.1 = b.1 then some true else if a.2 < b.1 ∨ b.2 < a.1 then some false else none
  | 1 => if a.2 < b.1 then some true else if b.2 ≤ a.1 then some false else none
  | _ => if a.2 ≤ b.1 then some true else if b.2 < a.1 then some false else none
def zqP (op : Nat) (x y : Int32) : Prop := match op with
  | 0 => x = y
  | 1 => x < y
  | _ => x ≤ y
theorem zq_ok {op : Nat} {a b : Int × Int} {x y : Int32} {r : Bool} (hx1 : a.1 ≤ x.toInt) (hx2 : x.toInt ≤ a.2) (hy1 : b.1 ≤ y.toInt) (hy2 : y.toInt ≤ b.2) (h : zq op a b = some r) : (r = true → zqP op x y) ∧ (r = false → ¬ zqP op x y) := by
  match op with
  | 0 =>
    simp only [zq] at h
    simp only [zqP]
    rw [← Int32.toInt_inj]
    split at h
    · cases h; constructor <;> intro h <;> first | (cases h; done) | omega
    · split at h
      · cases h; constructor <;> intro h <;> first | (cases h; done) | omega
      · cases h
  | 1 =>
    simp only [zq] at h
    simp only [zqP]
    rw [Int32.lt_iff_toInt_lt]
    split at h
    · cases h; constructor <;> intro h <;> first | (cases h; done) | omega
    · split at h
      · cases h; constructor <;> intro h <;> first | (cases h; done) | omega
      · cases h
  | n + 2 =>
    simp only [zq] at h
    simp only [zqP]
    rw [Int32.le_iff_toInt_le]
    split at h
    · cases h; constructor <;> intro h <;> first | (cases h; done) | omega
    · split at h
      · cases h; constructor <;> intro h <;> first | (cases h; done) | omega
      · cases h
/-- two ints held against each other: yes, no, or not known -/
def zcmp (bd : Nat → Int × Int) (op : Nat) (a b : Value) : Option Bool := match a, b with
  | .retAddr i, .retAddr j => if i = j ∧ op = 0 then some true else match zb bd (.retAddr i), zb bd (.retAddr j) with
    | some p, some q => zq op p q
    | _, _ => none
  | a, b => match zb bd a, zb bd b with
    | some p, some q => zq op p q
    | _, _ => none
theorem zcmp_ok {bd : Nat → Int × Int} {rh : Nat → Int32} (hE : zEnv bd rh) {ad : Nat → Nat} {op : Nat} {a b : Value} {r : Bool} (h : zcmp bd op a b = some r) : ∃ x y : Int32, zc rh ad a = .int x ∧ zc rh ad b = .int y ∧ (r = true → zqP op x y) ∧ (r = false → ¬ zqP op x y) := by
  have main : (match zb bd a, zb bd b with
    | some p, some q => zq op p q
    | _, _ => none) = some r → ∃ x y : Int32, zc rh ad a = .int x ∧ zc rh ad b = .int y ∧ (r = true → zqP op x y) ∧ (r = false → ¬ zqP op x y) := by
    intro h
    cases ha : zb bd a with
    | none => rw [ha] at h; simp at h
    | some p =>
      cases hb : zb bd b with
      | none => rw [ha, hb] at h; simp at h
      | some q =>
        rw [ha, hb] at h
        obtain ⟨x, h1, h2, h3⟩ := zb_ok (ad := ad) hE ha
        obtain ⟨y, g1, g2, g3⟩ := zb_ok (ad := ad) hE hb
        exact ⟨x, y, h1, g1, zq_ok h2 h3 g2 g3 h⟩
  cases a <;> cases b <;> first | exact main h | skip
  rename_i i j
  simp only [zcmp] at h
  split at h
  · rename_i hij
    cases h
    obtain ⟨rfl, rfl⟩ := hij
    exact ⟨rh i, rh i, rfl, rfl, fun _ => rfl, fun h => by cases h⟩
  · exact main h
end ZM
end
section
/-! instructions that change the frame alone -/
section ZP
abbrev ZK : Type := Nat → ZL → List Value → ZO
def zpush (v : Value) (pc : Nat) (loc : ZL) (st : List Value) (k : ZK) : ZO := zfV v (fun w => zfN pc (fun q => k q loc (w :: st)))
theorem zpush_eq (v : Value) (pc : Nat) (loc : ZL) (st : List Value) (k : ZK) : zpush v pc loc st k = k pc loc (v :: st) := by simp only [zpush, zfV_eq, zfN_eq]
def zgo (pc : Nat) (loc : ZL) (st : List Value) (k : ZK) : ZO := zfN pc (fun q => k q loc st)
theorem zgo_eq (pc : Nat) (loc : ZL) (st : List Value) (k : ZK) : zgo pc loc st k = k pc loc st := by simp only [zgo, zfN_eq]
def zjump (pc : Nat) (off : Int) (loc : ZL) (st : List Value) (k : ZK) : ZO := zfN ((pc : Int) + off).toNat (fun q => bif decide ((pc : Int) + off = (q : Int)) then k q loc st else none)
theorem zjump_ok {pc : Nat} {off : Int} {loc : ZL} {st : List Value} {k : ZK} {o : Option Value × List ZC} (h : zjump pc off loc st k = some o) : ∃ q : Nat, (pc : Int) + off = (q : Int) ∧ k q loc st = some o := by
  simp only [zjump, zfN_eq] at h
  refine ⟨((pc : Int) + off).toNat, ?_⟩
  by_cases e : (pc : Int) + off = ((((pc : Int) + off).toNat : Nat) : Int)
  · rw [decide_eq_true e] at h
    exact ⟨e, h⟩
  · rw [decide_eq_false e] at h
    cases h
def zisI : Value → Bool
  | .int _ => true
  | .retAddr _ => true
  | _ => false
def zisA : Value → Bool
  | .ref _ => true
  | .null => true
  | _ => false
def zisJ : Value → Bool
  | .long _ => true
  | _ => false
theorem zisI_ok {rh : Nat → Int32} {ad : Nat → Nat} {v : Value} (h : zisI v = true) : ∃ x : Int32, zc rh ad v = .int x := by cases v <;> first | exact ⟨_, rfl⟩ | (cases h; done)
theorem zisJ_ok {rh : Nat → Int32} {ad : Nat → Nat} {v : Value} (h : zisJ v = true) : ∃ x : Int64, zc rh ad v = .long x := by cases v <;> first | exact ⟨_, rfl⟩ | (cases h; done)
theorem zisA_ok {rh : Nat → Int32} {ad : Nat → Nat} {v : Value} (h : zisA v = true) : zc rh ad v = .null ∨ ∃ x : Nat, zc rh ad v = .ref x := by cases v <;> first | exact Or.inl rfl | exact Or.inr ⟨_, rfl⟩ | (cases h; done)
def zload (t : Value → Bool) (j pc : Nat) (loc : ZL) (st : List Value) (k : ZK) : ZO := match zlk loc j with
  | some v => bif t v then zgo pc loc (v :: st) k else none
  | none => none
theorem zload_ok {t : Value → Bool} {j pc : Nat} {loc : ZL} {st : List Value} {k : ZK} {o : Option Value × List ZC} (h : zload t j pc loc st k = some o) : ∃ v : Value, zlk loc j = some v ∧ t v = true ∧ k pc loc (v :: st) = some o := by
  unfold zload at h
  cases e : zlk loc j with
  | none => rw [e] at h; cases h
  | some v =>
    rw [e] at h
    dsimp only at h
    cases ht : t v with
    | false => rw [ht] at h; cases h
    | true => rw [ht, cond_true, zgo_eq] at h; exact ⟨v, rfl, ht, h⟩
def zstore1 (t : Value → Bool) (nL j pc : Nat) (loc : ZL) (st : List Value) (k : ZK) : ZO := match st with
  | v :: r => bif t v && decide (j < nL) then zfS ((j, v) :: zf1 j loc) (fun l => zgo pc l r k) else none
  | [] => none
theorem zstore1_ok {t : Value → Bool} {nL j pc : Nat} {loc : ZL} {st : List Value} {k : ZK} {o : Option Value × List ZC} (h : zstore1 t nL j pc loc st k = some o) : ∃ (v : Value) (r : List Value), st = v :: r ∧ t v = true ∧ j < nL ∧ k pc ((j, v) :: zf1 j loc) r = some o := by
  cases st with
  | nil => cases h
  | cons v r =>
    simp only [zstore1] at h
    cases ht : (t v && decide (j < nL)) with
    | false => rw [ht] at h; cases h
    | true =>
      rw [ht, cond_true, zfS_eq, zgo_eq] at h
      rw [Bool.and_eq_true, decide_eq_true_eq] at ht
      exact ⟨v, r, rfl, ht.1, ht.2, h⟩
def zstore2 (nL j pc : Nat) (loc : ZL) (st : List Value) (k : ZK) : ZO := match st with
  | v :: r => bif zisJ v && decide (j + 1 < nL) then zfS ((j, v) :: zf2 j loc) (fun l => zgo pc l r k) else none
  | [] => none
theorem zstore2_ok {nL j pc : Nat} {loc : ZL} {st : List Value} {k : ZK} {o : Option Value × List ZC} (h : zstore2 nL j pc loc st k = some o) : ∃ (v : Value) (r : List Value), st = v :: r ∧ zisJ v = true ∧ j + 1 < nL ∧ k pc ((j, v) :: zf2 j loc) r = some o := by
  cases st with
  | nil => cases h
  | cons v r =>
    simp only [zstore2] at h
    cases ht : (zisJ v && decide (j + 1 < nL)) with
    | false => rw [ht] at h; cases h
    | true =>
      rw [ht, cond_true, zfS_eq, zgo_eq] at h
      rw [Bool.and_eq_true, decide_eq_true_eq] at ht
      exact ⟨v, r, rfl, ht.1, ht.2, h⟩
def zbinI (f : Int32 → Int32 → Int32) (pc : Nat) (loc : ZL) (st : List Value) (k : ZK) : ZO := match st with
  | .int y :: .int x :: r => zpush (.int (f x y)) pc loc r k
  | _ => none
theorem zbinI_ok {f : Int32 → Int32 → Int32} {pc : Nat} {loc : ZL} {st : List Value} {k : ZK} {o : Option Value × List ZC} (h : zbinI f pc loc st k = some o) : ∃ (x y : Int32) (r : List Value), st = .int y :: .int x :: r ∧ k pc loc (.int (f x y) :: r) = some o := by
  unfold zbinI at h
  split at h
  · rw [zpush_eq] at h; exact ⟨_, _, _, rfl, h⟩
  · cases h
def zbinJ (f : Int64 → Int64 → Int64) (pc : Nat) (loc : ZL) (st : List Value) (k : ZK) : ZO := match st with
  | .long y :: .long x :: r => zpush (.long (f x y)) pc loc r k
  | _ => none
theorem zbinJ_ok {f : Int64 → Int64 → Int64} {pc : Nat} {loc : ZL} {st : List Value} {k : ZK} {o : Option Value × List ZC} (h : zbinJ f pc loc st k = some o) : ∃ (x y : Int64) (r : List Value), st = .long y :: .long x :: r ∧ k pc loc (.long (f x y) :: r) = some o := by
  unfold zbinJ at h
  split at h
  · rw [zpush_eq] at h; exact ⟨_, _, _, rfl, h⟩
  · cases h
def zshJ (f : Int64 → Int32 → Int64) (pc : Nat) (loc : ZL) (st : List Value) (k : ZK) : ZO := match st with
  | .int y :: .long x :: r => zpush (.long (f x y)) pc loc r k
  | _ => none
theorem zshJ_ok {f : Int64 → Int32 → Int64} {pc : Nat} {loc : ZL} {st : List Value} {k : ZK} {o : Option Value × List ZC} (h : zshJ f pc loc st k = some o) : ∃ (x : Int64) (y : Int32) (r : List Value), st = .int y :: .long x :: r ∧ k pc loc (.long (f x y) :: r) = some o := by
  unfold zshJ at h
  split at h
  · rw [zpush_eq] at h; exact ⟨_, _, _, rfl, h⟩
  · cases h
/-- a branch: is it op a b (or not, if ng)? then by off, else behind -/
def zif (bd : Nat → Int × Int) (op : Nat) (ng : Bool) (a b : Value) (pc : Nat) (off : Int) (loc : ZL) (r : List Value) (k : ZK) : ZO := match zcmp bd op a b with
  | some t => bif xor t ng then zjump pc off loc r k else bif decide (0 ≤ (pc : Int) + off) then zgo (pc + 3) loc r k else none
  | none => none
theorem zif_ok {bd : Nat → Int × Int} {rh : Nat → Int32} (hE : zEnv bd rh) (ad : Nat → Nat) {op : Nat} {ng : Bool} {a b : Value} {pc : Nat} {off : Int} {loc : ZL} {r : List Value} {k : ZK} {o : Option Value × List ZC} (h : zif bd op ng a b pc off loc r k = some o) :
    ∃ (x y : Int32) (q : Nat), zc rh ad a = .int x ∧ zc rh ad b = .int y ∧ (pc : Int) + off = (q : Int) ∧ ((k q loc r = some o ∧ (ng = false → zqP op x y) ∧ (ng = true → ¬ zqP op x y)) ∨ (k (pc + 3) loc r = some o ∧ (ng = false → ¬ zqP op x y) ∧ (ng = true → zqP op x y))) := by
  unfold zif at h
  cases e : zcmp bd op a b with
  | none => rw [e] at h; cases h
  | some t =>
    rw [e] at h
    dsimp only at h
    obtain ⟨x, y, h1, h2, h3, h4⟩ := zcmp_ok (ad := ad) hE e
    have out : ∀ {k' : ZO}, (bif decide (0 ≤ (pc : Int) + off) then k' else none) = some o → (pc : Int) + off = ((((pc : Int) + off).toNat : Nat) : Int) ∧ k' = some o := by
      intro k' hk
      by_cases e0 : 0 ≤ (pc : Int) + off
      · rw [decide_eq_true e0] at hk
        exact ⟨(Int.toNat_of_nonneg e0).symm, hk⟩
      · rw [decide_eq_false e0] at hk
        cases hk
    cases t <;> cases ng
    · rw [show (false ^^ false) = false from rfl, cond_false, zgo_eq] at h
      obtain ⟨g1, g2⟩ := out h
      exact ⟨x, y, _, h1, h2, g1, Or.inr ⟨g2, fun _ => h4 rfl, fun z => by cases z⟩⟩
    · rw [show (false ^^ true) = true from rfl, cond_true] at h
      obtain ⟨q, g1, g2⟩ := zjump_ok h
      exact ⟨x, y, q, h1, h2, g1, Or.inl ⟨g2, (fun z => by cases z), fun _ => h4 rfl⟩⟩
    · rw [show (true ^^ false) = true from rfl, cond_true] at h
      obtain ⟨q, g1, g2⟩ := zjump_ok h
      exact ⟨x, y, q, h1, h2, g1, Or.inl ⟨g2, fun _ => h3 rfl, (fun z => by cases z)⟩⟩
    · rw [show (true ^^ true) = false from rfl, cond_false, zgo_eq] at h
      obtain ⟨g1, g2⟩ := out h
      exact ⟨x, y, _, h1, h2, g1, Or.inr ⟨g2, (fun z => by cases z), fun _ => h3 rfl⟩⟩
def zsw (bd : Nat → Int × Int) (d lo hi : Int) (offs : Array Int) (pc : Nat) (loc : ZL) (st : List Value) (k : ZK) : ZO := match st with
  | v :: r => match zb bd v with
    | some q => bif decide (q.2 < lo ∨ hi < q.1) then zjump pc d loc r k else bif decide (q.1 = q.2 ∧ lo ≤ q.1 ∧ q.1 ≤ hi) then (match zn offs.toList (q.1 - lo).toNat with
      | some off => zjump pc off loc r k
      | none => none) else none
    | none => none
  | [] => none
/-- the length of an instruction -/
def zlen (i : Instr) (L : Nat) : Nat := match i with
  | .tableswitch _ _ _ _ => L
  | .bipush _ => 2
  | .iload _ => 2
  | .aload _ => 2
  | .lload _ => 2
  | .istore _ => 2
  | .astore _ => 2
  | .lstore _ => 2
  | .ldc _ => 2
  | .newarray _ => 2
  | .sipush _ => 3
  | .iinc _ _ => 3
  | .goto _ => 3
  | .ifCond _ _ => 3
  | .if_icmp _ _ => 3
  | .ifnonnull _ => 3
  | .ifnull _ => 3
  | .getfield _ => 3
  | .putfield _ => 3
  | .new _ => 3
  | .anewarray _ => 3
  | .invokevirtual _ => 3
  | .invokespecial _ => 3
  | .invokestatic _ => 3
  | .ldc2_w _ => 3
  | _ => 1
/-- the instructions that change the frame alone -/
def zp (bd : Nat → Int × Int) (nL : Nat) (i : Instr) (pc : Nat) (loc : ZL) (st : List Value) (k : ZK) : ZO := match i with
  | .iconst n => zpush (.int (Int32.ofInt n)) (pc + 1) loc st k
  | .bipush n => zpush (.int (Int8.ofInt n).toInt32) (pc + 2) loc st k
  | .sipush n => zpush (.int (Int16.ofInt n).toInt32) (pc + 3) loc st k
  | .lconst n => zpush (.long (Int64.ofNat (n : Nat))) (pc + 1) loc st k
  | .iload_n j => zload zisI j (pc + 1) loc st k
  | .iload j => zload zisI j (pc + 2) loc st k
  | .aload_n j => zload zisA j (pc + 1) loc st k
  | .aload j => zload zisA j (pc + 2) loc st k
  | .lload_n j => zload zisJ j (pc + 1) loc st k
  | .lload j => zload zisJ j (pc + 2) loc st k
  | .istore_n j => zstore1 zisI nL j (pc + 1) loc st k
  | .istore j => zstore1 zisI nL j (pc + 2) loc st k
  | .astore_n j => zstore1 zisA nL j (pc + 1) loc st k
  | .astore j => zstore1 zisA nL j (pc + 2) loc st k
  | .lstore_n j => zstore2 nL j (pc + 1) loc st k
  | .lstore j => zstore2 nL j (pc + 2) loc st k
  | .iinc j n => match zlk loc j with
    | some (.int x) => bif decide (j < nL) then zfI (x + Int32.ofInt n) (fun y => zfS ((j, .int y) :: zf1 j loc) (fun l => zgo (pc + 3) l st k)) else none
    | _ => none
  | .iadd => zbinI (fun x y => x + y) (pc + 1) loc st k
  | .imul => zbinI (fun x y => x * y) (pc + 1) loc st k
  | .ior => zbinI (fun x y => x ||| y) (pc + 1) loc st k
  | .ishl => zbinI (fun x y => x <<< (y &&& 31)) (pc + 1) loc st k
  | .ishr => zbinI (fun x y => x >>> (y &&& 31)) (pc + 1) loc st k
  | .isub => match st with
    | .retAddr j :: .int x :: r => bif decide (x = 100 ∧ j < 8) then zpush (.retAddr (j + 8)) (pc + 1) loc r k else none
    | st => zbinI (fun x y => x - y) (pc + 1) loc st k
  | .iand => match st with
    | .int x :: .retAddr j :: r => bif decide (x = 63 ∧ j = 0) then zpush (.retAddr 7) (pc + 1) loc r k else none
    | st => zbinI (fun x y => x &&& y) (pc + 1) loc st k
  | .irem => match st with
    | .int y :: .int x :: r => bif decide (¬ y = 0) then zpush (.int (x - x / y * y)) (pc + 1) loc r k else none
    | _ => none
  | .idiv => match st with
    | .int y :: .int x :: r => bif decide (¬ y = 0) then zpush (.int (x / y)) (pc + 1) loc r k else none
    | _ => none
  | .ladd => zbinJ (fun x y => x + y) (pc + 1) loc st k
  | .lsub => zbinJ (fun x y => x - y) (pc + 1) loc st k
  | .lmul => zbinJ (fun x y => x * y) (pc + 1) loc st k
  | .lor => zbinJ (fun x y => x ||| y) (pc + 1) loc st k
  | .lxor => zbinJ (fun x y => x ^^^ y) (pc + 1) loc st k
  | .land => zbinJ (fun x y => x &&& y) (pc + 1) loc st k
  | .lshl => zshJ (fun x y => x <<< (y.toInt64 &&& 63)) (pc + 1) loc st k
  | .lshr => zshJ (fun x y => x >>> (y.toInt64 &&& 63)) (pc + 1) loc st k
  | .lushr => zshJ (fun x y => (x.toUInt64 >>> (y.toInt64.toUInt64 &&& Int64.toUInt64 63)).toInt64) (pc + 1) loc st k
  | .lcmp => match st with
    | .long y :: .long x :: r => zpush (.int (lg_cmp x y)) (pc + 1) loc r k
    | _ => none
  | .i2l => match st with
    | .int x :: r => zpush (.long x.toInt64) (pc + 1) loc r k
    | _ => none
  | .l2i => match st with
    | .long x :: r => zpush (.int x.toInt32) (pc + 1) loc r k
    | _ => none
  | .dup => match st with
    | v :: r => bif decide (v.category = 1) then zgo (pc + 1) loc (v :: v :: r) k else none
    | _ => none
  | .dup2 => match st with
    | v :: w :: r => bif decide (v.category = 1 ∧ w.category = 1) then zgo (pc + 1) loc (v :: w :: v :: w :: r) k else none
    | _ => none
  | .pop => match st with
    | v :: r => bif decide (v.category = 1) then zgo (pc + 1) loc r k else none
    | _ => none
  | .goto off => zjump pc off loc st k
  | .ifCond q off => match st with
    | v :: r => match q with
      | .eq => zif bd 0 false v (.int 0) pc off loc r k
      | .ne => zif bd 0 true v (.int 0) pc off loc r k
      | .lt => zif bd 1 false v (.int 0) pc off loc r k
      | .ge => zif bd 2 false (.int 0) v pc off loc r k
      | .gt => zif bd 1 false (.int 0) v pc off loc r k
      | .le => zif bd 2 false v (.int 0) pc off loc r k
    | _ => none
  | .if_icmp q off => match st with
    | w :: v :: r => match q with
      | .eq => zif bd 0 false v w pc off loc r k
      | .ne => zif bd 0 true v w pc off loc r k
      | .lt => zif bd 1 false v w pc off loc r k
      | .ge => zif bd 2 false w v pc off loc r k
      | .gt => zif bd 1 false w v pc off loc r k
      | .le => zif bd 2 false v w pc off loc r k
    | _ => none
  | .ifnonnull off => match st with
    | .ref _ :: r => zjump pc off loc r k
    | .null :: r => zgo (pc + 3) loc r k
    | _ => none
  | .tableswitch d lo hi offs => zsw bd d lo hi offs pc loc st k
  | _ => none
end ZP
end
section
/-! .. and that the machine does what zp says -/
section ZQ
variable {p : Program} {l : Launch} {e : Env} {R : Room} {s : State} {m : MethodId} {args : Array Value} {below : List Frame} {meth : Method} {c : Code} {H : Heap} {locs : List Loc} {cells slots : Nat} {Q : State → Prop}
def zEnv2 (rh : Nat → Int32) : Prop := (∀ j : Nat, j < 8 → rh (j + 8) = 100 - rh j) ∧ rh 7 = rh 0 &&& 63
def ZG (p : Program) (l : Launch) (e : Env) (R : Room) (s : State) (m : MethodId) (args : Array Value) (below : List Frame) (meth : Method) (c : Code) (H : Heap) (locs : List Loc) (cells slots : Nat) (Q : State → Prop) (nL : Nat) (rh : Nat → Int32) (ad : Nat → Nat) (pc : Nat) (st : List Value) (ls : Array Slot) (k : ZK) (o : Option Value × List ZC) : Prop :=
  ∃ (pc' : Nat) (loc' : ZL) (st' : List Value), k pc' loc' st' = some o ∧ ((∀ ls' : Array Slot, lv_has ls' nL (zL rh ad loc') → W p l e R s m args below meth c H locs cells slots Q (F0 m pc' ls' (st'.map (zc rh ad)))) → W p l e R s m args below meth c H locs cells slots Q (F0 m pc ls (st.map (zc rh ad))))
variable {cc : ByteArray} {bd : Nat → Int × Int} {rh : Nat → Int32} {ad : Nat → Nat} {nL pc L : Nat} {ls : Array Slot} {loc : ZL} {st : List Value} {k : ZK} {o : Option Value × List ZC}
set_option maxHeartbeats 4000000 in
theorem zif1 (hx : p.tables.exec = Jvm.exec) (hb : c.code = cc) (hE : zEnv bd rh) {q : ClassFile.Cond} {off : Int} {v : Value} {r : List Value} (hdg : decode cc pc = .ok (.ifCond q off, 3)) (hl : lv_has ls nL (zL rh ad loc))
    (h : zp bd nL (.ifCond q off) pc loc (v :: r) k = some o) : ZG p l e R s m args below meth c H locs cells slots Q nL rh ad pc (v :: r) ls k o := by
  cases q <;> (simp only [zp] at h; obtain ⟨x, y, q, h1, h2, h3, h4⟩ := zif_ok hE ad h)
  · cases h2; rcases h4 with ⟨g1, g2, g3⟩ | ⟨g1, g2, g3⟩ <;> refine ⟨_, _, _, g1, fun kk => ?_⟩ <;> rw [List.map_cons, h1] <;> refine lv_if_eq hx hb hdg h3 (fun z => ?_) (fun z => ?_) <;> first | exact kk ls hl | exact absurd (g2 rfl) z | exact absurd z (g2 rfl)
  · cases h2; rcases h4 with ⟨g1, g2, g3⟩ | ⟨g1, g2, g3⟩ <;> refine ⟨_, _, _, g1, fun kk => ?_⟩ <;> rw [List.map_cons, h1] <;> refine lv_if_ne hx hb hdg h3 (fun z => ?_) (fun z => ?_) <;> first | exact kk ls hl | exact absurd (g3 rfl) z | exact absurd z (g3 rfl)
  · cases h2; rcases h4 with ⟨g1, g2, g3⟩ | ⟨g1, g2, g3⟩ <;> refine ⟨_, _, _, g1, fun kk => ?_⟩ <;> rw [List.map_cons, h1] <;> refine lv_if_lt hx hb hdg h3 (fun z => ?_) (fun z => ?_) <;> first | exact kk ls hl | exact absurd (g2 rfl) z | exact absurd z (g2 rfl)
  · cases h1; rcases h4 with ⟨g1, g2, g3⟩ | ⟨g1, g2, g3⟩ <;> refine ⟨_, _, _, g1, fun kk => ?_⟩ <;> rw [List.map_cons, h2] <;> refine lv_if_ge hx hb hdg h3 (fun z => ?_) (fun z => ?_) <;> first | exact kk ls hl | exact absurd (g2 rfl) z | exact absurd z (g2 rfl)
  · cases h1; rcases h4 with ⟨g1, g2, g3⟩ | ⟨g1, g2, g3⟩ <;> refine ⟨_, _, _, g1, fun kk => ?_⟩ <;> rw [List.map_cons, h2] <;> refine lv_if_gt hx hb hdg h3 (fun z => ?_) (fun z => ?_) <;> first | exact kk ls hl | exact absurd (g2 rfl) z | exact absurd z (g2 rfl)
  · cases h2; rcases h4 with ⟨g1, g2, g3⟩ | ⟨g1, g2, g3⟩ <;> refine ⟨_, _, _, g1, fun kk => ?_⟩ <;> rw [List.map_cons, h1] <;> refine lv_if_le hx hb hdg h3 (fun z => ?_) (fun z => ?_) <;> first | exact kk ls hl | exact absurd (g2 rfl) z | exact absurd z (g2 rfl)
set_option maxHeartbeats 4000000 in
theorem zif2 (hx : p.tables.exec = Jvm.exec) (hb : c.code = cc) (hE : zEnv bd rh) {q : ClassFile.Cond} {off : Int} {v w : Value} {r : List Value} (hdg : decode cc pc = .ok (.if_icmp q off, 3)) (hl : lv_has ls nL (zL rh ad loc))
    (h : zp bd nL (.if_icmp q off) pc loc (w :: v :: r) k = some o) : ZG p l e R s m args below meth c H locs cells slots Q nL rh ad pc (w :: v :: r) ls k o := by
  cases q <;> (simp only [zp] at h; obtain ⟨x, y, q, h1, h2, h3, h4⟩ := zif_ok hE ad h)
  · rcases h4 with ⟨g1, g2, g3⟩ | ⟨g1, g2, g3⟩ <;> refine ⟨_, _, _, g1, fun kk => ?_⟩ <;> rw [List.map_cons, List.map_cons, h1, h2] <;> refine lv_icmp_eq hx hb hdg h3 (fun z => ?_) (fun z => ?_) <;> first | exact kk ls hl | exact absurd (g2 rfl) z | exact absurd z (g2 rfl)
  · rcases h4 with ⟨g1, g2, g3⟩ | ⟨g1, g2, g3⟩ <;> refine ⟨_, _, _, g1, fun kk => ?_⟩ <;> rw [List.map_cons, List.map_cons, h1, h2] <;> refine lv_icmp_ne hx hb hdg h3 (fun z => ?_) (fun z => ?_) <;> first | exact kk ls hl | exact absurd (g3 rfl) z | exact absurd z (g3 rfl)
  · rcases h4 with ⟨g1, g2, g3⟩ | ⟨g1, g2, g3⟩ <;> refine ⟨_, _, _, g1, fun kk => ?_⟩ <;> rw [List.map_cons, List.map_cons, h1, h2] <;> refine lv_icmp_lt hx hb hdg h3 (fun z => ?_) (fun z => ?_) <;> first | exact kk ls hl | exact absurd (g2 rfl) z | exact absurd z (g2 rfl)
  · rcases h4 with ⟨g1, g2, g3⟩ | ⟨g1, g2, g3⟩ <;> refine ⟨_, _, _, g1, fun kk => ?_⟩ <;> rw [List.map_cons, List.map_cons, h1, h2] <;> refine lv_icmp_ge hx hb hdg h3 (fun z => ?_) (fun z => ?_) <;> first | exact kk ls hl | exact absurd (g2 rfl) z | exact absurd z (g2 rfl)
  · rcases h4 with ⟨g1, g2, g3⟩ | ⟨g1, g2, g3⟩ <;> refine ⟨_, _, _, g1, fun kk => ?_⟩ <;> rw [List.map_cons, List.map_cons, h1, h2] <;> refine lv_icmp_gt hx hb hdg h3 (fun z => ?_) (fun z => ?_) <;> first | exact kk ls hl | exact absurd (g2 rfl) z | exact absurd z (g2 rfl)
  · rcases h4 with ⟨g1, g2, g3⟩ | ⟨g1, g2, g3⟩ <;> refine ⟨_, _, _, g1, fun kk => ?_⟩ <;> rw [List.map_cons, List.map_cons, h1, h2] <;> refine lv_icmp_le hx hb hdg h3 (fun z => ?_) (fun z => ?_) <;> first | exact kk ls hl | exact absurd (g2 rfl) z | exact absurd z (g2 rfl)
theorem znone {P : Prop} (h : (none : ZO) = some o) : P := by cases h
theorem zbif {b : Bool} {x : ZO} (h : (bif b then x else none) = some o) : b = true ∧ x = some o := by
  cases b
  · cases h
  · exact ⟨rfl, h⟩
set_option maxHeartbeats 8000000 in
/-- what zp says is what the machine does -/
theorem z_p (hx : p.tables.exec = Jvm.exec) (hb : c.code = cc) (hE : zEnv bd rh) (hE2 : zEnv2 rh) {i : Instr} (hdg : decode cc pc = .ok (i, zlen i L)) (hl : lv_has ls nL (zL rh ad loc))
    (h : zp bd nL i pc loc st k = some o) : ZG p l e R s m args below meth c H locs cells slots Q nL rh ad pc st ls k o := by
  cases i with
  | iconst n => rw [show zp bd nL (.iconst n) pc loc st k = _ from zpush_eq _ _ _ _ _] at h; exact ⟨_, _, _, h, fun kk => lv_iconst hx hb hdg rfl (kk ls hl)⟩
  | bipush n => rw [show zp bd nL (.bipush n) pc loc st k = _ from zpush_eq _ _ _ _ _] at h; exact ⟨_, _, _, h, fun kk => lv_bipush hx hb hdg rfl (kk ls hl)⟩
  | sipush n => rw [show zp bd nL (.sipush n) pc loc st k = _ from zpush_eq _ _ _ _ _] at h; exact ⟨_, _, _, h, fun kk => lv_sipush hx hb hdg rfl (kk ls hl)⟩
  | lconst n => rw [show zp bd nL (.lconst n) pc loc st k = _ from zpush_eq _ _ _ _ _] at h; exact ⟨_, _, _, h, fun kk => lv_lconst hx hb hdg rfl (kk ls hl)⟩
  | iload_n j =>
    obtain ⟨v, h1, h2, h3⟩ := zload_ok h
    obtain ⟨x, ex⟩ := zisI_ok (rh := rh) (ad := ad) h2
    have hl1 := z_at hl h1
    refine ⟨_, _, _, h3, fun kk => ?_⟩
    have h4 := kk ls hl
    rw [List.map_cons, ex] at h4
    rw [ex] at hl1
    exact lv_iload_n hx hb hdg rfl hl1 h4
  | iload j =>
    obtain ⟨v, h1, h2, h3⟩ := zload_ok h
    obtain ⟨x, ex⟩ := zisI_ok (rh := rh) (ad := ad) h2
    have hl1 := z_at hl h1
    refine ⟨_, _, _, h3, fun kk => ?_⟩
    have h4 := kk ls hl
    rw [List.map_cons, ex] at h4
    rw [ex] at hl1
    exact lv_iload hx hb hdg hl1 h4
  | lload_n j =>
    obtain ⟨v, h1, h2, h3⟩ := zload_ok h
    obtain ⟨x, ex⟩ := zisJ_ok (rh := rh) (ad := ad) h2
    have hl1 := z_at hl h1
    refine ⟨_, _, _, h3, fun kk => ?_⟩
    have h4 := kk ls hl
    rw [List.map_cons, ex] at h4
    rw [ex] at hl1
    exact lv_lload_n hx hb hdg rfl hl1 h4
  | lload j =>
    obtain ⟨v, h1, h2, h3⟩ := zload_ok h
    obtain ⟨x, ex⟩ := zisJ_ok (rh := rh) (ad := ad) h2
    have hl1 := z_at hl h1
    refine ⟨_, _, _, h3, fun kk => ?_⟩
    have h4 := kk ls hl
    rw [List.map_cons, ex] at h4
    rw [ex] at hl1
    exact lv_lload hx hb hdg hl1 h4
  | aload_n j =>
    obtain ⟨v, h1, h2, h3⟩ := zload_ok h
    have hl1 := z_at hl h1
    refine ⟨_, _, _, h3, fun kk => ?_⟩
    have h4 := kk ls hl
    rcases zisA_ok (rh := rh) (ad := ad) h2 with ex | ⟨x, ex⟩ <;> rw [List.map_cons, ex] at h4 <;> rw [ex] at hl1
    · exact lv_aload_nN hx hb hdg rfl hl1 h4
    · exact lv_aload_n hx hb hdg rfl hl1 h4
  | aload j =>
    obtain ⟨v, h1, h2, h3⟩ := zload_ok h
    have hl1 := z_at hl h1
    refine ⟨_, _, _, h3, fun kk => ?_⟩
    have h4 := kk ls hl
    rcases zisA_ok (rh := rh) (ad := ad) h2 with ex | ⟨x, ex⟩ <;> rw [List.map_cons, ex] at h4 <;> rw [ex] at hl1
    · exact lv_aloadN hx hb hdg hl1 h4
    · exact lv_aload hx hb hdg hl1 h4
  | istore_n j =>
    obtain ⟨v, r, rfl, h2, h3, h4⟩ := zstore1_ok h
    obtain ⟨x, ex⟩ := zisI_ok (rh := rh) (ad := ad) h2
    refine ⟨_, _, _, h4, fun kk => ?_⟩
    rw [List.map_cons, ex]
    exact lv_istore_n hx hb hdg rfl hl h3 (by rw [← ex]; exact z_st1) kk
  | istore j =>
    obtain ⟨v, r, rfl, h2, h3, h4⟩ := zstore1_ok h
    obtain ⟨x, ex⟩ := zisI_ok (rh := rh) (ad := ad) h2
    refine ⟨_, _, _, h4, fun kk => ?_⟩
    rw [List.map_cons, ex]
    exact lv_istore hx hb hdg hl h3 (by rw [← ex]; exact z_st1) kk
  | lstore_n j =>
    obtain ⟨v, r, rfl, h2, h3, h4⟩ := zstore2_ok h
    obtain ⟨x, ex⟩ := zisJ_ok (rh := rh) (ad := ad) h2
    refine ⟨_, _, _, h4, fun kk => ?_⟩
    rw [List.map_cons, ex]
    exact lv_lstore_n hx hb hdg rfl hl h3 (by rw [← ex]; exact z_st2) kk
  | lstore j =>
    obtain ⟨v, r, rfl, h2, h3, h4⟩ := zstore2_ok h
    obtain ⟨x, ex⟩ := zisJ_ok (rh := rh) (ad := ad) h2
    refine ⟨_, _, _, h4, fun kk => ?_⟩
    rw [List.map_cons, ex]
    exact lv_lstore hx hb hdg hl h3 (by rw [← ex]; exact z_st2) kk
  | astore_n j =>
    obtain ⟨v, r, rfl, h2, h3, h4⟩ := zstore1_ok h
    refine ⟨_, _, _, h4, fun kk => ?_⟩
    rcases zisA_ok (rh := rh) (ad := ad) h2 with ex | ⟨x, ex⟩ <;> rw [List.map_cons, ex]
    · exact lv_astore_nN hx hb hdg rfl hl h3 (by rw [← ex]; exact z_st1) kk
    · exact lv_astore_n hx hb hdg rfl hl h3 (by rw [← ex]; exact z_st1) kk
  | astore j =>
    obtain ⟨v, r, rfl, h2, h3, h4⟩ := zstore1_ok h
    refine ⟨_, _, _, h4, fun kk => ?_⟩
    rcases zisA_ok (rh := rh) (ad := ad) h2 with ex | ⟨x, ex⟩ <;> rw [List.map_cons, ex]
    · exact lv_astoreN hx hb hdg hl h3 (by rw [← ex]; exact z_st1) kk
    · exact lv_astore hx hb hdg hl h3 (by rw [← ex]; exact z_st1) kk
  | iinc j n =>
    simp only [zp] at h
    split at h
    · rename_i x hk
      obtain ⟨h1, h2⟩ := zbif h
      rw [zfI_eq, zfS_eq, zgo_eq] at h2
      obtain ⟨q, hq⟩ := z_lk (rh := rh) (ad := ad) hk
      exact ⟨_, _, _, h2, fun kk => lv_iinc hx hb hdg hl hq rfl (of_decide_eq_true h1) (z_st1 (v := .int _)) kk⟩
    · cases h
  | iadd => obtain ⟨x, y, r, rfl, h2⟩ := zbinI_ok h; exact ⟨_, _, _, h2, fun kk => lv_iadd hx hb hdg (kk ls hl)⟩
  | imul => obtain ⟨x, y, r, rfl, h2⟩ := zbinI_ok h; exact ⟨_, _, _, h2, fun kk => lv_imul hx hb hdg (kk ls hl)⟩
  | ior => obtain ⟨x, y, r, rfl, h2⟩ := zbinI_ok h; exact ⟨_, _, _, h2, fun kk => lv_ior hx hb hdg (kk ls hl)⟩
  | ishl => obtain ⟨x, y, r, rfl, h2⟩ := zbinI_ok h; exact ⟨_, _, _, h2, fun kk => lv_ishl hx hb hdg (kk ls hl)⟩
  | ishr => obtain ⟨x, y, r, rfl, h2⟩ := zbinI_ok h; exact ⟨_, _, _, h2, fun kk => lv_ishr hx hb hdg (kk ls hl)⟩
  | isub =>
    simp only [zp] at h
    split at h
    · rename_i j x r
      obtain ⟨h1, h2⟩ := zbif h
      obtain ⟨rfl, hj⟩ := of_decide_eq_true h1
      rw [zpush_eq] at h2
      refine ⟨_, _, _, h2, fun kk => ?_⟩
      have h4 := kk ls hl
      rw [List.map_cons, show zc rh ad (.retAddr (j + 8)) = .int (100 - rh j) from congrArg Value.int (hE2.1 j hj)] at h4
      exact lv_isub hx hb hdg h4
    · obtain ⟨x, y, r, rfl, h2⟩ := zbinI_ok h; exact ⟨_, _, _, h2, fun kk => lv_isub hx hb hdg (kk ls hl)⟩
  | iand =>
    simp only [zp] at h
    split at h
    · rename_i x j r
      obtain ⟨h1, h2⟩ := zbif h
      obtain ⟨rfl, rfl⟩ := of_decide_eq_true h1
      rw [zpush_eq] at h2
      refine ⟨_, _, _, h2, fun kk => ?_⟩
      have h4 := kk ls hl
      rw [List.map_cons, show zc rh ad (.retAddr 7) = .int (rh 0 &&& 63) from congrArg Value.int hE2.2] at h4
      exact lv_iand hx hb hdg h4
    · obtain ⟨x, y, r, rfl, h2⟩ := zbinI_ok h; exact ⟨_, _, _, h2, fun kk => lv_iand hx hb hdg (kk ls hl)⟩
  | irem =>
    simp only [zp] at h
    split at h
    · obtain ⟨h1, h2⟩ := zbif h
      rw [zpush_eq] at h2
      exact ⟨_, _, _, h2, fun kk => lv_irem hx hb hdg (of_decide_eq_true h1) (kk ls hl)⟩
    · cases h
  | idiv =>
    simp only [zp] at h
    split at h
    · obtain ⟨h1, h2⟩ := zbif h
      rw [zpush_eq] at h2
      exact ⟨_, _, _, h2, fun kk => lv_idiv hx hb hdg (of_decide_eq_true h1) (kk ls hl)⟩
    · cases h
  | ladd => obtain ⟨x, y, r, rfl, h2⟩ := zbinJ_ok h; exact ⟨_, _, _, h2, fun kk => lv_ladd hx hb hdg (kk ls hl)⟩
  | lsub => obtain ⟨x, y, r, rfl, h2⟩ := zbinJ_ok h; exact ⟨_, _, _, h2, fun kk => lv_lsub hx hb hdg (kk ls hl)⟩
  | lmul => obtain ⟨x, y, r, rfl, h2⟩ := zbinJ_ok h; exact ⟨_, _, _, h2, fun kk => lv_lmul hx hb hdg (kk ls hl)⟩
  | lor => obtain ⟨x, y, r, rfl, h2⟩ := zbinJ_ok h; exact ⟨_, _, _, h2, fun kk => lv_lor hx hb hdg (kk ls hl)⟩
  | lxor => obtain ⟨x, y, r, rfl, h2⟩ := zbinJ_ok h; exact ⟨_, _, _, h2, fun kk => lv_lxor hx hb hdg (kk ls hl)⟩
  | land => obtain ⟨x, y, r, rfl, h2⟩ := zbinJ_ok h; exact ⟨_, _, _, h2, fun kk => lv_land hx hb hdg (kk ls hl)⟩
  | lshl => obtain ⟨x, y, r, rfl, h2⟩ := zshJ_ok h; exact ⟨_, _, _, h2, fun kk => lv_lshl hx hb hdg rfl (kk ls hl)⟩
  | lshr => obtain ⟨x, y, r, rfl, h2⟩ := zshJ_ok h; exact ⟨_, _, _, h2, fun kk => lv_lshr hx hb hdg rfl (kk ls hl)⟩
  | lushr => obtain ⟨x, y, r, rfl, h2⟩ := zshJ_ok h; exact ⟨_, _, _, h2, fun kk => lv_lushr hx hb hdg rfl (kk ls hl)⟩
  | lcmp =>
    simp only [zp] at h
    split at h
    · rw [zpush_eq] at h; exact ⟨_, _, _, h, fun kk => W.lcmp hx hb hdg (kk ls hl)⟩
    · cases h
  | i2l =>
    simp only [zp] at h
    split at h
    · rw [zpush_eq] at h; exact ⟨_, _, _, h, fun kk => lv_i2l hx hb hdg rfl (kk ls hl)⟩
    · cases h
  | l2i =>
    simp only [zp] at h
    split at h
    · rw [zpush_eq] at h; exact ⟨_, _, _, h, fun kk => lv_l2i hx hb hdg rfl (kk ls hl)⟩
    · cases h
  | dup =>
    simp only [zp] at h
    split at h
    · obtain ⟨h1, h2⟩ := zbif h
      rw [zgo_eq] at h2
      exact ⟨_, _, _, h2, fun kk => lv_dup hx hb hdg ((zc_cat rh ad _).trans (of_decide_eq_true h1)) (kk ls hl)⟩
    · cases h
  | dup2 =>
    simp only [zp] at h
    split at h
    · obtain ⟨h1, h2⟩ := zbif h
      rw [zgo_eq] at h2
      exact ⟨_, _, _, h2, fun kk => lv_dup2_11 hx hb hdg ((zc_cat rh ad _).trans (of_decide_eq_true h1).1) ((zc_cat rh ad _).trans (of_decide_eq_true h1).2) (kk ls hl)⟩
    · cases h
  | pop =>
    simp only [zp] at h
    split at h
    · obtain ⟨h1, h2⟩ := zbif h
      rw [zgo_eq] at h2
      exact ⟨_, _, _, h2, fun kk => lv_pop hx hb hdg ((zc_cat rh ad _).trans (of_decide_eq_true h1)) (kk ls hl)⟩
    · cases h
  | goto off => obtain ⟨q, h1, h2⟩ := zjump_ok h; exact ⟨_, _, _, h2, fun kk => lv_goto hx hb hdg h1 (kk ls hl)⟩
  | ifCond q off =>
    cases st with
    | nil => exact znone (show (none : ZO) = some o from h)
    | cons v r => exact zif1 hx hb hE hdg hl h
  | if_icmp q off =>
    match st, h with
    | [], h => exact znone (show (none : ZO) = some o from h)
    | [_], h => exact znone (show (none : ZO) = some o from h)
    | w :: v :: r, h => exact zif2 hx hb hE hdg hl h
  | ifnonnull off =>
    simp only [zp] at h
    split at h
    · obtain ⟨q, h1, h2⟩ := zjump_ok h; exact ⟨_, _, _, h2, fun kk => lv_ifnonnull hx hb hdg h1 (kk ls hl)⟩
    · rw [zgo_eq] at h; exact ⟨_, _, _, h, fun kk => lv_ifnonnullN hx hb hdg (kk ls hl)⟩
    · cases h
  | tableswitch d lo hi offs =>
    simp only [zp] at h
    cases st with
    | nil => exact znone (show (none : ZO) = some o from h)
    | cons v r =>
      simp only [zsw] at h
      cases eb : zb bd v with
      | none => rw [eb] at h; cases h
      | some q =>
        rw [eb] at h
        dsimp only at h
        obtain ⟨x, ex, h2, h3⟩ := zb_ok (ad := ad) hE eb
        by_cases hd : q.2 < lo ∨ hi < q.1
        · rw [decide_eq_true hd, cond_true] at h
          obtain ⟨t, g1, g2⟩ := zjump_ok h
          refine ⟨_, _, _, g2, fun kk => ?_⟩
          rw [List.map_cons, ex]
          exact lv_tableOut hx hb hdg (by omega) g1 (kk ls hl)
        · rw [decide_eq_false hd, cond_false] at h
          obtain ⟨h5, h6⟩ := zbif h
          have h5 := of_decide_eq_true h5
          split at h6
          · rename_i off ho
            obtain ⟨t, g1, g2⟩ := zjump_ok h6
            refine ⟨_, _, _, g2, fun kk => ?_⟩
            rw [List.map_cons, ex]
            refine lv_tableIn hx hb hdg (by omega) (by omega) ?_ g1 (kk ls hl)
            rw [zn_eq, Array.getElem?_toList] at ho
            rw [show x.toInt = q.1 by omega]
            exact ho
          · cases h6
  | _ => exact znone (show (none : ZO) = some o from h)
end ZQ
end
section
/-! cells: a row (tag, length, what was written) or an object (number of its class, fields) -/
section ZCE
def zl (d : Value) : List (Nat × Value) → Nat → Value
  | [], _ => d
  | (i, v) :: r, j => bif Nat.beq i j then v else zl d r j
def zi (rh : Nat → Int32) : Value → Int32
  | .int x => x
  | .retAddr k => rh k
  | _ => 0
def zj : Value → Int64
  | .long x => x
  | _ => 0
def zr (ad : Nat → Nat) : Value → Option Nat
  | .ref i => some (ad i)
  | _ => none
def zA (rh : Nat → Int32) (ad : Nat → Nat) (t n : Nat) (u : List (Nat × Value)) : vp_A := match t with
  | 1 => (n, .inr (.inl (fun j => zj (zl (.long 0) u j))))
  | 4 => (n, .inr (.inr (.inr (.inr (fun j => zr ad (zl .null u j))))))
  | 5 => (n, .inr (.inr (.inr (.inr (fun j => zr ad (zl .null u j))))))
  | _ => (n, .inl (fun j => zi rh (zl (.int 0) u j)))
def zE (cA : Nat → ClassId) (rh : Nat → Int32) (ad : Nat → Nat) : ZC → va_E
  | .inl (ci, fs) => .inr (ci, fs.map (zc rh ad))
  | .inr (t, n, u) => .inl (cA t, zA rh ad t n u)
def zW (cA : Nat → ClassId) (rh : Nat → Int32) (ad : Nat → Nat) (cs : List ZC) : va_W := cs.mapIdx (fun k q => (ad k, zE cA rh ad q))
variable {cA : Nat → ClassId} {rh : Nat → Int32} {ad : Nat → Nat} {cs : List ZC}
theorem zW_get {k : Nat} {q : ZC} (h : zn cs k = some q) : (zW cA rh ad cs)[k]? = some (ad k, zE cA rh ad q) := by
  rw [zn_eq] at h
  unfold zW
  rw [List.getElem?_mapIdx, h]
  rfl
theorem zW_set (k : Nat) (q : ZC) : (zW cA rh ad cs).set k (ad k, zE cA rh ad q) = zW cA rh ad (cs.set k q) := by
  apply List.ext_getElem?
  intro j
  unfold zW
  rw [List.getElem?_set, List.getElem?_mapIdx, List.getElem?_mapIdx, List.getElem?_set]
  simp only [List.length_mapIdx]
  by_cases h : k = j
  · subst h
    by_cases h2 : k < cs.length
    · simp [h2]
    · simp [h2]
  · simp [h]
def zup (ad : Nat → Nat) (n q : Nat) : Nat → Nat := fun i => if i = n then q else ad i
-- no value speaks of the cell n that isn't there yet
def zwV (n : Nat) (v : Value) : Bool := match v with
  | .ref i => Nat.blt i n || Nat.ble 1000000 i
  | _ => true
def zwS (n : Nat) (st : List Value) : Bool := st.all (zwV n)
def zwL (n : Nat) (l : ZL) : Bool := l.all (fun q => zwV n q.2)
def zwC (n : Nat) (cs : List ZC) : Bool := cs.all (fun q => match q with
  | .inl (_, fs) => zwS n fs
  | .inr (_, _, u) => zwL n u)
/-- the old cells lie where they lay -/
def zAg (ad ad' : Nat → Nat) (n : Nat) : Prop := ∀ i : Nat, (i < n ∨ 1000000 ≤ i) → ad' i = ad i
theorem zAg.rf {n : Nat} : zAg ad ad n := fun _ _ => rfl
theorem zAg.trans {ad' ad'' : Nat → Nat} {n n' : Nat} (h1 : zAg ad ad' n) (h2 : zAg ad' ad'' n') (h : n ≤ n') : zAg ad ad'' n := fun i hi => (h2 i (hi.imp (fun z => Nat.lt_of_lt_of_le z h) id)).trans (h1 i hi)
theorem zAg.up {n q : Nat} (hn : n < 1000000) : zAg ad (zup ad n q) n := fun i hi => by
  unfold zup
  rw [if_neg (by omega)]
theorem zw_v {ad' : Nat → Nat} {n : Nat} {v : Value} (h : zwV n v = true) (hA : zAg ad ad' n) : zc rh ad' v = zc rh ad v := by
  cases v <;> first | rfl | skip
  rename_i i
  simp only [zwV, Bool.or_eq_true] at h
  show Value.ref (ad' i) = Value.ref (ad i)
  rw [hA i (h.imp (fun z => (by simpa [Nat.blt_eq] using z)) Nat.le_of_ble_eq_true)]
theorem zw_s {ad' : Nat → Nat} {n : Nat} {st : List Value} (h : zwS n st = true) (hA : zAg ad ad' n) : st.map (zc rh ad') = st.map (zc rh ad) :=
  List.map_congr_left fun v hv => zw_v (List.all_eq_true.mp h v hv) hA
theorem zw_l {ad' : Nat → Nat} {n : Nat} {l : ZL} (h : zwL n l = true) (hA : zAg ad ad' n) : zL rh ad' l = zL rh ad l :=
  List.map_congr_left fun q hq => by rw [zw_v (rh := rh) (List.all_eq_true.mp h q hq) hA]
theorem zw_zl {ad' : Nat → Nat} {n : Nat} : ∀ {u : List (Nat × Value)} (_ : zwL n u = true) (_ : zAg ad ad' n) (j : Nat), zr ad' (zl .null u j) = zr ad (zl .null u j)
  | [], _, _, _ => rfl
  | (i, v) :: r, h, hA, j => by
    simp only [zwL, List.all_cons, Bool.and_eq_true] at h
    unfold zl
    cases Nat.beq i j
    · exact zw_zl (u := r) h.2 hA j
    · have h1 := zw_v (rh := fun _ => 0) h.1 hA
      show zr ad' v = zr ad v
      cases v <;> first | rfl | skip
      simp only [zc, Value.ref.injEq] at h1
      simp only [zr, h1]
theorem zw_c {ad' : Nat → Nat} {n : Nat} {q : ZC} (h : (match q with
  | .inl (_, fs) => zwS n fs
  | .inr (_, _, u) => zwL n u) = true) (hA : zAg ad ad' n) : zE cA rh ad' q = zE cA rh ad q := by
  match q, h with
  | .inl (ci, fs), h => simp only [zE]; rw [zw_s h hA]
  | .inr (t, n', u), h =>
    simp only [zE]
    have e : zA rh ad' t n' u = zA rh ad t n' u := by
      unfold zA
      have e4 : (fun j => zr ad' (zl .null u j)) = (fun j => zr ad (zl .null u j)) := funext fun j => zw_zl h hA j
      split <;> first | rfl | rw [e4]
    rw [e]
theorem zW_ag {ad' : Nat → Nat} (h : zwC cs.length cs = true) (hA : zAg ad ad' cs.length) : zW cA rh ad' cs = zW cA rh ad cs := by
  apply List.ext_getElem?
  intro j
  unfold zW
  rw [List.getElem?_mapIdx, List.getElem?_mapIdx]
  cases hj : cs[j]? with
  | none => rfl
  | some q =>
    have hlt : j < cs.length := (List.getElem?_eq_some_iff.mp hj).1
    have hm : q ∈ cs := List.mem_of_getElem? hj
    have e := zw_c (cA := cA) (rh := rh) (q := q) (List.all_eq_true.mp h q hm) hA
    simp only [Option.map_some]
    rw [hA j (Or.inl hlt), e]
theorem zW_push {q : Nat} {c : ZC} (h : zwC cs.length cs = true) (hn : cs.length < 1000000) (hc : zE cA rh (zup ad cs.length q) c = zE cA rh ad c) : zW cA rh (zup ad cs.length q) (cs ++ [c]) = zW cA rh ad cs ++ [(q, zE cA rh ad c)] := by
  have e := zW_ag (cA := cA) (rh := rh) h (zAg.up (ad := ad) (q := q) hn)
  rw [← e]
  unfold zW
  rw [List.mapIdx_append]
  congr 1
  simp only [List.mapIdx_cons, List.mapIdx_nil, Nat.zero_add, hc, zup, if_true]
-- values alike
def zeqV (a b : Value) : Bool := match a, b with
  | .int x, .int y => decide (x = y)
  | .long x, .long y => decide (x = y)
  | .null, .null => true
  | .ref i, .ref j => Nat.beq i j
  | _, _ => false
theorem zeqV_ok {a b : Value} (h : zeqV a b = true) : a = b := by
  cases a <;> cases b <;> simp only [zeqV] at h <;> first | rfl | (cases h; done) | (rw [of_decide_eq_true h]; done) | (rw [Nat.eq_of_beq_eq_true h]; done)
/-- what was written, with one more -/
def zpu (d : Value) (u : List (Nat × Value)) (i : Nat) (v : Value) : List (Nat × Value) := bif zeqV (zl d u i) v then u else (i, v) :: u
theorem zl_pu {d : Value} {u : List (Nat × Value)} {i : Nat} {v : Value} (j : Nat) : zl d (zpu d u i v) j = if j = i then v else zl d u j := by
  unfold zpu
  cases h : zeqV (zl d u i) v with
  | true =>
    rw [cond_true]
    by_cases e : j = i
    · rw [if_pos e, e]; exact zeqV_ok h
    · rw [if_neg e]
  | false =>
    rw [cond_false]
    show (bif Nat.beq i j then v else zl d u j) = _
    by_cases e : j = i
    · subst e
      rw [if_pos rfl, show Nat.beq j j = true from Nat.beq_refl j]
      rfl
    · rw [if_neg e]
      cases hb : Nat.beq i j with
      | true => exact absurd (Nat.eq_of_beq_eq_true hb).symm e
      | false => rfl
theorem zu_i {rh : Nat → Int32} {u : List (Nat × Value)} {i : Nat} {v : Value} : upd (fun j => zi rh (zl (.int 0) u j)) i (zi rh v) = (fun j => zi rh (zl (.int 0) (zpu (.int 0) u i v) j)) := by
  funext j
  rw [zl_pu]
  unfold upd
  by_cases e : j = i
  · rw [if_pos e, if_pos e]
  · rw [if_neg e, if_neg e]
theorem zu_j {u : List (Nat × Value)} {i : Nat} {v : Value} : vp_updL (fun j => zj (zl (.long 0) u j)) i (zj v) = (fun j => zj (zl (.long 0) (zpu (.long 0) u i v) j)) := by
  funext j
  rw [zl_pu]
  unfold vp_updL
  by_cases e : j = i
  · rw [if_pos e, if_pos e]
  · rw [if_neg e, if_neg e]
theorem zu_r {ad : Nat → Nat} {u : List (Nat × Value)} {i a : Nat} : va_up (fun j => zr ad (zl .null u j)) i (some (ad a)) = (fun j => zr ad (zl .null (zpu .null u i (.ref a)) j)) := by
  funext j
  rw [zl_pu]
  unfold va_up
  by_cases e : j = i
  · rw [if_pos e, if_pos e]; rfl
  · rw [if_neg e, if_neg e]
def zfit : FieldType → Value → Bool
  | .int, .int _ => true
  | .int, .retAddr _ => true
  | .long, .long _ => true
  | .boolean, .int x => decide (x = 0 ∨ x = 1)
  | .object _, .ref _ => true
  | .object _, .null => true
  | .array _, .ref _ => true
  | .array _, .null => true
  | _, _ => false
theorem zfit_ok {ty : FieldType} {v : Value} (h : zfit ty v = true) : narrow ty (zc rh ad v) = zc rh ad v ∧ fits ty (zc rh ad v) = true := by
  cases ty <;> cases v <;> simp only [zfit] at h <;> first | exact ⟨rfl, rfl⟩ | (cases h; done) | skip
  rcases of_decide_eq_true h with rfl | rfl <;> exact ⟨rfl, rfl⟩
end ZCE
end
