/-! AN ABSTRACT MACHINE over cells by their numbers. Its values are the machine's own: '.ref i' is the cell of number i (from 1000000 on: things of the start), '.retAddr k' an int of which only bounds are known, rh k. -/
section ZM
abbrev ZC : Type := (Nat × List Value) ⊕ (Nat × Nat × List (Nat × Value))
abbrev ZO : Type := Option (Option Value × List ZC)
abbrev ZL : Type := List (Nat × Value)
def zc (rh : Nat → Int32) (ad : Nat → Nat) (v : Value) : Value := match v with
  | .ref i => .ref (ad i)
  | .retAddr k => .int (rh k)
  | .int x => .int x
  | .long x => .long x
  | .float x => .float x
  | .double x => .double x
  | .null => .null
theorem zc_cat (rh : Nat → Int32) (ad : Nat → Nat) (v : Value) : (zc rh ad v).category = v.category := by cases v <;> rfl
-- numbers in a plain form, before they are used
def zfN {α : Type} (n : Nat) (k : Nat → α) : α := Nat.rec (k 0) (fun m _ => k (m + 1)) n
theorem zfN_eq {α : Type} (n : Nat) (k : Nat → α) : zfN n k = k n := by cases n <;> rfl
theorem z_nI (x : Int32) : nI x.toBitVec.toNat = x := Int32.toBitVec_inj.mp (BitVec.eq_of_toNat_eq (pk_tn x.toBitVec.isLt))
theorem z_lN (x : Int64) : lN x.toBitVec.toNat = x := by
  refine Int64.toBitVec_inj.mp (BitVec.eq_of_toNat_eq ?_)
  show (BitVec.ofNat 64 _).toNat = _
  rw [BitVec.toNat_ofNat]
  exact Nat.mod_eq_of_lt x.toBitVec.isLt
def zfI {α : Type} (x : Int32) (k : Int32 → α) : α := zfN x.toBitVec.toNat (fun n => k (nI n))
theorem zfI_eq {α : Type} (x : Int32) (k : Int32 → α) : zfI x k = k x := by unfold zfI; rw [zfN_eq, z_nI]
def zfJ {α : Type} (x : Int64) (k : Int64 → α) : α := zfN x.toBitVec.toNat (fun n => k (lN n))
theorem zfJ_eq {α : Type} (x : Int64) (k : Int64 → α) : zfJ x k = k x := by unfold zfJ; rw [zfN_eq, z_lN]
def zfV {α : Type} (v : Value) (k : Value → α) : α := match v with
  | .int x => zfI x (fun y => k (.int y))
  | .long x => zfJ x (fun y => k (.long y))
  | .ref a => zfN a (fun b => k (.ref b))
  | .retAddr a => zfN a (fun b => k (.retAddr b))
  | .float x => k (.float x)
  | .double x => k (.double x)
  | .null => k .null
theorem zfV_eq {α : Type} (v : Value) (k : Value → α) : zfV v k = k v := by cases v <;> simp [zfV, zfI_eq, zfJ_eq, zfN_eq]
def zfS {α β : Type} : List β → (List β → α) → α
  | [], k => k []
  | a :: r, k => zfS r (fun r' => k (a :: r'))
theorem zfS_eq {α β : Type} (l : List β) : ∀ k : List β → α, zfS l k = k l := by
  induction l with
  | nil => intro k; rfl
  | cons a r ih => intro k; exact ih _
def zn {β : Type} : List β → Nat → Option β
  | [], _ => none
  | a :: _, 0 => some a
  | _ :: r, n + 1 => zn r n
theorem zn_eq {β : Type} (l : List β) : ∀ n : Nat, zn l n = l[n]? := by
  induction l with
  | nil => intro n; rfl
  | cons a r ih => intro n; cases n with
    | zero => rfl
    | succ n => simp only [zn, List.getElem?_cons_succ]; exact ih n
-- locals
def zlk : ZL → Nat → Option Value
  | [], _ => none
  | (i, v) :: r, j => bif Nat.beq i j then some v else zlk r j
theorem zlk_mem : ∀ (l : ZL) (j : Nat) (v : Value), zlk l j = some v → (j, v) ∈ l
  | [], _, _, h => by cases h
  | (i, w) :: r, j, v, h => by
    unfold zlk at h
    cases hb : Nat.beq i j with
    | true =>
      rw [hb] at h
      have e : i = j := Nat.eq_of_beq_eq_true hb
      cases h
      rw [e]
      exact List.mem_cons_self
    | false =>
      rw [hb] at h
      exact List.mem_cons_of_mem _ (zlk_mem r j v h)
def zL (rh : Nat → Int32) (ad : Nat → Nat) (l : ZL) : ZL := l.map (fun q => (q.1, zc rh ad q.2))
theorem z_at {rh : Nat → Int32} {ad : Nat → Nat} {ls : Array Slot} {nL : Nat} {l : ZL} {j : Nat} {v : Value} (h : lv_has ls nL (zL rh ad l)) (hk : zlk l j = some v) : ls[j]? = some (.val (zc rh ad v)) :=
  h.2.2 (j, zc rh ad v) (List.mem_map.mpr ⟨(j, v), zlk_mem l j v hk, rfl⟩)
def zf1 (i : Nat) (l : ZL) : ZL := l.filter (fun q => !(q.1 == i) && !(q.1 + 1 == i && q.2.category == 2))
def zf2 (i : Nat) (l : ZL) : ZL := l.filter (fun q => !(q.1 == i) && (!(q.1 == i + 1) && !(q.1 + 1 == i && q.2.category == 2)))
theorem z_st1 {rh : Nat → Int32} {ad : Nat → Nat} {i : Nat} {v : Value} {l : ZL} : (i, zc rh ad v) :: (zL rh ad l).filter (fun q => !(q.1 == i) && !(q.1 + 1 == i && q.2.category == 2)) = zL rh ad ((i, v) :: zf1 i l) := by
  unfold zL zf1
  rw [List.filter_map, List.map_cons]
  congr 2
  apply List.filter_congr
  intro q _
  simp only [Function.comp, zc_cat]
theorem z_st2 {rh : Nat → Int32} {ad : Nat → Nat} {i : Nat} {v : Value} {l : ZL} : (i, zc rh ad v) :: (zL rh ad l).filter (fun q => !(q.1 == i) && (!(q.1 == i + 1) && !(q.1 + 1 == i && q.2.category == 2))) = zL rh ad ((i, v) :: zf2 i l) := by
  unfold zL zf2
  rw [List.filter_map, List.map_cons]
  congr 2
  apply List.filter_congr
  intro q _
  simp only [Function.comp, zc_cat]
theorem z_lk {rh : Nat → Int32} {ad : Nat → Nat} {l : ZL} {j : Nat} {v : Value} (hk : zlk l j = some v) : ∃ k : Nat, (zL rh ad l)[k]? = some (j, zc rh ad v) :=
  List.mem_iff_getElem?.mp (List.mem_map.mpr ⟨(j, v), zlk_mem l j v hk, rfl⟩)
-- what is known of an int
def zb (bd : Nat → Int × Int) (v : Value) : Option (Int × Int) := match v with
  | .int x => some (x.toInt, x.toInt)
  | .retAddr k => some (bd k)
  | _ => none
def zEnv (bd : Nat → Int × Int) (rh : Nat → Int32) : Prop := ∀ k : Nat, (bd k).1 ≤ (rh k).toInt ∧ (rh k).toInt ≤ (bd k).2
theorem zb_ok {bd : Nat → Int × Int} {rh : Nat → Int32} (hE : zEnv bd rh) {ad : Nat → Nat} {v : Value} {q : Int × Int} (h : zb bd v = some q) : ∃ x : Int32, zc rh ad v = .int x ∧ q.1 ≤ x.toInt ∧ x.toInt ≤ q.2 := by
  cases v <;> simp only [zb] at h <;> try (cases h; done)
  · cases h; exact ⟨_, rfl, Int.le_refl _, Int.le_refl _⟩
  · cases h; exact ⟨_, rfl, (hE _).1, (hE _).2⟩
-- 0: eq, 1: lt, 2: le
def zq (op : Nat) (a b : Int × Int) : Option Bool := match op with
  | 0 => if a.1 = a.2 ∧ b.1 = b.2 ∧ a.1 = b.1 then some true else if a.2 < b.1 ∨ b.2 < a.1 then some false else none
  | 1 => if a.2 < b.1 then some true else if b.2 ≤ a.1 then some false else none
  | _ => if a.2 ≤ b.1 then some true else if b.2 < a.1 then some false else none
def zqP (op : Nat) (x y : Int32) : Prop := match op with
  | 0 => x = y
  | 1 => x < y
  | _ => x ≤ y
theorem zq_ok {op : Nat} {a b : Int × Int} {x y : Int32} {r : Bool} (hx1 : a.1 ≤ x.toInt) (hx2 : x.toInt ≤ a.2) (hy1 : b.1 ≤ y.toInt) (hy2 : y.toInt ≤ b.2) (h : zq op a b = some r) : (r = true → zqP op x y) ∧ (r = false → ¬ zqP op x y) := by
  match op with
  | 0 =>
    simp only [zq] at h
    simp only [zqP]
    rw [← Int32.toInt_inj]
    split at h
    · cases h; constructor <;> intro h <;> first | (cases h; done) | omega
    · split at h
      · cases h; constructor <;> intro h <;> first | (cases h; done) | omega
      · cases h
  | 1 =>
    simp only [zq] at h
    simp only [zqP]
    rw [Int32.lt_iff_toInt_lt]
    split at h
    · cases h; constructor <;> intro h <;> first | (cases h; done) | omega
    · split at h
      · cases h; constructor <;> intro h <;> first | (cases h; done) | omega
      · cases h
  | n + 2 =>
    simp only [zq] at h
    simp only [zqP]
    rw [Int32.le_iff_toInt_le]
    split at h
    · cases h; constructor <;> intro h <;> first | (cases h; done) | omega
    · split at h
      · cases h; constructor <;> intro h <;> first | (cases h; done) | omega
      · cases h
/-- two ints held against each other: yes, no, or not known -/
def zcmp (bd : Nat → Int × Int) (op : Nat) (a b : Value) : Option Bool := match a, b with
  | .retAddr i, .retAddr j => if i = j ∧ op = 0 then some true else match zb bd (.retAddr i), zb bd (.retAddr j) with
    | some p, some q => zq op p q
    | _, _ => none
  | a, b => match zb bd a, zb bd b with
    | some p, some q => zq op p q
    | _, _ => none
theorem zcmp_ok {bd : Nat → Int × Int} {rh : Nat → Int32} (hE : zEnv bd rh) {ad : Nat → Nat} {op : Nat} {a b : Value} {r : Bool} (h : zcmp bd op a b = some r) : ∃ x y : Int32, zc rh ad a = .int x ∧ zc rh ad b = .int y ∧ (r = true → zqP op x y) ∧ (r = false → ¬ zqP op x y) := by
  have main : (match zb bd a, zb bd b with
    | some p, some q => zq op p q
    | _, _ => none) = some r → ∃ x y : Int32, zc rh ad a = .int x ∧ zc rh ad b = .int y ∧ (r = true → zqP op x y) ∧ (r = false → ¬ zqP op x y) := by
    intro h
    cases ha : zb bd a with
    | none => rw [ha] at h; simp at h
    | some p =>
      cases hb : zb bd b with
      | none => rw [ha, hb] at h; simp at h
      | some q =>
        rw [ha, hb] at h
        obtain ⟨x, h1, h2, h3⟩ := zb_ok (ad := ad) hE ha
        obtain ⟨y, g1, g2, g3⟩ := zb_ok (ad := ad) hE hb
        exact ⟨x, y, h1, g1, zq_ok h2 h3 g2 g3 h⟩
  cases a <;> cases b <;> first | exact main h | skip
  rename_i i j
  simp only [zcmp] at h
  split at h
  · rename_i hij
    cases h
    obtain ⟨rfl, rfl⟩ := hij
    exact ⟨rh i, rh i, rfl, rfl, fun _ => rfl, fun h => by cases h⟩
  · exact main h
end ZM
