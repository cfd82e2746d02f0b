/-! AN ABSTRACT MACHINE over cells by their numbers. Its values are the machine's own: '.ref i' is the cell of number i (from 1000000 on: things of the start), '.retAddr k' an int of which only bounds are known, rh k. -/
section ZM
abbrev ZC : Type := (Nat × List Value) ⊕ (Nat × Nat × List (Nat × Value))
abbrev ZO : Type := Option (Option Value × List ZC)
abbrev ZL : Type := List (Nat × Value)
noncomputable def zc (rh : Nat → Int32) (ad : Nat → Nat) (v : Value) : Value := match v with
  | .ref i => .ref (ad i)
  | .retAddr k => .int (rh k)
  | .int x => .int x
  | .long x => .long x
  | .float x => .float x
  | .double x => .double x
  | .null => .null
theorem zc_cat (rh : Nat → Int32) (ad : Nat → Nat) (v : Value) : (zc rh ad v).category = v.category := by cases v <;> rfl
-- numbers in a plain form, before they are used
noncomputable def zfN {α : Type} (n : Nat) (k : Nat → α) : α := Nat.rec (k 0) (fun m _ => k (m + 1)) n
theorem zfN_eq {α : Type} (n : Nat) (k : Nat → α) : zfN n k = k n := by cases n <;> rfl
theorem z_nI (x : Int32) : nI x.toBitVec.toNat = x := Int32.toBitVec_inj.mp (BitVec.eq_of_toNat_eq (pk_tn x.toBitVec.isLt))
theorem z_lN (x : Int64) : lN x.toBitVec.toNat = x := by
  refine Int64.toBitVec_inj.mp (BitVec.eq_of_toNat_eq ?_)
  show (BitVec.ofNat 64 _).toNat = _
  rw [BitVec.toNat_ofNat]
  exact Nat.mod_eq_of_lt x.toBitVec.isLt
noncomputable def zfI {α : Type} (x : Int32) (k : Int32 → α) : α := zfN x.toBitVec.toNat (fun n => k (nI n))
theorem zfI_eq {α : Type} (x : Int32) (k : Int32 → α) : zfI x k = k x := by unfold zfI; rw [zfN_eq, z_nI]
noncomputable def zfJ {α : Type} (x : Int64) (k : Int64 → α) : α := zfN x.toBitVec.toNat (fun n => k (lN n))
theorem zfJ_eq {α : Type} (x : Int64) (k : Int64 → α) : zfJ x k = k x := by unfold zfJ; rw [zfN_eq, z_lN]
noncomputable def zfV {α : Type} (v : Value) (k : Value → α) : α := match v with
  | .int x => zfI x (fun y => k (.int y))
  | .long x => zfJ x (fun y => k (.long y))
  | .ref a => zfN a (fun b => k (.ref b))
  | .retAddr a => zfN a (fun b => k (.retAddr b))
  | .float x => k (.float x)
  | .double x => k (.double x)
  | .null => k .null
theorem zfV_eq {α : Type} (v : Value) (k : Value → α) : zfV v k = k v := by cases v <;> simp [zfV, zfI_eq, zfJ_eq, zfN_eq]
noncomputable def zfS {α β : Type} (l : List β) : (List β → α) → α := List.rec (motive := fun _ => (List β → α) → α) (fun k => k []) (fun a _ ih k => ih (fun r' => k (a :: r'))) l
theorem zfS_eq {α β : Type} (l : List β) : ∀ k : List β → α, zfS l k = k l := by
  induction l with
  | nil => intro k; rfl
  | cons a r ih => intro k; exact ih _
noncomputable def zn {β : Type} (l : List β) : Nat → Option β := List.rec (motive := fun _ => Nat → Option β) (fun _ => none) (fun a _ ih n => Nat.rec (motive := fun _ => Option β) (some a) (fun m _ => ih m) n) l
theorem zn_eq {β : Type} (l : List β) : ∀ n : Nat, zn l n = l[n]? := by
  induction l with
  | nil => intro n; rfl
  | cons a r ih => intro n; cases n with
    | zero => rfl
    | succ n => rw [List.getElem?_cons_succ]; exact ih n
/-- the n-th one written anew, in a plain form up to there -/
noncomputable def zfset {α β : Type} (l : List β) (v : β) : Nat → (List β → α) → α := List.rec (motive := fun _ => Nat → (List β → α) → α) (fun _ k => k []) (fun a r ih n => Nat.rec (motive := fun _ => (List β → α) → α) (fun k => k (v :: r)) (fun m _ k => ih m (fun r' => k (a :: r'))) n) l
theorem zfset_eq {α β : Type} (v : β) : ∀ (l : List β) (n : Nat) (k : List β → α), zfset l v n k = k (l.set n v)
  | [], _, _ => rfl
  | _ :: _, 0, _ => rfl
  | a :: r, n + 1, k => zfset_eq v r n (fun r' => k (a :: r'))
/-- how many, in a plain form -/
noncomputable def zln {β : Type} (l : List β) : Nat := List.rec (motive := fun _ => Nat) 0 (fun _ _ n => n + 1) l
theorem zln_eq {β : Type} : ∀ l : List β, zln l = l.length
  | [] => rfl
  | _ :: r => congrArg (· + 1) (zln_eq r)
-- locals
noncomputable def zlk (l : ZL) : Nat → Option Value := List.rec (motive := fun _ => Nat → Option Value) (fun _ => none) (fun q _ ih j => bif Nat.beq q.1 j then some q.2 else ih j) l
theorem zlk_mem : ∀ (l : ZL) (j : Nat) (v : Value), zlk l j = some v → (j, v) ∈ l
  | [], _, _, h => by cases h
  | (i, w) :: r, j, v, h => by
    have h : (bif Nat.beq i j then some w else zlk r j) = some v := h
    cases hb : Nat.beq i j with
    | true =>
      rw [hb] at h
      have e : i = j := Nat.eq_of_beq_eq_true hb
      cases h
      rw [e]
      exact List.mem_cons_self
    | false =>
      rw [hb] at h
      exact List.mem_cons_of_mem _ (zlk_mem r j v h)
noncomputable def zL (rh : Nat → Int32) (ad : Nat → Nat) (l : ZL) : ZL := l.map (fun q => (q.1, zc rh ad q.2))
theorem z_at {rh : Nat → Int32} {ad : Nat → Nat} {ls : Array Slot} {nL : Nat} {l : ZL} {j : Nat} {v : Value} (h : lv_has ls nL (zL rh ad l)) (hk : zlk l j = some v) : ls[j]? = some (.val (zc rh ad v)) :=
  h.2.2 (j, zc rh ad v) (List.mem_map.mpr ⟨(j, v), zlk_mem l j v hk, rfl⟩)
noncomputable def zf1 (i : Nat) (l : ZL) : ZL := l.filter (fun q => !(q.1 == i) && !(q.1 + 1 == i && q.2.category == 2))
noncomputable def zf2 (i : Nat) (l : ZL) : ZL := l.filter (fun q => !(q.1 == i) && (!(q.1 == i + 1) && !(q.1 + 1 == i && q.2.category == 2)))
/-- the locals without some, in a plain form -/
noncomputable def zff {α : Type} (f : Nat × Value → Bool) (l : ZL) : (ZL → α) → α := List.rec (motive := fun _ => (ZL → α) → α) (fun k => k []) (fun q _ ih k => bif f q then ih (fun r' => k (q :: r')) else ih k) l
theorem zff_eq {α : Type} (f : Nat × Value → Bool) : ∀ (l : ZL) (k : ZL → α), zff f l k = k (l.filter f)
  | [], _ => rfl
  | q :: r, k => by
    show (bif f q then zff f r (fun r' => k (q :: r')) else zff f r k) = _
    cases h : f q with
    | true => rw [cond_true, zff_eq f r, List.filter_cons_of_pos h]
    | false => rw [cond_false, zff_eq f r, List.filter_cons_of_neg (by rw [h]; decide)]
noncomputable def zff1 {α : Type} (i : Nat) (l : ZL) (k : ZL → α) : α := zff (fun q => !(q.1 == i) && !(q.1 + 1 == i && q.2.category == 2)) l k
noncomputable def zff2 {α : Type} (i : Nat) (l : ZL) (k : ZL → α) : α := zff (fun q => !(q.1 == i) && (!(q.1 == i + 1) && !(q.1 + 1 == i && q.2.category == 2))) l k
theorem zff1_eq {α : Type} (i : Nat) (l : ZL) (k : ZL → α) : zff1 i l k = k (zf1 i l) := zff_eq _ l k
theorem zff2_eq {α : Type} (i : Nat) (l : ZL) (k : ZL → α) : zff2 i l k = k (zf2 i l) := zff_eq _ l k
theorem z_st1 {rh : Nat → Int32} {ad : Nat → Nat} {i : Nat} {v : Value} {l : ZL} : (i, zc rh ad v) :: (zL rh ad l).filter (fun q => !(q.1 == i) && !(q.1 + 1 == i && q.2.category == 2)) = zL rh ad ((i, v) :: zf1 i l) := by
  unfold zL zf1
  rw [List.filter_map, List.map_cons]
  congr 2
  apply List.filter_congr
  intro q _
  simp only [Function.comp, zc_cat]
theorem z_st2 {rh : Nat → Int32} {ad : Nat → Nat} {i : Nat} {v : Value} {l : ZL} : (i, zc rh ad v) :: (zL rh ad l).filter (fun q => !(q.1 == i) && (!(q.1 == i + 1) && !(q.1 + 1 == i && q.2.category == 2))) = zL rh ad ((i, v) :: zf2 i l) := by
  unfold zL zf2
  rw [List.filter_map, List.map_cons]
  congr 2
  apply List.filter_congr
  intro q _
  simp only [Function.comp, zc_cat]
theorem z_lk {rh : Nat → Int32} {ad : Nat → Nat} {l : ZL} {j : Nat} {v : Value} (hk : zlk l j = some v) : ∃ k : Nat, (zL rh ad l)[k]? = some (j, zc rh ad v) :=
  List.mem_iff_getElem?.mp (List.mem_map.mpr ⟨(j, v), zlk_mem l j v hk, rfl⟩)
-- what is known of an int
noncomputable def zb (bd : Nat → Int × Int) (v : Value) : Option (Int × Int) := match v with
  | .int x => some (x.toInt, x.toInt)
  | .retAddr k => some (bd k)
  | _ => none
noncomputable def zEnv (bd : Nat → Int × Int) (rh : Nat → Int32) : Prop := ∀ k : Nat, (bd k).1 ≤ (rh k).toInt ∧ (rh k).toInt ≤ (bd k).2
theorem zb_ok {bd : Nat → Int × Int} {rh : Nat → Int32} (hE : zEnv bd rh) {ad : Nat → Nat} {v : Value} {q : Int × Int} (h : zb bd v = some q) : ∃ x : Int32, zc rh ad v = .int x ∧ q.1 ≤ x.toInt ∧ x.toInt ≤ q.2 := by
  cases v <;> simp only [zb] at h <;> try (cases h; done)
  · cases h; exact ⟨_, rfl, Int.le_refl _, Int.le_refl _⟩
  · cases h; exact ⟨_, rfl, (hE _).1, (hE _).2⟩
-- 0: eq, 1: lt, 2: le
noncomputable def zq (op : Nat) (a b : Int × Int) : Option Bool := match op with
  | 0 => if a.1 = a.2 ∧ b.1 = b.2 ∧ a.1 = b.1 then some true else if a.2 < b.1 ∨ b.2 < a.1 then some false else none
  | 1 => if a.2 < b.1 then some true else if b.2 ≤ a.1 then some false else none
  | _ => if a.2 ≤ b.1 then some true else if b.2 < a.1 then some false else none
noncomputable def zqP (op : Nat) (x y : Int32) : Prop := match op with
  | 0 => x = y
  | 1 => x < y
  | _ => x ≤ y
theorem zq_ok {op : Nat} {a b : Int × Int} {x y : Int32} {r : Bool} (hx1 : a.1 ≤ x.toInt) (hx2 : x.toInt ≤ a.2) (hy1 : b.1 ≤ y.toInt) (hy2 : y.toInt ≤ b.2) (h : zq op a b = some r) : (r = true → zqP op x y) ∧ (r = false → ¬ zqP op x y) := by
  match op with
  | 0 =>
    simp only [zq] at h
    simp only [zqP]
    rw [← Int32.toInt_inj]
    split at h
    · cases h; constructor <;> intro h <;> first | (cases h; done) | omega
    · split at h
      · cases h; constructor <;> intro h <;> first | (cases h; done) | omega
      · cases h
  | 1 =>
    simp only [zq] at h
    simp only [zqP]
    rw [Int32.lt_iff_toInt_lt]
    split at h
    · cases h; constructor <;> intro h <;> first | (cases h; done) | omega
    · split at h
      · cases h; constructor <;> intro h <;> first | (cases h; done) | omega
      · cases h
  | n + 2 =>
    simp only [zq] at h
    simp only [zqP]
    rw [Int32.le_iff_toInt_le]
    split at h
    · cases h; constructor <;> intro h <;> first | (cases h; done) | omega
    · split at h
      · cases h; constructor <;> intro h <;> first | (cases h; done) | omega
      · cases h
/-- two ints held against each other: yes, no, or not known -/
noncomputable def zcmp (bd : Nat → Int × Int) (op : Nat) (a b : Value) : Option Bool := match a, b with
  | .retAddr i, .retAddr j => if i = j ∧ op = 0 then some true else match zb bd (.retAddr i), zb bd (.retAddr j) with
    | some p, some q => zq op p q
    | _, _ => none
  | a, b => match zb bd a, zb bd b with
    | some p, some q => zq op p q
    | _, _ => none
theorem zcmp_ok {bd : Nat → Int × Int} {rh : Nat → Int32} (hE : zEnv bd rh) {ad : Nat → Nat} {op : Nat} {a b : Value} {r : Bool} (h : zcmp bd op a b = some r) : ∃ x y : Int32, zc rh ad a = .int x ∧ zc rh ad b = .int y ∧ (r = true → zqP op x y) ∧ (r = false → ¬ zqP op x y) := by
  have main : (match zb bd a, zb bd b with
    | some p, some q => zq op p q
    | _, _ => none) = some r → ∃ x y : Int32, zc rh ad a = .int x ∧ zc rh ad b = .int y ∧ (r = true → zqP op x y) ∧ (r = false → ¬ zqP op x y) := by
    intro h
    cases ha : zb bd a with
    | none => rw [ha] at h; simp at h
    | some p =>
      cases hb : zb bd b with
      | none => rw [ha, hb] at h; simp at h
      | some q =>
        rw [ha, hb] at h
        obtain ⟨x, h1, h2, h3⟩ := zb_ok (ad := ad) hE ha
        obtain ⟨y, g1, g2, g3⟩ := zb_ok (ad := ad) hE hb
        exact ⟨x, y, h1, g1, zq_ok h2 h3 g2 g3 h⟩
  cases a <;> cases b <;> first | exact main h | skip
  rename_i i j
  simp only [zcmp] at h
  split at h
  · rename_i hij
    cases h
    obtain ⟨rfl, rfl⟩ := hij
    exact ⟨rh i, rh i, rfl, rfl, fun _ => rfl, fun h => by cases h⟩
  · exact main h
end ZM
