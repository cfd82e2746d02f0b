/-! the words that the table's instructions rest on, by program -/
section ZWO
noncomputable def zwo (mt : Nat → ZMI) (own : String) (e : ZEn) : List Cond := match e.2.1 with
  | .getfield idx => match zn zcl e.2.2.2.1 with
    | some q => [.fieldLink own idx (q.2.1 e.2.2.2.2).1 (q.2.1 e.2.2.2.2).2.1 (q.2.1 e.2.2.2.2).2.2.1]
    | none => []
  | .putfield idx => match zn zcl e.2.2.2.1 with
    | some q => [.fieldLink own idx (q.2.1 e.2.2.2.2).1 (q.2.1 e.2.2.2.2).2.1 (q.2.1 e.2.2.2.2).2.2.1]
    | none => []
  | .new idx => match zn zcl e.2.2.2.1 with
    | some q => [.classLink own idx q.1, .instantiable q.1 q.2.2, .initialized q.1]
    | none => []
  | .newarray t => [.arrayClass (newarray.typeOf t)]
  | .anewarray idx => match e.2.2.2.1 with
    | 4 => [.classLink own idx RX2]
    | _ => [.classLink own idx RX5]
  | .invokevirtual idx => match e.2.2.2.1 with
    | 0 => [.methodLink own idx (mt e.2.2.2.2).1]
    | 4 => [.methodLink own idx zyLen]
    | 5 => [.methodLink own idx zyChr]
    | _ => []
  | .invokestatic idx => match e.2.2.2.1 with
    | 0 => [.methodLink own idx (mt e.2.2.2.2).1]
    | 2 => [.methodLink own idx arraycopyName]
    | 3 => [.methodLink own idx Lib.Math.min.name]
    | _ => []
  | .invokespecial idx => match e.2.2.2.1 with
    | 0 => [.methodLink own idx (mt e.2.2.2.2).1]
    | 1 => [.methodLink own idx objectInit]
    | _ => []
  | .ldc2_w idx => [.constantLong own idx (lN e.2.2.2.1)]
  | _ => []
noncomputable def zwb (mt : Nat → ZMI) (own nm : String) (e : ZEn) : Bool := match e.2.1 with
  | .getfield _ => match zn zcl e.2.2.2.1 with
    | some q => decide (e.2.2.2.2 < q.2.2)
    | none => false
  | .putfield _ => match zn zcl e.2.2.2.1 with
    | some q => decide (e.2.2.2.2 < q.2.2) && (decide ((q.2.1 e.2.2.2.2).2.2.2 = false) || decide (nm = "<init>" ∧ (q.2.1 e.2.2.2.2).2.2.2 = true ∧ (q.2.1 e.2.2.2.2).1 = own))
    | none => false
  | .new _ => (zn zcl e.2.2.2.1).isSome
  | .anewarray _ => decide (e.2.2.2.1 = 4 ∨ e.2.2.2.1 = 5)
  | .invokestatic idx => decide (e.2.2.2.1 = 8 → own = "BeggarHeapsLaw" ∧ idx = 139)
  | .invokespecial idx => decide (e.2.2.2.1 = 6 → (own, idx, (mt e.2.2.2.2).1) ∈ znl)
  | .ldc idx => decide (e.2.2.2.1 = 7 → own = RX10 ∧ idx = 19)
  | _ => true
theorem zw_ok {Al : List Cond} {mt : Nat → ZMI} {own nm : String} {e : ZEn} (h1 : ∀ w ∈ zwo mt own e, w ∈ Al) (h2 : zwb mt own nm e = true) : zwd Al own nm e.2.1 (e.2.2.2.1, e.2.2.2.2) ∧ zwi Al mt own e.2.1 e.2.2.2.1 e.2.2.2.2 := by
  obtain ⟨pc, i, L, x1, x2⟩ := e
  dsimp only at h1 h2 ⊢
  cases i with
  | getfield idx =>
    simp only [zwo, zwb] at h1 h2
    cases hz : zn zcl x1 with
    | none => rw [hz] at h2; cases h2
    | some q =>
      rw [hz] at h1 h2
      rw [zn_eq] at hz
      exact ⟨⟨q, hz, of_decide_eq_true h2, h1 _ List.mem_cons_self⟩, trivial⟩
  | putfield idx =>
    simp only [zwo, zwb] at h1 h2
    cases hz : zn zcl x1 with
    | none => rw [hz] at h2; cases h2
    | some q =>
      rw [hz] at h1 h2
      rw [zn_eq] at hz
      simp only [Bool.and_eq_true, Bool.or_eq_true, decide_eq_true_eq] at h2
      exact ⟨⟨q, hz, h2.1, h1 _ List.mem_cons_self, h2.2⟩, trivial⟩
  | new idx =>
    simp only [zwo, zwb] at h1 h2
    cases hz : zn zcl x1 with
    | none => rw [hz] at h2; cases h2
    | some q =>
      rw [hz] at h1
      rw [zn_eq] at hz
      exact ⟨⟨q, hz, h1 _ List.mem_cons_self, h1 _ (List.mem_cons_of_mem _ List.mem_cons_self), h1 _ (List.mem_cons_of_mem _ (List.mem_cons_of_mem _ List.mem_cons_self))⟩, trivial⟩
  | newarray t => exact ⟨h1 _ List.mem_cons_self, trivial⟩
  | anewarray idx =>
    refine ⟨?_, trivial⟩
    rcases (of_decide_eq_true h2 : x1 = 4 ∨ x1 = 5) with rfl | rfl
    · exact Or.inl ⟨rfl, h1 _ List.mem_cons_self⟩
    · exact Or.inr ⟨rfl, h1 _ List.mem_cons_self⟩
  | invokevirtual idx =>
    refine ⟨trivial, fun z => ?_, fun z => ?_, fun z => ?_⟩ <;> subst z <;> exact h1 _ List.mem_cons_self
  | invokestatic idx =>
    refine ⟨trivial, fun z => ?_, fun z => ?_, fun z => ?_, fun z => ?_⟩
    · subst z; exact h1 _ List.mem_cons_self
    · subst z; exact h1 _ List.mem_cons_self
    · subst z; exact h1 _ List.mem_cons_self
    · exact (of_decide_eq_true h2 : x1 = 8 → own = "BeggarHeapsLaw" ∧ idx = 139) z
  | invokespecial idx =>
    refine ⟨trivial, fun z => ?_, fun z => ?_, fun z => ?_⟩
    · subst z; exact h1 _ List.mem_cons_self
    · exact (of_decide_eq_true h2 : x1 = 6 → (own, idx, (mt x2).1) ∈ znl) z
    · subst z; exact h1 _ List.mem_cons_self
  | ldc idx => exact ⟨trivial, (of_decide_eq_true h2 : x1 = 7 → own = RX10 ∧ idx = 19)⟩
  | ldc2_w idx => exact ⟨trivial, h1 _ List.mem_cons_self⟩
  | _ => exact ⟨trivial, trivial⟩
/-- a method's words and checks -/
noncomputable def zwM (mt : Nat → ZMI) (M : ZMI) : List Cond := (match M.2.2.2.2.1 with
  | 0 => [.initialized M.1.cls, .instanceMethod M.1, .selects M.1.cls M.1 M.1]
  | 1 => [.initialized M.1.cls, .static M.1]
  | 2 => [.initialized M.1.cls, .instanceMethod M.1]
  | _ => []) ++ M.2.2.2.2.2.2.2.2.2.flatMap (fun r => r.flatMap (zwo mt M.1.cls))
noncomputable def zbM (mt : Nat → ZMI) (M : ZMI) : Bool := (match M.2.2.2.2.1 with
  | 0 => true
  | 1 => true
  | 2 => decide (M.1.name = "<init>" ∧ M.2.2.2.1 = none)
  | _ => true) && (decide (plainName M.1.cls = true) && (decide (M.1.cls ≠ "java/lang/invoke/MethodHandle" ∧ M.1.cls ≠ "java/lang/invoke/VarHandle" ∧ (parseMethodDescriptor M.1.desc).map (fun d => d.parameters.length) = some M.2.2.2.2.2.2.2.1) && ((match zn zcl M.2.2.2.2.2.2.2.2.1 with
    | some q => decide (q.1 = M.1.cls) || decide (2 < M.2.2.2.2.1)
    | none => decide (2 < M.2.2.2.2.1)) && M.2.2.2.2.2.2.2.2.2.all (fun r => r.all (zwb mt M.1.cls M.1.name)))))
noncomputable def zdM (M : ZMI) : Prop := ∀ r ∈ M.2.2.2.2.2.2.2.2.2, ∀ e ∈ r, decode M.2.1 e.1 = .ok (e.2.1, zlen e.2.1 e.2.2.1)
theorem zM_ok {Al : List Cond} {mt : Nat → ZMI} {M : ZMI} (h1 : ∀ w ∈ zwM mt M, w ∈ Al) (h2 : zbM mt M = true) (h3 : zdM M) (h4 : M.2.2.2.2.1 ≤ 2 → Cond.code M.1 M.2.1 M.2.2.1 M.2.2.2.1 ∈ Al) : zEok Al mt M ∧ (M.2.2.2.2.1 ≤ 2 → zMok Al M) := by
  unfold zbM at h2
  simp only [Bool.and_eq_true] at h2
  obtain ⟨b1, b2, b3, b4, b5⟩ := h2
  unfold zwM at h1
  constructor
  · intro r hr e he
    have hw := zw_ok (Al := Al) (mt := mt) (own := M.1.cls) (nm := M.1.name) (e := e) (fun w hw => h1 w (List.mem_append_right _ (List.mem_flatMap.mpr ⟨r, hr, List.mem_flatMap.mpr ⟨e, he, hw⟩⟩))) (List.all_eq_true.mp (List.all_eq_true.mp b5 r hr) e he)
    exact ⟨h3 r hr e he, hw.1, hw.2⟩
  · intro hk
    have hq : ∃ q, zcl[M.2.2.2.2.2.2.2.2.1]? = some q ∧ q.1 = M.1.cls := by
      cases hz : zn zcl M.2.2.2.2.2.2.2.2.1 with
      | none =>
        rw [hz] at b4
        have := of_decide_eq_true b4
        omega
      | some q =>
        rw [hz] at b4
        rw [zn_eq] at hz
        simp only [Bool.or_eq_true, decide_eq_true_eq] at b4
        rcases b4 with b4 | b4
        · exact ⟨q, hz, b4⟩
        · omega
    have hini : ∀ k, k = M.2.2.2.2.1 → k ≤ 2 → Cond.initialized M.1.cls ∈ Al ∧ (k = 0 → Cond.instanceMethod M.1 ∈ Al ∧ Cond.selects M.1.cls M.1 M.1 ∈ Al) ∧ (k = 1 → Cond.static M.1 ∈ Al) ∧ (k = 2 → M.1.name = "<init>" ∧ Cond.instanceMethod M.1 ∈ Al ∧ M.2.2.2.1 = none) := by
      intro k e1 e2
      rw [← e1] at h1 b1
      match k, e2 with
      | 0, _ => exact ⟨h1 _ (List.mem_append_left _ List.mem_cons_self), fun _ => ⟨h1 _ (List.mem_append_left _ (List.mem_cons_of_mem _ List.mem_cons_self)), h1 _ (List.mem_append_left _ (List.mem_cons_of_mem _ (List.mem_cons_of_mem _ List.mem_cons_self)))⟩, (fun z => by cases z), (fun z => by cases z)⟩
      | 1, _ => exact ⟨h1 _ (List.mem_append_left _ List.mem_cons_self), (fun z => by cases z), fun _ => h1 _ (List.mem_append_left _ (List.mem_cons_of_mem _ List.mem_cons_self)), (fun z => by cases z)⟩
      | 2, _ => exact ⟨h1 _ (List.mem_append_left _ List.mem_cons_self), (fun z => by cases z), (fun z => by cases z), fun _ => ⟨(of_decide_eq_true b1).1, h1 _ (List.mem_append_left _ (List.mem_cons_of_mem _ List.mem_cons_self)), (of_decide_eq_true b1).2⟩⟩
      | k + 3, h => omega
    obtain ⟨i1, i2, i3, i4⟩ := hini _ rfl hk
    exact ⟨of_decide_eq_true b2, h4 hk, i1, of_decide_eq_true b3, hq, i2, i3, i4⟩
end ZWO
