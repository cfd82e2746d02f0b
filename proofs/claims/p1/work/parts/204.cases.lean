/-! the law's cases: what is known of the script, and the runs -/
section ZCASE
/-- the script's ints by bounds; 7: the case; 20: the script may be read -/
noncomputable def zbdC (q : Int × Int) (l : List (Int × Int)) (k : Nat) : Int × Int := bif Nat.beq k 7 then q else bif Nat.beq k 20 then (1, 1) else match zn l k with
  | some b => b
  | none => (-2147483648, 2147483647)
/-- a run of a case, from the loop's head to the law's end -/
noncomputable def zcase (q : Int × Int) (l : List (Int × Int)) : Bool := match zrun zmt (zbdC q l) 40000 20 164 true [] 9999 23 zsl [] zbase 1000 200000 with
  | some (some (.int 1), _) => true
  | _ => false
theorem zcase_ok {q : Int × Int} {l : List (Int × Int)} (h : zcase q l = true) : ∃ cs, zrun zmt (zbdC q l) 40000 20 164 true [] 9999 23 zsl [] zbase 1000 200000 = some (some (.int 1), cs) := by
  unfold zcase at h
  split at h
  · rename_i cs hq
    exact ⟨cs, hq⟩
  · cases h
/-- the bounds follow each other from 'f' on to the greatest int -/
def zcov : List (Int × Int) → Int → Bool
  | [], f => decide (2147483647 < f)
  | (a, b) :: r, f => decide (a ≤ f) && zcov r (b + 1)
theorem zcov_ok : ∀ (d : List (Int × Int)) (f x : Int), zcov d f = true → f ≤ x → x ≤ 2147483647 → ∃ q ∈ d, q.1 ≤ x ∧ x ≤ q.2
  | [], f, x, h, h1, h2 => by
    have := of_decide_eq_true h
    omega
  | (a, b) :: r, f, x, h, h1, h2 => by
    simp only [zcov, Bool.and_eq_true, decide_eq_true_eq] at h
    by_cases hx : x ≤ b
    · exact ⟨(a, b), List.mem_cons_self, by show a ≤ x; omega, hx⟩
    · obtain ⟨q, hq, h3⟩ := zcov_ok r (b + 1) x h.2 (by omega) h2
      exact ⟨q, List.mem_cons_of_mem _ hq, h3⟩
def zprod : List (List (Int × Int)) → List (List (Int × Int))
  | [] => [[]]
  | d :: ds => d.flatMap (fun q => (zprod ds).map (fun l => q :: l))
theorem zprod_ok : ∀ (ds : List (List (Int × Int))) (xs : Nat → Int), (∀ k, -2147483648 ≤ xs k ∧ xs k ≤ 2147483647) → ds.all (fun d => zcov d (-2147483648)) = true → ∃ l ∈ zprod ds, ∀ (k : Nat) (q : Int × Int), l[k]? = some q → q.1 ≤ xs k ∧ xs k ≤ q.2
  | [], xs, _, _ => ⟨[], List.mem_cons_self, fun k q h => by simp at h⟩
  | d :: ds, xs, hx, h => by
    simp only [List.all_cons, Bool.and_eq_true] at h
    obtain ⟨q, hq, h1⟩ := zcov_ok d _ (xs 0) h.1 (hx 0).1 (hx 0).2
    obtain ⟨l, hl, h2⟩ := zprod_ok ds (fun k => xs (k + 1)) (fun k => hx (k + 1)) h.2
    refine ⟨q :: l, List.mem_flatMap.mpr ⟨q, hq, List.mem_map.mpr ⟨l, hl, rfl⟩⟩, fun k p hp => ?_⟩
    cases k with
    | zero => cases hp; exact h1
    | succ k => exact h2 k p hp
theorem z_rng (x : Int32) : -2147483648 ≤ x.toInt ∧ x.toInt ≤ 2147483647 := by
  have h1 := Int32.le_toInt x
  have h2 := Int32.toInt_lt x
  constructor <;> omega
/-- some bounds of the case fit the script -/
theorem zfitC {ds : List (List (Int × Int))} {q : Int × Int} (hk : (zprod ds).all (zcase q) = true) (hc : ds.all (fun d => zcov d (-2147483648)) = true) {rh : Nat → Int32} (h7 : q.1 ≤ (rh 7).toInt ∧ (rh 7).toInt ≤ q.2) (h20 : (rh 20).toInt = 1) : ∃ l, zcase q l = true ∧ zEnv (zbdC q l) rh := by
  obtain ⟨l, hl, h⟩ := zprod_ok ds (fun k => (rh k).toInt) (fun k => z_rng _) hc
  refine ⟨l, List.all_eq_true.mp hk l hl, fun k => ?_⟩
  unfold zbdC
  cases h1 : Nat.beq k 7 with
  | true =>
    rw [cond_true, Nat.eq_of_beq_eq_true h1]
    exact h7
  | false =>
    rw [cond_false]
    cases h2 : Nat.beq k 20 with
    | true =>
      rw [cond_true, Nat.eq_of_beq_eq_true h2, h20]
      exact ⟨Int.le_refl _, Int.le_refl _⟩
    | false =>
      rw [cond_false]
      split
      · rename_i b hb
        rw [zn_eq] at hb
        exact h k b hb
      · exact z_rng _
end ZCASE
