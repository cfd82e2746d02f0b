/-! the words that all methods rest on: the good ones of the tables -/
def zAl : List Cond := lw_tbl.filter goodWord
theorem zin_of {ws : List Cond} (ps : List Nat) (h : ws = ps.filterMap (fun p => lw_tbl[p]?)) (hg : ws.all goodWord = true) : ∀ w ∈ ws, w ∈ zAl := by
  intro w hw
  refine List.mem_filter.mpr ⟨?_, List.all_eq_true.mp hg w hw⟩
  rw [h] at hw
  obtain ⟨i, -, hi⟩ := List.mem_filterMap.mp hw
  exact List.mem_of_getElem? hi
