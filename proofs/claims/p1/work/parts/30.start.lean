/-! what holds at the law's entry -/
section ZSTART
theorem zu0 : u_ws RX0 TX0 4 = [348, 350, 352, 354].filterMap (fun p => lw_tbl[p]?) := by decide +kernel
theorem zug0 : (u_ws RX0 TX0 4).all goodWord = true := by decide +kernel
theorem zui0 : Cond.instantiable RX0 4 ∈ lw_tbl := List.mem_of_getElem? (i := 337) (by decide +kernel)
theorem zu1 : u_ws RX1 TX1 12 = [594, 596, 598, 600, 602, 604, 606, 608, 610, 612, 614, 616].filterMap (fun p => lw_tbl[p]?) := by decide +kernel
theorem zug1 : (u_ws RX1 TX1 12).all goodWord = true := by decide +kernel
theorem zui1 : Cond.instantiable RX1 12 ∈ lw_tbl := List.mem_of_getElem? (i := 565) (by decide +kernel)
theorem zu2 : u_ws RX2 TX2 16 = [506, 508, 510, 512, 514, 516, 518, 520, 522, 524, 526, 528, 530, 532, 534, 536].filterMap (fun p => lw_tbl[p]?) := by decide +kernel
theorem zug2 : (u_ws RX2 TX2 16).all goodWord = true := by decide +kernel
theorem zui2 : Cond.instantiable RX2 16 ∈ lw_tbl := List.mem_of_getElem? (i := 391) (by decide +kernel)
theorem zu3 : u_ws RX3 TX3 5 = [737, 739, 741, 743, 745].filterMap (fun p => lw_tbl[p]?) := by decide +kernel
theorem zug3 : (u_ws RX3 TX3 5).all goodWord = true := by decide +kernel
theorem zui3 : Cond.instantiable RX3 5 ∈ lw_tbl := List.mem_of_getElem? (i := 725) (by decide +kernel)
theorem zu4 : u_ws RX4 TX4 9 = [705, 707, 709, 711, 713, 715, 717, 719, 721].filterMap (fun p => lw_tbl[p]?) := by decide +kernel
theorem zug4 : (u_ws RX4 TX4 9).all goodWord = true := by decide +kernel
theorem zui4 : Cond.instantiable RX4 9 ∈ lw_tbl := List.mem_of_getElem? (i := 689) (by decide +kernel)
theorem zu5 : u_ws RX5 TX5 15 = [452, 454, 456, 458, 460, 462, 464, 466, 468, 470, 472, 474, 476, 478, 480].filterMap (fun p => lw_tbl[p]?) := by decide +kernel
theorem zug5 : (u_ws RX5 TX5 15).all goodWord = true := by decide +kernel
theorem zui5 : Cond.instantiable RX5 15 ∈ lw_tbl := List.mem_of_getElem? (i := 397) (by decide +kernel)
theorem zu6 : u_ws RX6 TX6 8 = [373, 375, 377, 379, 381, 383, 385, 387].filterMap (fun p => lw_tbl[p]?) := by decide +kernel
theorem zug6 : (u_ws RX6 TX6 8).all goodWord = true := by decide +kernel
theorem zui6 : Cond.instantiable RX6 8 ∈ lw_tbl := List.mem_of_getElem? (i := 358) (by decide +kernel)
theorem zu7 : u_ws RX7 TX7 4 = [555, 557, 559, 561].filterMap (fun p => lw_tbl[p]?) := by decide +kernel
theorem zug7 : (u_ws RX7 TX7 4).all goodWord = true := by decide +kernel
theorem zui7 : Cond.instantiable RX7 4 ∈ lw_tbl := List.mem_of_getElem? (i := 541) (by decide +kernel)
theorem zu8 : u_ws RX8 TX8 18 = [651, 653, 655, 657, 659, 661, 663, 665, 667, 669, 671, 673, 675, 677, 679, 681, 683, 685].filterMap (fun p => lw_tbl[p]?) := by decide +kernel
theorem zug8 : (u_ws RX8 TX8 18).all goodWord = true := by decide +kernel
theorem zui8 : Cond.instantiable RX8 18 ∈ lw_tbl := List.mem_of_getElem? (i := 620) (by decide +kernel)
theorem zu9 : u_ws RX9 TX9 16 = [301, 303, 305, 307, 309, 311, 313, 315, 317, 319, 321, 323, 325, 327, 329, 331].filterMap (fun p => lw_tbl[p]?) := by decide +kernel
theorem zug9 : (u_ws RX9 TX9 16).all goodWord = true := by decide +kernel
theorem zui9 : Cond.instantiable RX9 16 ∈ lw_tbl := List.mem_of_getElem? (i := 253) (by decide +kernel)
theorem zu10 : u_ws RX10 TX10 10 = [229, 231, 233, 235, 237, 239, 241, 243, 245, 247].filterMap (fun p => lw_tbl[p]?) := by decide +kernel
theorem zug10 : (u_ws RX10 TX10 10).all goodWord = true := by decide +kernel
theorem zui10 : Cond.instantiable RX10 10 ∈ lw_tbl := List.mem_of_getElem? (i := 158) (by decide +kernel)
theorem zu11 : u_ws RX11 TX11 19 = [787, 789, 791, 793, 795, 797, 799, 801, 803, 805, 807, 809, 811, 813, 815, 817, 819, 821, 823].filterMap (fun p => lw_tbl[p]?) := by decide +kernel
theorem zug11 : (u_ws RX11 TX11 19).all goodWord = true := by decide +kernel
theorem zui11 : Cond.instantiable RX11 19 ∈ lw_tbl := List.mem_of_getElem? (i := 150) (by decide +kernel)
theorem zu12 : u_ws RX12 TX12 56 = [1703, 1705, 1707, 1709, 1711, 1713, 1715, 1717, 1719, 1721, 1723, 1725, 1727, 1729, 1731, 1733, 1735, 1737, 1739, 1741, 1743, 1745, 1747, 1749, 1751, 1753, 1755, 1757, 1759, 1761, 1763, 1765, 1767, 1769, 1771, 1773, 1775, 1777, 1779, 1781, 1783, 1785, 1787, 1789, 1791, 1793, 1795, 1797, 1799, 1801, 1803, 1805, 1807, 1809, 1811, 1813].filterMap (fun p => lw_tbl[p]?) := by decide +kernel
theorem zug12 : (u_ws RX12 TX12 56).all goodWord = true := by decide +kernel
theorem zui12 : Cond.instantiable RX12 56 ∈ lw_tbl := List.mem_of_getElem? (i := 1608) (by decide +kernel)
theorem zcw_ok : zcw zAl := by
  intro ci q h
  match ci, h with
  | 0, h => cases h; exact zin_of _ zu0 zug0
  | 1, h => cases h; exact zin_of _ zu1 zug1
  | 2, h => cases h; exact zin_of _ zu2 zug2
  | 3, h => cases h; exact zin_of _ zu3 zug3
  | 4, h => cases h; exact zin_of _ zu4 zug4
  | 5, h => cases h; exact zin_of _ zu5 zug5
  | 6, h => cases h; exact zin_of _ zu6 zug6
  | 7, h => cases h; exact zin_of _ zu7 zug7
  | 8, h => cases h; exact zin_of _ zu8 zug8
  | 9, h => cases h; exact zin_of _ zu9 zug9
  | 10, h => cases h; exact zin_of _ zu10 zug10
  | 11, h => cases h; exact zin_of _ zu11 zug11
  | 12, h => cases h; exact zin_of _ zu12 zug12
  | n + 13, h => cases h
theorem zmem_of {w : Cond} (p : Nat) (h : lw_tbl[p]? = some w) (hg : goodWord w = true) : w ∈ zAl := List.mem_filter.mpr ⟨List.mem_of_getElem? h, hg⟩
theorem zAl0_ok : zAl0 zAl := ⟨zmem_of 155 (by decide +kernel) rfl, zmem_of 156 (by decide +kernel) rfl, zmem_of 1094 (by decide +kernel) rfl, zmem_of 1093 (by decide +kernel) rfl, zmem_of 144 (by decide +kernel) rfl, zmem_of 915 (by decide +kernel) rfl, zmem_of 143 (by decide +kernel) rfl, zmem_of 916 (by decide +kernel) rfl⟩
theorem znl_in : znl.map (fun q => Cond.methodLinkNest q.1 q.2.1 q.2.2 "BeggarHeaps") = [338, 392, 542, 566, 726, 571, 398, 1409].filterMap (fun p => lw_tbl[p]?) := by decide +kernel
theorem zKi {args : Array Value} {s : State} {ty : FieldType} (h : (Cond.arrayClass ty).before args s = true) : ∃ cA, ArrOfT s cA ty ∧ s.vm.findClass ("[" ++ ty.toString) = some cA := by
  obtain ⟨c, k, comp, h1, h2, h3⟩ := Cond.arrayClass_spec (args := args) (first := s) (o := none) (s := s) (idx := []) h
  exact ⟨c, fun n z => ⟨fun k h => (by cases h), k, h2, comp, h3⟩, h1⟩
theorem zKo {s : State} {C : String} (h : va_AO C s) : ∃ cA, ArrOfT s cA (.object C) ∧ va_RA s cA (.object C) := by
  obtain ⟨comp, c, k, h1, h2, h3, h4, h5⟩ := Cond.arrayOver_spec h
  exact ⟨c, fun n z => ⟨fun k h => (by cases h), k, h3, comp, h4⟩, k, comp, h3, h4, h1, h5⟩
set_option maxHeartbeats 2000000 in
theorem zX_ex {args : Array Value} {s : State} (hts : ∀ w ∈ lw_tbl, w.before args s = true) : ∃ (D : va_G) (cA : Nat → ClassId), ZX D cA s := by
  obtain ⟨c0, iS0, hKn0⟩ := u_known (C := RX0) (T := TX0) (N := 4) (n := 4) hts (fun w hw => (List.mem_filter.mp (zin_of _ zu0 zug0 w hw)).1) (hts _ zui0)
  obtain ⟨c1, iS1, hKn1⟩ := u_known (C := RX1) (T := TX1) (N := 12) (n := 12) hts (fun w hw => (List.mem_filter.mp (zin_of _ zu1 zug1 w hw)).1) (hts _ zui1)
  obtain ⟨c2, iS2, hKn2⟩ := u_known (C := RX2) (T := TX2) (N := 16) (n := 16) hts (fun w hw => (List.mem_filter.mp (zin_of _ zu2 zug2 w hw)).1) (hts _ zui2)
  obtain ⟨c3, iS3, hKn3⟩ := u_known (C := RX3) (T := TX3) (N := 5) (n := 5) hts (fun w hw => (List.mem_filter.mp (zin_of _ zu3 zug3 w hw)).1) (hts _ zui3)
  obtain ⟨c4, iS4, hKn4⟩ := u_known (C := RX4) (T := TX4) (N := 9) (n := 9) hts (fun w hw => (List.mem_filter.mp (zin_of _ zu4 zug4 w hw)).1) (hts _ zui4)
  obtain ⟨c5, iS5, hKn5⟩ := u_known (C := RX5) (T := TX5) (N := 15) (n := 15) hts (fun w hw => (List.mem_filter.mp (zin_of _ zu5 zug5 w hw)).1) (hts _ zui5)
  obtain ⟨c6, iS6, hKn6⟩ := u_known (C := RX6) (T := TX6) (N := 8) (n := 8) hts (fun w hw => (List.mem_filter.mp (zin_of _ zu6 zug6 w hw)).1) (hts _ zui6)
  obtain ⟨c7, iS7, hKn7⟩ := u_known (C := RX7) (T := TX7) (N := 4) (n := 4) hts (fun w hw => (List.mem_filter.mp (zin_of _ zu7 zug7 w hw)).1) (hts _ zui7)
  obtain ⟨c8, iS8, hKn8⟩ := u_known (C := RX8) (T := TX8) (N := 18) (n := 18) hts (fun w hw => (List.mem_filter.mp (zin_of _ zu8 zug8 w hw)).1) (hts _ zui8)
  obtain ⟨c9, iS9, hKn9⟩ := u_known (C := RX9) (T := TX9) (N := 16) (n := 16) hts (fun w hw => (List.mem_filter.mp (zin_of _ zu9 zug9 w hw)).1) (hts _ zui9)
  obtain ⟨c10, iS10, hKn10⟩ := u_known (C := RX10) (T := TX10) (N := 10) (n := 10) hts (fun w hw => (List.mem_filter.mp (zin_of _ zu10 zug10 w hw)).1) (hts _ zui10)
  obtain ⟨c11, iS11, hKn11⟩ := u_known (C := RX11) (T := TX11) (N := 19) (n := 19) hts (fun w hw => (List.mem_filter.mp (zin_of _ zu11 zug11 w hw)).1) (hts _ zui11)
  obtain ⟨c12, iS12, hKn12⟩ := u_known (C := RX12) (T := TX12) (N := 56) (n := 56) hts (fun w hw => (List.mem_filter.mp (zin_of _ zu12 zug12 w hw)).1) (hts _ zui12)
  have hKc : ∀ (k : Nat) (q : vw_C), zcl[k]? = some q → u_Kn s q.1 q.2.1 q.2.2 ([c0, c1, c2, c3, c4, c5, c6, c7, c8, c9, c10, c11, c12].getD k c0) ([iS0, iS1, iS2, iS3, iS4, iS5, iS6, iS7, iS8, iS9, iS10, iS11, iS12].getD k iS0) := by
    intro k q hq
    match k, hq with
    | 0, hq => cases hq; exact hKn0
    | 1, hq => cases hq; exact hKn1
    | 2, hq => cases hq; exact hKn2
    | 3, hq => cases hq; exact hKn3
    | 4, hq => cases hq; exact hKn4
    | 5, hq => cases hq; exact hKn5
    | 6, hq => cases hq; exact hKn6
    | 7, hq => cases hq; exact hKn7
    | 8, hq => cases hq; exact hKn8
    | 9, hq => cases hq; exact hKn9
    | 10, hq => cases hq; exact hKn10
    | 11, hq => cases hq; exact hKn11
    | 12, hq => cases hq; exact hKn12
    | n + 13, hq => cases hq
  have o4 : va_AO RX2 s := va_AO.of (A := args) (hts _ (List.mem_of_getElem? (i := 539) (by decide +kernel)))
  have o5 : va_AO RX5 s := va_AO.of (A := args) (hts _ (List.mem_of_getElem? (i := 1408) (by decide +kernel)))
  obtain ⟨a0, p0, q0⟩ := zKi (ty := .int) (hts _ (List.mem_of_getElem? (i := 334) (by decide +kernel)))
  obtain ⟨a1, p1, q1⟩ := zKi (ty := .long) (hts _ (List.mem_of_getElem? (i := 251) (by decide +kernel)))
  obtain ⟨a2, p2, q2⟩ := zKi (ty := .boolean) (hts _ (List.mem_of_getElem? (i := 335) (by decide +kernel)))
  obtain ⟨a3, p3, q3⟩ := zKi (ty := .byte) (hts _ (List.mem_of_getElem? (i := 250) (by decide +kernel)))
  obtain ⟨a4, p4, q4⟩ := zKo o4
  obtain ⟨a5, p5, q5⟩ := zKo o5
  refine ⟨(fun k => [c0, c1, c2, c3, c4, c5, c6, c7, c8, c9, c10, c11, c12].getD k c0, fun k => [iS0, iS1, iS2, iS3, iS4, iS5, iS6, iS7, iS8, iS9, iS10, iS11, iS12].getD k iS0), fun k => [a0, a1, a2, a3, a4, a5].getD k a0, ⟨hKc, fun k q hq => ?_⟩, o4, o5, fun q hq => ?_⟩
  · match k, hq with
    | 0, hq => cases hq; exact ⟨p0, q0⟩
    | 1, hq => cases hq; exact ⟨p1, q1⟩
    | 2, hq => cases hq; exact ⟨p2, q2⟩
    | 3, hq => cases hq; exact ⟨p3, q3⟩
    | 4, hq => cases hq; exact ⟨p4, q4⟩
    | 5, hq => cases hq; exact ⟨p5, q5⟩
    | n + 6, hq => cases hq
  · have hm : Cond.methodLinkNest q.1 q.2.1 q.2.2 "BeggarHeaps" ∈ lw_tbl := by
      have h1 : Cond.methodLinkNest q.1 q.2.1 q.2.2 "BeggarHeaps" ∈ znl.map (fun q => Cond.methodLinkNest q.1 q.2.1 q.2.2 "BeggarHeaps") := List.mem_map.mpr ⟨q, hq, rfl⟩
      rw [znl_in] at h1
      obtain ⟨i, -, hi⟩ := List.mem_filterMap.mp h1
      exact List.mem_of_getElem? hi
    exact va_Nw.of rfl (hts _ hm)
abbrev zT19 : Term := .string RX10 19
theorem zel_ok : ∀ j, j < 127 → (flatC (Jvm.Cond.and given_1 narrow_1))[58 + j]? = some (Cond.eq (.elem (.field zT19 "java/lang/String" "value" "[B") (.int (Int32.ofNat j))) (.int (zbytes.getD j 0))) := by decide +kernel
set_option maxHeartbeats 2000000 in
theorem zStr_ex {args : Array Value} {s : State} (hts : ∀ w ∈ lw_tbl, w.before args s = true) (hgv : (Jvm.Cond.and given_1 narrow_1).before args s = true) : ∃ b, zStr (fun q => s.heap.size ≤ q) s b := by
  have hs := flat_of_before _ hgv
  have hat : ∀ (p : Nat) (w : Cond), (flatC (Jvm.Cond.and given_1 narrow_1))[p]? = some w → w.before args s = true := fun p w h => hs w (List.mem_of_getElem? h)
  have hA : ∀ a : Nat, a < s.heap.size → ¬ (fun q : Nat => s.heap.size ≤ q) a := fun a h => Nat.not_le.mpr h
  obtain ⟨adK, adV, hV, hE⟩ := vk_Sof (args := args) (s := s) (N := 1) (tm := fun _ => zT19) (len := [127]) (byt := [zbytes]) (A := fun q : Nat => s.heap.size ≤ q)
    (fun i hi => by rw [show i = 0 by omega]; decide)
    (fun i hi => hat 54 _ (by decide +kernel))
    (fun i hi => hat 55 _ (by decide +kernel))
    (fun i hi => hat 56 _ (by decide +kernel))
    (fun i hi => by rw [show i = 0 by omega]; exact hat 57 _ (by decide +kernel))
    (fun i hi j hj => by rw [show i = 0 by omega] at hj ⊢; exact hat _ _ (zel_ok j hj))
    (fun i j hi hj h => absurd (show i = j by omega) h) hA
  have hcs := hat 4 (Cond.eq (.static "java/lang/String" "COMPACT_STRINGS" "Z") (.int 1)) (by decide +kernel)
  have hsi := hat 5 (Cond.isRef (.static "jdk/internal/util/Preconditions" "SIOOBE_FORMATTER" "Ljava/util/function/BiFunction;")) (by decide +kernel)
  exact ⟨adK 0, adK, adV, hV, va_Zof (hts _ (List.mem_of_getElem? (i := 173) (by decide +kernel))) (hts _ (List.mem_of_getElem? (i := 128) (by decide +kernel))) (va_eqi hcs) hA, va_Zqof (hts _ (List.mem_of_getElem? (i := 189) (by decide +kernel))) (hts _ (List.mem_of_getElem? (i := 130) (by decide +kernel))) hsi hA, vk_R.of (hts _ (List.mem_of_getElem? (i := 163) (by decide +kernel))) (hE 0 (by decide)), rfl⟩
end ZSTART
