/-! the String of words: the JDK's own methods -/
section ZSTR
theorem zwc_Len : Cond.code zyLen prog_21_method_54_code 1 (some .int) ∈ zAl := List.mem_filter.mpr ⟨List.mem_of_getElem? (i := 167) (by decide +kernel), rfl⟩
theorem zwn_Len : Cond.instanceMethod zyLen ∈ zAl := List.mem_filter.mpr ⟨List.mem_of_getElem? (i := 165) (by decide +kernel), rfl⟩
theorem zwl_Len : Cond.selects "java/lang/String" zyLen zyLen ∈ zAl := List.mem_filter.mpr ⟨List.mem_of_getElem? (i := 166) (by decide +kernel), rfl⟩
def zyCod : MethodName := ⟨"java/lang/String", "coder", "()B"⟩
theorem zwc_Cod : Cond.code zyCod prog_21_method_152_code 1 (some .byte) ∈ zAl := List.mem_filter.mpr ⟨List.mem_of_getElem? (i := 171) (by decide +kernel), rfl⟩
theorem zwn_Cod : Cond.instanceMethod zyCod ∈ zAl := List.mem_filter.mpr ⟨List.mem_of_getElem? (i := 169) (by decide +kernel), rfl⟩
theorem zwl_Cod : Cond.selects "java/lang/String" zyCod zyCod ∈ zAl := List.mem_filter.mpr ⟨List.mem_of_getElem? (i := 170) (by decide +kernel), rfl⟩
theorem zwc_Chr : Cond.code zyChr prog_21_method_56_code 2 (some .char) ∈ zAl := List.mem_filter.mpr ⟨List.mem_of_getElem? (i := 177) (by decide +kernel), rfl⟩
theorem zwn_Chr : Cond.instanceMethod zyChr ∈ zAl := List.mem_filter.mpr ⟨List.mem_of_getElem? (i := 175) (by decide +kernel), rfl⟩
theorem zwl_Chr : Cond.selects "java/lang/String" zyChr zyChr ∈ zAl := List.mem_filter.mpr ⟨List.mem_of_getElem? (i := 176) (by decide +kernel), rfl⟩
def zyLat : MethodName := ⟨"java/lang/String", "isLatin1", "()Z"⟩
theorem zwc_Lat : Cond.code zyLat prog_21_method_154_code 1 (some .boolean) ∈ zAl := List.mem_filter.mpr ⟨List.mem_of_getElem? (i := 181) (by decide +kernel), rfl⟩
theorem zwn_Lat : Cond.instanceMethod zyLat ∈ zAl := List.mem_filter.mpr ⟨List.mem_of_getElem? (i := 179) (by decide +kernel), rfl⟩
theorem zwl_Lat : Cond.selects "java/lang/String" zyLat zyLat ∈ zAl := List.mem_filter.mpr ⟨List.mem_of_getElem? (i := 180) (by decide +kernel), rfl⟩
def zyLch : MethodName := ⟨"java/lang/StringLatin1", "charAt", "([BI)C"⟩
theorem zwc_Lch : Cond.code zyLch prog_22_method_2_code 2 (some .char) ∈ zAl := List.mem_filter.mpr ⟨List.mem_of_getElem? (i := 184) (by decide +kernel), rfl⟩
theorem zws_Lch : Cond.static zyLch ∈ zAl := List.mem_filter.mpr ⟨List.mem_of_getElem? (i := 183) (by decide +kernel), rfl⟩
def zyChk : MethodName := ⟨"java/lang/String", "checkIndex", "(II)V"⟩
theorem zwc_Chk : Cond.code zyChk prog_21_method_155_code 2 none ∈ zAl := List.mem_filter.mpr ⟨List.mem_of_getElem? (i := 187) (by decide +kernel), rfl⟩
theorem zws_Chk : Cond.static zyChk ∈ zAl := List.mem_filter.mpr ⟨List.mem_of_getElem? (i := 186) (by decide +kernel), rfl⟩
def zyPci : MethodName := ⟨"jdk/internal/util/Preconditions", "checkIndex", "(IILjava/util/function/BiFunction;)I"⟩
theorem zwc_Pci : Cond.code zyPci prog_29_method_11_code 3 (some .int) ∈ zAl := List.mem_filter.mpr ⟨List.mem_of_getElem? (i := 192) (by decide +kernel), rfl⟩
theorem zws_Pci : Cond.static zyPci ∈ zAl := List.mem_filter.mpr ⟨List.mem_of_getElem? (i := 191) (by decide +kernel), rfl⟩
theorem zwk_Cod : Cond.methodLink "java/lang/String" 335 zyCod ∈ zAl := List.mem_filter.mpr ⟨List.mem_of_getElem? (i := 168) (by decide +kernel), rfl⟩
theorem zwk_Lat : Cond.methodLink "java/lang/String" 492 zyLat ∈ zAl := List.mem_filter.mpr ⟨List.mem_of_getElem? (i := 178) (by decide +kernel), rfl⟩
theorem zwk_Lch : Cond.methodLink "java/lang/String" 495 zyLch ∈ zAl := List.mem_filter.mpr ⟨List.mem_of_getElem? (i := 182) (by decide +kernel), rfl⟩
theorem zwk_Chk : Cond.methodLink "java/lang/StringLatin1" 9 zyChk ∈ zAl := List.mem_filter.mpr ⟨List.mem_of_getElem? (i := 185) (by decide +kernel), rfl⟩
theorem zwk_Pci : Cond.methodLink "java/lang/String" 1059 zyPci ∈ zAl := List.mem_filter.mpr ⟨List.mem_of_getElem? (i := 190) (by decide +kernel), rfl⟩
theorem zwi_S : Cond.initialized "java/lang/String" ∈ zAl := List.mem_filter.mpr ⟨List.mem_of_getElem? (i := 128) (by decide +kernel), rfl⟩
theorem zwi_L : Cond.initialized "java/lang/StringLatin1" ∈ zAl := List.mem_filter.mpr ⟨List.mem_of_getElem? (i := 129) (by decide +kernel), rfl⟩
theorem zwi_P : Cond.initialized "jdk/internal/util/Preconditions" ∈ zAl := List.mem_filter.mpr ⟨List.mem_of_getElem? (i := 130) (by decide +kernel), rfl⟩
theorem zwf_val : Cond.fieldLink "java/lang/String" 9 "java/lang/String" "value" "[B" ∈ zAl := List.mem_filter.mpr ⟨List.mem_of_getElem? (i := 2264) (by decide +kernel), rfl⟩
theorem zwf_cod : Cond.fieldLink "java/lang/String" 15 "java/lang/String" "coder" "B" ∈ zAl := List.mem_filter.mpr ⟨List.mem_of_getElem? (i := 2265) (by decide +kernel), rfl⟩
theorem zwf_cs : Cond.fieldLink "java/lang/String" 38 "java/lang/String" "COMPACT_STRINGS" "Z" ∈ zAl := List.mem_filter.mpr ⟨List.mem_of_getElem? (i := 172) (by decide +kernel), rfl⟩
theorem zwf_si : Cond.fieldLink "java/lang/String" 1053 "jdk/internal/util/Preconditions" "SIOOBE_FORMATTER" "Ljava/util/function/BiFunction;" ∈ zAl := List.mem_filter.mpr ⟨List.mem_of_getElem? (i := 188) (by decide +kernel), rfl⟩
theorem zjLen_0 : decode prog_21_method_54_code 0 = .ok (.aload_n 0, 1) := by decide +kernel
theorem zjLen_1 : decode prog_21_method_54_code 1 = .ok (.getfield 9, 3) := by decide +kernel
theorem zjLen_4 : decode prog_21_method_54_code 4 = .ok (.arraylength, 1) := by decide +kernel
theorem zjLen_5 : decode prog_21_method_54_code 5 = .ok (.aload_n 0, 1) := by decide +kernel
theorem zjLen_6 : decode prog_21_method_54_code 6 = .ok (.invokevirtual 335, 3) := by decide +kernel
theorem zjLen_9 : decode prog_21_method_54_code 9 = .ok (.ishr, 1) := by decide +kernel
theorem zjLen_10 : decode prog_21_method_54_code 10 = .ok (.ireturn, 1) := by decide +kernel
theorem zjCod_0 : decode prog_21_method_152_code 0 = .ok (.getstatic 38, 3) := by decide +kernel
theorem zjCod_3 : decode prog_21_method_152_code 3 = .ok (.ifCond .eq 10, 3) := by decide +kernel
theorem zjCod_6 : decode prog_21_method_152_code 6 = .ok (.aload_n 0, 1) := by decide +kernel
theorem zjCod_7 : decode prog_21_method_152_code 7 = .ok (.getfield 15, 3) := by decide +kernel
theorem zjCod_10 : decode prog_21_method_152_code 10 = .ok (.goto 4, 3) := by decide +kernel
theorem zjCod_13 : decode prog_21_method_152_code 13 = .ok (.iconst 1, 1) := by decide +kernel
theorem zjCod_14 : decode prog_21_method_152_code 14 = .ok (.ireturn, 1) := by decide +kernel
theorem zjChr_0 : decode prog_21_method_56_code 0 = .ok (.aload_n 0, 1) := by decide +kernel
theorem zjChr_1 : decode prog_21_method_56_code 1 = .ok (.invokevirtual 492, 3) := by decide +kernel
theorem zjChr_4 : decode prog_21_method_56_code 4 = .ok (.ifCond .eq 12, 3) := by decide +kernel
theorem zjChr_7 : decode prog_21_method_56_code 7 = .ok (.aload_n 0, 1) := by decide +kernel
theorem zjChr_8 : decode prog_21_method_56_code 8 = .ok (.getfield 9, 3) := by decide +kernel
theorem zjChr_11 : decode prog_21_method_56_code 11 = .ok (.iload_n 1, 1) := by decide +kernel
theorem zjChr_12 : decode prog_21_method_56_code 12 = .ok (.invokestatic 495, 3) := by decide +kernel
theorem zjChr_15 : decode prog_21_method_56_code 15 = .ok (.ireturn, 1) := by decide +kernel
theorem zjChr_16 : decode prog_21_method_56_code 16 = .ok (.aload_n 0, 1) := by decide +kernel
theorem zjChr_17 : decode prog_21_method_56_code 17 = .ok (.getfield 9, 3) := by decide +kernel
theorem zjChr_20 : decode prog_21_method_56_code 20 = .ok (.iload_n 1, 1) := by decide +kernel
theorem zjChr_21 : decode prog_21_method_56_code 21 = .ok (.invokestatic 498, 3) := by decide +kernel
theorem zjChr_24 : decode prog_21_method_56_code 24 = .ok (.ireturn, 1) := by decide +kernel
theorem zjLat_0 : decode prog_21_method_154_code 0 = .ok (.getstatic 38, 3) := by decide +kernel
theorem zjLat_3 : decode prog_21_method_154_code 3 = .ok (.ifCond .eq 14, 3) := by decide +kernel
theorem zjLat_6 : decode prog_21_method_154_code 6 = .ok (.aload_n 0, 1) := by decide +kernel
theorem zjLat_7 : decode prog_21_method_154_code 7 = .ok (.getfield 15, 3) := by decide +kernel
theorem zjLat_10 : decode prog_21_method_154_code 10 = .ok (.ifCond .ne 7, 3) := by decide +kernel
theorem zjLat_13 : decode prog_21_method_154_code 13 = .ok (.iconst 1, 1) := by decide +kernel
theorem zjLat_14 : decode prog_21_method_154_code 14 = .ok (.goto 4, 3) := by decide +kernel
theorem zjLat_17 : decode prog_21_method_154_code 17 = .ok (.iconst 0, 1) := by decide +kernel
theorem zjLat_18 : decode prog_21_method_154_code 18 = .ok (.ireturn, 1) := by decide +kernel
theorem zjLch_0 : decode prog_22_method_2_code 0 = .ok (.iload_n 1, 1) := by decide +kernel
theorem zjLch_1 : decode prog_22_method_2_code 1 = .ok (.aload_n 0, 1) := by decide +kernel
theorem zjLch_2 : decode prog_22_method_2_code 2 = .ok (.arraylength, 1) := by decide +kernel
theorem zjLch_3 : decode prog_22_method_2_code 3 = .ok (.invokestatic 9, 3) := by decide +kernel
theorem zjLch_6 : decode prog_22_method_2_code 6 = .ok (.aload_n 0, 1) := by decide +kernel
theorem zjLch_7 : decode prog_22_method_2_code 7 = .ok (.iload_n 1, 1) := by decide +kernel
theorem zjLch_8 : decode prog_22_method_2_code 8 = .ok (.baload, 1) := by decide +kernel
theorem zjLch_9 : decode prog_22_method_2_code 9 = .ok (.sipush 255, 3) := by decide +kernel
theorem zjLch_12 : decode prog_22_method_2_code 12 = .ok (.iand, 1) := by decide +kernel
theorem zjLch_13 : decode prog_22_method_2_code 13 = .ok (.i2c, 1) := by decide +kernel
theorem zjLch_14 : decode prog_22_method_2_code 14 = .ok (.ireturn, 1) := by decide +kernel
theorem zjChk_0 : decode prog_21_method_155_code 0 = .ok (.iload_n 0, 1) := by decide +kernel
theorem zjChk_1 : decode prog_21_method_155_code 1 = .ok (.iload_n 1, 1) := by decide +kernel
theorem zjChk_2 : decode prog_21_method_155_code 2 = .ok (.getstatic 1053, 3) := by decide +kernel
theorem zjChk_5 : decode prog_21_method_155_code 5 = .ok (.invokestatic 1059, 3) := by decide +kernel
theorem zjChk_8 : decode prog_21_method_155_code 8 = .ok (.pop, 1) := by decide +kernel
theorem zjChk_9 : decode prog_21_method_155_code 9 = .ok (.return_, 1) := by decide +kernel
theorem zjPci_0 : decode prog_29_method_11_code 0 = .ok (.iload_n 0, 1) := by decide +kernel
theorem zjPci_1 : decode prog_29_method_11_code 1 = .ok (.ifCond .lt 8, 3) := by decide +kernel
theorem zjPci_4 : decode prog_29_method_11_code 4 = .ok (.iload_n 0, 1) := by decide +kernel
theorem zjPci_5 : decode prog_29_method_11_code 5 = .ok (.iload_n 1, 1) := by decide +kernel
theorem zjPci_6 : decode prog_29_method_11_code 6 = .ok (.if_icmp .lt 10, 3) := by decide +kernel
theorem zjPci_9 : decode prog_29_method_11_code 9 = .ok (.aload_n 2, 1) := by decide +kernel
theorem zjPci_10 : decode prog_29_method_11_code 10 = .ok (.iload_n 0, 1) := by decide +kernel
theorem zjPci_11 : decode prog_29_method_11_code 11 = .ok (.iload_n 1, 1) := by decide +kernel
theorem zjPci_12 : decode prog_29_method_11_code 12 = .ok (.invokestatic 95, 3) := by decide +kernel
theorem zjPci_15 : decode prog_29_method_11_code 15 = .ok (.athrow, 1) := by decide +kernel
theorem zjPci_16 : decode prog_29_method_11_code 16 = .ok (.iload_n 0, 1) := by decide +kernel
theorem zjPci_17 : decode prog_29_method_11_code 17 = .ok (.ireturn, 1) := by decide +kernel
noncomputable def zbytes : List Int32 := zchars.map nI
/-- what is told of the words' String, the cell b -/
def zStr (A : Nat → Prop) (U : State) (b : Nat) : Prop := ∃ adK adV : Nat → Nat, vk_S 1 [127] [zbytes] adK adV A U U.heap ∧ va_Z "java/lang/String" "COMPACT_STRINGS" "Z" (.int 1) A U U.heap ∧ va_Zq "jdk/internal/util/Preconditions" "SIOOBE_FORMATTER" "Ljava/util/function/BiFunction;" A U U.heap ∧ vk_R RX10 19 "kind pays pack lay first bet limit under about high low halves left right nobody opening won not and or ahead more heaps turns " (adK 0) U ∧ adK 0 = b
theorem zStr_ZS : zZS zStr := by
  constructor
  · rintro A U b g mk a ⟨adK, adV, h1, h2, h3, h4, h5⟩
    exact ⟨adK, adV, vk_S.moved (u := U) (U := U.calling g mk a) (Vm.Alike.refl U.vm) h1, va_Z.moved (u := U) (U := U.calling g mk a) (Vm.Alike.refl U.vm) h2, va_Zq.moved (u := U) (U := U.calling g mk a) (Vm.Alike.refl U.vm) h3, vk_R.same (u := U) (U := U.calling g mk a) rfl h4, h5⟩
  · rintro A B s U b H locs ⟨adK, adV, h1, h2, h3, h4, h5⟩ hS hU hW hAB
    refine ⟨adK, adV, ?_, ?_, ?_, vk_R.warm hW h4, h5⟩
    · rw [hU]; exact vk_S.narrow (vk_S.moved hW.alike (vk_S.kept h1 hS.2.1)) hAB
    · rw [hU]; exact va_Z.narrow (va_Z.moved hW.alike (va_Z.kept h2 hS.2.1)) hAB
    · rw [hU]; exact va_Zq.narrow (va_Zq.moved hW.alike (va_Zq.kept h3 hS.2.1)) hAB
def zrmJ (k : Nat) : Room := { frames := k, cells := 0, slots := 0, locals := 40 * k }
def zJP (av : List Value) (b : Nat) : Array Value → State → Prop := va_Pc av (fun U => zStr (fun _ => False) U b)
theorem zJP_blind {av : List Value} {b : Nat} : FrameBlind (zJP av b) := fun a U g mk q => ⟨q.1, zStr_ZS.1 _ _ _ g mk a q.2⟩
theorem zAl_good : zGood zAl := fun w hw => good_of_word (List.mem_filter.mp hw).2
def zbv (adV : Nat → Nat) (U : State) (b : Nat) : Prop := ∃ adK : Nat → Nat, vk_S 1 [127] [zbytes] adK adV (fun _ => False) U U.heap ∧ adK 0 = b
set_option maxHeartbeats 2000000 in
theorem zc_Cod (l : Launch) (b : Nat) : Met l zyCod (Cond.code zyCod prog_21_method_152_code 1 (some .byte) :: zAl) (zrmJ 0) (zJP [.ref b] b) (QcRead 0) 0 0 (fun _ => False) := by
  refine Met.ofW (cc := prog_21_method_152_code) (maxL := 1) (ret := (some .byte)) (by decide) rfl ?_
  intro p e s m args below meth c s₁ B hml hv
  obtain ⟨rfl, hZS⟩ := hv
  have hZS0 := hZS
  obtain ⟨adK, adV, hV, hZ, hZq, hR, hK0⟩ := hZS0
  have hx := B.exec
  have hb := B.bytes
  have hr := B.returns
  have hts0 := atoms_spec (ws := Cond.code zyCod prog_21_method_152_code 1 (some .byte) :: zAl) B.pre
  have hts : ∀ w ∈ zAl, w.before _ s = true := fun w hw => hts0 w (List.mem_cons_of_mem _ hw)
  have hown : s.vm.findClass "java/lang/String" = some m.cls := findClass_of_methodNamed B.named
  have hlocks := B.notSynchronized
  have hS : va_S (fun _ => False) s.heap s.heap [] := va_S.rf
  have hl := lv_entry ([.ref b]) (n := 1) (Nat.le_of_ble_eq_true rfl)
  rw [lg_entry_eq]
  generalize (lg_sl ([.ref b]) ++ List.replicate (1 - (lg_sl ([.ref b])).length) Slot.unset).toArray = ls at hl ⊢
  have hl : lv_has ls 1 [(0, .ref b)] := hl
  have hpre : ∀ (av : List Value) (U : State), U.heap = s.heap → s.WarmedH U.vm → zJP av b av.toArray U := fun av U hU hW => ⟨rfl, zStr_ZS.2 _ _ s U b s.heap [] hZS hS hU hW (fun _ h => h)⟩
  refine va_gets hx hb hZ hS hown (hts _ zwf_cs) (fun _ h9 => h9) zjCod_0 ?_
  refine lv_if_eq (tgt := 13) hx hb zjCod_3 (by decide) (fun h => absurd h (by decide)) (fun _ => ?_)
  refine lv_aload_n hx hb zjCod_6 rfl (lv_at hl 0 rfl) ?_
  refine vk_getf hx hb (hK0 ▸ (hV.1 0 (by decide)).2.1) hS hown (hts _ zwf_cod) (fun _ h9 => h9) zjCod_7 ?_
  refine lv_goto (tgt := 14) hx hb zjCod_10 (by decide) ?_
  exact W.zret hx hb hr rfl (fun t ht hW => ⟨rfl, ht⟩) (fun _ h => by cases h) zjCod_14
set_option maxHeartbeats 2000000 in
theorem zc_Lat (l : Launch) (b : Nat) : Met l zyLat (Cond.code zyLat prog_21_method_154_code 1 (some .boolean) :: zAl) (zrmJ 0) (zJP [.ref b] b) (QcRead 1) 0 0 (fun _ => False) := by
  refine Met.ofW (cc := prog_21_method_154_code) (maxL := 1) (ret := (some .boolean)) (by decide) rfl ?_
  intro p e s m args below meth c s₁ B hml hv
  obtain ⟨rfl, hZS⟩ := hv
  have hZS0 := hZS
  obtain ⟨adK, adV, hV, hZ, hZq, hR, hK0⟩ := hZS0
  have hx := B.exec
  have hb := B.bytes
  have hr := B.returns
  have hts0 := atoms_spec (ws := Cond.code zyLat prog_21_method_154_code 1 (some .boolean) :: zAl) B.pre
  have hts : ∀ w ∈ zAl, w.before _ s = true := fun w hw => hts0 w (List.mem_cons_of_mem _ hw)
  have hown : s.vm.findClass "java/lang/String" = some m.cls := findClass_of_methodNamed B.named
  have hlocks := B.notSynchronized
  have hS : va_S (fun _ => False) s.heap s.heap [] := va_S.rf
  have hl := lv_entry ([.ref b]) (n := 1) (Nat.le_of_ble_eq_true rfl)
  rw [lg_entry_eq]
  generalize (lg_sl ([.ref b]) ++ List.replicate (1 - (lg_sl ([.ref b])).length) Slot.unset).toArray = ls at hl ⊢
  have hl : lv_has ls 1 [(0, .ref b)] := hl
  have hpre : ∀ (av : List Value) (U : State), U.heap = s.heap → s.WarmedH U.vm → zJP av b av.toArray U := fun av U hU hW => ⟨rfl, zStr_ZS.2 _ _ s U b s.heap [] hZS hS hU hW (fun _ h => h)⟩
  refine va_gets hx hb hZ hS hown (hts _ zwf_cs) (fun _ h9 => h9) zjLat_0 ?_
  refine lv_if_eq (tgt := 17) hx hb zjLat_3 (by decide) (fun h => absurd h (by decide)) (fun _ => ?_)
  refine lv_aload_n hx hb zjLat_6 rfl (lv_at hl 0 rfl) ?_
  refine vk_getf hx hb (hK0 ▸ (hV.1 0 (by decide)).2.1) hS hown (hts _ zwf_cod) (fun _ h9 => h9) zjLat_7 ?_
  refine lv_if_ne (tgt := 17) hx hb zjLat_10 (by decide) (fun h => absurd rfl h) (fun _ => ?_)
  refine lv_iconst (v := 1) hx hb zjLat_13 (by decide) ?_
  refine lv_goto (tgt := 18) hx hb zjLat_14 (by decide) ?_
  exact W.zret hx hb hr rfl (fun t ht hW => ⟨rfl, ht⟩) (fun _ h => by cases h) zjLat_18
set_option maxHeartbeats 2000000 in
theorem zc_Len (l : Launch) (b : Nat) : Met l zyLen (Cond.code zyLen prog_21_method_54_code 1 (some .int) :: zAl) (zrmJ 1) (zJP [.ref b] b) (QcRead (nI zchars.length)) 0 0 (fun _ => False) := by
  refine Met.ofW (cc := prog_21_method_54_code) (maxL := 1) (ret := (some .int)) (by decide) rfl ?_
  intro p e s m args below meth c s₁ B hml hv
  obtain ⟨rfl, hZS⟩ := hv
  have hZS0 := hZS
  obtain ⟨adK, adV, hV, hZ, hZq, hR, hK0⟩ := hZS0
  have hx := B.exec
  have hb := B.bytes
  have hr := B.returns
  have hts0 := atoms_spec (ws := Cond.code zyLen prog_21_method_54_code 1 (some .int) :: zAl) B.pre
  have hts : ∀ w ∈ zAl, w.before _ s = true := fun w hw => hts0 w (List.mem_cons_of_mem _ hw)
  have hown : s.vm.findClass "java/lang/String" = some m.cls := findClass_of_methodNamed B.named
  have hlocks := B.notSynchronized
  have hS : va_S (fun _ => False) s.heap s.heap [] := va_S.rf
  have hl := lv_entry ([.ref b]) (n := 1) (Nat.le_of_ble_eq_true rfl)
  rw [lg_entry_eq]
  generalize (lg_sl ([.ref b]) ++ List.replicate (1 - (lg_sl ([.ref b])).length) Slot.unset).toArray = ls at hl ⊢
  have hl : lv_has ls 1 [(0, .ref b)] := hl
  have hpre : ∀ (av : List Value) (U : State), U.heap = s.heap → s.WarmedH U.vm → zJP av b av.toArray U := fun av U hU hW => ⟨rfl, zStr_ZS.2 _ _ s U b s.heap [] hZS hS hU hW (fun _ h => h)⟩
  refine lv_aload_n hx hb zjLen_0 rfl (lv_at hl 0 rfl) ?_
  refine vk_getf hx hb (hK0 ▸ (hV.1 0 (by decide)).2.2.1) hS hown (hts _ zwf_val) (fun _ h9 => h9) zjLen_1 ?_
  refine va_tlen (v := 127) hx hb (hV.1 0 (by decide)).2.2.2 hS rfl zjLen_4 ?_
  refine lv_aload_n hx hb zjLen_5 rfl (lv_at hl 0 rfl) ?_
  refine W.callR (W.runV (b := b) (As := []) (rest := [.int 127]) ⟨hx, hb, hml, hown, hts⟩ (zc_Cod l b) ⟨callB_of 0 hts (zgoodIn zAl_good zwc_Cod) rfl rfl rfl (hts _ zwi_S) (hts _ zwk_Cod) (by decide +kernel) ⟨Nat.le_of_ble_eq_true rfl, Nat.le_of_ble_eq_true rfl⟩, hts _ zwn_Cod, hts _ zwl_Cod⟩ ⟨zJP_blind, hK0 ▸ vk_recv hV (by decide) hS, fun U hU hW => hpre _ U hU hW⟩ rfl rfl hl.1 rfl (lv_room (Nat.le_of_ble_eq_true rfl)) zjLen_6 ⟨Nat.zero_le _, Nat.zero_le _⟩) ?_
  refine lv_ishr hx hb zjLen_9 ?_
  refine lv_topi (fun r er => ?_)
  have er : r = nI zchars.length := by rw [er]; decide +kernel
  subst er
  exact W.iret (v := nI zchars.length) hx hb hr (fun t ht hW => ⟨rfl, ht⟩) (fun _ h => by cases h) zjLen_10
set_option maxHeartbeats 2000000 in
theorem zc_Pci (l : Launch) (b : Nat) (y : Int32) (hy : vp_in y 127) (w : Value) (hw : w.category = 1) : Met l zyPci (Cond.code zyPci prog_29_method_11_code 3 (some .int) :: zAl) (zrmJ 0) (zJP [.int y, .int 127, w] b) (QcRead y) 0 0 (fun _ => False) := by
  refine Met.ofW (cc := prog_29_method_11_code) (maxL := 3) (ret := (some .int)) (by decide) rfl ?_
  intro p e s m args below meth c s₁ B hml hv
  obtain ⟨rfl, hZS⟩ := hv
  have hZS0 := hZS
  obtain ⟨adK, adV, hV, hZ, hZq, hR, hK0⟩ := hZS0
  have hx := B.exec
  have hb := B.bytes
  have hr := B.returns
  have hts0 := atoms_spec (ws := Cond.code zyPci prog_29_method_11_code 3 (some .int) :: zAl) B.pre
  have hts : ∀ w ∈ zAl, w.before _ s = true := fun w hw => hts0 w (List.mem_cons_of_mem _ hw)
  have hown : s.vm.findClass "jdk/internal/util/Preconditions" = some m.cls := findClass_of_methodNamed B.named
  have hlocks := B.notSynchronized
  have hS : va_S (fun _ => False) s.heap s.heap [] := va_S.rf
  have hl := lv_entry ([.int y, .int 127, w]) (n := 3) (by rw [show lg_sl [.int y, .int 127, w] = [.val (.int y), .val (.int 127), .val w] by simp [lg_sl, hw, show (Value.int y).category = 1 from rfl, show (Value.int 127).category = 1 from rfl]]; exact Nat.le_refl _)
  rw [lg_entry_eq]
  generalize (lg_sl ([.int y, .int 127, w]) ++ List.replicate (3 - (lg_sl ([.int y, .int 127, w])).length) Slot.unset).toArray = ls at hl ⊢
  have hl : lv_has ls 3 [(0, .int y), (1, .int 127), (2, w)] := hl
  have hpre : ∀ (av : List Value) (U : State), U.heap = s.heap → s.WarmedH U.vm → zJP av b av.toArray U := fun av U hU hW => ⟨rfl, zStr_ZS.2 _ _ s U b s.heap [] hZS hS hU hW (fun _ h => h)⟩
  have hy1 : ¬ y < 0 := fun h => hy (Or.inl h)
  have hy2 : y < 127 := by
    obtain ⟨j, hj, rfl⟩ := vp_in_of hy (by decide)
    exact nI_lt hj (by decide)
  refine lv_iload_n hx hb zjPci_0 rfl (lv_at hl 0 rfl) ?_
  refine lv_if_lt (tgt := 9) hx hb zjPci_1 (by decide) (fun h => absurd h hy1) (fun _ => ?_)
  refine lv_iload_n hx hb zjPci_4 rfl (lv_at hl 0 rfl) ?_
  refine lv_iload_n hx hb zjPci_5 rfl (lv_at hl 1 rfl) ?_
  refine lv_icmp_lt (tgt := 16) hx hb zjPci_6 (by decide) (fun _ => ?_) (fun h => absurd hy2 h)
  refine lv_iload_n hx hb zjPci_16 rfl (lv_at hl 0 rfl) ?_
  exact W.iret hx hb hr (fun t ht hW => ⟨rfl, ht⟩) (fun _ h => by cases h) zjPci_17
set_option maxHeartbeats 2000000 in
theorem zc_Chk (l : Launch) (b : Nat) (y : Int32) (hy : vp_in y 127) : Met l zyChk (Cond.code zyChk prog_21_method_155_code 2 none :: zAl) (zrmJ 1) (zJP [.int y, .int 127] b) (va_Sv (fun _ => True)) 0 0 (fun _ => False) := by
  refine Met.ofW (cc := prog_21_method_155_code) (maxL := 2) (ret := none) (by decide) rfl ?_
  intro p e s m args below meth c s₁ B hml hv
  obtain ⟨rfl, hZS⟩ := hv
  have hZS0 := hZS
  obtain ⟨adK, adV, hV, hZ, hZq, hR, hK0⟩ := hZS0
  have hx := B.exec
  have hb := B.bytes
  have hr := B.returns
  have hts0 := atoms_spec (ws := Cond.code zyChk prog_21_method_155_code 2 none :: zAl) B.pre
  have hts : ∀ w ∈ zAl, w.before _ s = true := fun w hw => hts0 w (List.mem_cons_of_mem _ hw)
  have hown : s.vm.findClass "java/lang/String" = some m.cls := findClass_of_methodNamed B.named
  have hlocks := B.notSynchronized
  have hS : va_S (fun _ => False) s.heap s.heap [] := va_S.rf
  have hl := lv_entry ([.int y, .int 127]) (n := 2) (Nat.le_of_ble_eq_true rfl)
  rw [lg_entry_eq]
  generalize (lg_sl ([.int y, .int 127]) ++ List.replicate (2 - (lg_sl ([.int y, .int 127])).length) Slot.unset).toArray = ls at hl ⊢
  have hl : lv_has ls 2 [(0, .int y), (1, .int 127)] := hl
  have hpre : ∀ (av : List Value) (U : State), U.heap = s.heap → s.WarmedH U.vm → zJP av b av.toArray U := fun av U hU hW => ⟨rfl, zStr_ZS.2 _ _ s U b s.heap [] hZS hS hU hW (fun _ h => h)⟩
  have go : ∀ w : Value, w.category = 1 → W p l e (headSpec (Cond.code zyChk prog_21_method_155_code 2 none :: zAl) (zrmJ 1)).room s m #[Value.int y, .int 127] below meth c s.heap [] 0 0 (MQ below (va_Sv (fun _ => True)) #[Value.int y, .int 127] s 0 0 (fun _ => False)) (F0 m 5 ls [w, .int 127, .int y]) := by
    intro w hw
    refine W.callR (W.runS (As := [.int y, .int 127, w]) (rest := []) ⟨hx, hb, hml, hown, hts⟩ (zc_Pci l b y hy w hw) ⟨callB_of 3 hts (zgoodIn zAl_good zwc_Pci) rfl rfl rfl (hts _ zwi_P) (hts _ zwk_Pci) (by decide +kernel) ⟨Nat.le_of_ble_eq_true rfl, Nat.le_of_ble_eq_true rfl⟩, hts _ zws_Pci⟩ ⟨zJP_blind, fun U hU hW => hpre _ U hU hW⟩ rfl rfl hl.1 rfl (lv_room (Nat.le_of_ble_eq_true rfl)) zjChk_5 ⟨Nat.zero_le _, Nat.zero_le _⟩) ?_
    refine lv_pop hx hb zjChk_8 rfl ?_
    exact W.vret hx hb hr (fun t ht hW => ⟨rfl, trivial, ht⟩) (fun _ h => by cases h) zjChk_9
  refine lv_iload_n hx hb zjChk_0 rfl (lv_at hl 0 rfl) ?_
  refine lv_iload_n hx hb zjChk_1 rfl (lv_at hl 1 rfl) ?_
  rcases hZq with hq | ⟨t, hq⟩
  · exact va_gets hx hb hq hS hown (hts _ zwf_si) (fun _ h9 => h9) zjChk_2 (go .null rfl)
  · exact va_gets hx hb hq hS hown (hts _ zwf_si) (fun _ h9 => h9) zjChk_2 (go (.ref t) rfl)
def zBA (t : Nat) (U : State) : Prop := va_T .byte t 127 (fun j => .int (zbytes.getD j 0)) (fun _ => False) U U.heap
def zJP2 (av : List Value) (b t : Nat) : Array Value → State → Prop := va_Pc av (fun U => zStr (fun _ => False) U b ∧ zBA t U)
theorem zJP2_blind {av : List Value} {b t : Nat} : FrameBlind (zJP2 av b t) := fun a U g mk q => ⟨q.1, zStr_ZS.1 _ _ _ g mk a q.2.1, va_T.moved (u := U) (U := U.calling g mk a) (Vm.Alike.refl U.vm) q.2.2⟩
theorem zbyte_ok : ∀ j, j < 127 → (((zbytes.getD j 0) &&& 255).toUInt32 % 65536).toInt32 = nI (zchars.getD j 0) := by decide +kernel
set_option maxHeartbeats 2000000 in
theorem zc_Lch (l : Launch) (b : Nat) (t : Nat) (y : Int32) (hy : vp_in y 127) : Met l zyLch (Cond.code zyLch prog_22_method_2_code 2 (some .char) :: zAl) (zrmJ 2) (zJP2 [.ref t, .int y] b t) (QcRead (nI (zchars.getD y.toNatClampNeg 0))) 0 0 (fun _ => False) := by
  refine Met.ofW (cc := prog_22_method_2_code) (maxL := 2) (ret := (some .char)) (by decide) rfl ?_
  intro p e s m args below meth c s₁ B hml hv
  obtain ⟨rfl, hZS, hBA⟩ := hv
  have hZS0 := hZS
  obtain ⟨adK, adV, hV, hZ, hZq, hR, hK0⟩ := hZS0
  have hx := B.exec
  have hb := B.bytes
  have hr := B.returns
  have hts0 := atoms_spec (ws := Cond.code zyLch prog_22_method_2_code 2 (some .char) :: zAl) B.pre
  have hts : ∀ w ∈ zAl, w.before _ s = true := fun w hw => hts0 w (List.mem_cons_of_mem _ hw)
  have hown : s.vm.findClass "java/lang/StringLatin1" = some m.cls := findClass_of_methodNamed B.named
  have hlocks := B.notSynchronized
  have hS : va_S (fun _ => False) s.heap s.heap [] := va_S.rf
  have hl := lv_entry ([.ref t, .int y]) (n := 2) (Nat.le_of_ble_eq_true rfl)
  rw [lg_entry_eq]
  generalize (lg_sl ([.ref t, .int y]) ++ List.replicate (2 - (lg_sl ([.ref t, .int y])).length) Slot.unset).toArray = ls at hl ⊢
  have hl : lv_has ls 2 [(0, .ref t), (1, .int y)] := hl
  have hpre : ∀ (av : List Value) (U : State), U.heap = s.heap → s.WarmedH U.vm → zJP av b av.toArray U := fun av U hU hW => ⟨rfl, zStr_ZS.2 _ _ s U b s.heap [] hZS hS hU hW (fun _ h => h)⟩
  refine lv_iload_n hx hb zjLch_0 rfl (lv_at hl 1 rfl) ?_
  refine lv_aload_n hx hb zjLch_1 rfl (lv_at hl 0 rfl) ?_
  refine va_tlen (v := 127) hx hb hBA hS rfl zjLch_2 ?_
  refine va_csv (W.runS (As := [.int y, .int 127]) (rest := []) ⟨hx, hb, hml, hown, hts⟩ (zc_Chk l b y hy) ⟨callB_of 2 hts (zgoodIn zAl_good zwc_Chk) rfl rfl rfl (hts _ zwi_S) (hts _ zwk_Chk) (by decide +kernel) ⟨Nat.le_of_ble_eq_true rfl, Nat.le_of_ble_eq_true rfl⟩, hts _ zws_Chk⟩ ⟨zJP_blind, fun U hU hW => hpre _ U hU hW⟩ rfl rfl hl.1 rfl (lv_room (Nat.le_of_ble_eq_true rfl)) zjLch_3 ⟨Nat.zero_le _, Nat.zero_le _⟩) (fun _ => ?_)
  refine lv_aload_n hx hb zjLch_6 rfl (lv_at hl 0 rfl) ?_
  refine lv_iload_n hx hb zjLch_7 rfl (lv_at hl 1 rfl) ?_
  refine va_tb (v := .int (zbytes.getD y.toNatClampNeg 0)) hx hb hBA hS hy rfl zjLch_8 ?_
  refine lv_sipush (v := 255) hx hb zjLch_9 (by decide) ?_
  refine lv_iand hx hb zjLch_12 ?_
  refine lv_i2c (v := nI (zchars.getD y.toNatClampNeg 0)) hx hb zjLch_13 (zbyte_ok _ (Nat.not_le.mp fun q => hy (Or.inr q))) ?_
  refine W.zret hx hb hr ?_ (fun t ht hW => ⟨rfl, ht⟩) (fun _ h => by cases h) zjLch_14
  rw [← zbyte_ok _ (Nat.not_le.mp fun q => hy (Or.inr q))]
  exact pk_nc _
set_option maxHeartbeats 2000000 in
theorem zc_Chr (l : Launch) (b : Nat) (y : Int32) (hy : vp_in y 127) : Met l zyChr (Cond.code zyChr prog_21_method_56_code 2 (some .char) :: zAl) (zrmJ 3) (zJP [.ref b, .int y] b) (QcRead (nI (zchars.getD y.toNatClampNeg 0))) 0 0 (fun _ => False) := by
  refine Met.ofW (cc := prog_21_method_56_code) (maxL := 2) (ret := (some .char)) (by decide) rfl ?_
  intro p e s m args below meth c s₁ B hml hv
  obtain ⟨rfl, hZS⟩ := hv
  have hZS0 := hZS
  obtain ⟨adK, adV, hV, hZ, hZq, hR, hK0⟩ := hZS0
  have hx := B.exec
  have hb := B.bytes
  have hr := B.returns
  have hts0 := atoms_spec (ws := Cond.code zyChr prog_21_method_56_code 2 (some .char) :: zAl) B.pre
  have hts : ∀ w ∈ zAl, w.before _ s = true := fun w hw => hts0 w (List.mem_cons_of_mem _ hw)
  have hown : s.vm.findClass "java/lang/String" = some m.cls := findClass_of_methodNamed B.named
  have hlocks := B.notSynchronized
  have hS : va_S (fun _ => False) s.heap s.heap [] := va_S.rf
  have hl := lv_entry ([.ref b, .int y]) (n := 2) (Nat.le_of_ble_eq_true rfl)
  rw [lg_entry_eq]
  generalize (lg_sl ([.ref b, .int y]) ++ List.replicate (2 - (lg_sl ([.ref b, .int y])).length) Slot.unset).toArray = ls at hl ⊢
  have hl : lv_has ls 2 [(0, .ref b), (1, .int y)] := hl
  have hpre : ∀ (av : List Value) (U : State), U.heap = s.heap → s.WarmedH U.vm → zJP av b av.toArray U := fun av U hU hW => ⟨rfl, zStr_ZS.2 _ _ s U b s.heap [] hZS hS hU hW (fun _ h => h)⟩
  refine lv_aload_n hx hb zjChr_0 rfl (lv_at hl 0 rfl) ?_
  refine W.callR (W.runV (b := b) (As := []) (rest := []) ⟨hx, hb, hml, hown, hts⟩ (zc_Lat l b) ⟨callB_of 0 hts (zgoodIn zAl_good zwc_Lat) rfl rfl rfl (hts _ zwi_S) (hts _ zwk_Lat) (by decide +kernel) ⟨Nat.le_of_ble_eq_true rfl, Nat.le_of_ble_eq_true rfl⟩, hts _ zwn_Lat, hts _ zwl_Lat⟩ ⟨zJP_blind, hK0 ▸ vk_recv hV (by decide) hS, fun U hU hW => hpre _ U hU hW⟩ rfl rfl hl.1 rfl (lv_room (Nat.le_of_ble_eq_true rfl)) zjChr_1 ⟨Nat.zero_le _, Nat.zero_le _⟩) ?_
  show W p l e _ s m _ below meth c s.heap [] 0 0 _ (F0 m 4 ls [.int 1])
  refine lv_if_eq (tgt := 16) hx hb zjChr_4 (by decide) (fun h => absurd h (by decide)) (fun _ => ?_)
  refine lv_aload_n hx hb zjChr_7 rfl (lv_at hl 0 rfl) ?_
  refine vk_getf hx hb (hK0 ▸ (hV.1 0 (by decide)).2.2.1) hS hown (hts _ zwf_val) (fun _ h9 => h9) zjChr_8 ?_
  refine lv_iload_n hx hb zjChr_11 rfl (lv_at hl 1 rfl) ?_
  refine W.callR (W.runS (As := [.ref (adV 0), .int y]) (rest := []) ⟨hx, hb, hml, hown, hts⟩ (zc_Lch l b (adV 0) y hy) ⟨callB_of 2 hts (zgoodIn zAl_good zwc_Lch) rfl rfl rfl (hts _ zwi_L) (hts _ zwk_Lch) (by decide +kernel) ⟨Nat.le_of_ble_eq_true rfl, Nat.le_of_ble_eq_true rfl⟩, hts _ zws_Lch⟩ ⟨zJP2_blind, fun U hU hW => ⟨rfl, (hpre [] U hU hW).2, va_T.moved hW.alike (by rw [hU]; exact (hV.1 0 (by decide)).2.2.2)⟩⟩ rfl rfl hl.1 rfl (lv_room (Nat.le_of_ble_eq_true rfl)) zjChr_12 ⟨Nat.zero_le _, Nat.zero_le _⟩) ?_
  refine W.zret hx hb hr ?_ (fun t ht hW => ⟨rfl, ht⟩) (fun _ h => by cases h) zjChr_15
  rw [← zbyte_ok _ (Nat.not_le.mp fun q => hy (Or.inr q))]
  exact pk_nc _
set_option maxHeartbeats 2000000 in
theorem zJ_ok (l : Launch) : zJ l zAl zStr := by
  intro p e R s m args below meth c H locs mc ms Q cc pc ls rest own A b hx hb hml hown hts hZS hS hA hF hL hcR hsR hrest
  have hZS0 := hZS
  obtain ⟨adK, adV, hV, hZ, hZq, hR, hK0⟩ := hZS0
  have hpre : ∀ (av : List Value) (U : State), U.heap = H → s.WarmedH U.vm → zJP av b av.toArray U := fun av U hU hW => ⟨rfl, zStr_ZS.2 _ _ s U b H locs hZS hS hU hW (fun _ h => h.elim)⟩
  refine ⟨fun idx hl hdg kk => ?_, fun idx y hl hy hdg kk => ?_, fun ho hdg kk => ?_⟩
  · exact W.callR (W.runV (b := b) (As := []) (rest := rest) ⟨hx, hb, hml, hown, hts⟩ (zc_Len l b) ⟨callB_of 0 hts (zgoodIn zAl_good zwc_Len) rfl rfl rfl (hts _ zwi_S) (hts _ hl) (by decide +kernel) ⟨by show 1 + 1 ≤ _; omega, by show 8 + (1 + 11) + 40 * 1 ≤ _; omega⟩, hts _ zwn_Len, hts _ zwl_Len⟩ ⟨zJP_blind, hK0 ▸ vk_recv hV (by decide) hS, fun U hU hW => hpre _ U hU hW⟩ rfl rfl rfl rfl (lv_room hrest) hdg ⟨hcR, hsR⟩) kk
  · exact W.callR (W.runV (b := b) (As := [.int y]) (rest := rest) ⟨hx, hb, hml, hown, hts⟩ (zc_Chr l b y hy) ⟨callB_of 1 hts (zgoodIn zAl_good zwc_Chr) rfl rfl rfl (hts _ zwi_S) (hts _ hl) (by decide +kernel) ⟨by show 3 + 1 ≤ _; omega, by show 8 + (2 + 11) + 40 * 3 ≤ _; omega⟩, hts _ zwn_Chr, hts _ zwl_Chr⟩ ⟨zJP_blind, hK0 ▸ vk_recv hV (by decide) hS, fun U hU hW => hpre _ U hU hW⟩ rfl rfl rfl rfl (lv_room hrest) hdg ⟨hcR, hsR⟩) kk
  · subst ho
    rw [← hK0] at kk
    exact va_ldcS hx hb hown hR hdg kk
end ZSTR
