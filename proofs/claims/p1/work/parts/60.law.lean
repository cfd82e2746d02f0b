/-! THE CLAIM OUT OF ONE WALK OF THE LAW'S BODY. Your part is whole_start (and what it stands on); all else here is the same for every law, but numbers. -/
def R_law : String := "BeggarHeapsLaw"
def lw_P (b : Addr) (xs : List Int32) (args : Array Value) (s : State) : Prop := args = #[.ref b] ∧ s.IntsAt b xs ∧ xs.length ≤ 7 ∧ (Jvm.Cond.and given_1 narrow_1).before args s = true
def lw_Q (_ : Array Value) (s : State) (o : Outcome) (t : State) : Prop := o = .returned (some (.int 1)) ∧ Framed s o t [] 600002 7302232
def lw_Z (below : List Frame) (a : Array Value) (s : State) : State → Prop := fun t => ∃ o, t.status = .running ∧ Ended t below o ∧ lw_Q a s o t
/-- the law's own end, with 1 on the stack, nothing written that was there before, its room as the claim has it -/
theorem lw_ret {p : Program} {l : Launch} {e : Env} {s : State} {m : MethodId} {below : List Frame} {meth : Method} {c : Code} {b : Nat} (hx : p.tables.exec = Jvm.exec) (hb : c.code = code) (hr : meth.sig.returnType = ret) (hlocks : meth.locks = false) {pc : Nat} {H : Heap} {ls : Array Slot} (hdg : decode code pc = .ok (.ireturn, 1)) : W p l e room_1 s m #[Value.ref b] below meth c H [] 600002 7302232 (lw_Z below #[Value.ref b] s) (F0 m pc ls [.int 1]) := by
  intro T hT X
  obtain ⟨fs, hret, hrun, hended, hW, hframe⟩ := X.leave (v := some (.int 1)) (hlocks := hlocks) (fun h => by rw [hr] at h; cases h)
  have hmeth' : T.vm.method? m = some meth := X.method'
  refine ⟨T.setFrames fs, ?_, .returned (some (.int 1)), hrun, hended, rfl, ⟨_, rfl⟩, hW, hframe⟩
  jvm_step X.here [X.here.top, hx, hb, hdg, hmeth', hr, ret, narrow_b1]
  (try refine ⟨rfl, ?_⟩); (try refine ⟨rfl, ?_⟩)
  first | (intro acts; rw [hret _ acts rfl rfl rfl]) | rw [hret _ _ rfl rfl rfl]
  exact Steps.refl _
/-- what holds at the law's entry: the machine, the code, the tables' words (any of lw_tbl by 'hts w (by decide +kernel)'), the script of L ints xs at the cell b, what the Statement gives of the start (any of its parts by flat_of_before) -/
def lw_At (p : Program) (s : State) (m : MethodId) (meth : Method) (c : Code) (b L : Nat) (xs : Nat → Int32) : Prop :=
  p.tables.exec = Jvm.exec ∧ c.code = code ∧ meth.sig.returnType = ret ∧ c.maxLocals = 7 ∧ s.vm.findClass R_law = some m.cls ∧ (∀ w ∈ lw_tbl, w.before #[Value.ref b] s = true) ∧ va_X b L xs s s.heap ∧ b < s.heap.size ∧ meth.locks = false ∧ (Jvm.Cond.and given_1 narrow_1).before #[Value.ref b] s = true ∧ meth.name = "law"
section ZLAW
theorem zw_23 : decode code 23 = .ok (.iload 4, 2) := by decide +kernel
theorem zw_25 : decode code 25 = .ok (.aload_n 0, 1) := by decide +kernel
theorem zw_26 : decode code 26 = .ok (.arraylength, 1) := by decide +kernel
theorem zw_27 : decode code 27 = .ok (.bipush 7, 2) := by decide +kernel
theorem zw_29 : decode code 29 = .ok (.isub, 1) := by decide +kernel
theorem zw_30 : decode code 30 = .ok (.if_icmp .gt 1300, 3) := by decide +kernel
theorem zw_1330 : decode code 1330 = .ok (.iconst 1, 1) := by decide +kernel
theorem zw_1331 : decode code 1331 = .ok (.ireturn, 1) := by decide +kernel
theorem zmtL : zmt 164 = zm164 := rfl
/-- the names of the unknown ints: the script's, the case, what a bet leaves -/
def zrh (xs : Nat → Int32) (k : Nat) : Int32 := if k < 7 then xs k else if k = 7 then xs 0 &&& 63 else if k < 16 then 100 - (if k - 8 < 7 then xs (k - 8) else xs 0 &&& 63) else if k = 20 then 1 else 0
theorem zrh_2 (xs : Nat → Int32) : zEnv2 (zrh xs) := by
  constructor
  · intro j hj
    unfold zrh
    rw [if_neg (by omega), if_neg (by omega), if_pos (by omega), Nat.add_sub_cancel]
    by_cases h : j < 7
    · rw [if_pos h, if_pos h]
    · rw [if_neg h, if_neg h, if_pos (by omega)]
  · rfl
theorem zEnv0 (rh : Nat → Int32) : zEnv zbd0 rh := fun k => z_rng _
/-- some case fits -/
theorem zsel {rh : Nat → Int32} {k : Nat} (hk : k < 64) (h0 : k ≠ 0) (h7 : rh 7 = nI k) (h20 : rh 20 = 1) : ∃ q l, zcase q l = true ∧ zEnv (zbdC q l) rh ∧ zlw (zbdC q l) true = true := by
  have e20 : (rh 20).toInt = 1 := by rw [h20]; rfl
  have e7 : (rh 7).toInt = (k : Int) := by rw [h7]; exact nI_toInt (by omega)
  have fin : ∀ q : Int × Int, (∃ l, zcase q l = true ∧ zEnv (zbdC q l) rh) → ∃ q l, zcase q l = true ∧ zEnv (zbdC q l) rh ∧ zlw (zbdC q l) true = true := by
    rintro q ⟨l, h1, h2⟩
    exact ⟨q, l, h1, h2, rfl⟩
  match k, hk, h0, e7 with
  | 0, _, h0, _ => exact absurd rfl h0
  | 1, _, _, e7 => exact fin _ (zfitC zk1 zv1 (by rw [e7]; exact ⟨Int.le_refl _, Int.le_refl _⟩) e20)
  | 2, _, _, e7 => exact fin _ (zfitC zk2 zv2 (by rw [e7]; exact ⟨Int.le_refl _, Int.le_refl _⟩) e20)
  | 3, _, _, e7 => exact fin _ (zfitC zk3 zv3 (by rw [e7]; exact ⟨Int.le_refl _, Int.le_refl _⟩) e20)
  | 4, _, _, e7 => exact fin _ (zfitC zk4 zv4 (by rw [e7]; exact ⟨Int.le_refl _, Int.le_refl _⟩) e20)
  | 5, _, _, e7 => exact fin _ (zfitC zk5 zv5 (by rw [e7]; exact ⟨Int.le_refl _, Int.le_refl _⟩) e20)
  | 6, _, _, e7 => exact fin _ (zfitC zk6 zv6 (by rw [e7]; exact ⟨Int.le_refl _, Int.le_refl _⟩) e20)
  | 7, _, _, e7 => exact fin _ (zfitC zk7 zv7 (by rw [e7]; exact ⟨Int.le_refl _, Int.le_refl _⟩) e20)
  | 8, _, _, e7 => exact fin _ (zfitC zk8 zv8 (by rw [e7]; exact ⟨Int.le_refl _, Int.le_refl _⟩) e20)
  | 9, _, _, e7 => exact fin _ (zfitC zk9 zv9 (by rw [e7]; exact ⟨Int.le_refl _, Int.le_refl _⟩) e20)
  | 10, _, _, e7 => exact fin _ (zfitC zk10 zv10 (by rw [e7]; exact ⟨Int.le_refl _, Int.le_refl _⟩) e20)
  | 11, _, _, e7 => exact fin _ (zfitC zk11 zv11 (by rw [e7]; exact ⟨Int.le_refl _, Int.le_refl _⟩) e20)
  | 12, _, _, e7 => exact fin _ (zfitC zk12 zv12 (by rw [e7]; exact ⟨Int.le_refl _, Int.le_refl _⟩) e20)
  | 13, _, _, e7 => exact fin _ (zfitC zk13 zv13 (by rw [e7]; exact ⟨Int.le_refl _, Int.le_refl _⟩) e20)
  | 14, _, _, e7 => exact fin _ (zfitC zk14 zv14 (by rw [e7]; exact ⟨Int.le_refl _, Int.le_refl _⟩) e20)
  | 15, _, _, e7 => exact fin _ (zfitC zk15 zv15 (by rw [e7]; exact ⟨Int.le_refl _, Int.le_refl _⟩) e20)
  | 16, _, _, e7 => exact fin _ (zfitC zk16 zv16 (by rw [e7]; exact ⟨Int.le_refl _, Int.le_refl _⟩) e20)
  | 17, _, _, e7 => exact fin _ (zfitC zk17 zv17 (by rw [e7]; exact ⟨Int.le_refl _, Int.le_refl _⟩) e20)
  | 18, _, _, e7 => exact fin _ (zfitC zk18 zv18 (by rw [e7]; exact ⟨Int.le_refl _, Int.le_refl _⟩) e20)
  | 19, _, _, e7 => exact fin _ (zfitC zk19 zv19 (by rw [e7]; exact ⟨Int.le_refl _, Int.le_refl _⟩) e20)
  | 20, _, _, e7 => exact fin _ (zfitC zk20 zv20 (by rw [e7]; exact ⟨Int.le_refl _, Int.le_refl _⟩) e20)
  | 21, _, _, e7 => exact fin _ (zfitC zk21 zv21 (by rw [e7]; exact ⟨Int.le_refl _, Int.le_refl _⟩) e20)
  | 22, _, _, e7 => exact fin _ (zfitC zk22 zv22 (by rw [e7]; exact ⟨Int.le_refl _, Int.le_refl _⟩) e20)
  | 23, _, _, e7 => exact fin _ (zfitC zk23 zv23 (by rw [e7]; exact ⟨Int.le_refl _, Int.le_refl _⟩) e20)
  | 24, _, _, e7 => exact fin _ (zfitC zk24 zv24 (by rw [e7]; exact ⟨Int.le_refl _, Int.le_refl _⟩) e20)
  | 25, _, _, e7 => exact fin _ (zfitC zk25 zv25 (by rw [e7]; exact ⟨Int.le_refl _, Int.le_refl _⟩) e20)
  | 26, _, _, e7 => exact fin _ (zfitC zk26 zv26 (by rw [e7]; exact ⟨Int.le_refl _, Int.le_refl _⟩) e20)
  | 27, _, _, e7 => exact fin _ (zfitC zk27 zv27 (by rw [e7]; exact ⟨Int.le_refl _, Int.le_refl _⟩) e20)
  | 28, _, _, e7 => exact fin _ (zfitC zk28 zv28 (by rw [e7]; exact ⟨Int.le_refl _, Int.le_refl _⟩) e20)
  | 29, _, _, e7 => exact fin _ (zfitC zk29 zv29 (by rw [e7]; exact ⟨Int.le_refl _, Int.le_refl _⟩) e20)
  | 30, _, _, e7 => exact fin _ (zfitC zk30 zv30 (by rw [e7]; exact ⟨Int.le_refl _, Int.le_refl _⟩) e20)
  | 31, _, _, e7 => exact fin _ (zfitC zk31 zv31 (by rw [e7]; exact ⟨Int.le_refl _, Int.le_refl _⟩) e20)
  | 32, _, _, e7 => exact fin _ (zfitC zk32 zv32 (by rw [e7]; exact ⟨Int.le_refl _, Int.le_refl _⟩) e20)
  | 33, _, _, e7 => exact fin _ (zfitC zk33 zv33 (by rw [e7]; exact ⟨Int.le_refl _, Int.le_refl _⟩) e20)
  | 34, _, _, e7 => exact fin _ (zfitC zk34 zv34 (by rw [e7]; exact ⟨Int.le_refl _, Int.le_refl _⟩) e20)
  | n + 35, hn, _, e7 => exact fin _ (zfitC zk35 zv35 (by rw [e7]; constructor <;> (show _ ≤ _; omega)) e20)
variable {p : Program} {e : Env} {s : State} {m : MethodId} {below : List Frame} {meth : Method} {c : Code}
/-- the law's frame -/
theorem zFrL {b L : Nat} {xs : Nat → Int32} (C0 : lw_At p s m meth c b L xs) {D : va_G} {cA : Nat → ClassId} (hZX : ZX D cA s) {ZS : (Nat → Prop) → State → Nat → Prop} {ad : Nat → Nat} (hZS : ZS (fun q => s.heap.size ≤ q) s (ad 1000000)) (hb1 : ad 1000001 = b) {bd : Nat → Int × Int} (hL : zlw bd true = true → L = 7) :
    ZFr zAl zmt bd (zrh xs) ZS D cA p room_1 s m #[Value.ref b] meth c (fun q => s.heap.size ≤ q) ad 20 164 true := by
  obtain ⟨hx, hb, hr, hml, hown, hts, hX, hbl, hlocks, hgv, hname⟩ := C0
  refine ⟨hx, hb, hml, hname, hown, fun w hw => hts w (List.mem_filter.mp hw).1, (zok 164).1, hZX, hZS, fun q h => h, by decide, by decide, Nat.le_refl _, Nat.le_refl _, fun h => ?_⟩
  have e7 := hL h
  subst e7
  rw [hb1]
  refine ⟨?_, hbl, Nat.not_le.mpr hbl⟩
  obtain ⟨scr, h1, h2, h3, h4, h5⟩ := hX
  refine ⟨scr, h1, h2, h3, h4, fun j hj => ?_⟩
  rw [h5 j hj]
  unfold zrh
  rw [if_pos hj]
set_option maxHeartbeats 2000000 in
/-- a case, from the loop's head to the end -/
theorem zrunC {ZS : (Nat → Prop) → State → Nat → Prop} (hZ : zZS ZS) (l : Launch) (hJ : zJ l zAl ZS) {b : Nat} {xs : Nat → Int32} (C0 : lw_At p s m meth c b 7 xs) {D : va_G} {cA : Nat → ClassId} {q : Int × Int} {k : List (Int × Int)} (hO : zJO l zAl zmt (zbdC q k) (zrh xs) ZS D cA) (hZX : ZX D cA s) {ad : Nat → Nat} (hZS : ZS (fun q => s.heap.size ≤ q) s (ad 1000000)) (hb1 : ad 1000001 = b)
    (hc : zcase q k = true) (hE : zEnv (zbdC q k) (zrh xs)) {H : Heap} {locs : List Loc} {mc ms : Nat} {ls : Array Slot} (hmc : mc ≤ 1000) (hms : ms ≤ 200000) (hP : va_P D zcl (zW cA (zrh xs) ad zbase) H) (hD : va_D (fun q => s.heap.size ≤ q) (zW cA (zrh xs) ad zbase)) (hS : va_S (fun q => s.heap.size ≤ q) s.heap H locs) (hl : lv_has ls 7 (zL (zrh xs) ad zsl)) :
    W p l e room_1 s m #[Value.ref b] below meth c H locs mc ms (lw_Z below #[Value.ref b] s) (F0 m 23 ls []) := by
  obtain ⟨cs, hrun⟩ := zcase_ok hc
  have hfr := zFrL C0 hZX hZS hb1 (bd := zbdC q k) (fun _ => rfl)
  obtain ⟨hx, hb, hr, hml, hown, hts, hX, hbl, hlocks, hgv, hname⟩ := C0
  refine W.widen hmc hms ?_
  refine z_snd zAl_good zcw_ok zAl0_ok hZ hJ hO (fun i => (zok i).2) (fun i => (zok i).1) hE (zrh_2 xs) 40000 20 164 true [] 9999 23 zsl [] zbase 1000 200000 (some (.int 1)) cs hrun p e room_1 s m #[Value.ref b] below meth c H locs _ ad ls (fun q => s.heap.size ≤ q) hfr (by decide) (by decide) hP hD hS hl ?_
  intro ad' H' locs' ls' mc' ms' pc' loc' st' g1 g2 g3 g4 g5 g6
  rcases g6 with ⟨-, -, -, -, z, -⟩ | ⟨v, rfl, hv, h3, h4, h5, h6, h7⟩ | ⟨-, z, -⟩
  · cases z
  · cases hv
    refine va_forget (fun z hz => g4.2.2 z hz) ?_
    refine W.widen h5 h6 ?_
    exact lw_ret hx hb hr hlocks h3
  · cases z
set_option maxHeartbeats 2000000 in
/-- a script of fewer than 7 ints: nothing is called -/
theorem zshort (l : Launch) {b L : Nat} {xs : Nat → Int32} (hL : L < 7) (C0 : lw_At p s m meth c b L xs) {rh : Nat → Int32} {ad : Nat → Nat} (hb1 : ad 1000001 = b) {H : Heap} {locs : List Loc} {mc ms : Nat} {ls : Array Slot} (hmc : mc ≤ 1000) (hms : ms ≤ 200000) (hS : va_S (fun q => s.heap.size ≤ q) s.heap H locs) (hl : lv_has ls 7 (zL rh ad zsl)) :
    W p l e room_1 s m #[Value.ref b] below meth c H locs mc ms (lw_Z below #[Value.ref b] s) (F0 m 23 ls []) := by
  obtain ⟨hx, hb, hr, hml, hown, hts, hX, hbl, hlocks, hgv, hname⟩ := C0
  have hl : lv_has ls 7 [(4, .int 0), (3, .ref (ad 112)), (2, .ref (ad 79)), (1, .ref (ad 0)), (0, .ref (ad 1000001))] := hl
  rw [hb1] at hl
  refine lv_iload hx hb zw_23 (lv_at hl 0 rfl) ?_
  refine lv_aload_n hx hb zw_25 rfl (lv_at hl 4 rfl) ?_
  refine va_slen hx hb hX hbl (Nat.not_le.mpr hbl) hS zw_26 ?_
  refine lv_bipush (v := 7) hx hb zw_27 (by decide) ?_
  refine lv_isub hx hb zw_29 ?_
  refine lv_icmp_gt (tgt := 1330) hx hb zw_30 (by decide) (fun _ => ?_) (fun h => absurd (show Int32.ofNat L - 7 < 0 from pk_sneg (a := L) (b := 7) (by decide) hL) h)
  refine lv_iconst (v := 1) hx hb zw_1330 (by decide) ?_
  refine va_forget (fun z hz => hS.2.2 z hz) ?_
  refine W.widen (k := 600002) (n := 7302232) (by omega) (by omega) ?_
  exact lw_ret hx hb hr hlocks zw_1331
set_option maxHeartbeats 2000000 in
/-- the law from its entry, once the feeding and the orders are known -/
theorem zstart {ZS : (Nat → Prop) → State → Nat → Prop} (hZ : zZS ZS) (l : Launch) (hJ : zJ l zAl ZS) {b L : Nat} {xs : Nat → Int32} (hL : L ≤ 7) (C0 : lw_At p s m meth c b L xs) {D : va_G} {cA : Nat → ClassId} (hO : ∀ bd, zJO l zAl zmt bd (zrh xs) ZS D cA) (hZX : ZX D cA s) {bs : Nat} (hZS : ZS (fun q => s.heap.size ≤ q) s bs)
    (hfeed : L = 7 → xs 0 &&& 63 = 0 → ∀ (ad : Nat → Nat) (H : Heap) (locs : List Loc) (mc ms : Nat) (ls : Array Slot), ad 1000000 = bs → ad 1000001 = b → mc ≤ 1000 → ms ≤ 200000 → va_P D zcl (zW cA (zrh xs) ad zbase) H → va_D (fun q => s.heap.size ≤ q) (zW cA (zrh xs) ad zbase) → va_S (fun q => s.heap.size ≤ q) s.heap H locs → lv_has ls 7 (zL (zrh xs) ad zsl) → W p l e room_1 s m #[Value.ref b] below meth c H locs mc ms (lw_Z below #[Value.ref b] s) (F0 m 23 ls [])) :
    W p l e room_1 s m #[Value.ref b] below meth c s.heap [] 0 0 (lw_Z below #[Value.ref b] s) (entryFrame m ([Value.ref b] : List Value).toArray 7) := by
  obtain ⟨ad, had0, had1⟩ : ∃ ad : Nat → Nat, ad 1000000 = bs ∧ ad 1000001 = b := ⟨fun k => if k = 1000000 then bs else b, rfl, rfl⟩
  have hfr := zFrL C0 hZX (ZS := ZS) (ad := ad) (by rw [had0]; exact hZS) had1 (bd := zbd0) (fun h => absurd h (by decide))
  have hl := lv_entry ([.ref b]) (n := 7) (Nat.le_of_ble_eq_true rfl)
  rw [lg_entry_eq]
  generalize (lg_sl ([.ref b]) ++ List.replicate (7 - (lg_sl ([.ref b])).length) Slot.unset).toArray = ls at hl ⊢
  have hl : lv_has ls 7 (zL (zrh xs) ad [(0, .ref 1000001)]) := by
    show lv_has ls 7 [(0, .ref (ad 1000001))]
    rw [had1]
    exact hl
  refine z_snd zAl_good zcw_ok zAl0_ok hZ hJ (hO zbd0) (fun i => (zok i).2) (fun i => (zok i).1) (zEnv0 _) (zrh_2 xs) 9000 20 164 true zsl 23 0 [(0, .ref 1000001)] [] [] 0 0 none zbase zph1 p e room_1 s m #[Value.ref b] below meth c s.heap [] _ ad ls (fun q => s.heap.size ≤ q) hfr (Nat.zero_le _) (Nat.zero_le _) (fun k q h => by simp [zW] at h) ⟨fun i j p q h => by simp [zW] at h, fun k q h => by simp [zW] at h⟩ va_S.rf hl ?_
  intro ad' H' locs' ls' mc' ms' pc' loc' st' g1 g2 g3 g4 g5 g6
  have a0 : ad' 1000000 = bs := (g1 _ (Or.inr (by decide))).trans had0
  have a1 : ad' 1000001 = b := (g1 _ (Or.inr (by decide))).trans had1
  rcases g6 with ⟨-, rfl, rfl, rfl, -, hmc, hms⟩ | ⟨v, -, hv, -⟩ | ⟨-, -, -, -, -, z⟩
  · by_cases h7 : L = 7
    · subst h7
      obtain ⟨k, hk, ek⟩ := pk_andE (xs 0) (m := 63) 6 rfl
      by_cases h0 : k = 0
      · subst h0
        exact hfeed rfl ek ad' H' locs' mc' ms' ls' a0 a1 hmc hms g2 g3 g4 g5
      · obtain ⟨q, l', c1, c2, c3⟩ := zsel (rh := zrh xs) hk h0 ek rfl
        exact zrunC hZ l hJ C0 (hO _) hZX (by rw [a0]; exact hZS) a1 c1 c2 hmc hms g2 g3 g4 g5
    · exact zshort l (by omega) C0 a1 hmc hms g4 g5
  · cases hv
  · rw [zmtL] at z
    cases z
end ZLAW
