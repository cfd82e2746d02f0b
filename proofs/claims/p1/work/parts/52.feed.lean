/-! feeding: eight bytes a time -/
section ZFEED
theorem zf_X10_addEight_0 : decode cX10_addEight 0 = .ok (.bipush 56, 2) := by decide +kernel
theorem zf_X10_addEight_2 : decode cX10_addEight 2 = .ok (.istore_n 3, 1) := by decide +kernel
theorem zf_X10_addEight_3 : decode cX10_addEight 3 = .ok (.iload_n 3, 1) := by decide +kernel
theorem zf_X10_addEight_4 : decode cX10_addEight 4 = .ok (.ifCond .lt 72, 3) := by decide +kernel
theorem zf_X10_addEight_7 : decode cX10_addEight 7 = .ok (.lload_n 1, 1) := by decide +kernel
theorem zf_X10_addEight_8 : decode cX10_addEight 8 = .ok (.iload_n 3, 1) := by decide +kernel
theorem zf_X10_addEight_9 : decode cX10_addEight 9 = .ok (.lushr, 1) := by decide +kernel
theorem zf_X10_addEight_10 : decode cX10_addEight 10 = .ok (.l2i, 1) := by decide +kernel
theorem zf_X10_addEight_11 : decode cX10_addEight 11 = .ok (.sipush 255, 3) := by decide +kernel
theorem zf_X10_addEight_14 : decode cX10_addEight 14 = .ok (.iand, 1) := by decide +kernel
theorem zf_X10_addEight_15 : decode cX10_addEight 15 = .ok (.istore 4, 2) := by decide +kernel
theorem zf_X10_addEight_17 : decode cX10_addEight 17 = .ok (.iload 4, 2) := by decide +kernel
theorem zf_X10_addEight_19 : decode cX10_addEight 19 = .ok (.bipush 10, 2) := by decide +kernel
theorem zf_X10_addEight_21 : decode cX10_addEight 21 = .ok (.if_icmp .eq 17, 3) := by decide +kernel
theorem zf_X10_addEight_24 : decode cX10_addEight 24 = .ok (.iload 4, 2) := by decide +kernel
theorem zf_X10_addEight_26 : decode cX10_addEight 26 = .ok (.bipush 32, 2) := by decide +kernel
theorem zf_X10_addEight_28 : decode cX10_addEight 28 = .ok (.if_icmp .lt 42, 3) := by decide +kernel
theorem zf_X10_addEight_31 : decode cX10_addEight 31 = .ok (.iload 4, 2) := by decide +kernel
theorem zf_X10_addEight_33 : decode cX10_addEight 33 = .ok (.bipush 126, 2) := by decide +kernel
theorem zf_X10_addEight_35 : decode cX10_addEight 35 = .ok (.if_icmp .gt 35, 3) := by decide +kernel
theorem zf_X10_addEight_38 : decode cX10_addEight 38 = .ok (.aload_n 0, 1) := by decide +kernel
theorem zf_X10_addEight_39 : decode cX10_addEight 39 = .ok (.getfield 33, 3) := by decide +kernel
theorem zf_X10_addEight_42 : decode cX10_addEight 42 = .ok (.sipush 1000, 3) := by decide +kernel
theorem zf_X10_addEight_45 : decode cX10_addEight 45 = .ok (.if_icmp .ge 25, 3) := by decide +kernel
theorem zf_X10_addEight_48 : decode cX10_addEight 48 = .ok (.aload_n 0, 1) := by decide +kernel
theorem zf_X10_addEight_49 : decode cX10_addEight 49 = .ok (.getfield 11, 3) := by decide +kernel
theorem zf_X10_addEight_52 : decode cX10_addEight 52 = .ok (.aload_n 0, 1) := by decide +kernel
theorem zf_X10_addEight_53 : decode cX10_addEight 53 = .ok (.getfield 33, 3) := by decide +kernel
theorem zf_X10_addEight_56 : decode cX10_addEight 56 = .ok (.iload 4, 2) := by decide +kernel
theorem zf_X10_addEight_58 : decode cX10_addEight 58 = .ok (.i2b, 1) := by decide +kernel
theorem zf_X10_addEight_59 : decode cX10_addEight 59 = .ok (.bastore, 1) := by decide +kernel
theorem zf_X10_addEight_60 : decode cX10_addEight 60 = .ok (.aload_n 0, 1) := by decide +kernel
theorem zf_X10_addEight_61 : decode cX10_addEight 61 = .ok (.dup, 1) := by decide +kernel
theorem zf_X10_addEight_62 : decode cX10_addEight 62 = .ok (.getfield 33, 3) := by decide +kernel
theorem zf_X10_addEight_65 : decode cX10_addEight 65 = .ok (.iconst 1, 1) := by decide +kernel
theorem zf_X10_addEight_66 : decode cX10_addEight 66 = .ok (.iadd, 1) := by decide +kernel
theorem zf_X10_addEight_67 : decode cX10_addEight 67 = .ok (.putfield 33, 3) := by decide +kernel
theorem zf_X10_addEight_70 : decode cX10_addEight 70 = .ok (.iinc 3 (-8), 3) := by decide +kernel
theorem zf_X10_addEight_73 : decode cX10_addEight 73 = .ok (.goto (-70), 3) := by decide +kernel
theorem zf_X10_addEight_76 : decode cX10_addEight 76 = .ok (.return_, 1) := by decide +kernel
theorem zf_X12_lay_0 : decode cX12_lay 0 = .ok (.bipush 56, 2) := by decide +kernel
theorem zf_X12_lay_2 : decode cX12_lay 2 = .ok (.istore_n 3, 1) := by decide +kernel
theorem zf_X12_lay_3 : decode cX12_lay 3 = .ok (.iload_n 3, 1) := by decide +kernel
theorem zf_X12_lay_4 : decode cX12_lay 4 = .ok (.ifCond .lt 71, 3) := by decide +kernel
theorem zf_X12_lay_7 : decode cX12_lay 7 = .ok (.lload_n 1, 1) := by decide +kernel
theorem zf_X12_lay_8 : decode cX12_lay 8 = .ok (.iload_n 3, 1) := by decide +kernel
theorem zf_X12_lay_9 : decode cX12_lay 9 = .ok (.lshr, 1) := by decide +kernel
theorem zf_X12_lay_10 : decode cX12_lay 10 = .ok (.l2i, 1) := by decide +kernel
theorem zf_X12_lay_11 : decode cX12_lay 11 = .ok (.sipush 255, 3) := by decide +kernel
theorem zf_X12_lay_14 : decode cX12_lay 14 = .ok (.iand, 1) := by decide +kernel
theorem zf_X12_lay_15 : decode cX12_lay 15 = .ok (.istore 4, 2) := by decide +kernel
theorem zf_X12_lay_17 : decode cX12_lay 17 = .ok (.iload 4, 2) := by decide +kernel
theorem zf_X12_lay_19 : decode cX12_lay 19 = .ok (.bipush 10, 2) := by decide +kernel
theorem zf_X12_lay_21 : decode cX12_lay 21 = .ok (.if_icmp .eq 17, 3) := by decide +kernel
theorem zf_X12_lay_24 : decode cX12_lay 24 = .ok (.iload 4, 2) := by decide +kernel
theorem zf_X12_lay_26 : decode cX12_lay 26 = .ok (.bipush 32, 2) := by decide +kernel
theorem zf_X12_lay_28 : decode cX12_lay 28 = .ok (.if_icmp .lt 41, 3) := by decide +kernel
theorem zf_X12_lay_31 : decode cX12_lay 31 = .ok (.iload 4, 2) := by decide +kernel
theorem zf_X12_lay_33 : decode cX12_lay 33 = .ok (.bipush 126, 2) := by decide +kernel
theorem zf_X12_lay_35 : decode cX12_lay 35 = .ok (.if_icmp .gt 34, 3) := by decide +kernel
theorem zf_X12_lay_38 : decode cX12_lay 38 = .ok (.aload_n 0, 1) := by decide +kernel
theorem zf_X12_lay_39 : decode cX12_lay 39 = .ok (.getfield 11, 3) := by decide +kernel
theorem zf_X12_lay_42 : decode cX12_lay 42 = .ok (.sipush 1000, 3) := by decide +kernel
theorem zf_X12_lay_45 : decode cX12_lay 45 = .ok (.if_icmp .ge 24, 3) := by decide +kernel
theorem zf_X12_lay_48 : decode cX12_lay 48 = .ok (.aload_n 0, 1) := by decide +kernel
theorem zf_X12_lay_49 : decode cX12_lay 49 = .ok (.getfield 14, 3) := by decide +kernel
theorem zf_X12_lay_52 : decode cX12_lay 52 = .ok (.aload_n 0, 1) := by decide +kernel
theorem zf_X12_lay_53 : decode cX12_lay 53 = .ok (.getfield 11, 3) := by decide +kernel
theorem zf_X12_lay_56 : decode cX12_lay 56 = .ok (.iload 4, 2) := by decide +kernel
theorem zf_X12_lay_58 : decode cX12_lay 58 = .ok (.iastore, 1) := by decide +kernel
theorem zf_X12_lay_59 : decode cX12_lay 59 = .ok (.aload_n 0, 1) := by decide +kernel
theorem zf_X12_lay_60 : decode cX12_lay 60 = .ok (.dup, 1) := by decide +kernel
theorem zf_X12_lay_61 : decode cX12_lay 61 = .ok (.getfield 11, 3) := by decide +kernel
theorem zf_X12_lay_64 : decode cX12_lay 64 = .ok (.iconst 1, 1) := by decide +kernel
theorem zf_X12_lay_65 : decode cX12_lay 65 = .ok (.iadd, 1) := by decide +kernel
theorem zf_X12_lay_66 : decode cX12_lay 66 = .ok (.putfield 11, 3) := by decide +kernel
theorem zf_X12_lay_69 : decode cX12_lay 69 = .ok (.iinc 3 (-8), 3) := by decide +kernel
theorem zf_X12_lay_72 : decode cX12_lay 72 = .ok (.goto (-69), 3) := by decide +kernel
theorem zf_X12_lay_75 : decode cX12_lay 75 = .ok (.return_, 1) := by decide +kernel
theorem zf_X11_feed_0 : decode cX11_feed 0 = .ok (.aload_n 0, 1) := by decide +kernel
theorem zf_X11_feed_1 : decode cX11_feed 1 = .ok (.getfield 10, 3) := by decide +kernel
theorem zf_X11_feed_4 : decode cX11_feed 4 = .ok (.lload_n 1, 1) := by decide +kernel
theorem zf_X11_feed_5 : decode cX11_feed 5 = .ok (.invokevirtual 108, 3) := by decide +kernel
theorem zf_X11_feed_8 : decode cX11_feed 8 = .ok (.aload_n 0, 1) := by decide +kernel
theorem zf_X11_feed_9 : decode cX11_feed 9 = .ok (.getfield 10, 3) := by decide +kernel
theorem zf_X11_feed_12 : decode cX11_feed 12 = .ok (.lload_n 3, 1) := by decide +kernel
theorem zf_X11_feed_13 : decode cX11_feed 13 = .ok (.invokevirtual 108, 3) := by decide +kernel
theorem zf_X11_feed_16 : decode cX11_feed 16 = .ok (.aload_n 0, 1) := by decide +kernel
theorem zf_X11_feed_17 : decode cX11_feed 17 = .ok (.getfield 10, 3) := by decide +kernel
theorem zf_X11_feed_20 : decode cX11_feed 20 = .ok (.lload 5, 2) := by decide +kernel
theorem zf_X11_feed_22 : decode cX11_feed 22 = .ok (.invokevirtual 108, 3) := by decide +kernel
theorem zf_X11_feed_25 : decode cX11_feed 25 = .ok (.aload_n 0, 1) := by decide +kernel
theorem zf_X11_feed_26 : decode cX11_feed 26 = .ok (.getfield 10, 3) := by decide +kernel
theorem zf_X11_feed_29 : decode cX11_feed 29 = .ok (.getfield 112, 3) := by decide +kernel
theorem zf_X11_feed_32 : decode cX11_feed 32 = .ok (.ireturn, 1) := by decide +kernel
theorem zf_X12_feed_0 : decode cX12_feed 0 = .ok (.aload_n 0, 1) := by decide +kernel
theorem zf_X12_feed_1 : decode cX12_feed 1 = .ok (.iconst 0, 1) := by decide +kernel
theorem zf_X12_feed_2 : decode cX12_feed 2 = .ok (.putfield 1, 3) := by decide +kernel
theorem zf_X12_feed_5 : decode cX12_feed 5 = .ok (.aload_n 0, 1) := by decide +kernel
theorem zf_X12_feed_6 : decode cX12_feed 6 = .ok (.lload_n 1, 1) := by decide +kernel
theorem zf_X12_feed_7 : decode cX12_feed 7 = .ok (.invokevirtual 7, 3) := by decide +kernel
theorem zf_X12_feed_10 : decode cX12_feed 10 = .ok (.aload_n 0, 1) := by decide +kernel
theorem zf_X12_feed_11 : decode cX12_feed 11 = .ok (.lload_n 3, 1) := by decide +kernel
theorem zf_X12_feed_12 : decode cX12_feed 12 = .ok (.invokevirtual 7, 3) := by decide +kernel
theorem zf_X12_feed_15 : decode cX12_feed 15 = .ok (.aload_n 0, 1) := by decide +kernel
theorem zf_X12_feed_16 : decode cX12_feed 16 = .ok (.lload 5, 2) := by decide +kernel
theorem zf_X12_feed_18 : decode cX12_feed 18 = .ok (.invokevirtual 7, 3) := by decide +kernel
theorem zf_X12_feed_21 : decode cX12_feed 21 = .ok (.aload_n 0, 1) := by decide +kernel
theorem zf_X12_feed_22 : decode cX12_feed 22 = .ok (.getfield 11, 3) := by decide +kernel
theorem zf_X12_feed_25 : decode cX12_feed 25 = .ok (.ireturn, 1) := by decide +kernel
theorem zfw1 : Cond.fieldLink RX10 33 "BeggarHeaps$Tape" "length" "I" ∈ zAl := zmem_of 216 (by decide +kernel) rfl
theorem zfw2 : Cond.fieldLink RX10 11 "BeggarHeaps$Tape" "signs" "[B" ∈ zAl := zmem_of 213 (by decide +kernel) rfl
theorem zfw3 : Cond.fieldLink RX12 11 "BeggarHeapsModel" "taped" "I" ∈ zAl := zmem_of 1649 (by decide +kernel) rfl
theorem zfw4 : Cond.fieldLink RX12 14 "BeggarHeapsModel" "tape" "[I" ∈ zAl := zmem_of 1648 (by decide +kernel) rfl
theorem zfw5 : Cond.fieldLink RX11 10 "BeggarHeaps" "tape" "LBeggarHeaps$Tape;" ∈ zAl := zmem_of 768 (by decide +kernel) rfl
theorem zfw6 : Cond.fieldLink RX11 112 "BeggarHeaps$Tape" "length" "I" ∈ zAl := zmem_of 215 (by decide +kernel) rfl
theorem zfw7 : Cond.fieldLink RX12 1 "BeggarHeapsModel" "thrown" "I" ∈ zAl := zmem_of 1647 (by decide +kernel) rfl
theorem zfk_a : Cond.methodLink RX11 108 yX10_addEight ∈ zAl := zmem_of 830 (by decide +kernel) rfl
theorem zfn_a : Cond.instanceMethod yX10_addEight ∈ zAl := zmem_of 831 (by decide +kernel) rfl
theorem zfs_a : Cond.selects RX10 yX10_addEight yX10_addEight ∈ zAl := zmem_of 832 (by decide +kernel) rfl
theorem zfc_a : Cond.code yX10_addEight cX10_addEight 5 none ∈ zAl := zmem_of 833 (by decide +kernel) rfl
theorem zfi_a : Cond.initialized RX10 ∈ zAl := zmem_of 127 (by decide +kernel) rfl
theorem zfk_l : Cond.methodLink RX12 7 yX12_lay ∈ zAl := zmem_of 1605 (by decide +kernel) rfl
theorem zfn_l : Cond.instanceMethod yX12_lay ∈ zAl := zmem_of 1607 (by decide +kernel) rfl
theorem zfs_l : Cond.selects RX12 yX12_lay yX12_lay ∈ zAl := zmem_of 58 (by decide +kernel) rfl
theorem zfc_l : Cond.code yX12_lay cX12_lay 5 none ∈ zAl := zmem_of 1609 (by decide +kernel) rfl
theorem zfi_l : Cond.initialized RX12 ∈ zAl := zmem_of 142 (by decide +kernel) rfl
theorem zfk_f : Cond.methodLink "BeggarHeapsLaw" 21 yX11_feed ∈ zAl := zmem_of 826 (by decide +kernel) rfl
theorem zfn_f : Cond.instanceMethod yX11_feed ∈ zAl := zmem_of 827 (by decide +kernel) rfl
theorem zfs_f : Cond.selects RX11 yX11_feed yX11_feed ∈ zAl := zmem_of 828 (by decide +kernel) rfl
theorem zfc_f : Cond.code yX11_feed cX11_feed 7 (some .int) ∈ zAl := zmem_of 829 (by decide +kernel) rfl
theorem zfk_m : Cond.methodLink "BeggarHeapsLaw" 25 yX12_feed ∈ zAl := zmem_of 1601 (by decide +kernel) rfl
theorem zfn_m : Cond.instanceMethod yX12_feed ∈ zAl := zmem_of 1602 (by decide +kernel) rfl
theorem zfs_m : Cond.selects RX12 yX12_feed yX12_feed ∈ zAl := zmem_of 1603 (by decide +kernel) rfl
theorem zfc_m : Cond.code yX12_feed cX12_feed 7 (some .int) ∈ zAl := zmem_of 1604 (by decide +kernel) rfl
theorem zfi_m : Cond.initialized RX12 ∈ zAl := zmem_of 142 (by decide +kernel) rfl
theorem zfi_f : Cond.initialized RX11 ∈ zAl := zmem_of 126 (by decide +kernel) rfl
def zaccb (c : Int32) : Bool := decide (c = 10) || (decide (¬ c < 32) && decide (¬ 126 < c))
def zgC (v : Int64) (k : Nat) : Int32 := ((v.toUInt64 >>> ((nI (8 * k)).toInt64.toUInt64 &&& Int64.toUInt64 63)).toInt64).toInt32 &&& 255
def zgM (v : Int64) (k : Nat) : Int32 := (v >>> ((nI (8 * k)).toInt64 &&& 63)).toInt32 &&& 255
def zcnt (b : Nat → Int32) : Nat → Nat
  | 0 => 0
  | k + 1 => (bif zaccb (b k) then 1 else 0) + zcnt b k
theorem zcnt_le (b : Nat → Int32) : ∀ k, zcnt b k ≤ k
  | 0 => Nat.le_refl 0
  | k + 1 => by
    have ih := zcnt_le b k
    show (bif zaccb (b k) then 1 else 0) + zcnt b k ≤ k + 1
    cases zaccb (b k)
    · show 0 + _ ≤ _; omega
    · show 1 + _ ≤ _; omega
set_option maxHeartbeats 4000000 in
theorem zaddC_loop {p : Program} {l : Launch} {e : Env} {R : Room} {s : State} {m : MethodId} {args : Array Value} {below : List Frame} {meth : Method} {c : Code} {Q : State → Prop} {mc ms : Nat} {D : va_G} {cA : Nat → ClassId} {A : Nat → Prop} {h0 h1 : Nat} (hx : p.tables.exec = Jvm.exec) (hb : c.code = cX10_addEight) (hown : s.vm.findClass RX10 = some m.cls) (hts : ∀ w ∈ zAl, w.before args s = true) (hK : va_K D zcl (ztys cA) s) (v : Int64) :
    ∀ (k n : Nat) (fs : List Value) (f : Nat → Int32) (H : Heap) (locs : List Loc) (ls : Array Slot), n + k ≤ 1000 → fs.length = 10 → fs[0]? = some (.ref h1) → fs[2]? = some (.int (nI n)) → va_P D zcl [(h0, .inr (10, fs)), (h1, .inl (cA 3, 1000, .inl f))] H → va_D A [(h0, .inr (10, fs)), (h1, .inl (cA 3, 1000, .inl f))] → va_S A s.heap H locs → lv_has ls 5 [(3, .int (nI (8 * k) - 8)), (0, .ref h0), (1, .long v)] →
      (∀ (fs' : List Value) (f' : Nat → Int32) (H' : Heap) (locs' : List Loc) (ls' : Array Slot), fs'.length = 10 → fs'[0]? = some (.ref h1) → fs'[2]? = some (.int (nI (n + zcnt (zgC v) k))) → va_P D zcl [(h0, .inr (10, fs')), (h1, .inl (cA 3, 1000, .inl f'))] H' → va_D A [(h0, .inr (10, fs')), (h1, .inl (cA 3, 1000, .inl f'))] → va_S A s.heap H' locs' → W p l e R s m args below meth c H' locs' mc ms Q (F0 m 76 ls' [])) →
      W p l e R s m args below meth c H locs mc ms Q (F0 m 3 ls []) := by
  intro k
  induction k with
  | zero =>
    intro n fs f H locs ls hn hlen ha hc hP hD hS hl kk
    refine lv_iload_n hx hb zf_X10_addEight_3 rfl (lv_at hl 0 rfl) ?_
    refine lv_if_lt (tgt := 76) hx hb zf_X10_addEight_4 (by decide) (fun _ => kk fs f H locs ls hlen ha hc hP hD hS) (fun h => absurd (by decide) h)
  | succ k ih =>
    intro n fs f H locs ls hn hlen ha hc hP hD hS hl kk
    have e8 : nI (8 * (k + 1)) - 8 = nI (8 * k) := by
      rw [show (8 : Int32) = nI 8 from rfl, pk_sub (by omega)]
      congr 1
    rw [e8] at hl
    refine lv_iload_n hx hb zf_X10_addEight_3 rfl (lv_at hl 0 rfl) ?_
    refine lv_if_lt (tgt := 76) hx hb zf_X10_addEight_4 (by decide) (fun h => absurd h (nI_pos (by omega))) (fun _ => ?_)
    refine lv_lload_n hx hb zf_X10_addEight_7 rfl (lv_at hl 2 rfl) ?_
    refine lv_iload_n hx hb zf_X10_addEight_8 rfl (lv_at hl 0 rfl) ?_
    refine lv_lushr hx hb zf_X10_addEight_9 rfl ?_
    refine lv_l2i hx hb zf_X10_addEight_10 rfl ?_
    refine lv_sipush (v := 255) hx hb zf_X10_addEight_11 (by decide) ?_
    refine lv_iand hx hb zf_X10_addEight_14 ?_
    obtain ⟨b, eb⟩ : ∃ b, b = zgC v k := ⟨_, rfl⟩
    show W p l e R s m args below meth c H locs mc ms Q (F0 m 15 ls [.int (zgC v k)])
    rw [← eb]
    refine lv_istore (lv' := [(4, .int b), (3, .int (nI (8 * k))), (0, .ref h0), (1, .long v)]) hx hb zf_X10_addEight_15 hl (by decide) rfl (fun ls hl => ?_)
    have next : ∀ (n' : Nat) (fs' : List Value) (f' : Nat → Int32) (H' : Heap) (locs' : List Loc), n' + k ≤ 1000 → n' + zcnt (zgC v) k = n + zcnt (zgC v) (k + 1) → fs'.length = 10 → fs'[0]? = some (.ref h1) → fs'[2]? = some (.int (nI n')) → va_P D zcl [(h0, .inr (10, fs')), (h1, .inl (cA 3, 1000, .inl f'))] H' → va_D A [(h0, .inr (10, fs')), (h1, .inl (cA 3, 1000, .inl f'))] → va_S A s.heap H' locs' → W p l e R s m args below meth c H' locs' mc ms Q (F0 m 70 ls []) := by
      intro n' fs' f' H' locs' g1 g2 g3 g4 g5 g6 g7 g8
      refine lv_iinc (v := nI (8 * k) - 8) (lv' := [(3, .int (nI (8 * k) - 8)), (4, .int b), (0, .ref h0), (1, .long v)]) hx hb zf_X10_addEight_70 hl (k := 1) rfl (by rw [show Int32.ofInt (-8) = -8 from rfl, Int32.sub_eq_add_neg]) (by decide) rfl (fun ls hl => ?_)
      refine lv_goto (tgt := 3) hx hb zf_X10_addEight_73 (by decide) ?_
      refine ih n' fs' f' H' locs' ls g1 g3 g4 g5 g6 g7 g8 (lv_sub hl [0, 2, 3] rfl) (fun fs2 f2 H2 l2 ls2 k1 k2 k3 k4 k5 k6 => kk fs2 f2 H2 l2 ls2 k1 k2 (by rw [← g2]; exact k3) k4 k5 k6)
    have hcnt : zcnt (zgC v) (k + 1) = (bif zaccb b then 1 else 0) + zcnt (zgC v) k := by rw [eb]; rfl
    have rej : zaccb b = false → W p l e R s m args below meth c H locs mc ms Q (F0 m 70 ls []) := fun hr => next n fs f H locs (by omega) (by rw [hcnt, hr]; show _ = n + (0 + _); omega) hlen ha hc hP hD hS
    have acc : zaccb b = true → W p l e R s m args below meth c H locs mc ms Q (F0 m 38 ls []) := by
      intro hr
      refine lv_aload_n hx hb zf_X10_addEight_38 rfl (lv_at hl 2 rfl) ?_
      refine va_get (ref := "BeggarHeaps$Tape") hx hb hts (zcw_ok 10 (RX10, TX10, 10) rfl) hown hK hP 0 rfl rfl 2 (by decide) (hts _ zfw1) (fun _ h9 => h9) hc zf_X10_addEight_39 ?_
      refine lv_sipush (v := 1000) hx hb zf_X10_addEight_42 (by decide) ?_
      refine lv_icmp_ge (tgt := 70) hx hb zf_X10_addEight_45 (by decide) (fun h => absurd (show nI 1000 ≤ nI n from h) (nI_ge (by omega) (by decide))) (fun _ => ?_)
      refine lv_aload_n hx hb zf_X10_addEight_48 rfl (lv_at hl 2 rfl) ?_
      refine va_get (ref := "BeggarHeaps$Tape") hx hb hts (zcw_ok 10 (RX10, TX10, 10) rfl) hown hK hP 0 rfl rfl 0 (by decide) (hts _ zfw2) (fun _ h9 => h9) ha zf_X10_addEight_49 ?_
      refine lv_aload_n hx hb zf_X10_addEight_52 rfl (lv_at hl 2 rfl) ?_
      refine va_get (ref := "BeggarHeaps$Tape") hx hb hts (zcw_ok 10 (RX10, TX10, 10) rfl) hown hK hP 0 rfl rfl 2 (by decide) (hts _ zfw1) (fun _ h9 => h9) hc zf_X10_addEight_53 ?_
      refine lv_iload hx hb zf_X10_addEight_56 (lv_at hl 0 rfl) ?_
      refine lv_i2b (v := b.toInt8.toInt32) hx hb zf_X10_addEight_58 rfl ?_
      refine va_bast hx hb hK hP hD hS 1 3 rfl rfl (vp_in_nI (by omega) (by decide)) zf_X10_addEight_59 (fun H locs hP hD hS => ?_)
      have hP : va_P D zcl [(h0, .inr (10, fs)), (h1, .inl (cA 3, 1000, .inl (upd f (nI n).toNatClampNeg (vp_nar .byte b.toInt8.toInt32))))] H := hP
      have hD : va_D A [(h0, .inr (10, fs)), (h1, .inl (cA 3, 1000, .inl (upd f (nI n).toNatClampNeg (vp_nar .byte b.toInt8.toInt32))))] := hD
      refine lv_aload_n hx hb zf_X10_addEight_60 rfl (lv_at hl 2 rfl) ?_
      refine lv_dup hx hb zf_X10_addEight_61 rfl ?_
      refine va_get (ref := "BeggarHeaps$Tape") hx hb hts (zcw_ok 10 (RX10, TX10, 10) rfl) hown hK hP 0 rfl rfl 2 (by decide) (hts _ zfw1) (fun _ h9 => h9) hc zf_X10_addEight_62 ?_
      refine lv_iconst (v := 1) hx hb zf_X10_addEight_65 (by decide) ?_
      refine lv_iadd hx hb zf_X10_addEight_66 ?_
      refine va_put (ref := "BeggarHeaps$Tape") (ty := .int) (v := .int (nI n + 1)) hx hb hts (zcw_ok 10 (RX10, TX10, 10) rfl) (ztf 10) (zcl_ty 10 _ rfl).1 (zcl_ty 10 _ rfl).2 hown hK hP hD hS 0 rfl rfl 2 (by decide) (hts _ zfw1) (fun _ h9 => h9) rfl rfl rfl rfl (by rw [hlen]; decide) zf_X10_addEight_67 (fun H locs hP hD hS => ?_)
      rw [nI_1] at hP hD
      have hP : va_P D zcl [(h0, .inr (10, fs.set 2 (.int (nI (n + 1))))), (h1, .inl (cA 3, 1000, .inl (upd f (nI n).toNatClampNeg (vp_nar .byte b.toInt8.toInt32))))] H := hP
      have hD : va_D A [(h0, .inr (10, fs.set 2 (.int (nI (n + 1))))), (h1, .inl (cA 3, 1000, .inl (upd f (nI n).toNatClampNeg (vp_nar .byte b.toInt8.toInt32))))] := hD
      exact next (n + 1) (fs.set 2 (.int (nI (n + 1)))) _ H locs (by omega) (by rw [hcnt, hr]; show n + 1 + _ = n + (1 + _); omega) (by rw [List.length_set]; exact hlen) (by rw [List.getElem?_set_ne (by decide)]; exact ha) (List.getElem?_set_self (by rw [hlen]; decide)) hP hD hS
    refine lv_iload hx hb zf_X10_addEight_17 (lv_at hl 0 rfl) ?_
    refine lv_bipush (v := 10) hx hb zf_X10_addEight_19 (by decide) ?_
    refine lv_icmp_eq (tgt := 38) hx hb zf_X10_addEight_21 (by decide) (fun h => acc (by unfold zaccb; rw [decide_eq_true h]; rfl)) (fun h1 => ?_)
    refine lv_iload hx hb zf_X10_addEight_24 (lv_at hl 0 rfl) ?_
    refine lv_bipush (v := 32) hx hb zf_X10_addEight_26 (by decide) ?_
    refine lv_icmp_lt (tgt := 70) hx hb zf_X10_addEight_28 (by decide) (fun h => rej (by unfold zaccb; rw [decide_eq_false h1, decide_eq_false (not_not_intro h)]; rfl)) (fun h2 => ?_)
    refine lv_iload hx hb zf_X10_addEight_31 (lv_at hl 0 rfl) ?_
    refine lv_bipush (v := 126) hx hb zf_X10_addEight_33 (by decide) ?_
    exact lv_icmp_gt (tgt := 70) hx hb zf_X10_addEight_35 (by decide) (fun h => rej (by unfold zaccb; rw [decide_eq_false h1, decide_eq_false (not_not_intro h), Bool.and_false]; rfl)) (fun h3 => acc (by unfold zaccb; rw [decide_eq_false h1, decide_eq_true h2, decide_eq_true h3]; rfl))
set_option maxHeartbeats 4000000 in
theorem zlayM_loop {p : Program} {l : Launch} {e : Env} {R : Room} {s : State} {m : MethodId} {args : Array Value} {below : List Frame} {meth : Method} {c : Code} {Q : State → Prop} {mc ms : Nat} {D : va_G} {cA : Nat → ClassId} {A : Nat → Prop} {h0 h1 : Nat} (hx : p.tables.exec = Jvm.exec) (hb : c.code = cX12_lay) (hown : s.vm.findClass RX12 = some m.cls) (hts : ∀ w ∈ zAl, w.before args s = true) (hK : va_K D zcl (ztys cA) s) (v : Int64) :
    ∀ (k n : Nat) (fs : List Value) (f : Nat → Int32) (H : Heap) (locs : List Loc) (ls : Array Slot), n + k ≤ 1000 → fs.length = 56 → fs[1]? = some (.ref h1) → fs[2]? = some (.int (nI n)) → va_P D zcl [(h0, .inr (12, fs)), (h1, .inl (cA 0, 1000, .inl f))] H → va_D A [(h0, .inr (12, fs)), (h1, .inl (cA 0, 1000, .inl f))] → va_S A s.heap H locs → lv_has ls 5 [(3, .int (nI (8 * k) - 8)), (0, .ref h0), (1, .long v)] →
      (∀ (fs' : List Value) (f' : Nat → Int32) (H' : Heap) (locs' : List Loc) (ls' : Array Slot), fs'.length = 56 → fs'[1]? = some (.ref h1) → fs'[2]? = some (.int (nI (n + zcnt (zgM v) k))) → va_P D zcl [(h0, .inr (12, fs')), (h1, .inl (cA 0, 1000, .inl f'))] H' → va_D A [(h0, .inr (12, fs')), (h1, .inl (cA 0, 1000, .inl f'))] → va_S A s.heap H' locs' → W p l e R s m args below meth c H' locs' mc ms Q (F0 m 75 ls' [])) →
      W p l e R s m args below meth c H locs mc ms Q (F0 m 3 ls []) := by
  intro k
  induction k with
  | zero =>
    intro n fs f H locs ls hn hlen ha hc hP hD hS hl kk
    refine lv_iload_n hx hb zf_X12_lay_3 rfl (lv_at hl 0 rfl) ?_
    refine lv_if_lt (tgt := 75) hx hb zf_X12_lay_4 (by decide) (fun _ => kk fs f H locs ls hlen ha hc hP hD hS) (fun h => absurd (by decide) h)
  | succ k ih =>
    intro n fs f H locs ls hn hlen ha hc hP hD hS hl kk
    have e8 : nI (8 * (k + 1)) - 8 = nI (8 * k) := by
      rw [show (8 : Int32) = nI 8 from rfl, pk_sub (by omega)]
      congr 1
    rw [e8] at hl
    refine lv_iload_n hx hb zf_X12_lay_3 rfl (lv_at hl 0 rfl) ?_
    refine lv_if_lt (tgt := 75) hx hb zf_X12_lay_4 (by decide) (fun h => absurd h (nI_pos (by omega))) (fun _ => ?_)
    refine lv_lload_n hx hb zf_X12_lay_7 rfl (lv_at hl 2 rfl) ?_
    refine lv_iload_n hx hb zf_X12_lay_8 rfl (lv_at hl 0 rfl) ?_
    refine lv_lshr hx hb zf_X12_lay_9 rfl ?_
    refine lv_l2i hx hb zf_X12_lay_10 rfl ?_
    refine lv_sipush (v := 255) hx hb zf_X12_lay_11 (by decide) ?_
    refine lv_iand hx hb zf_X12_lay_14 ?_
    obtain ⟨b, eb⟩ : ∃ b, b = zgM v k := ⟨_, rfl⟩
    show W p l e R s m args below meth c H locs mc ms Q (F0 m 15 ls [.int (zgM v k)])
    rw [← eb]
    refine lv_istore (lv' := [(4, .int b), (3, .int (nI (8 * k))), (0, .ref h0), (1, .long v)]) hx hb zf_X12_lay_15 hl (by decide) rfl (fun ls hl => ?_)
    have next : ∀ (n' : Nat) (fs' : List Value) (f' : Nat → Int32) (H' : Heap) (locs' : List Loc), n' + k ≤ 1000 → n' + zcnt (zgM v) k = n + zcnt (zgM v) (k + 1) → fs'.length = 56 → fs'[1]? = some (.ref h1) → fs'[2]? = some (.int (nI n')) → va_P D zcl [(h0, .inr (12, fs')), (h1, .inl (cA 0, 1000, .inl f'))] H' → va_D A [(h0, .inr (12, fs')), (h1, .inl (cA 0, 1000, .inl f'))] → va_S A s.heap H' locs' → W p l e R s m args below meth c H' locs' mc ms Q (F0 m 69 ls []) := by
      intro n' fs' f' H' locs' g1 g2 g3 g4 g5 g6 g7 g8
      refine lv_iinc (v := nI (8 * k) - 8) (lv' := [(3, .int (nI (8 * k) - 8)), (4, .int b), (0, .ref h0), (1, .long v)]) hx hb zf_X12_lay_69 hl (k := 1) rfl (by rw [show Int32.ofInt (-8) = -8 from rfl, Int32.sub_eq_add_neg]) (by decide) rfl (fun ls hl => ?_)
      refine lv_goto (tgt := 3) hx hb zf_X12_lay_72 (by decide) ?_
      refine ih n' fs' f' H' locs' ls g1 g3 g4 g5 g6 g7 g8 (lv_sub hl [0, 2, 3] rfl) (fun fs2 f2 H2 l2 ls2 k1 k2 k3 k4 k5 k6 => kk fs2 f2 H2 l2 ls2 k1 k2 (by rw [← g2]; exact k3) k4 k5 k6)
    have hcnt : zcnt (zgM v) (k + 1) = (bif zaccb b then 1 else 0) + zcnt (zgM v) k := by rw [eb]; rfl
    have rej : zaccb b = false → W p l e R s m args below meth c H locs mc ms Q (F0 m 69 ls []) := fun hr => next n fs f H locs (by omega) (by rw [hcnt, hr]; show _ = n + (0 + _); omega) hlen ha hc hP hD hS
    have acc : zaccb b = true → W p l e R s m args below meth c H locs mc ms Q (F0 m 38 ls []) := by
      intro hr
      refine lv_aload_n hx hb zf_X12_lay_38 rfl (lv_at hl 2 rfl) ?_
      refine va_get (ref := "BeggarHeapsModel") hx hb hts (zcw_ok 12 (RX12, TX12, 56) rfl) hown hK hP 0 rfl rfl 2 (by decide) (hts _ zfw3) (fun _ h9 => h9) hc zf_X12_lay_39 ?_
      refine lv_sipush (v := 1000) hx hb zf_X12_lay_42 (by decide) ?_
      refine lv_icmp_ge (tgt := 69) hx hb zf_X12_lay_45 (by decide) (fun h => absurd (show nI 1000 ≤ nI n from h) (nI_ge (by omega) (by decide))) (fun _ => ?_)
      refine lv_aload_n hx hb zf_X12_lay_48 rfl (lv_at hl 2 rfl) ?_
      refine va_get (ref := "BeggarHeapsModel") hx hb hts (zcw_ok 12 (RX12, TX12, 56) rfl) hown hK hP 0 rfl rfl 1 (by decide) (hts _ zfw4) (fun _ h9 => h9) ha zf_X12_lay_49 ?_
      refine lv_aload_n hx hb zf_X12_lay_52 rfl (lv_at hl 2 rfl) ?_
      refine va_get (ref := "BeggarHeapsModel") hx hb hts (zcw_ok 12 (RX12, TX12, 56) rfl) hown hK hP 0 rfl rfl 2 (by decide) (hts _ zfw3) (fun _ h9 => h9) hc zf_X12_lay_53 ?_
      refine lv_iload hx hb zf_X12_lay_56 (lv_at hl 0 rfl) ?_
      refine va_iast hx hb hK hP hD hS 1 0 rfl rfl (vp_in_nI (by omega) (by decide)) zf_X12_lay_58 (fun H locs hP hD hS => ?_)
      have hP : va_P D zcl [(h0, .inr (12, fs)), (h1, .inl (cA 0, 1000, .inl (upd f (nI n).toNatClampNeg b)))] H := hP
      have hD : va_D A [(h0, .inr (12, fs)), (h1, .inl (cA 0, 1000, .inl (upd f (nI n).toNatClampNeg b)))] := hD
      refine lv_aload_n hx hb zf_X12_lay_59 rfl (lv_at hl 2 rfl) ?_
      refine lv_dup hx hb zf_X12_lay_60 rfl ?_
      refine va_get (ref := "BeggarHeapsModel") hx hb hts (zcw_ok 12 (RX12, TX12, 56) rfl) hown hK hP 0 rfl rfl 2 (by decide) (hts _ zfw3) (fun _ h9 => h9) hc zf_X12_lay_61 ?_
      refine lv_iconst (v := 1) hx hb zf_X12_lay_64 (by decide) ?_
      refine lv_iadd hx hb zf_X12_lay_65 ?_
      refine va_put (ref := "BeggarHeapsModel") (ty := .int) (v := .int (nI n + 1)) hx hb hts (zcw_ok 12 (RX12, TX12, 56) rfl) (ztf 12) (zcl_ty 12 _ rfl).1 (zcl_ty 12 _ rfl).2 hown hK hP hD hS 0 rfl rfl 2 (by decide) (hts _ zfw3) (fun _ h9 => h9) rfl rfl rfl rfl (by rw [hlen]; decide) zf_X12_lay_66 (fun H locs hP hD hS => ?_)
      rw [nI_1] at hP hD
      have hP : va_P D zcl [(h0, .inr (12, fs.set 2 (.int (nI (n + 1))))), (h1, .inl (cA 0, 1000, .inl (upd f (nI n).toNatClampNeg b)))] H := hP
      have hD : va_D A [(h0, .inr (12, fs.set 2 (.int (nI (n + 1))))), (h1, .inl (cA 0, 1000, .inl (upd f (nI n).toNatClampNeg b)))] := hD
      exact next (n + 1) (fs.set 2 (.int (nI (n + 1)))) _ H locs (by omega) (by rw [hcnt, hr]; show n + 1 + _ = n + (1 + _); omega) (by rw [List.length_set]; exact hlen) (by rw [List.getElem?_set_ne (by decide)]; exact ha) (List.getElem?_set_self (by rw [hlen]; decide)) hP hD hS
    refine lv_iload hx hb zf_X12_lay_17 (lv_at hl 0 rfl) ?_
    refine lv_bipush (v := 10) hx hb zf_X12_lay_19 (by decide) ?_
    refine lv_icmp_eq (tgt := 38) hx hb zf_X12_lay_21 (by decide) (fun h => acc (by unfold zaccb; rw [decide_eq_true h]; rfl)) (fun h1 => ?_)
    refine lv_iload hx hb zf_X12_lay_24 (lv_at hl 0 rfl) ?_
    refine lv_bipush (v := 32) hx hb zf_X12_lay_26 (by decide) ?_
    refine lv_icmp_lt (tgt := 69) hx hb zf_X12_lay_28 (by decide) (fun h => rej (by unfold zaccb; rw [decide_eq_false h1, decide_eq_false (not_not_intro h)]; rfl)) (fun h2 => ?_)
    refine lv_iload hx hb zf_X12_lay_31 (lv_at hl 0 rfl) ?_
    refine lv_bipush (v := 126) hx hb zf_X12_lay_33 (by decide) ?_
    exact lv_icmp_gt (tgt := 69) hx hb zf_X12_lay_35 (by decide) (fun h => rej (by unfold zaccb; rw [decide_eq_false h1, decide_eq_false (not_not_intro h), Bool.and_false]; rfl)) (fun h3 => acc (by unfold zaccb; rw [decide_eq_false h1, decide_eq_true h2, decide_eq_true h3]; rfl))
theorem zbits (x : BitVec 64) (s : Nat) (hs : s ≤ 56) : (x >>> s).toNat % 256 = (x.sshiftRight s).toNat % 256 := by
  have h : (x >>> s).setWidth 8 = (x.sshiftRight s).setWidth 8 := by
    apply BitVec.eq_of_getLsbD_eq
    intro i hi
    rw [BitVec.getLsbD_setWidth, BitVec.getLsbD_setWidth, BitVec.getLsbD_ushiftRight, BitVec.getLsbD_sshiftRight]
    simp [hi, show ¬ 64 ≤ i by omega, show s + i < 64 by omega]
  have h2 := congrArg BitVec.toNat h
  rw [BitVec.toNat_setWidth, BitVec.toNat_setWidth] at h2
  exact h2
theorem zlow (y : Int64) : y.toInt32.toBitVec.toNat % 256 = y.toBitVec.toNat % 256 := by
  rw [Int64.toBitVec_toInt32, BitVec.signExtend_eq_setWidth_of_le _ (by decide), BitVec.toNat_setWidth]
  exact Nat.mod_mod_of_dvd _ (by decide)
theorem zb_eq (v : Int64) (k : Nat) (hk : k < 8) : zgC v k = zgM v k := by
  unfold zgC zgM
  rw [pk_and _ (m := 255) 8 rfl, pk_and _ (m := 255) 8 rfl]
  congr 1
  show _ % 256 = _ % 256
  rw [zlow, zlow]
  have h1 : ((v.toUInt64 >>> ((nI (8 * k)).toInt64.toUInt64 &&& Int64.toUInt64 63)).toInt64).toBitVec = v.toBitVec >>> (8 * k) := by
    match k, hk with
    | 0, _ => rfl
    | 1, _ => rfl
    | 2, _ => rfl
    | 3, _ => rfl
    | 4, _ => rfl
    | 5, _ => rfl
    | 6, _ => rfl
    | 7, _ => rfl
    | n + 8, h => omega
  have h2 : (v >>> ((nI (8 * k)).toInt64 &&& 63)).toBitVec = v.toBitVec.sshiftRight (8 * k) := by
    match k, hk with
    | 0, _ => rfl
    | 1, _ => rfl
    | 2, _ => rfl
    | 3, _ => rfl
    | 4, _ => rfl
    | 5, _ => rfl
    | 6, _ => rfl
    | 7, _ => rfl
    | n + 8, h => omega
  rw [h1, h2]
  exact zbits _ _ (by omega)
theorem zcnt_congr {b b' : Nat → Int32} : ∀ k, (∀ j, j < k → b j = b' j) → zcnt b k = zcnt b' k := by
  intro k
  induction k with
  | zero => intro _; rfl
  | succ k ih =>
    intro h
    have e1 : zcnt b (k + 1) = (bif zaccb (b k) then 1 else 0) + zcnt b k := rfl
    have e2 : zcnt b' (k + 1) = (bif zaccb (b' k) then 1 else 0) + zcnt b' k := rfl
    rw [e1, e2, h k (Nat.lt_succ_self k), ih (fun j hj => h j (Nat.lt_succ_of_lt hj))]
theorem zcnt_eq (v : Int64) (k : Nat) (h : k ≤ 8) : zcnt (zgC v) k = zcnt (zgM v) k := zcnt_congr k (fun j hj => zb_eq v j (Nat.lt_of_lt_of_le hj h))
abbrev zrm0 (k : Nat) : Room := { frames := k, cells := 0, slots := 0, locals := 40 * k }
-- Tape.addEight
abbrev ataddC (D : va_G) (cA : Nat → ClassId) (A : Nat → Prop) (h0 h1 n : Nat) (u : List Value × (Nat → Int32)) (t : State) : Prop := u.1.length = 10 ∧ u.1[0]? = some (.ref h1) ∧ u.1[2]? = some (.int (nI n)) ∧ va_P D zcl [(h0, .inr (10, u.1)), (h1, .inl (cA 3, 1000, .inl u.2))] t.heap ∧ va_D A [(h0, .inr (10, u.1)), (h1, .inl (cA 3, 1000, .inl u.2))]
set_option maxHeartbeats 2000000 in
theorem zc_addC (l : Launch) (D : va_G) (cA : Nat → ClassId) (h0 h1 sz n : Nat) (fs : List Value) (f : Nat → Int32) (v : Int64) (hn : n + 8 ≤ 1000) (hlen : fs.length = 10) (ha : fs[0]? = some (.ref h1)) (hc : fs[2]? = some (.int (nI n))) :
    Met l yX10_addEight (Cond.code yX10_addEight cX10_addEight 5 none :: zAl) (zrm0 0) (va_Pc [.ref h0, .long v] (fun U => U.heap.size = sz ∧ va_P D zcl [(h0, .inr (10, fs)), (h1, .inl (cA 3, 1000, .inl f))] U.heap ∧ va_K D zcl (ztys cA) U ∧ va_D (fun _ => True) [(h0, .inr (10, fs)), (h1, .inl (cA 3, 1000, .inl f))])) (va_Qv (fun _ => True) (ataddC D cA (va_A [(h0, .inr (10, fs)), (h1, .inl (cA 3, 1000, .inl f))] sz) h0 h1 (n + zcnt (zgC v) 8)) (va_A [(h0, .inr (10, fs)), (h1, .inl (cA 3, 1000, .inl f))] sz)) 0 0 (va_A [(h0, .inr (10, fs)), (h1, .inl (cA 3, 1000, .inl f))] sz) := by
  refine Met.ofW (cc := cX10_addEight) (maxL := 5) (ret := none) (by decide) rfl ?_
  intro p e s m args below meth c s₁ B hml hv
  obtain ⟨rfl, hsz, hP, hK, hD0⟩ := hv
  have hx := B.exec
  have hb := B.bytes
  have hr := B.returns
  have hts0 := atoms_spec (ws := Cond.code yX10_addEight cX10_addEight 5 none :: zAl) B.pre
  have hts : ∀ w ∈ zAl, w.before _ s = true := fun w hw => hts0 w (List.mem_cons_of_mem _ hw)
  have hown : s.vm.findClass RX10 = some m.cls := findClass_of_methodNamed B.named
  have hlocks := B.notSynchronized
  subst hsz
  have hD := hD0.self (sz := s.heap.size)
  have hS : va_S (va_A [(h0, .inr (10, fs)), (h1, .inl (cA 3, 1000, .inl f))] s.heap.size) s.heap s.heap [] := va_S.rf
  have hl := lv_entry ([.ref h0, .long v]) (n := 5) (Nat.le_of_ble_eq_true rfl)
  rw [lg_entry_eq]
  generalize (lg_sl ([.ref h0, .long v]) ++ List.replicate (5 - (lg_sl ([.ref h0, .long v])).length) Slot.unset).toArray = ls at hl ⊢
  have hl : lv_has ls 5 [(0, .ref h0), (1, .long v)] := hl
  refine lv_bipush (v := 56) hx hb zf_X10_addEight_0 (by decide) ?_
  refine lv_istore_n (lv' := [(3, .int 56), (0, .ref h0), (1, .long v)]) hx hb zf_X10_addEight_2 rfl hl (by decide) rfl (fun ls hl => ?_)
  refine zaddC_loop hx hb hown hts hK v 8 n fs f s.heap [] ls hn hlen ha hc hP hD hS hl (fun fs' f' H' locs' ls' k1 k2 k3 k4 k5 k6 => ?_)
  exact W.vret hx hb hr (fun t ht hW => ⟨⟨(fs', f'), rfl, trivial, k1, k2, k3, by rw [ht]; exact k4, k5⟩, k6.F ht⟩) k6.2.2 zf_X10_addEight_76
-- Model.lay
abbrev atlayM (D : va_G) (cA : Nat → ClassId) (A : Nat → Prop) (h0 h1 n : Nat) (u : List Value × (Nat → Int32)) (t : State) : Prop := u.1.length = 56 ∧ u.1[1]? = some (.ref h1) ∧ u.1[2]? = some (.int (nI n)) ∧ va_P D zcl [(h0, .inr (12, u.1)), (h1, .inl (cA 0, 1000, .inl u.2))] t.heap ∧ va_D A [(h0, .inr (12, u.1)), (h1, .inl (cA 0, 1000, .inl u.2))]
set_option maxHeartbeats 2000000 in
theorem zc_layM (l : Launch) (D : va_G) (cA : Nat → ClassId) (h0 h1 sz n : Nat) (fs : List Value) (f : Nat → Int32) (v : Int64) (hn : n + 8 ≤ 1000) (hlen : fs.length = 56) (ha : fs[1]? = some (.ref h1)) (hc : fs[2]? = some (.int (nI n))) :
    Met l yX12_lay (Cond.code yX12_lay cX12_lay 5 none :: zAl) (zrm0 0) (va_Pc [.ref h0, .long v] (fun U => U.heap.size = sz ∧ va_P D zcl [(h0, .inr (12, fs)), (h1, .inl (cA 0, 1000, .inl f))] U.heap ∧ va_K D zcl (ztys cA) U ∧ va_D (fun _ => True) [(h0, .inr (12, fs)), (h1, .inl (cA 0, 1000, .inl f))])) (va_Qv (fun _ => True) (atlayM D cA (va_A [(h0, .inr (12, fs)), (h1, .inl (cA 0, 1000, .inl f))] sz) h0 h1 (n + zcnt (zgM v) 8)) (va_A [(h0, .inr (12, fs)), (h1, .inl (cA 0, 1000, .inl f))] sz)) 0 0 (va_A [(h0, .inr (12, fs)), (h1, .inl (cA 0, 1000, .inl f))] sz) := by
  refine Met.ofW (cc := cX12_lay) (maxL := 5) (ret := none) (by decide) rfl ?_
  intro p e s m args below meth c s₁ B hml hv
  obtain ⟨rfl, hsz, hP, hK, hD0⟩ := hv
  have hx := B.exec
  have hb := B.bytes
  have hr := B.returns
  have hts0 := atoms_spec (ws := Cond.code yX12_lay cX12_lay 5 none :: zAl) B.pre
  have hts : ∀ w ∈ zAl, w.before _ s = true := fun w hw => hts0 w (List.mem_cons_of_mem _ hw)
  have hown : s.vm.findClass RX12 = some m.cls := findClass_of_methodNamed B.named
  have hlocks := B.notSynchronized
  subst hsz
  have hD := hD0.self (sz := s.heap.size)
  have hS : va_S (va_A [(h0, .inr (12, fs)), (h1, .inl (cA 0, 1000, .inl f))] s.heap.size) s.heap s.heap [] := va_S.rf
  have hl := lv_entry ([.ref h0, .long v]) (n := 5) (Nat.le_of_ble_eq_true rfl)
  rw [lg_entry_eq]
  generalize (lg_sl ([.ref h0, .long v]) ++ List.replicate (5 - (lg_sl ([.ref h0, .long v])).length) Slot.unset).toArray = ls at hl ⊢
  have hl : lv_has ls 5 [(0, .ref h0), (1, .long v)] := hl
  refine lv_bipush (v := 56) hx hb zf_X12_lay_0 (by decide) ?_
  refine lv_istore_n (lv' := [(3, .int 56), (0, .ref h0), (1, .long v)]) hx hb zf_X12_lay_2 rfl hl (by decide) rfl (fun ls hl => ?_)
  refine zlayM_loop hx hb hown hts hK v 8 n fs f s.heap [] ls hn hlen ha hc hP hD hS hl (fun fs' f' H' locs' ls' k1 k2 k3 k4 k5 k6 => ?_)
  exact W.vret hx hb hr (fun t ht hW => ⟨⟨(fs', f'), rfl, trivial, k1, k2, k3, by rw [ht]; exact k4, k5⟩, k6.F ht⟩) k6.2.2 zf_X12_lay_75
-- BeggarHeaps.feed on a fresh tape
set_option maxHeartbeats 4000000 in
theorem zc_feedC (l : Launch) (D : va_G) (cA : Nat → ClassId) (hb0 h0 h1 sz : Nat) (bs fs : List Value) (f : Nat → Int32) (a b d : Int64) (hbl : bs.length = 19) (hb0e : bs[0]? = some (.ref h0)) (hlen : fs.length = 10) (ha : fs[0]? = some (.ref h1)) (hc : fs[2]? = some (.int (nI 0))) :
    Met l yX11_feed (Cond.code yX11_feed cX11_feed 7 (some .int) :: zAl) (zrm0 1) (va_Pc [.ref hb0, .long a, .long b, .long d] (fun U => U.heap.size = sz ∧ va_P D zcl [(hb0, .inr (11, bs)), (h0, .inr (10, fs)), (h1, .inl (cA 3, 1000, .inl f))] U.heap ∧ va_K D zcl (ztys cA) U ∧ va_D (fun _ => True) [(hb0, .inr (11, bs)), (h0, .inr (10, fs)), (h1, .inl (cA 3, 1000, .inl f))])) (va_Qi (fun (r : Int32) (_ : Unit) => r = nI (0 + zcnt (zgC a) 8 + zcnt (zgC b) 8 + zcnt (zgC d) 8)) (fun _ _ => True) (va_A [(hb0, .inr (11, bs)), (h0, .inr (10, fs)), (h1, .inl (cA 3, 1000, .inl f))] sz)) 0 0 (va_A [(hb0, .inr (11, bs)), (h0, .inr (10, fs)), (h1, .inl (cA 3, 1000, .inl f))] sz) := by
  refine Met.ofW (cc := cX11_feed) (maxL := 7) (ret := some .int) (by decide) rfl ?_
  intro p e s m args below meth c s₁ B hml hv
  obtain ⟨rfl, hsz, hP, hK, hD0⟩ := hv
  have hx := B.exec
  have hb := B.bytes
  have hr := B.returns
  have hts0 := atoms_spec (ws := Cond.code yX11_feed cX11_feed 7 (some .int) :: zAl) B.pre
  have hts : ∀ w ∈ zAl, w.before _ s = true := fun w hw => hts0 w (List.mem_cons_of_mem _ hw)
  have hown : s.vm.findClass RX11 = some m.cls := findClass_of_methodNamed B.named
  have hlocks := B.notSynchronized
  subst hsz
  have hD := hD0.self (sz := s.heap.size)
  generalize hAe : va_A [(hb0, .inr (11, bs)), (h0, .inr (10, fs)), (h1, .inl (cA 3, 1000, .inl f))] s.heap.size = A at hD ⊢
  have hA : ∀ q : Nat, s.heap.size ≤ q → A q := fun q h => by rw [← hAe]; exact Or.inr h
  have hS : va_S A s.heap s.heap [] := va_S.rf
  have hl := lv_entry ([.ref hb0, .long a, .long b, .long d]) (n := 7) (Nat.le_of_ble_eq_true rfl)
  rw [lg_entry_eq]
  generalize (lg_sl ([.ref hb0, .long a, .long b, .long d]) ++ List.replicate (7 - (lg_sl ([.ref hb0, .long a, .long b, .long d])).length) Slot.unset).toArray = ls at hl ⊢
  have hl : lv_has ls 7 [(0, .ref hb0), (1, .long a), (3, .long b), (5, .long d)] := hl
  have b1 := zcnt_le (zgC a) 8
  have b2 := zcnt_le (zgC b) 8
  have b3 := zcnt_le (zgC d) 8
  refine lv_aload_n hx hb zf_X11_feed_0 rfl (lv_at hl 0 rfl) ?_
  refine va_get (ref := "BeggarHeaps") hx hb hts (zcw_ok 11 (RX11, TX11, 19) rfl) hown hK hP 0 rfl rfl 0 (by decide) (hts _ zfw5) (fun _ h9 => h9) hb0e zf_X11_feed_1 ?_
  refine lv_lload_n hx hb zf_X11_feed_4 rfl (lv_at hl 1 rfl) ?_
  have hPc := hP.sub (ws' := [(h0, .inr (10, fs)), (h1, .inl (cA 3, 1000, .inl f))]) [1, 2] rfl
  have hDc := hD.sub (ws' := [(h0, .inr (10, fs)), (h1, .inl (cA 3, 1000, .inl f))]) [1, 2] (by decide) rfl
  have hFc := va_free (wc := [(h0, .inr (10, fs)), (h1, .inl (cA 3, 1000, .inl f))]) hD hS hA [1, 2] rfl
  refine va_callv (va_runV (As := [.long a]) (rest := []) ⟨hx, hb, hml, hown, hts⟩ (zc_addC l D cA h0 h1 _ (0) fs f a (by omega) hlen ha hc) ⟨callB_of 1 hts (zgoodIn zAl_good zfc_a) rfl rfl rfl (hts _ zfi_a) (hts _ zfk_a) (by decide +kernel) ⟨Nat.le_of_ble_eq_true rfl, Nat.le_of_ble_eq_true rfl⟩, hts _ zfn_a, hts _ zfs_a⟩ ⟨fun a U g mk q => by obtain ⟨q0, q1, qP, qK, qD⟩ := q; exact ⟨q0, q1, qP, va_K.moved (u := U) (U := U.calling g mk a) (Vm.Alike.refl U.vm) qK, qD⟩, va_recv hK hPc (ci := 10) (q0 := 0) rfl rfl, fun U hU hW => ⟨rfl, by rw [hU], by rw [hU]; exact hPc, va_K.moved hW.alike hK, hDc.weaken (fun _ _ _ _ => trivial)⟩⟩ rfl rfl hl.1 rfl (lv_room (Nat.le_of_ble_eq_true rfl)) zf_X11_feed_5 ⟨Nat.zero_le _, Nat.zero_le _⟩) hS (fun q _ h => hFc q h) hFc (fun u t H1 locs ht hvm hw hB hz1 hk1 hS => ?_)
  obtain ⟨fs1, f1⟩ := u
  obtain ⟨hlen, ha, hc, hP1, hD1⟩ := hB
  rw [ht] at hP1
  obtain ⟨hP, hD⟩ := va_join (wr := [(hb0, .inr (11, bs))]) hP hD [1, 2] [0] rfl rfl (by decide) (by decide) hk1 hFc hP1 hD1
  have hP : va_P D zcl [(hb0, .inr (11, bs)), (h0, .inr (10, fs1)), (h1, .inl (cA 3, 1000, .inl f1))] H1 := hP
  have hD : va_D A [(hb0, .inr (11, bs)), (h0, .inr (10, fs1)), (h1, .inl (cA 3, 1000, .inl f1))] := hD
  refine lv_aload_n hx hb zf_X11_feed_8 rfl (lv_at hl 0 rfl) ?_
  refine va_get (ref := "BeggarHeaps") hx hb hts (zcw_ok 11 (RX11, TX11, 19) rfl) hown hK hP 0 rfl rfl 0 (by decide) (hts _ zfw5) (fun _ h9 => h9) hb0e zf_X11_feed_9 ?_
  refine lv_lload_n hx hb zf_X11_feed_12 rfl (lv_at hl 2 rfl) ?_
  have hPc := hP.sub (ws' := [(h0, .inr (10, fs1)), (h1, .inl (cA 3, 1000, .inl f1))]) [1, 2] rfl
  have hDc := hD.sub (ws' := [(h0, .inr (10, fs1)), (h1, .inl (cA 3, 1000, .inl f1))]) [1, 2] (by decide) rfl
  have hFc := va_free (wc := [(h0, .inr (10, fs1)), (h1, .inl (cA 3, 1000, .inl f1))]) hD hS hA [1, 2] rfl
  refine va_callv (va_runV (As := [.long b]) (rest := []) ⟨hx, hb, hml, hown, hts⟩ (zc_addC l D cA h0 h1 _ (0 + zcnt (zgC a) 8) fs1 f1 b (by omega) hlen ha hc) ⟨callB_of 1 hts (zgoodIn zAl_good zfc_a) rfl rfl rfl (hts _ zfi_a) (hts _ zfk_a) (by decide +kernel) ⟨Nat.le_of_ble_eq_true rfl, Nat.le_of_ble_eq_true rfl⟩, hts _ zfn_a, hts _ zfs_a⟩ ⟨fun a U g mk q => by obtain ⟨q0, q1, qP, qK, qD⟩ := q; exact ⟨q0, q1, qP, va_K.moved (u := U) (U := U.calling g mk a) (Vm.Alike.refl U.vm) qK, qD⟩, va_recv hK hPc (ci := 10) (q0 := 0) rfl rfl, fun U hU hW => ⟨rfl, by rw [hU], by rw [hU]; exact hPc, va_K.moved hW.alike hK, hDc.weaken (fun _ _ _ _ => trivial)⟩⟩ rfl rfl hl.1 rfl (lv_room (Nat.le_of_ble_eq_true rfl)) zf_X11_feed_13 ⟨Nat.zero_le _, Nat.zero_le _⟩) hS (fun q _ h => hFc q h) hFc (fun u t H1 locs ht hvm hw hB hz1 hk1 hS => ?_)
  obtain ⟨fs2, f2⟩ := u
  obtain ⟨hlen, ha, hc, hP1, hD1⟩ := hB
  rw [ht] at hP1
  obtain ⟨hP, hD⟩ := va_join (wr := [(hb0, .inr (11, bs))]) hP hD [1, 2] [0] rfl rfl (by decide) (by decide) hk1 hFc hP1 hD1
  have hP : va_P D zcl [(hb0, .inr (11, bs)), (h0, .inr (10, fs2)), (h1, .inl (cA 3, 1000, .inl f2))] H1 := hP
  have hD : va_D A [(hb0, .inr (11, bs)), (h0, .inr (10, fs2)), (h1, .inl (cA 3, 1000, .inl f2))] := hD
  refine lv_aload_n hx hb zf_X11_feed_16 rfl (lv_at hl 0 rfl) ?_
  refine va_get (ref := "BeggarHeaps") hx hb hts (zcw_ok 11 (RX11, TX11, 19) rfl) hown hK hP 0 rfl rfl 0 (by decide) (hts _ zfw5) (fun _ h9 => h9) hb0e zf_X11_feed_17 ?_
  refine lv_lload hx hb zf_X11_feed_20 (lv_at hl 3 rfl) ?_
  have hPc := hP.sub (ws' := [(h0, .inr (10, fs2)), (h1, .inl (cA 3, 1000, .inl f2))]) [1, 2] rfl
  have hDc := hD.sub (ws' := [(h0, .inr (10, fs2)), (h1, .inl (cA 3, 1000, .inl f2))]) [1, 2] (by decide) rfl
  have hFc := va_free (wc := [(h0, .inr (10, fs2)), (h1, .inl (cA 3, 1000, .inl f2))]) hD hS hA [1, 2] rfl
  refine va_callv (va_runV (As := [.long d]) (rest := []) ⟨hx, hb, hml, hown, hts⟩ (zc_addC l D cA h0 h1 _ (0 + zcnt (zgC a) 8 + zcnt (zgC b) 8) fs2 f2 d (by omega) hlen ha hc) ⟨callB_of 1 hts (zgoodIn zAl_good zfc_a) rfl rfl rfl (hts _ zfi_a) (hts _ zfk_a) (by decide +kernel) ⟨Nat.le_of_ble_eq_true rfl, Nat.le_of_ble_eq_true rfl⟩, hts _ zfn_a, hts _ zfs_a⟩ ⟨fun a U g mk q => by obtain ⟨q0, q1, qP, qK, qD⟩ := q; exact ⟨q0, q1, qP, va_K.moved (u := U) (U := U.calling g mk a) (Vm.Alike.refl U.vm) qK, qD⟩, va_recv hK hPc (ci := 10) (q0 := 0) rfl rfl, fun U hU hW => ⟨rfl, by rw [hU], by rw [hU]; exact hPc, va_K.moved hW.alike hK, hDc.weaken (fun _ _ _ _ => trivial)⟩⟩ rfl rfl hl.1 rfl (lv_room (Nat.le_of_ble_eq_true rfl)) zf_X11_feed_22 ⟨Nat.zero_le _, Nat.zero_le _⟩) hS (fun q _ h => hFc q h) hFc (fun u t H1 locs ht hvm hw hB hz1 hk1 hS => ?_)
  obtain ⟨fs3, f3⟩ := u
  obtain ⟨hlen, ha, hc, hP1, hD1⟩ := hB
  rw [ht] at hP1
  obtain ⟨hP, hD⟩ := va_join (wr := [(hb0, .inr (11, bs))]) hP hD [1, 2] [0] rfl rfl (by decide) (by decide) hk1 hFc hP1 hD1
  have hP : va_P D zcl [(hb0, .inr (11, bs)), (h0, .inr (10, fs3)), (h1, .inl (cA 3, 1000, .inl f3))] H1 := hP
  have hD : va_D A [(hb0, .inr (11, bs)), (h0, .inr (10, fs3)), (h1, .inl (cA 3, 1000, .inl f3))] := hD
  refine lv_aload_n hx hb zf_X11_feed_25 rfl (lv_at hl 0 rfl) ?_
  refine va_get (ref := "BeggarHeaps") hx hb hts (zcw_ok 11 (RX11, TX11, 19) rfl) hown hK hP 0 rfl rfl 0 (by decide) (hts _ zfw5) (fun _ h9 => h9) hb0e zf_X11_feed_26 ?_
  refine va_get (ref := "BeggarHeaps$Tape") hx hb hts (zcw_ok 10 (RX10, TX10, 10) rfl) hown hK hP 1 rfl rfl 2 (by decide) (hts _ zfw6) (fun _ h9 => h9) hc zf_X11_feed_29 ?_
  exact W.iret hx hb hr (fun t ht hW => ⟨⟨_, (), rfl, rfl, trivial⟩, hS.F ht⟩) hS.2.2 zf_X11_feed_32
-- Model.feed on a fresh tape
set_option maxHeartbeats 4000000 in
theorem zc_feedM (l : Launch) (D : va_G) (cA : Nat → ClassId) (h0 h1 sz : Nat) (fs : List Value) (f : Nat → Int32) (a b d : Int64) (hlen : fs.length = 56) (ha : fs[1]? = some (.ref h1)) (hc : fs[2]? = some (.int (nI 0))) :
    Met l yX12_feed (Cond.code yX12_feed cX12_feed 7 (some .int) :: zAl) (zrm0 1) (va_Pc [.ref h0, .long a, .long b, .long d] (fun U => U.heap.size = sz ∧ va_P D zcl [(h0, .inr (12, fs)), (h1, .inl (cA 0, 1000, .inl f))] U.heap ∧ va_K D zcl (ztys cA) U ∧ va_D (fun _ => True) [(h0, .inr (12, fs)), (h1, .inl (cA 0, 1000, .inl f))])) (va_Qi (fun (r : Int32) (_ : Unit) => r = nI (0 + zcnt (zgM a) 8 + zcnt (zgM b) 8 + zcnt (zgM d) 8)) (fun _ _ => True) (va_A [(h0, .inr (12, fs)), (h1, .inl (cA 0, 1000, .inl f))] sz)) 0 0 (va_A [(h0, .inr (12, fs)), (h1, .inl (cA 0, 1000, .inl f))] sz) := by
  refine Met.ofW (cc := cX12_feed) (maxL := 7) (ret := some .int) (by decide) rfl ?_
  intro p e s m args below meth c s₁ B hml hv
  obtain ⟨rfl, hsz, hP, hK, hD0⟩ := hv
  have hx := B.exec
  have hb := B.bytes
  have hr := B.returns
  have hts0 := atoms_spec (ws := Cond.code yX12_feed cX12_feed 7 (some .int) :: zAl) B.pre
  have hts : ∀ w ∈ zAl, w.before _ s = true := fun w hw => hts0 w (List.mem_cons_of_mem _ hw)
  have hown : s.vm.findClass RX12 = some m.cls := findClass_of_methodNamed B.named
  have hlocks := B.notSynchronized
  subst hsz
  have hD := hD0.self (sz := s.heap.size)
  generalize hAe : va_A [(h0, .inr (12, fs)), (h1, .inl (cA 0, 1000, .inl f))] s.heap.size = A at hD ⊢
  have hA : ∀ q : Nat, s.heap.size ≤ q → A q := fun q h => by rw [← hAe]; exact Or.inr h
  have hS : va_S A s.heap s.heap [] := va_S.rf
  have hl := lv_entry ([.ref h0, .long a, .long b, .long d]) (n := 7) (Nat.le_of_ble_eq_true rfl)
  rw [lg_entry_eq]
  generalize (lg_sl ([.ref h0, .long a, .long b, .long d]) ++ List.replicate (7 - (lg_sl ([.ref h0, .long a, .long b, .long d])).length) Slot.unset).toArray = ls at hl ⊢
  have hl : lv_has ls 7 [(0, .ref h0), (1, .long a), (3, .long b), (5, .long d)] := hl
  have b1 := zcnt_le (zgM a) 8
  have b2 := zcnt_le (zgM b) 8
  have b3 := zcnt_le (zgM d) 8
  refine lv_aload_n hx hb zf_X12_feed_0 rfl (lv_at hl 0 rfl) ?_
  refine lv_iconst (v := 0) hx hb zf_X12_feed_1 (by decide) ?_
  refine va_put (ref := "BeggarHeapsModel") (ty := .int) (v := .int 0) hx hb hts (zcw_ok 12 (RX12, TX12, 56) rfl) (ztf 12) (zcl_ty 12 _ rfl).1 (zcl_ty 12 _ rfl).2 hown hK hP hD hS 0 rfl rfl 0 (by decide) (hts _ zfw7) (fun _ h9 => h9) rfl rfl rfl rfl (by rw [hlen]; decide) zf_X12_feed_2 (fun H locs hP hD hS => ?_)
  obtain ⟨fs0, e0⟩ : ∃ z, z = fs.set 0 (.int 0) := ⟨_, rfl⟩
  have hP : va_P D zcl [(h0, .inr (12, fs0)), (h1, .inl (cA 0, 1000, .inl f))] H := by rw [e0]; exact hP
  have hD : va_D A [(h0, .inr (12, fs0)), (h1, .inl (cA 0, 1000, .inl f))] := by rw [e0]; exact hD
  have ha : fs0[1]? = some (.ref h1) := by rw [e0, List.getElem?_set_ne (by decide)]; exact ha
  have hc : fs0[2]? = some (.int (nI 0)) := by rw [e0, List.getElem?_set_ne (by decide)]; exact hc
  have hlen : fs0.length = 56 := by rw [e0, List.length_set]; exact hlen
  refine lv_aload_n hx hb zf_X12_feed_5 rfl (lv_at hl 0 rfl) ?_
  refine lv_lload_n hx hb zf_X12_feed_6 rfl (lv_at hl 1 rfl) ?_
  have hPc := hP.sub (ws' := [(h0, .inr (12, fs0)), (h1, .inl (cA 0, 1000, .inl f))]) [0, 1] rfl
  have hDc := hD.sub (ws' := [(h0, .inr (12, fs0)), (h1, .inl (cA 0, 1000, .inl f))]) [0, 1] (by decide) rfl
  have hFc := va_free (wc := [(h0, .inr (12, fs0)), (h1, .inl (cA 0, 1000, .inl f))]) hD hS hA [0, 1] rfl
  refine va_callv (va_runV (As := [.long a]) (rest := []) ⟨hx, hb, hml, hown, hts⟩ (zc_layM l D cA h0 h1 _ (0) fs0 f a (by omega) hlen ha hc) ⟨callB_of 1 hts (zgoodIn zAl_good zfc_l) rfl rfl rfl (hts _ zfi_l) (hts _ zfk_l) (by decide +kernel) ⟨Nat.le_of_ble_eq_true rfl, Nat.le_of_ble_eq_true rfl⟩, hts _ zfn_l, hts _ zfs_l⟩ ⟨fun a U g mk q => by obtain ⟨q0, q1, qP, qK, qD⟩ := q; exact ⟨q0, q1, qP, va_K.moved (u := U) (U := U.calling g mk a) (Vm.Alike.refl U.vm) qK, qD⟩, va_recv hK hPc (ci := 12) (q0 := 0) rfl rfl, fun U hU hW => ⟨rfl, by rw [hU], by rw [hU]; exact hPc, va_K.moved hW.alike hK, hDc.weaken (fun _ _ _ _ => trivial)⟩⟩ rfl rfl hl.1 rfl (lv_room (Nat.le_of_ble_eq_true rfl)) zf_X12_feed_7 ⟨Nat.zero_le _, Nat.zero_le _⟩) hS (fun q _ h => hFc q h) hFc (fun u t H1 locs ht hvm hw hB hz1 hk1 hS => ?_)
  obtain ⟨fs1, f1⟩ := u
  obtain ⟨hlen, ha, hc, hP1, hD1⟩ := hB
  rw [ht] at hP1
  obtain ⟨hP, hD⟩ := va_join (wr := []) hP hD [0, 1] [] rfl rfl (by decide) (by decide) hk1 hFc hP1 hD1
  have hP : va_P D zcl [(h0, .inr (12, fs1)), (h1, .inl (cA 0, 1000, .inl f1))] H1 := hP
  have hD : va_D A [(h0, .inr (12, fs1)), (h1, .inl (cA 0, 1000, .inl f1))] := hD
  refine lv_aload_n hx hb zf_X12_feed_10 rfl (lv_at hl 0 rfl) ?_
  refine lv_lload_n hx hb zf_X12_feed_11 rfl (lv_at hl 2 rfl) ?_
  have hPc := hP.sub (ws' := [(h0, .inr (12, fs1)), (h1, .inl (cA 0, 1000, .inl f1))]) [0, 1] rfl
  have hDc := hD.sub (ws' := [(h0, .inr (12, fs1)), (h1, .inl (cA 0, 1000, .inl f1))]) [0, 1] (by decide) rfl
  have hFc := va_free (wc := [(h0, .inr (12, fs1)), (h1, .inl (cA 0, 1000, .inl f1))]) hD hS hA [0, 1] rfl
  refine va_callv (va_runV (As := [.long b]) (rest := []) ⟨hx, hb, hml, hown, hts⟩ (zc_layM l D cA h0 h1 _ (0 + zcnt (zgM a) 8) fs1 f1 b (by omega) hlen ha hc) ⟨callB_of 1 hts (zgoodIn zAl_good zfc_l) rfl rfl rfl (hts _ zfi_l) (hts _ zfk_l) (by decide +kernel) ⟨Nat.le_of_ble_eq_true rfl, Nat.le_of_ble_eq_true rfl⟩, hts _ zfn_l, hts _ zfs_l⟩ ⟨fun a U g mk q => by obtain ⟨q0, q1, qP, qK, qD⟩ := q; exact ⟨q0, q1, qP, va_K.moved (u := U) (U := U.calling g mk a) (Vm.Alike.refl U.vm) qK, qD⟩, va_recv hK hPc (ci := 12) (q0 := 0) rfl rfl, fun U hU hW => ⟨rfl, by rw [hU], by rw [hU]; exact hPc, va_K.moved hW.alike hK, hDc.weaken (fun _ _ _ _ => trivial)⟩⟩ rfl rfl hl.1 rfl (lv_room (Nat.le_of_ble_eq_true rfl)) zf_X12_feed_12 ⟨Nat.zero_le _, Nat.zero_le _⟩) hS (fun q _ h => hFc q h) hFc (fun u t H1 locs ht hvm hw hB hz1 hk1 hS => ?_)
  obtain ⟨fs2, f2⟩ := u
  obtain ⟨hlen, ha, hc, hP1, hD1⟩ := hB
  rw [ht] at hP1
  obtain ⟨hP, hD⟩ := va_join (wr := []) hP hD [0, 1] [] rfl rfl (by decide) (by decide) hk1 hFc hP1 hD1
  have hP : va_P D zcl [(h0, .inr (12, fs2)), (h1, .inl (cA 0, 1000, .inl f2))] H1 := hP
  have hD : va_D A [(h0, .inr (12, fs2)), (h1, .inl (cA 0, 1000, .inl f2))] := hD
  refine lv_aload_n hx hb zf_X12_feed_15 rfl (lv_at hl 0 rfl) ?_
  refine lv_lload hx hb zf_X12_feed_16 (lv_at hl 3 rfl) ?_
  have hPc := hP.sub (ws' := [(h0, .inr (12, fs2)), (h1, .inl (cA 0, 1000, .inl f2))]) [0, 1] rfl
  have hDc := hD.sub (ws' := [(h0, .inr (12, fs2)), (h1, .inl (cA 0, 1000, .inl f2))]) [0, 1] (by decide) rfl
  have hFc := va_free (wc := [(h0, .inr (12, fs2)), (h1, .inl (cA 0, 1000, .inl f2))]) hD hS hA [0, 1] rfl
  refine va_callv (va_runV (As := [.long d]) (rest := []) ⟨hx, hb, hml, hown, hts⟩ (zc_layM l D cA h0 h1 _ (0 + zcnt (zgM a) 8 + zcnt (zgM b) 8) fs2 f2 d (by omega) hlen ha hc) ⟨callB_of 1 hts (zgoodIn zAl_good zfc_l) rfl rfl rfl (hts _ zfi_l) (hts _ zfk_l) (by decide +kernel) ⟨Nat.le_of_ble_eq_true rfl, Nat.le_of_ble_eq_true rfl⟩, hts _ zfn_l, hts _ zfs_l⟩ ⟨fun a U g mk q => by obtain ⟨q0, q1, qP, qK, qD⟩ := q; exact ⟨q0, q1, qP, va_K.moved (u := U) (U := U.calling g mk a) (Vm.Alike.refl U.vm) qK, qD⟩, va_recv hK hPc (ci := 12) (q0 := 0) rfl rfl, fun U hU hW => ⟨rfl, by rw [hU], by rw [hU]; exact hPc, va_K.moved hW.alike hK, hDc.weaken (fun _ _ _ _ => trivial)⟩⟩ rfl rfl hl.1 rfl (lv_room (Nat.le_of_ble_eq_true rfl)) zf_X12_feed_18 ⟨Nat.zero_le _, Nat.zero_le _⟩) hS (fun q _ h => hFc q h) hFc (fun u t H1 locs ht hvm hw hB hz1 hk1 hS => ?_)
  obtain ⟨fs3, f3⟩ := u
  obtain ⟨hlen, ha, hc, hP1, hD1⟩ := hB
  rw [ht] at hP1
  obtain ⟨hP, hD⟩ := va_join (wr := []) hP hD [0, 1] [] rfl rfl (by decide) (by decide) hk1 hFc hP1 hD1
  have hP : va_P D zcl [(h0, .inr (12, fs3)), (h1, .inl (cA 0, 1000, .inl f3))] H1 := hP
  have hD : va_D A [(h0, .inr (12, fs3)), (h1, .inl (cA 0, 1000, .inl f3))] := hD
  refine lv_aload_n hx hb zf_X12_feed_21 rfl (lv_at hl 0 rfl) ?_
  refine va_get (ref := "BeggarHeapsModel") hx hb hts (zcw_ok 12 (RX12, TX12, 56) rfl) hown hK hP 0 rfl rfl 2 (by decide) (hts _ zfw3) (fun _ h9 => h9) hc zf_X12_feed_22 ?_
  exact W.iret hx hb hr (fun t ht hW => ⟨⟨_, (), rfl, rfl, trivial⟩, hS.F ht⟩) hS.2.2 zf_X12_feed_25
end ZFEED
