/-! .. and that the machine does what zp says -/
section ZQ
variable {p : Program} {l : Launch} {e : Env} {R : Room} {s : State} {m : MethodId} {args : Array Value} {below : List Frame} {meth : Method} {c : Code} {H : Heap} {locs : List Loc} {cells slots : Nat} {Q : State → Prop}
def zEnv2 (rh : Nat → Int32) : Prop := (∀ j : Nat, j < 8 → rh (j + 8) = 100 - rh j) ∧ rh 7 = rh 0 &&& 63
def ZG (p : Program) (l : Launch) (e : Env) (R : Room) (s : State) (m : MethodId) (args : Array Value) (below : List Frame) (meth : Method) (c : Code) (H : Heap) (locs : List Loc) (cells slots : Nat) (Q : State → Prop) (nL : Nat) (rh : Nat → Int32) (ad : Nat → Nat) (pc : Nat) (st : List Value) (ls : Array Slot) (k : ZK) (o : Option Value × List ZC) : Prop :=
  ∃ (pc' : Nat) (loc' : ZL) (st' : List Value), k pc' loc' st' = some o ∧ ((∀ ls' : Array Slot, lv_has ls' nL (zL rh ad loc') → W p l e R s m args below meth c H locs cells slots Q (F0 m pc' ls' (st'.map (zc rh ad)))) → W p l e R s m args below meth c H locs cells slots Q (F0 m pc ls (st.map (zc rh ad))))
variable {cc : ByteArray} {bd : Nat → Int × Int} {rh : Nat → Int32} {ad : Nat → Nat} {nL pc L : Nat} {ls : Array Slot} {loc : ZL} {st : List Value} {k : ZK} {o : Option Value × List ZC}
set_option maxHeartbeats 4000000 in
theorem zif1 (hx : p.tables.exec = Jvm.exec) (hb : c.code = cc) (hE : zEnv bd rh) {q : ClassFile.Cond} {off : Int} {v : Value} {r : List Value} (hdg : decode cc pc = .ok (.ifCond q off, 3)) (hl : lv_has ls nL (zL rh ad loc))
    (h : zp bd nL (.ifCond q off) pc loc (v :: r) k = some o) : ZG p l e R s m args below meth c H locs cells slots Q nL rh ad pc (v :: r) ls k o := by
  cases q <;> (simp only [zp] at h; obtain ⟨x, y, q, h1, h2, h3, h4⟩ := zif_ok hE ad h)
  · cases h2; rcases h4 with ⟨g1, g2, g3⟩ | ⟨g1, g2, g3⟩ <;> refine ⟨_, _, _, g1, fun kk => ?_⟩ <;> rw [List.map_cons, h1] <;> refine lv_if_eq hx hb hdg h3 (fun z => ?_) (fun z => ?_) <;> first | exact kk ls hl | exact absurd (g2 rfl) z | exact absurd z (g2 rfl)
  · cases h2; rcases h4 with ⟨g1, g2, g3⟩ | ⟨g1, g2, g3⟩ <;> refine ⟨_, _, _, g1, fun kk => ?_⟩ <;> rw [List.map_cons, h1] <;> refine lv_if_ne hx hb hdg h3 (fun z => ?_) (fun z => ?_) <;> first | exact kk ls hl | exact absurd (g3 rfl) z | exact absurd z (g3 rfl)
  · cases h2; rcases h4 with ⟨g1, g2, g3⟩ | ⟨g1, g2, g3⟩ <;> refine ⟨_, _, _, g1, fun kk => ?_⟩ <;> rw [List.map_cons, h1] <;> refine lv_if_lt hx hb hdg h3 (fun z => ?_) (fun z => ?_) <;> first | exact kk ls hl | exact absurd (g2 rfl) z | exact absurd z (g2 rfl)
  · cases h1; rcases h4 with ⟨g1, g2, g3⟩ | ⟨g1, g2, g3⟩ <;> refine ⟨_, _, _, g1, fun kk => ?_⟩ <;> rw [List.map_cons, h2] <;> refine lv_if_ge hx hb hdg h3 (fun z => ?_) (fun z => ?_) <;> first | exact kk ls hl | exact absurd (g2 rfl) z | exact absurd z (g2 rfl)
  · cases h1; rcases h4 with ⟨g1, g2, g3⟩ | ⟨g1, g2, g3⟩ <;> refine ⟨_, _, _, g1, fun kk => ?_⟩ <;> rw [List.map_cons, h2] <;> refine lv_if_gt hx hb hdg h3 (fun z => ?_) (fun z => ?_) <;> first | exact kk ls hl | exact absurd (g2 rfl) z | exact absurd z (g2 rfl)
  · cases h2; rcases h4 with ⟨g1, g2, g3⟩ | ⟨g1, g2, g3⟩ <;> refine ⟨_, _, _, g1, fun kk => ?_⟩ <;> rw [List.map_cons, h1] <;> refine lv_if_le hx hb hdg h3 (fun z => ?_) (fun z => ?_) <;> first | exact kk ls hl | exact absurd (g2 rfl) z | exact absurd z (g2 rfl)
set_option maxHeartbeats 4000000 in
theorem zif2 (hx : p.tables.exec = Jvm.exec) (hb : c.code = cc) (hE : zEnv bd rh) {q : ClassFile.Cond} {off : Int} {v w : Value} {r : List Value} (hdg : decode cc pc = .ok (.if_icmp q off, 3)) (hl : lv_has ls nL (zL rh ad loc))
    (h : zp bd nL (.if_icmp q off) pc loc (w :: v :: r) k = some o) : ZG p l e R s m args below meth c H locs cells slots Q nL rh ad pc (w :: v :: r) ls k o := by
  cases q <;> (simp only [zp] at h; obtain ⟨x, y, q, h1, h2, h3, h4⟩ := zif_ok hE ad h)
  · rcases h4 with ⟨g1, g2, g3⟩ | ⟨g1, g2, g3⟩ <;> refine ⟨_, _, _, g1, fun kk => ?_⟩ <;> rw [List.map_cons, List.map_cons, h1, h2] <;> refine lv_icmp_eq hx hb hdg h3 (fun z => ?_) (fun z => ?_) <;> first | exact kk ls hl | exact absurd (g2 rfl) z | exact absurd z (g2 rfl)
  · rcases h4 with ⟨g1, g2, g3⟩ | ⟨g1, g2, g3⟩ <;> refine ⟨_, _, _, g1, fun kk => ?_⟩ <;> rw [List.map_cons, List.map_cons, h1, h2] <;> refine lv_icmp_ne hx hb hdg h3 (fun z => ?_) (fun z => ?_) <;> first | exact kk ls hl | exact absurd (g3 rfl) z | exact absurd z (g3 rfl)
  · rcases h4 with ⟨g1, g2, g3⟩ | ⟨g1, g2, g3⟩ <;> refine ⟨_, _, _, g1, fun kk => ?_⟩ <;> rw [List.map_cons, List.map_cons, h1, h2] <;> refine lv_icmp_lt hx hb hdg h3 (fun z => ?_) (fun z => ?_) <;> first | exact kk ls hl | exact absurd (g2 rfl) z | exact absurd z (g2 rfl)
  · rcases h4 with ⟨g1, g2, g3⟩ | ⟨g1, g2, g3⟩ <;> refine ⟨_, _, _, g1, fun kk => ?_⟩ <;> rw [List.map_cons, List.map_cons, h1, h2] <;> refine lv_icmp_ge hx hb hdg h3 (fun z => ?_) (fun z => ?_) <;> first | exact kk ls hl | exact absurd (g2 rfl) z | exact absurd z (g2 rfl)
  · rcases h4 with ⟨g1, g2, g3⟩ | ⟨g1, g2, g3⟩ <;> refine ⟨_, _, _, g1, fun kk => ?_⟩ <;> rw [List.map_cons, List.map_cons, h1, h2] <;> refine lv_icmp_gt hx hb hdg h3 (fun z => ?_) (fun z => ?_) <;> first | exact kk ls hl | exact absurd (g2 rfl) z | exact absurd z (g2 rfl)
  · rcases h4 with ⟨g1, g2, g3⟩ | ⟨g1, g2, g3⟩ <;> refine ⟨_, _, _, g1, fun kk => ?_⟩ <;> rw [List.map_cons, List.map_cons, h1, h2] <;> refine lv_icmp_le hx hb hdg h3 (fun z => ?_) (fun z => ?_) <;> first | exact kk ls hl | exact absurd (g2 rfl) z | exact absurd z (g2 rfl)
theorem znone {P : Prop} (h : (none : ZO) = some o) : P := by cases h
theorem zbif {b : Bool} {x : ZO} (h : (bif b then x else none) = some o) : b = true ∧ x = some o := by
  cases b
  · cases h
  · exact ⟨rfl, h⟩
set_option maxHeartbeats 8000000 in
/-- what zp says is what the machine does -/
theorem z_p (hx : p.tables.exec = Jvm.exec) (hb : c.code = cc) (hE : zEnv bd rh) (hE2 : zEnv2 rh) {i : Instr} (hdg : decode cc pc = .ok (i, zlen i L)) (hl : lv_has ls nL (zL rh ad loc))
    (h : zp bd nL i pc loc st k = some o) : ZG p l e R s m args below meth c H locs cells slots Q nL rh ad pc st ls k o := by
  cases i with
  | iconst n => rw [show zp bd nL (.iconst n) pc loc st k = _ from zpush_eq _ _ _ _ _] at h; exact ⟨_, _, _, h, fun kk => lv_iconst hx hb hdg rfl (kk ls hl)⟩
  | bipush n => rw [show zp bd nL (.bipush n) pc loc st k = _ from zpush_eq _ _ _ _ _] at h; exact ⟨_, _, _, h, fun kk => lv_bipush hx hb hdg rfl (kk ls hl)⟩
  | sipush n => rw [show zp bd nL (.sipush n) pc loc st k = _ from zpush_eq _ _ _ _ _] at h; exact ⟨_, _, _, h, fun kk => lv_sipush hx hb hdg rfl (kk ls hl)⟩
  | lconst n => rw [show zp bd nL (.lconst n) pc loc st k = _ from zpush_eq _ _ _ _ _] at h; exact ⟨_, _, _, h, fun kk => lv_lconst hx hb hdg rfl (kk ls hl)⟩
  | iload_n j =>
    obtain ⟨v, h1, h2, h3⟩ := zload_ok h
    obtain ⟨x, ex⟩ := zisI_ok (rh := rh) (ad := ad) h2
    have hl1 := z_at hl h1
    refine ⟨_, _, _, h3, fun kk => ?_⟩
    have h4 := kk ls hl
    rw [List.map_cons, ex] at h4
    rw [ex] at hl1
    exact lv_iload_n hx hb hdg rfl hl1 h4
  | iload j =>
    obtain ⟨v, h1, h2, h3⟩ := zload_ok h
    obtain ⟨x, ex⟩ := zisI_ok (rh := rh) (ad := ad) h2
    have hl1 := z_at hl h1
    refine ⟨_, _, _, h3, fun kk => ?_⟩
    have h4 := kk ls hl
    rw [List.map_cons, ex] at h4
    rw [ex] at hl1
    exact lv_iload hx hb hdg hl1 h4
  | lload_n j =>
    obtain ⟨v, h1, h2, h3⟩ := zload_ok h
    obtain ⟨x, ex⟩ := zisJ_ok (rh := rh) (ad := ad) h2
    have hl1 := z_at hl h1
    refine ⟨_, _, _, h3, fun kk => ?_⟩
    have h4 := kk ls hl
    rw [List.map_cons, ex] at h4
    rw [ex] at hl1
    exact lv_lload_n hx hb hdg rfl hl1 h4
  | lload j =>
    obtain ⟨v, h1, h2, h3⟩ := zload_ok h
    obtain ⟨x, ex⟩ := zisJ_ok (rh := rh) (ad := ad) h2
    have hl1 := z_at hl h1
    refine ⟨_, _, _, h3, fun kk => ?_⟩
    have h4 := kk ls hl
    rw [List.map_cons, ex] at h4
    rw [ex] at hl1
    exact lv_lload hx hb hdg hl1 h4
  | aload_n j =>
    obtain ⟨v, h1, h2, h3⟩ := zload_ok h
    have hl1 := z_at hl h1
    refine ⟨_, _, _, h3, fun kk => ?_⟩
    have h4 := kk ls hl
    rcases zisA_ok (rh := rh) (ad := ad) h2 with ex | ⟨x, ex⟩ <;> rw [List.map_cons, ex] at h4 <;> rw [ex] at hl1
    · exact lv_aload_nN hx hb hdg rfl hl1 h4
    · exact lv_aload_n hx hb hdg rfl hl1 h4
  | aload j =>
    obtain ⟨v, h1, h2, h3⟩ := zload_ok h
    have hl1 := z_at hl h1
    refine ⟨_, _, _, h3, fun kk => ?_⟩
    have h4 := kk ls hl
    rcases zisA_ok (rh := rh) (ad := ad) h2 with ex | ⟨x, ex⟩ <;> rw [List.map_cons, ex] at h4 <;> rw [ex] at hl1
    · exact lv_aloadN hx hb hdg hl1 h4
    · exact lv_aload hx hb hdg hl1 h4
  | istore_n j =>
    obtain ⟨v, r, rfl, h2, h3, h4⟩ := zstore1_ok h
    obtain ⟨x, ex⟩ := zisI_ok (rh := rh) (ad := ad) h2
    refine ⟨_, _, _, h4, fun kk => ?_⟩
    rw [List.map_cons, ex]
    exact lv_istore_n hx hb hdg rfl hl h3 (by rw [← ex]; exact z_st1) kk
  | istore j =>
    obtain ⟨v, r, rfl, h2, h3, h4⟩ := zstore1_ok h
    obtain ⟨x, ex⟩ := zisI_ok (rh := rh) (ad := ad) h2
    refine ⟨_, _, _, h4, fun kk => ?_⟩
    rw [List.map_cons, ex]
    exact lv_istore hx hb hdg hl h3 (by rw [← ex]; exact z_st1) kk
  | lstore_n j =>
    obtain ⟨v, r, rfl, h2, h3, h4⟩ := zstore2_ok h
    obtain ⟨x, ex⟩ := zisJ_ok (rh := rh) (ad := ad) h2
    refine ⟨_, _, _, h4, fun kk => ?_⟩
    rw [List.map_cons, ex]
    exact lv_lstore_n hx hb hdg rfl hl h3 (by rw [← ex]; exact z_st2) kk
  | lstore j =>
    obtain ⟨v, r, rfl, h2, h3, h4⟩ := zstore2_ok h
    obtain ⟨x, ex⟩ := zisJ_ok (rh := rh) (ad := ad) h2
    refine ⟨_, _, _, h4, fun kk => ?_⟩
    rw [List.map_cons, ex]
    exact lv_lstore hx hb hdg hl h3 (by rw [← ex]; exact z_st2) kk
  | astore_n j =>
    obtain ⟨v, r, rfl, h2, h3, h4⟩ := zstore1_ok h
    refine ⟨_, _, _, h4, fun kk => ?_⟩
    rcases zisA_ok (rh := rh) (ad := ad) h2 with ex | ⟨x, ex⟩ <;> rw [List.map_cons, ex]
    · exact lv_astore_nN hx hb hdg rfl hl h3 (by rw [← ex]; exact z_st1) kk
    · exact lv_astore_n hx hb hdg rfl hl h3 (by rw [← ex]; exact z_st1) kk
  | astore j =>
    obtain ⟨v, r, rfl, h2, h3, h4⟩ := zstore1_ok h
    refine ⟨_, _, _, h4, fun kk => ?_⟩
    rcases zisA_ok (rh := rh) (ad := ad) h2 with ex | ⟨x, ex⟩ <;> rw [List.map_cons, ex]
    · exact lv_astoreN hx hb hdg hl h3 (by rw [← ex]; exact z_st1) kk
    · exact lv_astore hx hb hdg hl h3 (by rw [← ex]; exact z_st1) kk
  | iinc j n =>
    simp only [zp] at h
    split at h
    · rename_i x hk
      obtain ⟨h1, h2⟩ := zbif h
      rw [zfI_eq, zff1_eq, zgo_eq] at h2
      obtain ⟨q, hq⟩ := z_lk (rh := rh) (ad := ad) hk
      exact ⟨_, _, _, h2, fun kk => lv_iinc hx hb hdg hl hq rfl (of_decide_eq_true h1) (z_st1 (v := .int _)) kk⟩
    · cases h
  | iadd => obtain ⟨x, y, r, rfl, h2⟩ := zbinI_ok h; exact ⟨_, _, _, h2, fun kk => lv_iadd hx hb hdg (kk ls hl)⟩
  | imul => obtain ⟨x, y, r, rfl, h2⟩ := zbinI_ok h; exact ⟨_, _, _, h2, fun kk => lv_imul hx hb hdg (kk ls hl)⟩
  | ior => obtain ⟨x, y, r, rfl, h2⟩ := zbinI_ok h; exact ⟨_, _, _, h2, fun kk => lv_ior hx hb hdg (kk ls hl)⟩
  | ishl => obtain ⟨x, y, r, rfl, h2⟩ := zbinI_ok h; exact ⟨_, _, _, h2, fun kk => lv_ishl hx hb hdg (kk ls hl)⟩
  | ishr => obtain ⟨x, y, r, rfl, h2⟩ := zbinI_ok h; exact ⟨_, _, _, h2, fun kk => lv_ishr hx hb hdg (kk ls hl)⟩
  | isub =>
    simp only [zp] at h
    split at h
    · rename_i j x r
      obtain ⟨h1, h2⟩ := zbif h
      obtain ⟨rfl, hj⟩ := of_decide_eq_true h1
      rw [zpush_eq] at h2
      refine ⟨_, _, _, h2, fun kk => ?_⟩
      have h4 := kk ls hl
      rw [List.map_cons, show zc rh ad (.retAddr (j + 8)) = .int (100 - rh j) from congrArg Value.int (hE2.1 j hj)] at h4
      exact lv_isub hx hb hdg h4
    · obtain ⟨x, y, r, rfl, h2⟩ := zbinI_ok h; exact ⟨_, _, _, h2, fun kk => lv_isub hx hb hdg (kk ls hl)⟩
  | iand =>
    simp only [zp] at h
    split at h
    · rename_i x j r
      obtain ⟨h1, h2⟩ := zbif h
      obtain ⟨rfl, rfl⟩ := of_decide_eq_true h1
      rw [zpush_eq] at h2
      refine ⟨_, _, _, h2, fun kk => ?_⟩
      have h4 := kk ls hl
      rw [List.map_cons, show zc rh ad (.retAddr 7) = .int (rh 0 &&& 63) from congrArg Value.int hE2.2] at h4
      exact lv_iand hx hb hdg h4
    · obtain ⟨x, y, r, rfl, h2⟩ := zbinI_ok h; exact ⟨_, _, _, h2, fun kk => lv_iand hx hb hdg (kk ls hl)⟩
  | irem =>
    simp only [zp] at h
    split at h
    · obtain ⟨h1, h2⟩ := zbif h
      rw [zpush_eq] at h2
      exact ⟨_, _, _, h2, fun kk => lv_irem hx hb hdg (of_decide_eq_true h1) (kk ls hl)⟩
    · cases h
  | idiv =>
    simp only [zp] at h
    split at h
    · obtain ⟨h1, h2⟩ := zbif h
      rw [zpush_eq] at h2
      exact ⟨_, _, _, h2, fun kk => lv_idiv hx hb hdg (of_decide_eq_true h1) (kk ls hl)⟩
    · cases h
  | ladd => obtain ⟨x, y, r, rfl, h2⟩ := zbinJ_ok h; exact ⟨_, _, _, h2, fun kk => lv_ladd hx hb hdg (kk ls hl)⟩
  | lsub => obtain ⟨x, y, r, rfl, h2⟩ := zbinJ_ok h; exact ⟨_, _, _, h2, fun kk => lv_lsub hx hb hdg (kk ls hl)⟩
  | lmul => obtain ⟨x, y, r, rfl, h2⟩ := zbinJ_ok h; exact ⟨_, _, _, h2, fun kk => lv_lmul hx hb hdg (kk ls hl)⟩
  | lor => obtain ⟨x, y, r, rfl, h2⟩ := zbinJ_ok h; exact ⟨_, _, _, h2, fun kk => lv_lor hx hb hdg (kk ls hl)⟩
  | lxor => obtain ⟨x, y, r, rfl, h2⟩ := zbinJ_ok h; exact ⟨_, _, _, h2, fun kk => lv_lxor hx hb hdg (kk ls hl)⟩
  | land => obtain ⟨x, y, r, rfl, h2⟩ := zbinJ_ok h; exact ⟨_, _, _, h2, fun kk => lv_land hx hb hdg (kk ls hl)⟩
  | lshl => obtain ⟨x, y, r, rfl, h2⟩ := zshJ_ok h; exact ⟨_, _, _, h2, fun kk => lv_lshl hx hb hdg rfl (kk ls hl)⟩
  | lshr => obtain ⟨x, y, r, rfl, h2⟩ := zshJ_ok h; exact ⟨_, _, _, h2, fun kk => lv_lshr hx hb hdg rfl (kk ls hl)⟩
  | lushr => obtain ⟨x, y, r, rfl, h2⟩ := zshJ_ok h; exact ⟨_, _, _, h2, fun kk => lv_lushr hx hb hdg rfl (kk ls hl)⟩
  | lcmp =>
    simp only [zp] at h
    split at h
    · rw [zpush_eq] at h; exact ⟨_, _, _, h, fun kk => W.lcmp hx hb hdg (kk ls hl)⟩
    · cases h
  | i2l =>
    simp only [zp] at h
    split at h
    · rw [zpush_eq] at h; exact ⟨_, _, _, h, fun kk => lv_i2l hx hb hdg rfl (kk ls hl)⟩
    · cases h
  | l2i =>
    simp only [zp] at h
    split at h
    · rw [zpush_eq] at h; exact ⟨_, _, _, h, fun kk => lv_l2i hx hb hdg rfl (kk ls hl)⟩
    · cases h
  | dup =>
    simp only [zp] at h
    split at h
    · obtain ⟨h1, h2⟩ := zbif h
      rw [zgo_eq] at h2
      exact ⟨_, _, _, h2, fun kk => lv_dup hx hb hdg ((zc_cat rh ad _).trans (of_decide_eq_true h1)) (kk ls hl)⟩
    · cases h
  | dup2 =>
    simp only [zp] at h
    split at h
    · obtain ⟨h1, h2⟩ := zbif h
      rw [zgo_eq] at h2
      exact ⟨_, _, _, h2, fun kk => lv_dup2_11 hx hb hdg ((zc_cat rh ad _).trans (of_decide_eq_true h1).1) ((zc_cat rh ad _).trans (of_decide_eq_true h1).2) (kk ls hl)⟩
    · cases h
  | pop =>
    simp only [zp] at h
    split at h
    · obtain ⟨h1, h2⟩ := zbif h
      rw [zgo_eq] at h2
      exact ⟨_, _, _, h2, fun kk => lv_pop hx hb hdg ((zc_cat rh ad _).trans (of_decide_eq_true h1)) (kk ls hl)⟩
    · cases h
  | goto off => obtain ⟨q, h1, h2⟩ := zjump_ok h; exact ⟨_, _, _, h2, fun kk => lv_goto hx hb hdg h1 (kk ls hl)⟩
  | ifCond q off =>
    cases st with
    | nil => exact znone (show (none : ZO) = some o from h)
    | cons v r => exact zif1 hx hb hE hdg hl h
  | if_icmp q off =>
    match st, h with
    | [], h => exact znone (show (none : ZO) = some o from h)
    | [_], h => exact znone (show (none : ZO) = some o from h)
    | w :: v :: r, h => exact zif2 hx hb hE hdg hl h
  | ifnonnull off =>
    simp only [zp] at h
    split at h
    · obtain ⟨q, h1, h2⟩ := zjump_ok h; exact ⟨_, _, _, h2, fun kk => lv_ifnonnull hx hb hdg h1 (kk ls hl)⟩
    · rw [zgo_eq] at h; exact ⟨_, _, _, h, fun kk => lv_ifnonnullN hx hb hdg (kk ls hl)⟩
    · cases h
  | tableswitch d lo hi offs =>
    simp only [zp] at h
    cases st with
    | nil => exact znone (show (none : ZO) = some o from h)
    | cons v r =>
      simp only [zsw] at h
      cases eb : zb bd v with
      | none => rw [eb] at h; cases h
      | some q =>
        rw [eb] at h
        dsimp only at h
        obtain ⟨x, ex, h2, h3⟩ := zb_ok (ad := ad) hE eb
        by_cases hd : q.2 < lo ∨ hi < q.1
        · rw [decide_eq_true hd, cond_true] at h
          obtain ⟨t, g1, g2⟩ := zjump_ok h
          refine ⟨_, _, _, g2, fun kk => ?_⟩
          rw [List.map_cons, ex]
          exact lv_tableOut hx hb hdg (by omega) g1 (kk ls hl)
        · rw [decide_eq_false hd, cond_false] at h
          obtain ⟨h5, h6⟩ := zbif h
          have h5 := of_decide_eq_true h5
          split at h6
          · rename_i off ho
            obtain ⟨t, g1, g2⟩ := zjump_ok h6
            refine ⟨_, _, _, g2, fun kk => ?_⟩
            rw [List.map_cons, ex]
            refine lv_tableIn hx hb hdg (by omega) (by omega) ?_ g1 (kk ls hl)
            rw [zn_eq, Array.getElem?_toList] at ho
            rw [show x.toInt = q.1 by omega]
            exact ho
          · cases h6
  | _ => exact znone (show (none : ZO) = some o from h)
end ZQ
