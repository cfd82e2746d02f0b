/-! every run is the machine's: the induction -/
section ZSO
variable {l : Launch} {Al : List Cond} {mt : Nat → ZMI} {bd : Nat → Int × Int} {rh : Nat → Int32} {ZS : (Nat → Prop) → State → Nat → Prop} {D : va_G} {cA : Nat → ClassId} {n : Nat}
set_option maxHeartbeats 8000000 in
theorem z_step (hg : zGood Al) (hcw : zcw Al) (hA0 : zAl0 Al) (hZ : zZS ZS) (hJ : zJ l Al ZS) (hO : zJO l Al mt bd rh ZS D cA) (hMa : ∀ i, (mt i).2.2.2.2.1 ≤ 2 → zMok Al (mt i)) (hEa : ∀ i, zEok Al mt (mt i)) (hE : zEnv bd rh) (hE2 : zEnv2 rh) (hI : ZSnd l Al mt bd rh ZS D cA n) : ZSnd l Al mt bd rh ZS D cA (n + 1) := by
  intro d j lw sl stop pc loc st cs mc ms rv cs' h p e R s m args below meth c H locs Q ad ls A hf hmc hms hP hD hS hl kk
  rw [zrun_succ] at h
  have h9 := zstep_ok h
  clear h
  rcases h9 with ⟨h1, h2, h3, h4, h5, h6, h7⟩ | ⟨i, L, x1, x2, hz, h⟩
  · subst h2; subst h3; subst h4
    obtain ⟨e1, e2⟩ := Prod.mk.inj h5
    subst e1; subst e2
    exact kk ad H locs ls mc ms _ _ [] zAg.rf hP hD hS hl (Or.inl ⟨h1, rfl, rfl, rfl, rfl, h6, h7⟩)
  · have hf0 := hf
    obtain ⟨f1, f2, f3, f4, f5, f6, f7, f8, f9, f10, f11, f12, f13, f14, f15⟩ := hf0
    obtain ⟨r, hr, hm⟩ := zfind_mem hz
    obtain ⟨hdg, hw, hwi⟩ := f7 r hr _ hm
    dsimp only at hdg hw hwi
    have plain : ZG p l e R s m args below meth c H locs mc ms Q (mt j).2.2.1 rh ad pc st ls (fun q l' r' => zrun mt bd n d j lw sl stop q l' r' cs mc ms) (rv, cs') → W p l e R s m args below meth c H locs mc ms Q (F0 m pc ls (st.map (zc rh ad))) := by
      rintro ⟨pc', loc', st', g1, g2⟩
      exact g2 (fun ls' hl' => hI d j lw sl stop pc' loc' st' cs mc ms rv cs' g1 p e R s m args below meth c H locs Q ad ls' A hf hmc hms hP hD hS hl' kk)
    have wr : ZGW p l e R s m args below meth c H locs mc ms Q D cA A rh ad pc st cs ls (fun q r' c' => zrun mt bd n d j lw sl stop q loc r' c' mc ms) (rv, cs') → W p l e R s m args below meth c H locs mc ms Q (F0 m pc ls (st.map (zc rh ad))) := by
      rintro ⟨pc', st', c1, g1, g2, g3⟩
      exact g3 (fun H1 l1 k1 k2 k3 => hI d j lw sl stop pc' loc st' c1 mc ms rv cs' g1 p e R s m args below meth c H1 l1 Q ad ls A hf hmc hms k1 k2 k3 hl (fun ad'' H' locs' ls' mc' ms' pc' loc' st' q1 => kk ad'' H' locs' ls' mc' ms' pc' loc' st' (g2 ▸ q1)))
    have mkn : ∀ {k : ZKN}, k = (fun q r' c' mc' ms' => zrun mt bd n d j lw sl stop q loc r' c' mc' ms') → zhn (mt j).2.2.2.2.2.1 (mt j).2.2.2.2.2.2.1 cs i (x1, x2) pc loc st mc ms k = some (rv, cs') → W p l e R s m args below meth c H locs mc ms Q (F0 m pc ls (st.map (zc rh ad))) := by
      intro k ek hk
      subst ek
      have hb : ∀ {k : ZKN}, zhn (mt j).2.2.2.2.2.1 (mt j).2.2.2.2.2.2.1 cs i (x1, x2) pc loc st mc ms k = some (rv, cs') → zhn (mt j).2.2.2.2.2.1 (mt j).2.2.2.2.2.2.1 cs i (x1, x2) pc loc st mc ms (fun q r' c' mc' ms' => bif decide (mc' ≤ (mt j).2.2.2.2.2.1) && decide (ms' ≤ (mt j).2.2.2.2.2.2.1) then k q r' c' mc' ms' else none) = some (rv, cs') := by
        intro k hk
        have key : ∀ {q : ZC} {N pc' : Nat} {r' : List Value}, znew (mt j).2.2.2.2.2.1 (mt j).2.2.2.2.2.2.1 cs q N pc' loc r' mc ms k = some (rv, cs') → znew (mt j).2.2.2.2.2.1 (mt j).2.2.2.2.2.2.1 cs q N pc' loc r' mc ms (fun q r' c' mc' ms' => bif decide (mc' ≤ (mt j).2.2.2.2.2.1) && decide (ms' ≤ (mt j).2.2.2.2.2.2.1) then k q r' c' mc' ms' else none) = some (rv, cs') := by
          intro q N pc' r' hq
          obtain ⟨h1, h2, h3, h4, h5, h6, h7⟩ := znew_ok hq
          unfold znew
          rw [zfN_eq, zln_eq, zwS'_eq, zwL'_eq, zwC'_eq, h1, h2, h3, decide_eq_true h4, decide_eq_true h5, decide_eq_true h6]
          simp only [Bool.and_self, cond_true, zfS_eq, zfN_eq]
          rw [decide_eq_true h5, decide_eq_true h6]
          exact h7
        cases i with
        | new idx => exact key hk
        | newarray t =>
          simp only [zhn] at hk ⊢
          split at hk
          · rename_i t' y r' ht
            obtain ⟨b1, b2⟩ := zbif hk
            rw [b1, cond_true, zfN_eq]
            rw [zfN_eq] at b2
            exact key b2
          · cases hk
        | anewarray idx =>
          simp only [zhn] at hk ⊢
          split at hk
          · rename_i y r'
            obtain ⟨b1, b2⟩ := zbif hk
            rw [b1, cond_true, zfN_eq]
            rw [zfN_eq] at b2
            cases hb4 : Nat.beq x1 4 with
            | true => rw [hb4, cond_true] at b2; exact key b2
            | false => rw [hb4, cond_false] at b2; exact key b2
          · cases hk
        | _ => exact znone (show (none : ZO) = some (rv, cs') from hk)
      obtain ⟨pc', st', c1, mc1, ms1, g1, g2, g3⟩ := z_hn (L := L) (nm := (mt j).1.name) f1 f2 f6 hcw f5 f8.1 hP hD hS f10 f13 f14 f8.2.1 f8.2.2.1 hdg hl hw (hb hk)
      obtain ⟨g4, g5⟩ := zbif g1
      rw [Bool.and_eq_true, decide_eq_true_eq, decide_eq_true_eq] at g4
      exact g3 (fun ad' H1 l1 k0 k1 k2 k3 k4 => hI d j lw sl stop pc' loc st' c1 mc1 ms1 rv cs' g5 p e R s m args below meth c H1 l1 Q ad' ls A (hf.ag k0) g4.1 g4.2 k1 k2 k3 k4 (fun ad'' H' locs' ls' mc' ms' pc' loc' st' q1 => kk ad'' H' locs' ls' mc' ms' pc' loc' st' (k0.trans q1 g2)))
    cases i with
    | ireturn =>
      simp only [zins] at h
      split at h
      · rename_i v
        obtain ⟨b1, b2⟩ : ((zisI v && decide (mc ≤ (mt j).2.2.2.2.2.1)) && (decide (ms ≤ (mt j).2.2.2.2.2.2.1) && (match (mt j).2.2.2.1 with
          | some .int => true
          | some .boolean => zisB v
          | _ => false))) = true ∧ (some (some v, cs) : ZO) = some (rv, cs') := zbif h
        simp only [Bool.and_eq_true, decide_eq_true_eq] at b1
        obtain ⟨e1, e2⟩ := Prod.mk.inj (Option.some.inj b2)
        subst e1; subst e2
        refine kk ad H locs ls mc ms pc loc [v] zAg.rf hP hD hS hl (Or.inr (Or.inl ⟨v, rfl, rfl, hdg, b1.1.1, b1.1.2, b1.2.1, ?_⟩))
        have b3 := b1.2.2
        split at b3
        · rename_i hq; exact Or.inl hq
        · rename_i hq; exact Or.inr ⟨hq, b3⟩
        · cases b3
      · cases h
    | return_ =>
      simp only [zins] at h
      split at h
      · obtain ⟨b1, b2⟩ := zbif h
        simp only [Bool.and_eq_true, decide_eq_true_eq] at b1
        obtain ⟨e1, e2⟩ := Prod.mk.inj (Option.some.inj b2)
        subst e1; subst e2
        exact kk ad H locs ls mc ms pc loc [] zAg.rf hP hD hS hl (Or.inr (Or.inr ⟨rfl, rfl, hdg, b1.1.1, b1.1.2, Option.isNone_iff_eq_none.mp b1.2⟩))
      · cases h
    | invokevirtual idx =>
      simp only [zins] at h
      cases hb : Nat.beq x1 0 with
      | true =>
        rw [hb, cond_true] at h
        have e0 := Nat.eq_of_beq_eq_true hb
        exact z_call hI hMa hEa (by decide) hf hP hD hS hl h (z_runV hg hZ hMa hf hP hD hS hl hdg (hwi.1 e0)) kk
      | false =>
        rw [hb, cond_false] at h
        obtain ⟨b1, b2⟩ := zbif h
        exact wr (z_prim hA0 hJ hf hmc hms hP hD hS hl hdg hwi (Or.inl ⟨idx, rfl, of_decide_eq_true b1⟩) b2)
    | invokestatic idx =>
      simp only [zins] at h
      cases hb8 : Nat.beq x1 8 with
      | true =>
        rw [hb8, cond_true] at h
        have e8 := Nat.eq_of_beq_eq_true hb8
        subst e8
        unfold zordC at h
        split at h
        · rename_i o1 a r
          obtain ⟨b1, b2⟩ := zbif h
          rw [zfN_eq, zfN_eq, zfN_eq] at b2
          simp only [Bool.and_eq_true, decide_eq_true_eq] at b1
          obtain ⟨⟨c1, c2, c3⟩, c4, c5, c6⟩ := b1
          subst c1
          exact hO p e R s m args below meth c H locs mc ms Q pc ls (r.map (zc rh ad)) A ad d j cs a o1 idx x2 hf c3 hP hD hS hl.1 (Nat.le_trans c5 f13) (Nat.le_trans c6 f14) (by rw [zsum_c]; exact c4) c2 hdg hwi (fun H1 l1 k1 k2 k3 => hI d j true sl stop (pc + 3) loc (.int 1 :: r) cs (mc + 100) (ms + 10000) rv cs' b2 p e R s m args below meth c H1 l1 Q ad ls A hf c5 c6 k1 k2 k3 hl kk)
        · cases h
      | false =>
      rw [hb8, cond_false] at h
      cases hb : Nat.beq x1 0 with
      | true =>
        rw [hb, cond_true] at h
        have e0 := Nat.eq_of_beq_eq_true hb
        exact z_call hI hMa hEa (by decide) hf hP hD hS hl h (z_runS hg hZ hMa hf hP hD hS hl hdg (hwi.1 e0)) kk
      | false =>
        rw [hb, cond_false] at h
        obtain ⟨b1, b2⟩ := zbif h
        rw [Bool.or_eq_true] at b1
        exact wr (z_prim hA0 hJ hf hmc hms hP hD hS hl hdg hwi (Or.inr (Or.inl ⟨idx, rfl, b1.imp Nat.eq_of_beq_eq_true Nat.eq_of_beq_eq_true⟩)) b2)
    | invokespecial idx =>
      simp only [zins] at h
      cases hb : (Nat.beq x1 0 || Nat.beq x1 6) with
      | true =>
        rw [hb, cond_true] at h
        rw [Bool.or_eq_true] at hb
        exact z_call hI hMa hEa (by decide) hf hP hD hS hl h (z_runI hg hZ hMa hf hP hD hS hl hdg (hb.imp (fun z => hwi.1 (Nat.eq_of_beq_eq_true z)) (fun z => hwi.2.1 (Nat.eq_of_beq_eq_true z)))) kk
      | false =>
        rw [hb, cond_false] at h
        obtain ⟨b1, b2⟩ := zbif h
        exact wr (z_prim hA0 hJ hf hmc hms hP hD hS hl hdg hwi (Or.inr (Or.inr ⟨idx, rfl, Nat.eq_of_beq_eq_true b1⟩)) b2)
    | ldc idx =>
      simp only [zins] at h
      obtain ⟨b1, b2⟩ := zbif h
      rw [zgo_eq] at b2
      simp only [Bool.and_eq_true, decide_eq_true_eq] at b1
      obtain ⟨w1, w2⟩ := hwi (Nat.eq_of_beq_eq_true b1.1)
      subst w2
      exact plain ⟨_, _, _, b2, fun k2 => (hJ p e R s m args below meth c H locs mc ms Q (mt j).2.1 pc ls (st.map (zc rh ad)) (mt j).1.cls A (ad 1000000) f1 f2 (f3.trans hl.1.symm) f5 f6 f9 hS f10 (by omega) (by omega) (Nat.le_trans hmc f13) (Nat.le_trans hms f14) (by rw [zsum_c]; exact b1.2.2)).2.2 w1 hdg (k2 ls hl)⟩
    | ldc2_w idx =>
      simp only [zins] at h
      rw [zpush_eq] at h
      exact plain ⟨_, _, _, h, fun k2 => lv_ldc2 f1 f2 f5 (f6 _ hwi) hdg (k2 ls hl)⟩
    | getfield idx => exact plain (z_hr f1 f2 hE f6 hcw f5 f8.1 hP hS hdg hl hw f15 h)
    | iaload => exact plain (z_hr f1 f2 hE f6 hcw f5 f8.1 hP hS hdg hl hw f15 h)
    | laload => exact plain (z_hr f1 f2 hE f6 hcw f5 f8.1 hP hS hdg hl hw f15 h)
    | baload => exact plain (z_hr f1 f2 hE f6 hcw f5 f8.1 hP hS hdg hl hw f15 h)
    | aaload => exact plain (z_hr f1 f2 hE f6 hcw f5 f8.1 hP hS hdg hl hw f15 h)
    | arraylength => exact plain (z_hr f1 f2 hE f6 hcw f5 f8.1 hP hS hdg hl hw f15 h)
    | putfield idx => exact wr (z_hw f1 f2 f6 hcw f5 f8.1 hP hD hS hdg (f4 ▸ hw) h)
    | iastore => exact wr (z_hw f1 f2 f6 hcw f5 f8.1 hP hD hS hdg (f4 ▸ hw) h)
    | lastore => exact wr (z_hw f1 f2 f6 hcw f5 f8.1 hP hD hS hdg (f4 ▸ hw) h)
    | bastore => exact wr (z_hw f1 f2 f6 hcw f5 f8.1 hP hD hS hdg (f4 ▸ hw) h)
    | aastore => exact wr (z_hw f1 f2 f6 hcw f5 f8.1 hP hD hS hdg (f4 ▸ hw) h)
    | new idx => exact mkn rfl h
    | newarray t => exact mkn rfl h
    | anewarray idx => exact mkn rfl h
    | _ => exact plain (z_p f1 f2 hE hE2 hdg hl h)
theorem z_snd (hg : zGood Al) (hcw : zcw Al) (hA0 : zAl0 Al) (hZ : zZS ZS) (hJ : zJ l Al ZS) (hO : zJO l Al mt bd rh ZS D cA) (hMa : ∀ i, (mt i).2.2.2.2.1 ≤ 2 → zMok Al (mt i)) (hEa : ∀ i, zEok Al mt (mt i)) (hE : zEnv bd rh) (hE2 : zEnv2 rh) : ∀ n, ZSnd l Al mt bd rh ZS D cA n := by
  intro n
  induction n with
  | zero => intro d j lw sl stop pc loc st cs mc ms rv cs' h; cases h
  | succ n ih => exact z_step hg hcw hA0 hZ hJ hO hMa hEa hE hE2 ih
end ZSO
