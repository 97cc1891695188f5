-- THE SMALL MACHINE IS TRUE, 5: a stretch of code, and a method
section SG
variable {p : Program} {l : Launch} {e : Env} {R : Room} {s : State} {m : MethodId} {args : Array Value} {below : List Frame} {meth : Method} {c : Code} {cells slots : Nat} {Qs : State → Prop}
variable {D : va_G} {cI cJ : ClassId} {ad : Nat → Nat} {A : Nat → Prop} {H0 : Heap} {cc : ByteArray}
theorem mchk_at {i : Nat} (h : i < 250) : mchk i = true := List.all_eq_true.mp mchk_ok i (List.mem_range.mpr h)
theorem cdw_in {i : Nat} (h : i < 250) : cdw i ∈ gwl := by
  have h1 := List.all_eq_true.mp cdP_all i (List.mem_range.mpr h)
  obtain ⟨q, hq, hq2⟩ := List.any_eq_true.mp h1
  refine List.mem_filter.mpr ⟨cdL_in (List.mem_map.mpr ⟨q, hq, ?_⟩), rfl⟩
  split at hq2
  · rename_i j
    rw [Nat.eq_of_beq_eq_true hq2]
    rfl
  · cases hq2
theorem any_nat {t : List (Nat × Nat)} {i : Nat} (h : t.any (fun q => Nat.beq q.2 i) = true) : ∃ g, (g, i) ∈ t := by
  obtain ⟨q, hq, hq2⟩ := List.any_eq_true.mp h
  exact ⟨q.1, by rw [← Nat.eq_of_beq_eq_true hq2]; exact hq⟩
theorem mfacts {i : Nat} (h : i < 250) : (mY i).cls = clsN (mxOf i).1 ∧ (mY i).cls ≠ "java/lang/invoke/MethodHandle" ∧ (mY i).cls ≠ "java/lang/invoke/VarHandle" ∧ (parseMethodDescriptor (mY i).desc).map (fun d => d.parameters.length) = some (mxOf i).2.1 ∧ mL i ≤ 40 ∧ (Jvm.plainName (mY i).cls = true ∧ rkOf (mR i) < 9) ∧ Cond.initialized (mY i).cls ∈ gwl ∧ ((mxOf i).2.2 = true → Cond.static (mY i) ∈ gwl) ∧ ((mxOf i).2.2 = false → Cond.instanceMethod (mY i) ∈ gwl ∧ Cond.selects (mY i).cls (mY i) (mY i) ∈ gwl) := by
  have h1 := mchk_at h
  unfold mchk at h1
  generalize hm : mxOf i = q at h1 ⊢
  obtain ⟨o, n, sta⟩ := q
  simp only [Bool.and_eq_true, decide_eq_true_eq] at h1
  obtain ⟨⟨⟨⟨⟨⟨⟨⟨a1, a2⟩, a3⟩, a4⟩, a5⟩, a6⟩, a7⟩, a8⟩, a9⟩ := h1
  refine ⟨a1, a3, a4, a5, a6, ⟨a2, a7⟩, ?_, fun z => ?_, fun z => ?_⟩
  · rw [a1]
    exact pk_gwl INt_ok INt_g (any_nat a8)
  · have z : sta = true := z
    subst z
    exact pk_gwl STt_ok STt_g (any_nat a9)
  · have z : sta = false := z
    subst z
    simp only [Bool.and_eq_true] at a9
    exact ⟨pk_gwl IMt_ok IMt_g (any_nat a9.1), pk_gwl SEt_ok SEt_g (any_nat a9.2)⟩
theorem ml_in {own idx a : Nat} (h : MLt.any (fun q => decide (q.2 = (own, idx, a))) = true) : Cond.methodLink (clsN own) idx (mY a) ∈ gwl := by
  obtain ⟨q, hq, hq2⟩ := List.any_eq_true.mp h
  have eq : q.2 = (own, idx, a) := of_decide_eq_true hq2
  exact pk_gwl MLt_ok MLt_g (a := (own, idx, a)) ⟨q.1, by rw [← eq]; exact hq⟩
theorem nl_in {u : State} (hN : NS u) {own idx a : Nat} (h : NLt.any (fun q => decide (q.2 = (own, idx, a))) = true) : va_Nw (.methodLinkNest (clsN own) idx (mY a) "ShowRoom") u := by
  obtain ⟨q, hq, hq2⟩ := List.any_eq_true.mp h
  have eq : q.2 = (own, idx, a) := of_decide_eq_true hq2
  have := hN q hq
  rw [eq] at this
  exact this
theorem ma_rng {own idx a : Nat} (h : MAt.any (fun q => decide (q.2 = (own, idx, a))) = true) : 990 ≤ a ∧ a ≤ 994 := by
  have hall : MAt.all (fun q => decide (990 ≤ q.2.2.2 ∧ q.2.2.2 ≤ 994)) = true := by decide +kernel
  obtain ⟨q, hq, hq2⟩ := List.any_eq_true.mp h
  have eq : q.2 = (own, idx, a) := of_decide_eq_true hq2
  have h2 := of_decide_eq_true (List.all_eq_true.mp hall q hq)
  rw [eq] at h2
  exact h2
theorem ws_good {i : Nat} (h : i < 250) : GoodIn gwl (cdw i :: gwl) := fun w hw => by
  rcases List.mem_cons.mp hw with rfl | hw
  · exact gwl_good _ (cdw_in h)
  · exact gwl_good _ hw
theorem vw_name {ci : Nat} {C : String} {T : u_T} {N : Nat} (hci : ci < 9) (h : vwCl[ci]? = some (C, T, N)) : C = clsN ci := by
  match ci, hci with
  | 0, _ => cases h; rfl
  | 1, _ => cases h; rfl
  | 2, _ => cases h; rfl
  | 3, _ => cases h; rfl
  | 4, _ => cases h; rfl
  | 5, _ => cases h; rfl
  | 6, _ => cases h; rfl
  | 7, _ => cases h; rfl
  | 8, _ => cases h; rfl
  | n + 9, h => exact absurd h (by omega)
theorem isO_spec {x : AV} {n : Nat} {K : Prop} (h : isO x n K) : ∃ o ci fts, x = .inr (.inr o) ∧ layL[o]? = some (.inr (.inr (ci, fts))) ∧ ci = n ∧ K := by
  unfold isO at h
  split at h
  · split at h
    · rename_i ci fts hl
      split at h
      · rename_i hb1
        exact ⟨_, ci, fts, rfl, lay_r hl, Nat.eq_of_beq_eq_true hb1, h⟩
      · exact h.elim
    · exact h.elim
  · exact h.elim
set_option maxHeartbeats 16000000 in
theorem seg_W {sc : Option (Nat × (Nat → Int))} {call : Nat → List AV → Mem → (Int → Mem → Prop) → Prop} {full : List En} {rb : Bool} {Q : Int → Mem → Prop} {cut : Nat → Lo → List AV → Mem → Prop} {own nL d : Nat}
    (hx : p.tables.exec = Jvm.exec) (hb : c.code = cc) (hml : c.maxLocals = nL) (hown : s.vm.findClass (clsN own) = some m.cls) (hts : ∀ w ∈ gwl, w.before args s = true) (hNS : NS s) (hK : va_K D vwCl (tyIJ cI cJ) s) (hA : ∀ q, H0.size ≤ q → A q)
    (hsc : ∀ L xs, sc = some (L, xs) → L < 2147483648 ∧ ∃ ys : Nat → Int32, va_X (ad 1000) L ys s H0 ∧ ad 1000 < H0.size ∧ ¬ A (ad 1000) ∧ ∀ j, j < L → xs j = (ys j).toInt)
    (hR : d + 1 ≤ R.frames ∧ 64 * d + 64 ≤ R.locals) (hcs : cells ≤ R.cells ∧ slots ≤ R.slots)
    (hcall : ∀ i as σ K, i < 250 → call i as σ K → Ct l D cI cJ ad d i as σ K)
    (hfull : full.all (chkE own nL cc) = true) (hseq : seqC full = true)
    (hret : ∀ ins pc jls H locs x σ vs, (∃ en : En, en ∈ full ∧ en.2.2.1 = ins) → decode cc pc = .ok (ins, 1) → RV ad rb ins x vs → Q x σ → WH D cI cJ ad A σ H → va_S A H0 H locs → W p l e R s m args below meth c H locs cells slots Qs (F0 m pc jls vs))
    (hcut : ∀ pc ls st σ jls H locs, cut pc ls st σ → LR ad nL ls jls → OKs st → WH D cI cJ ad A σ H → va_S A H0 H locs → W p l e R s m args below meth c H locs cells slots Qs (F0 m pc jls (st.map (conc ad)))) :
    ∀ (k : Nat) (fst : Bool) (es : List En) (ls : Lo) (st : List AV) (σ : Mem), seg sc call full rb Q cut k fst es ls st σ → (∃ pre, full = pre ++ es) → ∀ (jls : Array Slot) (H : Heap) (locs : List Loc), LR ad nL ls jls → OKs st → WH D cI cJ ad A σ H → va_S A H0 H locs → ∀ (en : En) (tl : List En), es = en :: tl → W p l e R s m args below meth c H locs cells slots Qs (F0 m en.1 jls (st.map (conc ad))) := by
  intro k
  induction k with
  | zero => intro fst es ls st σ h; exact h.elim
  | succ k ih =>
    intro fst es ls st σ h hpre jls H locs hL hS hW hSS en tl hes
    subst hes
    obtain ⟨pre, hpre⟩ := hpre
    obtain ⟨pc, mask, ins, len, a, b, cx, v, ts⟩ := en
    have hmem : ((pc, mask, ins, len, a, b, cx, v, ts) : En) ∈ full := by rw [hpre]; exact List.mem_append_right _ List.mem_cons_self
    have hchk := List.all_eq_true.mp hfull _ hmem
    simp only [chkE, Bool.and_eq_true, decide_eq_true_eq] at hchk
    obtain ⟨⟨hdg, hok⟩, hokr⟩ := hchk
    have hml' : c.maxLocals = jls.size := by rw [hml]; exact hL.1.1.symm
    have nxt : ∀ (ls1 : Lo) (st1 : List AV) (σ1 : Mem), seg sc call full rb Q cut k false tl ls1 st1 σ1 → ∀ (jl : Array Slot) (H1 : Heap) (locs1 : List Loc), LR ad nL ls1 jl → OKs st1 → WH D cI cJ ad A σ1 H1 → va_S A H0 H1 locs1 → W p l e R s m args below meth c H1 locs1 cells slots Qs (F0 m (pc + len) jl (st1.map (conc ad))) := by
      intro ls1 st1 σ1 h1 jl H1 locs1 a1 a2 a3 a4
      obtain ⟨e2, t2, rfl⟩ := seg_ne h1
      have := ih false _ ls1 st1 σ1 h1 ⟨pre ++ [(pc, mask, ins, len, a, b, cx, v, ts)], by rw [hpre]; simp⟩ jl H1 locs1 a1 a2 a3 a4 e2 t2 rfl
      rw [seqC_at hseq hpre] at this
      exact this
    have jmp : ∀ (tg : Nat) (ls1 : Lo) (st1 : List AV) (σ1 : Mem), seg sc call full rb Q cut k false (toPc tg full) ls1 st1 σ1 → ∀ (jl : Array Slot) (H1 : Heap) (locs1 : List Loc), LR ad nL ls1 jl → OKs st1 → WH D cI cJ ad A σ1 H1 → va_S A H0 H1 locs1 → W p l e R s m args below meth c H1 locs1 cells slots Qs (F0 m tg jl (st1.map (conc ad))) := by
      intro tg ls1 st1 σ1 h1 jl H1 locs1 a1 a2 a3 a4
      obtain ⟨e2, t2, h2⟩ := seg_ne h1
      obtain ⟨h3, h4⟩ := toPc_suf h2
      rw [h2] at h1
      have := ih false _ ls1 st1 σ1 h1 h4 jl H1 locs1 a1 a2 a3 a4 e2 t2 rfl
      rw [h3] at this
      exact this
    have hAA : ∀ q, AA ad H.size q → A q := fun q hq => by
      rcases hq with ⟨k, hk, rfl⟩ | hq
      · obtain ⟨c0, hc0⟩ : ∃ c0, layL[k]? = some c0 := ⟨_, List.getElem?_eq_getElem (by rw [lay_len]; exact hk)⟩
        exact hW.2.1.2 k _ (ww_get hc0)
      · exact hA q (Nat.le_trans hSS.1 hq)
    unfold seg at h
    split at h
    · exact hcut _ _ _ _ _ _ _ h (hL.keep _) hS hW hSS
    · split at h
      case h_1 off =>
        simp only [okE, Bool.and_eq_true, beq_iff_eq, decide_eq_true_eq] at hok
        obtain ⟨rfl, ht⟩ := hok
        exact lv_goto hx hb hdg ht (jmp _ _ _ _ h _ _ _ hL hS hW hSS)
      case h_2 cd off =>
        simp only [okE, Bool.and_eq_true, beq_iff_eq, decide_eq_true_eq] at hok
        obtain ⟨rfl, ht⟩ := hok
        split at h
        · exact if_W hx hb hdg ht hS.hd h (fun z => jmp _ _ _ _ z _ _ _ hL hS.tl hW hSS) (fun z => nxt _ _ _ z _ _ _ hL hS.tl hW hSS)
        · exact h.elim
      case h_3 cd off =>
        simp only [okE, Bool.and_eq_true, beq_iff_eq, decide_eq_true_eq] at hok
        obtain ⟨rfl, ht⟩ := hok
        split at h
        · exact ic_W hx hb hdg ht hS.tl.hd hS.hd h (fun z => jmp _ _ _ _ z _ _ _ hL hS.tl.tl hW hSS) (fun z => nxt _ _ _ z _ _ _ hL hS.tl.tl hW hSS)
        · exact h.elim
      case h_4 =>
        simp only [okE, beq_iff_eq] at hok
        subst hok
        split at h
        · split at h
          · rename_i pc2 cd off len2 a2 r2 rest2
            have hs2 := seqC_at hseq hpre
            have hs2' : pc2 = pc + 1 := hs2
            subst hs2'
            have hmem2 : ((pc + 1, none, Instr.ifCond cd off, len2, a2, r2) : En) ∈ full := by rw [hpre]; exact List.mem_append_right _ (List.mem_cons_of_mem _ List.mem_cons_self)
            have hchk2 := List.all_eq_true.mp hfull _ hmem2
            simp only [chkE, Bool.and_eq_true, decide_eq_true_eq, okE, beq_iff_eq] at hchk2
            obtain ⟨⟨hdg2, hl2, ht2⟩, -⟩ := hchk2
            subst hl2
            refine lc_W hx hb hdg hdg2 ht2 hS.tl.hd hS.hd h (fun z => jmp _ _ _ _ z _ _ _ hL hS.tl.tl hW hSS) (fun z => ?_)
            obtain ⟨e3, t3, rfl⟩ := seg_ne z
            have h4 : full = (pre ++ [(pc, mask, Instr.lcmp, 1, a, b, cx, v, ts)]) ++ ((pc + 1, none, Instr.ifCond cd off, 3, a2, r2) :: e3 :: t3) := by rw [hpre]; simp
            have h5 : full = (pre ++ [(pc, mask, Instr.lcmp, 1, a, b, cx, v, ts), (pc + 1, none, Instr.ifCond cd off, 3, a2, r2)]) ++ (e3 :: t3) := by rw [hpre]; simp
            have := ih false _ _ _ _ z ⟨_, h5⟩ jls H locs hL hS.tl.tl hW hSS e3 t3 rfl
            rw [seqC_at hseq h4] at this
            exact this
          · exact h.elim
        · exact h.elim
      case h_5 idx =>
        simp only [okE, beq_iff_eq] at hok
        subst hok
        split at h
        · exact gf_W hx hb hown hts hK hW hokr hdg h (fun v hv hO => nxt _ _ _ hv _ _ _ hL (OKs.cons hO hS.tl) hW hSS)
        · exact h.elim
      case h_6 idx =>
        simp only [okE, beq_iff_eq] at hok
        subst hok
        simp only [okR, Bool.and_eq_true, Bool.not_eq_true'] at hokr
        split at h
        · exact pf_W hx hb hown hts hK hW hSS hokr.1 hokr.2 hdg hS.hd h (fun σ1 H1 locs1 hk hW1 hS1 => nxt _ _ _ hk _ _ _ hL hS.tl.tl hW1 hS1)
        · exact h.elim
      case h_7 =>
        simp only [okE, beq_iff_eq] at hok
        subst hok
        split at h
        · rename_i i o t
          split at h
          · exact il_W hx hb hK hW hS.hd h.1 hdg (fun hi => nxt _ _ _ h.2 _ _ _ hL (OKs.cons hi hS.tl.tl) hW hSS)
          · rename_i L xs
            split at h
            · rename_i hbo
              have ho : o = 1000 := Nat.eq_of_beq_eq_true hbo
              subst ho
              obtain ⟨hL31, ys, hX, hbl, hbA, hxs⟩ := hsc L xs rfl
              have hi : InI i := hS.hd
              refine va_sld hx hb hX hbl hbA hSS (in_of h.1.1 h.1.2 hi) hdg ?_
              rw [clampI hi]
              have e1 := hxs i.toNat (by omega)
              have e2 : ys i.toNat = Int32.ofInt (xs i.toNat) := by rw [e1, Int32.ofInt_toInt]
              rw [e2]
              exact nxt _ _ _ h.2 _ _ _ hL (OKs.cons (by rw [e1]; exact i32_in _) hS.tl.tl) hW hSS
            · exact h.elim
        · exact h.elim
      case h_8 =>
        simp only [okE, beq_iff_eq] at hok
        subst hok
        split at h
        · rename_i o t
          split at h
          · exact h.elim
          · rename_i L xs
            split at h
            · rename_i hbo
              have ho : o = 1000 := Nat.eq_of_beq_eq_true hbo
              subst ho
              obtain ⟨hL31, ys, hX, hbl, hbA, hxs⟩ := hsc L xs rfl
              refine va_slen hx hb hX hbl hbA hSS hdg ?_
              rw [← Int32.ofInt_eq_ofNat]
              exact nxt _ _ _ h _ _ _ hL (OKs.cons ⟨by omega, by omega⟩ hS.tl) hW hSS
            · exact h.elim
        · exact h.elim
      case h_9 =>
        simp only [okE, beq_iff_eq] at hok
        subst hok
        split at h
        · exact ll_W hx hb hK hW hS.hd h.1 hdg (fun hi => nxt _ _ _ h.2 _ _ _ hL (OKs.cons hi hS.tl.tl) hW hSS)
        · exact h.elim
      case h_10 =>
        simp only [okE, beq_iff_eq] at hok
        subst hok
        split at h
        · exact is_W hx hb hK hW hSS hS.tl.hd hS.hd h.1 hdg (fun H1 locs1 hW1 hS1 => nxt _ _ _ h.2 _ _ _ hL hS.tl.tl.tl hW1 hS1)
        · exact h.elim
      case h_11 =>
        simp only [okE, beq_iff_eq] at hok
        subst hok
        split at h
        · exact ls_W hx hb hK hW hSS hS.tl.hd hS.hd h.1 hdg (fun H1 locs1 hW1 hS1 => nxt _ _ _ h.2 _ _ _ hL hS.tl.tl.tl hW1 hS1)
        · exact h.elim
      case h_12 =>
        simp only [okE, beq_iff_eq] at hok
        subst hok
        split at h
        · refine lv_idiv hx hb hdg (fun z => h.1 ((of_eq0 hS.hd).mp z)) ?_
          rw [of_div hS.tl.hd hS.hd]
          exact nxt _ _ _ h.2 _ _ _ hL (OKs.cons (w32_in _) hS.tl.tl) hW hSS
        · exact h.elim
      case h_13 =>
        simp only [okE, beq_iff_eq] at hok
        subst hok
        split at h
        · refine lv_irem hx hb hdg (fun z => h.1 ((of_eq0 hS.hd).mp z)) ?_
          rw [of_rem hS.tl.hd hS.hd]
          have hq : InI _ := hS.tl.hd
          exact nxt _ _ _ h.2 _ _ _ hL (OKs.cons (tmod_in hq.1 hq.2 (by decide) (by decide)) hS.tl.tl) hW hSS
        · exact h.elim
      case h_14 =>
        simp only [okE, beq_iff_eq] at hok
        subst hok
        split at h
        · refine lv_ldiv hx hb hdg (fun z => h.1 ((ol_eq hS.hd ⟨by decide, by decide⟩).mp (by rw [ol_0]; exact z))) ?_
          rw [ol_div hS.tl.hd hS.hd]
          exact nxt _ _ _ h.2 _ _ _ hL (OKs.cons (w64_in _) hS.tl.tl) hW hSS
        · exact h.elim
      case h_15 =>
        simp only [okE, beq_iff_eq] at hok
        subst hok
        split at h
        · refine lv_lrem hx hb hdg (fun z => h.1 ((ol_eq hS.hd ⟨by decide, by decide⟩).mp (by rw [ol_0]; exact z))) ?_
          rw [ol_rem hS.tl.hd hS.hd]
          have hq : InL _ := hS.tl.hd
          exact nxt _ _ _ h.2 _ _ _ hL (OKs.cons (tmod_in hq.1 hq.2 (by decide) (by decide)) hS.tl.tl) hW hSS
        · exact h.elim
      case h_16 idx =>
        simp only [okE, beq_iff_eq] at hok
        subst hok
        simp only [okR, Bool.and_eq_true, decide_eq_true_eq, Bool.not_eq_true'] at hokr
        obtain ⟨⟨⟨hml1, ha⟩, hmx⟩, hcx⟩ := hokr
        split at h
        · rename_i x as t hpop
          split at h
          · rename_i hc8
            have hc8 := Nat.le_of_ble_eq_true hc8
            obtain ⟨u, hu1, hu2, hu3⟩ := popN_spec hpop
            have hu : u = as.reverse ++ [x] := by
              have h9 : u.reverse = x :: as := by rw [hu2]; simp
              have h8 := congrArg List.reverse h9
              simpa using h8
            rw [hu] at hu1
            subst hu1
            have hOt : OKs t := hS.app.2
            have hOa : OKs (x :: as) := fun z hz => hS.app.1 z (by
              rcases List.mem_cons.mp hz with rfl | hz
              · exact List.mem_append_right _ List.mem_cons_self
              · exact List.mem_append_left _ (List.mem_reverse.mpr hz))
            have hlen : as.length + 1 = b := by rw [← hu3, hu]; simp
            obtain ⟨o, ci, fts, rfl, hlay, hci, hcall1⟩ := isO_spec h
            have F := mfacts ha
            have hsta : (mxOf a).2.2 = false := hmx.1.1.1
            have hn : as.length = (mxOf a).2.1 := by have h7 : b = (mxOf a).2.1 + 1 := hmx.1.1.2; omega
            have hoc : ci = (mxOf a).1 := hci.trans hmx.1.2
            have C1 := hcall a _ σ _ ha hcall1 H.size
            have hst : ((as.reverse ++ [Sum.inr (Sum.inr o)]) ++ t).map (conc ad) = (as.map (conc ad)).reverse ++ Value.ref (ad o) :: t.map (conc ad) := by simp [conc]
            rw [hst]
            obtain ⟨Cn, T, N, hv, -⟩ := cls_ok (ci := ci) (by rw [hoc]; exact hmx.2)
            have hCn : Cn = (mY a).cls := by rw [F.1, ← hoc]; exact vw_name (by rw [hoc]; exact hmx.2) hv
            subst hCn
            have hrecv := va_recv hK hW.1 hv (ww_get (cI := cI) (cJ := cJ) (ad := ad) (σ := σ) hlay)
            refine call_W (va_runV (C := (mY a).cls) (n := (mxOf a).2.1) (As := as.map (conc ad)) (rest := t.map (conc ad)) ⟨hx, hb, hml, hown, hts⟩ C1 ⟨callB_of (mxOf a).2.1 hts (ws_good ha) rfl rfl rfl (hts _ F.2.2.2.2.2.2.1) (hts _ (ml_in hml1)) ⟨F.2.1, F.2.2.1, F.2.2.2.1⟩ ⟨hR.1, by have := F.2.2.2.2.1; show 8 + (mL a + 11) + 64 * d ≤ R.locals; omega⟩, hts _ (F.2.2.2.2.2.2.2.2 hsta).1, hts _ (F.2.2.2.2.2.2.2.2 hsta).2⟩ ⟨PcA.blind, hrecv, fun U hU hWm => ⟨rfl, by rw [hU], ⟨by rw [hU]; exact hW.1, hW.2.1.weaken (fun _ _ _ _ => trivial), hW.2.2⟩, va_K.moved hWm.alike hK, hOa, hNS.warm hWm⟩⟩ rfl (by rw [List.length_map]; exact hn) hL.1.1 rfl (lv_room (by rw [catS_conc]; exact hc8)) hdg hcs) hSS hAA (fun x σ1 ov H1 locs1 hrv hq hW1 hS1 => ?_)
            have hpu := hrv.push hOt
            rw [← hcx] at hpu
            rw [← hpu.1]
            exact nxt _ _ _ hq _ _ _ hL hpu.2 hW1 hS1
          · exact h.elim
        · exact h.elim
      case h_17 idx =>
        simp only [okE, beq_iff_eq] at hok
        subst hok
        simp only [okR, Bool.and_eq_true, Bool.or_eq_true, decide_eq_true_eq] at hokr
        split at h
        · rename_i hb9
          have ha9 : a = 999 := Nat.eq_of_beq_eq_true hb9
          split at h
          · split at h
            · have hac : ACt.any (fun q => decide (q.2 = (own, idx))) = true := by
                rcases hokr with (h1 | h1) | h1
                · exact h1.2
                · exact absurd (ma_rng h1) (by omega)
                · exact absurd h1.1.1.2 (by omega)
              exact copy_W hx hb hml' hown hts hK hW hSS hac hS.tl.tl.tl.hd hS.tl.hd hS.hd (by omega) (by omega) hdg h (fun σ1 H1 locs1 hk hW1 hS1 => nxt _ _ _ hk _ _ _ hL OKs.nil hW1 hS1)
            · exact h.elim
          · exact h.elim
        · rename_i hb9
          have ha9 : ¬ a = 999 := fun z => by subst z; cases hb9
          split at h
          · rename_i hb990
            have h990 := Nat.le_of_ble_eq_true hb990
            split at h
            · rename_i x t hmc
              split at h
              · rename_i hc8
                have hc8 := Nat.le_of_ble_eq_true hc8
                have hma : MAt.any (fun q => decide (q.2 = (own, idx, a))) = true := by
                  rcases hokr with (h1 | h1) | h1
                  · exact absurd h1.1 ha9
                  · exact h1
                  · exact absurd h1.1.1.2 (by omega)
                exact math_W hx hb hml' hown hts hma (by omega) (by omega) hcs hdg hmc hS hc8 (fun hO => nxt _ _ _ h _ _ _ hL hO hW hSS)
              · exact h.elim
            · exact h.elim
          · rename_i hb990
            have h990 : ¬ 990 ≤ a := fun z => by rw [Nat.ble_eq_true_of_le z] at hb990; cases hb990
            have hc3 : ((MLt.any (fun q => decide (q.2 = (own, idx, a))) = true ∨ NLt.any (fun q => decide (q.2 = (own, idx, a))) = true) ∧ a < 250) ∧ ((mxOf a).2.2 = true ∧ b = (mxOf a).2.1) := by
              rcases hokr with (h1 | h1) | h1
              · exact absurd h1.1 ha9
              · exact absurd (ma_rng h1) (by omega)
              · exact h1.1
            have hcx : cx = rkOf (mR a) := by
              rcases hokr with (h1 | h1) | h1
              · exact absurd h1.1 ha9
              · exact absurd (ma_rng h1) (by omega)
              · exact h1.2
            obtain ⟨⟨hlk, ha⟩, hsta, hbn⟩ := hc3
            split at h
            · rename_i as t hpop
              split at h
              · rename_i hc8
                have hc8 := Nat.le_of_ble_eq_true hc8
                obtain ⟨u, hu1, hu2, hu3⟩ := popN_spec hpop
                have hu : u = as.reverse := by rw [hu2]; simp
                rw [hu] at hu1
                subst hu1
                have hOt : OKs t := hS.app.2
                have hOa : OKs as := fun z hz => hS.app.1 z (List.mem_reverse.mpr hz)
                have hlen : as.length = (mxOf a).2.1 := by rw [← hbn, ← hu3, hu]; simp
                have F := mfacts ha
                have C1 := hcall a _ σ _ ha h H.size
                have hst : (as.reverse ++ t).map (conc ad) = (as.map (conc ad)).reverse ++ t.map (conc ad) := by simp
                rw [hst]
                have hpre1 : PreS s H (PcA D cI cJ ad as σ H.size) (as.map (conc ad)) := ⟨PcA.blind, fun U hU hWm => ⟨rfl, by rw [hU], ⟨by rw [hU]; exact hW.1, hW.2.1.weaken (fun _ _ _ _ => trivial), hW.2.2⟩, va_K.moved hWm.alike hK, hOa, hNS.warm hWm⟩⟩
                have hroom : (rmD d).frames + 1 ≤ R.frames ∧ 8 + (mL a + 11) + (rmD d).locals ≤ R.locals := ⟨hR.1, by have := F.2.2.2.2.1; show 8 + (mL a + 11) + 64 * d ≤ R.locals; omega⟩
                have fin : va_Run p l e R s m args below meth c H locs cells slots 0 0 (F0 m pc jls ((as.map (conc ad)).reverse ++ t.map (conc ad))) (t.map (conc ad)) (QcA D cI cJ ad (rkOf (mR a)) (fun r σ1 => seg sc call full rb Q cut k false tl ls (pushR cx r t) σ1) (AA ad H.size) (as.map (conc ad)).toArray) (AA ad H.size) := by
                  rcases hlk with hlk | hlk
                  · exact va_runS (n := (mxOf a).2.1) (As := as.map (conc ad)) (rest := t.map (conc ad)) ⟨hx, hb, hml, hown, hts⟩ C1 ⟨callB_of (mxOf a).2.1 hts (ws_good ha) rfl rfl rfl (hts _ F.2.2.2.2.2.2.1) (hts _ (ml_in hlk)) ⟨F.2.1, F.2.2.1, F.2.2.2.1⟩ hroom, hts _ (F.2.2.2.2.2.2.2.1 hsta)⟩ hpre1 rfl (by rw [List.length_map]; exact hlen) hL.1.1 rfl (lv_room (by rw [catS_conc]; exact hc8)) hdg hcs
                  · exact va_runSN (n := (mxOf a).2.1) (As := as.map (conc ad)) (rest := t.map (conc ad)) ⟨hx, hb, hml, hown, hts⟩ C1 ⟨va_cnB (mxOf a).2.1 hts (ws_good ha) rfl rfl rfl (nl_in hNS hlk) (hts _ F.2.2.2.2.2.2.1) ⟨F.2.1, F.2.2.1, F.2.2.2.1⟩ hroom, hts _ (F.2.2.2.2.2.2.2.1 hsta), trivial⟩ hpre1 rfl (by rw [List.length_map]; exact hlen) hL.1.1 rfl (lv_room (by rw [catS_conc]; exact hc8)) hdg hcs
                refine call_W fin hSS hAA (fun x σ1 ov H1 locs1 hrv hq hW1 hS1 => ?_)
                have hpu := hrv.push hOt
                rw [← hcx] at hpu
                rw [← hpu.1]
                exact nxt _ _ _ hq _ _ _ hL hpu.2 hW1 hS1
              · exact h.elim
            · exact h.elim
      case h_18 df lo hi offs =>
        simp only [okE, Bool.and_eq_true, decide_eq_true_eq] at hok
        obtain ⟨⟨ht0, hts2⟩, hsz⟩ := hok
        split at h
        · rename_i x t
          have hi1 : InI x := hS.hd
          by_cases hout : x < lo ∨ hi < x
          · exact lv_tableOut hx hb hdg (by rw [i32_id hi1]; exact hout) ht0 (jmp _ _ _ _ (h.1 hout) _ _ _ hL hS.tl hW hSS)
          · have hlo : ¬ x < lo := fun z => hout (Or.inl z)
            have hhi : ¬ hi < x := fun z => hout (Or.inr z)
            have hj : (x - lo).toNat < offs.size := by omega
            have ho : offs[(x - lo).toNat]? = some offs[(x - lo).toNat] := Array.getElem?_eq_getElem hj
            have hlen : ts.length = offs.size := by
              have := congrArg List.length hts2
              simpa using this.symm
            have hj2 : (x - lo).toNat < ts.length := by omega
            have ht1 : ts[(x - lo).toNat]? = some ts[(x - lo).toNat] := List.getElem?_eq_getElem hj2
            have he : (pc : Int) + offs[(x - lo).toNat] = (ts[(x - lo).toNat] : Int) := by
              have h5 : (offs.toList.map (fun o => (pc : Int) + o))[(x - lo).toNat]? = (ts.map (fun (t : Nat) => (t : Int)))[(x - lo).toNat]? := by rw [hts2]
              rw [List.getElem?_map, List.getElem?_map, ht1, Array.getElem?_toList, ho] at h5
              exact Option.some.inj h5
            exact lv_tableIn hx hb hdg (by rw [i32_id hi1]; exact hlo) (by rw [i32_id hi1]; exact hhi) (by rw [i32_id hi1]; exact ho) he (jmp _ _ _ _ (sw_at h.2 ht1 (by omega)) _ _ _ hL hS.tl hW hSS)
        · exact h.elim
      case h_19 =>
        simp only [okE, beq_iff_eq] at hok
        subst hok
        split at h
        · split at h
          · exact hret _ _ _ _ _ _ _ _ ⟨_, hmem, rfl⟩ hdg (Or.inl ⟨rfl, rfl, hS.hd, fun _ => h.1⟩) h.2 hW hSS
          · exact hret _ _ _ _ _ _ _ _ ⟨_, hmem, rfl⟩ hdg (Or.inl ⟨rfl, rfl, hS.hd, fun z => by cases z⟩) h hW hSS
        · exact h.elim
      case h_20 =>
        simp only [okE, beq_iff_eq] at hok
        subst hok
        split at h
        · exact hret _ _ _ _ _ _ _ _ ⟨_, hmem, rfl⟩ hdg (Or.inr (Or.inl ⟨rfl, rfl, hS.hd⟩)) h hW hSS
        · exact h.elim
      case h_21 =>
        simp only [okE, beq_iff_eq] at hok
        subst hok
        split at h
        · exact hret _ _ _ _ _ _ _ _ ⟨_, hmem, rfl⟩ hdg (Or.inr (Or.inr (Or.inl ⟨rfl, _, rfl, rfl⟩))) h hW hSS
        · exact h.elim
      case h_22 =>
        simp only [okE, beq_iff_eq] at hok
        subst hok
        split at h
        · exact hret _ _ _ _ _ _ _ _ ⟨_, hmem, rfl⟩ hdg (Or.inr (Or.inr (Or.inr ⟨rfl, rfl, rfl⟩))) h hW hSS
        · exact h.elim
      case h_23 =>
        split at h
        · rename_i ls1 st1 hp
          refine pure_W hx hb hown hdg hok (fun k hk => ?_) (fun k hk => ?_) hp hL hS (fun jl hL1 hS1 => nxt _ _ _ h _ _ _ hL1 hS1 hW hSS)
          · subst hk
            obtain ⟨q, hq, hq2⟩ := List.any_eq_true.mp hokr
            have eq : q.2 = (own, k, v) := of_decide_eq_true hq2
            exact hts _ (pk_gwl CIt_ok CIt_g (a := (own, k, v)) ⟨q.1, by rw [← eq]; exact hq⟩)
          · subst hk
            obtain ⟨q, hq, hq2⟩ := List.any_eq_true.mp hokr
            have eq : q.2 = (own, k, v) := of_decide_eq_true hq2
            exact hts _ (pk_gwl CLt_ok CLt_g (a := (own, k, v)) ⟨q.1, by rw [← eq]; exact hq⟩)
        · exact h.elim
end SG
