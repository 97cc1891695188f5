-- THE CONSTRUCTORS, 3: a run of the closed machine is a run of the machine
section CM
variable {p : Program} {l : Launch} {e : Env} {R : Room} {s : State} {m : MethodId} {args : Array Value} {below : List Frame} {meth : Method} {c : Code} {Qs : State → Prop}
variable {D : va_G} {cI cJ : ClassId} {ad : Nat → Nat} {B : Nat} {H0 : Heap} {cc : ByteArray}
theorem ctfacts {i : Nat} (h : i < 9) : (ctY i).cls = clsN i ∧ Jvm.plainName (ctY i).cls = true ∧ (ctY i).cls ≠ "java/lang/invoke/MethodHandle" ∧ (ctY i).cls ≠ "java/lang/invoke/VarHandle" ∧ (ctY i).name = "<init>" ∧ ctL i ≤ 40 ∧ (ccOf i).all (chC i (ctL i) (ctB i)) = true ∧ seqC (ccOf i) = true ∧ (ccOf i).head?.map (fun e => e.1) = some 0 := by
  have h1 := List.all_eq_true.mp ctchk_ok i (List.mem_range.mpr h)
  simp only [ctchk, Bool.and_eq_true, decide_eq_true_eq] at h1
  obtain ⟨⟨⟨⟨⟨⟨⟨⟨a1, a2⟩, a3⟩, a4⟩, a5⟩, a6⟩, a7⟩, a8⟩, a9⟩ := h1
  exact ⟨a1, a2, a3, a4, a5, a6, a7, a8, a9⟩
theorem ct_good {i : Nat} (h : i < 9) : GoodIn gwl (ctw i :: gwl) := fun w hw => by
  rcases List.mem_cons.mp hw with rfl | hw
  · exact gwl_good _ (ctw_in h)
  · exact gwl_good _ hw
theorem cget_spec {cs : List CC} {o k ci : Nat} {v : AV} (h : cget cs o k ci = some v) : ∃ fs, cs[o]? = some (.inr (.inr (ci, fs))) ∧ fs[k]? = some (some v) ∧ OKv v := by
  unfold cget at h
  split at h
  · rename_i c1 fs hc
    split at h
    · rename_i hb
      split at h
      · rename_i v2 hf
        cases h
        rw [Nat.eq_of_beq_eq_true hb] at hc
        exact ⟨fs, hc, hf, trivial⟩
      · cases h
    · cases h
  · cases h
theorem cset_spec {cs cs1 : List CC} {o k ci : Nat} {v : AV} (h : cset cs o k ci v = some cs1) : ∃ fs, cs[o]? = some (.inr (.inr (ci, fs))) ∧ k < fs.length ∧ cs1 = cs.set o (.inr (.inr (ci, fs.set k (some v)))) := by
  unfold cset at h
  split at h
  · rename_i c1 fs hc
    split at h
    · rename_i hb
      simp only [Bool.and_eq_true, decide_eq_true_eq] at hb
      cases h
      rw [Nat.eq_of_beq_eq_true hb.1] at hc ⊢
      exact ⟨fs, hc, hb.2, rfl⟩
    · cases h
  · cases h
/-- behind a constructor's call -/
theorem ccall_W {H : Heap} {locs : List Loc} {cells slots pc mc ms : Nat} {jls : Array Slot} {rest st0 : List Value} {a : Array Value} {cs1 : List CC} (hr : va_Run p l e R s m args below meth c H locs cells slots mc ms (F0 m pc jls st0) rest (QcC D cI cJ ad B cs1 a) (fun q => B ≤ q)) (hS : va_S (fun q => B ≤ q) H0 H locs)
    (kk : ∀ H1 locs1, CR D cI cJ ad B cs1 H1 → va_S (fun q => B ≤ q) H0 H1 locs1 → W p l e R s m args below meth c H1 locs1 (cells + mc) (slots + ms) Qs (F0 m (pc + 3) jls rest)) : W p l e R s m args below meth c H locs cells slots Qs (F0 m pc jls st0) := by
  intro T hT X
  obtain ⟨v, st₀, t, T', L, h0, X', hL, e1, e2, ⟨⟨hv, hP⟩, hz, hk⟩, st⟩ := hr T hT X
  cases hv
  rw [h0] at hz hk
  obtain ⟨t2, a1, b1⟩ := kk T'.heap (locs ++ L) (by rw [e1]; exact hP)
    ⟨Nat.le_trans hS.1 (by rw [e1]; exact hz), fun q h1 h2 => by rw [e1, hk q (Nat.lt_of_lt_of_le h1 hS.1) h2]; exact hS.2.1 q h1 h2, fun q hq => by
      rcases List.mem_append.mp hq with h | h
      · exact hS.2.2 q h
      · exact hL q h⟩ T' rfl X'
  exact ⟨t2, st t2 a1, b1⟩
theorem declF_spec {b a : Nat} {C : String} {T : u_T} {N : Nat} (hv : vwCl[b]? = some (C, T, N)) (h : declF b a = true) : (T a).1 = clsN b ∧ a < N := by
  unfold declF at h
  rw [hv] at h
  simp only [Bool.and_eq_true, decide_eq_true_eq] at h
  exact h
theorem cpf_W {H : Heap} {locs : List Loc} {cells slots pc own idx a o x : Nat} {jls : Array Slot} {rest : List Value} {cs : List CC} {fs : List (Option AV)}
    (hx : p.tables.exec = Jvm.exec) (hb : c.code = cc) (hown : s.vm.findClass (clsN own) = some m.cls) (hts : ∀ w ∈ gwl, w.before args s = true) (hK : va_K D vwCl (tyIJ cI cJ) s) (had : ∀ k, k < 1000 → ad k = B + k) (hlen : cs.length ≤ 1000) (hC : CR D cI cJ ad B cs H) (hS : va_S (fun q => B ≤ q) H0 H locs)
    (h9 : own < 9) (hfl : FC2.any (fun q => decide (q.2 = (own, idx, own, a))) = true) (hfi : finF own a = true) (hde : declF own a = true) (hrt : refTy (tyOf own a) = true) (hname : meth.name = "<init>") (hg : cs[o]? = some (.inr (.inr (own, fs)))) (hal : a < fs.length) (hdg : decode cc pc = .ok (.putfield idx, 3))
    (kk : ∀ H1 locs1, CR D cI cJ ad B (cs.set o (.inr (.inr (own, fs.set a (some (.inr (.inr x))))))) H1 → va_S (fun q => B ≤ q) H0 H1 locs1 → W p l e R s m args below meth c H1 locs1 cells slots Qs (F0 m (pc + 3) jls rest)) : W p l e R s m args below meth c H locs cells slots Qs (F0 m pc jls (.ref (ad x) :: .ref (ad o) :: rest)) := by
  obtain ⟨C, T, N, hv, hin, hty, hnm⟩ := cls_ok h9
  have hCn : C = clsN own := vw_name h9 hv
  subst hCn
  obtain ⟨hdecl, haN⟩ := declF_spec hv hde
  have hfw : flw (own, idx, own, a) = .fieldLink (clsN own) idx (T a).1 (T a).2.1 (T a).2.2.1 := by
    unfold flw
    simp only [hv]
  have hw := pk_gwl FC2_ok FC2_g (any_q hfl)
  rw [hfw] at hw
  have hfin2 : (T a).2.2.2 = true := by
    unfold finF at hfi
    rw [hv] at hfi
    exact hfi
  have hap := va_apart (own := clsN own) hts hin (tyOf own) hty hnm hK hv
  obtain ⟨r, h1, cell, q1, q2, q3, q4⟩ := hC.1 o _ (cw_get hg)
  have hr : r = (clsN own, T, N) := Option.some.inj (h1.symm.trans hv)
  subst hr
  obtain ⟨hSl, hfc, kC, hkC, hkind⟩ := hK.1 own _ hv
  obtain ⟨cf, kf, fi, f, hi, hsl⟩ := hSl a haN
  have hlay := hts _ (hin _ (u_in_lay haN))
  unfold u_lay at hlay
  rw [if_pos hfin2] at hlay
  have hst := (u_facts hfc hkC (u_lays hts hin haN) hi).1
  have hcf : m.cls = cf := by
    obtain ⟨_, _, c', _, _, _, -, -, hf', -, -, -, hown2, -⟩ := Cond.laysFinal_spec hlay
    have e1 : c' = cf := by
      have := hi.symm.trans hf'
      simp at this
      exact this.1.symm
    rw [hdecl] at hown2
    rw [← e1]
    exact Option.some.inj (hown.symm.trans hown2)
  have hval : narrow (tyOf own a) (.ref (ad x)) = .ref (ad x) ∧ fits (tyOf own a) (.ref (ad x)) = true := by
    unfold refTy at hrt
    split at hrt
    · rename_i hh; rw [hh]; exact ⟨rfl, rfl⟩
    · rename_i hh; rw [hh]; exact ⟨rfl, rfl⟩
    · cases hrt
  have h6 := u_fits hfc hkC hkind (Or.inr hlay) hi (hty a haN) hval.1 hval.2
  refine W.putFinK hx hb hown (hts _ hw) hi hst hcf hname (by rw [q2]; exact h6) q1 q3 (by rw [hsl]; exact k2_hasslot (q4 a haN)) rfl rfl hdg fun H1 e1 e2 e3 => ?_
  rw [hsl] at e1
  have hD := cw_D (cI := cI) (cJ := cJ) (cs := cs) had hlen
  have hoB : B ≤ ad o := hD.2 o _ (cw_get hg)
  refine kk H1 _ ⟨?_, by rw [e2, hC.2, List.length_set]⟩ (hS.put (k := f.slot) e2 e3 hoB)
  rw [← cwl_set hg]
  refine hC.1.set hD (cw_get hg) ⟨_, hv, t_OB.to (V := updV (vp_V (fs.map (cvl ad))) a (.ref (ad x))) ⟨_, e1, q2, q3, t_set q4 hap haN (.ref (ad x))⟩ (fun j _ => ?_)⟩ e3
  rw [vp_updV_set (by rw [List.length_map]; exact hal), List.map_set]
  rfl
theorem mcnc_rng {own idx a : Nat} (h : MCt.any (fun q => decide (q.2 = (own, idx, a))) = true ∨ NCt.any (fun q => decide (q.2 = (own, idx, a))) = true) : a < 9 := by
  have hall : (MCt ++ NCt).all (fun q => decide (q.2.2.2 < 9)) = true := by decide +kernel
  have key : ∀ t : List (Nat × (Nat × Nat × Nat)), (∀ q ∈ t, q ∈ MCt ++ NCt) → t.any (fun q => decide (q.2 = (own, idx, a))) = true → a < 9 := by
    intro t ht hh
    obtain ⟨q, hq, hq2⟩ := List.any_eq_true.mp hh
    have eq : q.2 = (own, idx, a) := of_decide_eq_true hq2
    have h2 := of_decide_eq_true (List.all_eq_true.mp hall q (ht q hq))
    rw [eq] at h2
    exact h2
  rcases h with h | h
  · exact key MCt (fun q hq => List.mem_append_left _ hq) h
  · exact key NCt (fun q hq => List.mem_append_right _ hq) h
theorem nc_in {u : State} (hN : NS2 u) {own idx a : Nat} (h : NCt.any (fun q => decide (q.2 = (own, idx, a))) = true) : va_Nw (.methodLinkNest (clsN own) idx (ctY a) "ShowRoom") u := by
  obtain ⟨q, hq, hq2⟩ := List.any_eq_true.mp h
  have eq : q.2 = (own, idx, a) := of_decide_eq_true hq2
  have := hN q hq
  rw [eq] at this
  exact this
theorem okC_pure {own nL pc len a b cx : Nat} {mask : Option (List Nat)} {ins : Instr} {v : Int} {ts : List Nat} (h : okC own nL (pc, mask, ins, len, a, b, cx, v, ts) = true) (n1 : ∀ t, ins = .newarray t → False) (n2 : ∀ t, ins = .new t → False) (n3 : ∀ t, ins = .putfield t → False) (n4 : ∀ t, ins = .getfield t → False) (n5 : ∀ t, ins = .invokespecial t → False) (n6 : ins = .return_ → False) : okE nL (pc, mask, ins, len, a, b, cx, v, ts) = true ∧ (∀ k, ins ≠ .ldc_w k) ∧ ∀ k, ins ≠ .ldc2_w k := by
  unfold okC at h
  dsimp only at h
  split at h
  case h_1 => exact (n1 _ rfl).elim
  case h_2 => exact (n2 _ rfl).elim
  case h_3 => exact (n3 _ rfl).elim
  case h_4 => exact (n4 _ rfl).elim
  case h_5 => exact (n5 _ rfl).elim
  case h_6 => exact (n6 rfl).elim
  case h_7 => cases h
  case h_8 => cases h
  case h_9 m1 m2 m3 m4 m5 m6 m7 m8 => exact ⟨h, fun k z => m7 k z, fun k z => m8 k z⟩
set_option maxHeartbeats 8000000 in
theorem crun_W {call : Nat → List AV → List CC → Option (List CC)} {fin : Bool} {mc ms own nL d pcE : Nat} {full : List En} {S1 : CS}
    (hx : p.tables.exec = Jvm.exec) (hb : c.code = cc) (hml : c.maxLocals = nL) (hown : s.vm.findClass (clsN own) = some m.cls) (hts : ∀ w ∈ gwl, w.before args s = true) (hNS : NS2 s) (hK : va_K D vwCl (tyIJ cI cJ) s)
    (had : ∀ k, k < 1000 → ad k = B + k) (hB : H0.size ≥ B) (hname : fin = true → meth.name = "<init>") (hR : d + 1 ≤ R.frames ∧ 64 * d + 64 ≤ R.locals) (hRc : mc ≤ R.cells ∧ ms ≤ R.slots)
    (hlen0 : ∀ a as cs cs1, call a as cs = some cs1 → cs1.length = cs.length + ctC a)
    (hcall : ∀ a as cs cs1, a < 9 → call a as cs = some cs1 → cs.length + ctC a ≤ 1000 → CtC l D cI cJ ad B d a as cs cs1)
    (hfull : full.all (chC own nL cc) = true) (hseq : seqC full = true) (hE : ∀ pre en, full = pre ++ [en] → fin = false → pcE = en.1 + en.2.2.2.1)
    (hfin : ∀ (pc : Nat) (jls : Array Slot) (H : Heap) (locs : List Loc), LR ad nL S1.1 jls → OKs S1.2.1 → CR D cI cJ ad B S1.2.2.1 H → va_S (fun q => B ≤ q) H0 H locs → (fin = true → decode cc pc = .ok (.return_, 1) ∧ S1.2.1 = []) → (fin = false → pc = pcE) → W p l e R s m args below meth c H locs S1.2.2.2.1 S1.2.2.2.2 Qs (F0 m pc jls (S1.2.1.map (conc ad)))) :
    ∀ (es : List En) (ls : Lo) (st : List AV) (cs : List CC) (kc ks : Nat), crun call fin mc ms es (ls, st, cs, kc, ks) = some S1 → (∃ pre, full = pre ++ es) → cs.length + (mc - kc) ≤ 1000 → kc ≤ mc → ∀ (pc : Nat) (jls : Array Slot) (H : Heap) (locs : List Loc), LR ad nL ls jls → OKs st → CR D cI cJ ad B cs H → va_S (fun q => B ≤ q) H0 H locs → (∀ en tl, es = en :: tl → pc = en.1) → (es = [] → fin = false → pc = pcE) → W p l e R s m args below meth c H locs kc ks Qs (F0 m pc jls (st.map (conc ad)))
  | [], ls, st, cs, kc, ks, h, _, _, _, pc, jls, H, locs, hL, hS, hC, hSS, _, hp => by
    unfold crun at h
    split at h
    · cases h
    · rename_i hf
      cases h
      exact hfin pc jls H locs hL hS hC hSS (fun z => by cases z) (fun _ => hp rfl rfl)
  | (pc0, mask, ins, len, a, b, cx, v, ts) :: rest, ls, st, cs, kc, ks, h, hpre, hl1, hkc, pc, jls, H, locs, hL, hS, hC, hSS, hp, hpE => by
    have hpc := hp _ _ rfl
    have hpc : pc = pc0 := hpc
    subst hpc
    obtain ⟨pre, hpre⟩ := hpre
    have hmem : ((pc, mask, ins, len, a, b, cx, v, ts) : En) ∈ full := by rw [hpre]; exact List.mem_append_right _ List.mem_cons_self
    have hchk := List.all_eq_true.mp hfull _ hmem
    simp only [chC, Bool.and_eq_true, decide_eq_true_eq] at hchk
    obtain ⟨hdg, hok⟩ := hchk
    have nxt : ∀ (ls1 : Lo) (st1 : List AV) (cs1 : List CC) (kc1 ks1 : Nat), crun call fin mc ms rest (ls1, st1, cs1, kc1, ks1) = some S1 → cs1.length + (mc - kc1) ≤ 1000 → kc1 ≤ mc → ∀ (jl : Array Slot) (H1 : Heap) (locs1 : List Loc), LR ad nL ls1 jl → OKs st1 → CR D cI cJ ad B cs1 H1 → va_S (fun q => B ≤ q) H0 H1 locs1 → W p l e R s m args below meth c H1 locs1 kc1 ks1 Qs (F0 m (pc + len) jl (st1.map (conc ad))) := by
      intro ls1 st1 cs1 kc1 ks1 h1 h2 h2b jl H1 locs1 a1 a2 a3 a4
      refine crun_W hx hb hml hown hts hNS hK had hB hname hR hRc hlen0 hcall hfull hseq hE hfin rest ls1 st1 cs1 kc1 ks1 h1 ⟨pre ++ [(pc, mask, ins, len, a, b, cx, v, ts)], by rw [hpre]; simp⟩ h2 h2b (pc + len) jl H1 locs1 a1 a2 a3 a4 (fun en tl he => ?_) (fun he hf => ?_)
      · subst he
        exact (seqC_at hseq hpre).symm
      · subst he
        exact (hE pre _ hpre hf).symm
    unfold crun at h
    split at h
    · rename_i t
      simp only [okC, beq_iff_eq] at hok
      subst hok
      split at h
      · rename_i n u
        split at h
        · rename_i hd
          obtain ⟨d1, d2, d3, d4⟩ := of_decide_eq_true hd
          split at h
          · refine cna_W (x := .inl n.toNat) (cA := cI) (ty := .int) (t0 := 0) hx hb hts hK had (by omega) hC hB hSS rfl (ar0_in (by simp [AR0])) rfl rfl (fun _ z => z) (fun cB hcB => ⟨(n.toNat, .inl (fun _ => Int32.ofInt 0)), by rw [hcB]; rfl, fun c2 => rfl⟩) d1 d2 (by decide) (by omega) (by omega) hdg (fun H1 hC1 hS1 => ?_)
            exact nxt _ _ _ _ _ h (by simp; omega) d3 _ _ _ hL (OKs.cons trivial hS.tl) hC1 hS1
          · refine cna_W (x := .inr (.inl n.toNat)) (cA := cJ) (ty := .long) (t0 := 1) hx hb hts hK had (by omega) hC hB hSS rfl (ar0_in (by simp [AR0])) rfl rfl (fun _ z => z) (fun cB hcB => ⟨(n.toNat, .inr (.inl (fun _ => Int64.ofInt 0))), by rw [hcB]; rfl, fun c2 => rfl⟩) d1 d2 (by decide) (by omega) (by omega) hdg (fun H1 hC1 hS1 => ?_)
            exact nxt _ _ _ _ _ h (by simp; omega) d3 _ _ _ hL (OKs.cons trivial hS.tl) hC1 hS1
          · cases h
        · cases h
      · cases h
    · rename_i idx
      simp only [okC, Bool.and_eq_true, beq_iff_eq] at hok
      obtain ⟨rfl, hck⟩ := hok
      split at h
      · rename_i hd
        obtain ⟨d1, d3, d4⟩ := of_decide_eq_true hd
        refine cno_W hx hb hown hts hK had (by omega) hC hSS d1 hck (by omega) (by omega) hdg (fun H1 hC1 hS1 => ?_)
        exact nxt _ _ _ _ _ h (by simp; omega) d3 _ _ _ hL (OKs.cons trivial hS) hC1 hS1
      · cases h
    · rename_i idx
      simp only [okC, Bool.and_eq_true, beq_iff_eq, decide_eq_true_eq] at hok
      obtain ⟨⟨⟨⟨⟨⟨rfl, hfl⟩, hfi⟩, rfl⟩, h9⟩, hde⟩, hrt⟩ := hok
      split at h
      · rename_i x o u
        split at h
        · rename_i cs1 hc1
          obtain ⟨fs, g1, g2, rfl⟩ := cset_spec hc1
          exact cpf_W hx hb hown hts hK had (by omega) hC hSS h9 hfl hfi hde hrt (hname rfl) g1 g2 hdg (fun H1 locs1 hC1 hS1 => nxt _ _ _ _ _ h (by rw [List.length_set]; exact hl1) hkc _ _ _ hL hS.tl.tl hC1 hS1)
        · cases h
      · cases h
    · rename_i idx
      simp only [okC, Bool.and_eq_true, beq_iff_eq, decide_eq_true_eq] at hok
      obtain ⟨⟨⟨rfl, hfl⟩, h9⟩, hde⟩ := hok
      split at h
      · rename_i o u
        split at h
        · rename_i x hc1
          obtain ⟨fs, g1, g2, g3⟩ := cget_spec hc1
          obtain ⟨C, T, N, hv, hin, hty, hnm⟩ := cls_ok h9
          obtain ⟨hdecl, haN⟩ := declF_spec hv hde
          have hfw : flw (own, idx, b, a) = .fieldLink (clsN own) idx (T a).1 (T a).2.1 (T a).2.2.1 := by
            unfold flw
            simp only [hv]
          have hw := pk_gwl FC2_ok FC2_g (any_q hfl)
          rw [hfw] at hw
          refine va_get hx hb hts hin hown hK hC.1 o (cw_get g1) hv a haN (hts _ hw) (fun _ h9 => h9) (v := conc ad x) (by rw [List.getElem?_map, g2]; rfl) hdg ?_
          exact nxt _ _ _ _ _ h hl1 hkc _ _ _ hL (OKs.cons g3 hS.tl) hC hSS
        · cases h
      · cases h
    · rename_i idx
      simp only [okC, Bool.and_eq_true, Bool.or_eq_true, beq_iff_eq, decide_eq_true_eq] at hok
      obtain ⟨rfl, hok⟩ := hok
      split at h
      · rename_i hb9
        have ha9 : a = 998 := Nat.eq_of_beq_eq_true hb9
        split at h
        · rename_i o u
          split at h
          · rename_i hc8
            have hc8 := Nat.le_of_ble_eq_true hc8
            have hob : OBt.any (fun q => decide (q.2 = (own, idx))) = true := by
              rcases hok with h1 | h1
              · exact h1.2
              · exact absurd (mcnc_rng h1.1.1) (by omega)
            refine W.objInit hx hb hown (hts _ (pk_gwl OBt_ok OBt_g (any_q hob))) (hts _ (ar0_in (by simp [AR0]))) (hts _ ob_code) rfl (by rw [hml]; exact hL.1.1) rfl hdg (by omega) ?_ ?_
            · show 2 * 0 + ((u.map (conc ad)).map fun v => v.category).sum + 12 ≤ R.locals
              rw [catS_conc]
              omega
            · exact nxt _ _ _ _ _ h hl1 hkc _ _ _ hL hS.tl hC hSS
          · cases h
        · cases h
      · rename_i hb9
        have ha9 : ¬ a = 998 := fun z => by subst z; cases hb9
        obtain ⟨hlk, hdesc, hb0⟩ : ((MCt.any (fun q => decide (q.2 = (own, idx, a))) = true ∨ NCt.any (fun q => decide (q.2 = (own, idx, a))) = true)) ∧ (parseMethodDescriptor (ctY a).desc).map (fun d => d.parameters.length) = some (b - 1) ∧ 0 < b := by
          rcases hok with h1 | h1
          · exact absurd h1.1 ha9
          · exact ⟨h1.1.1, h1.1.2, h1.2⟩
        split at h
        · rename_i x as t hpop
          split at h
          · rename_i hd
            obtain ⟨d1, d2, d3, d4⟩ := of_decide_eq_true hd
            split at h
            · rename_i cs1 hc1
              obtain ⟨u, hu1, hu2, hu3⟩ := popN_spec hpop
              have hu : u = as.reverse ++ [.inr (.inr x)] := by
                have h9 : u.reverse = .inr (.inr x) :: as := by rw [hu2]; simp
                have h8 := congrArg List.reverse h9
                simpa using h8
              rw [hu] at hu1
              subst hu1
              have hOt : OKs t := hS.app.2
              have hOa : OKs (.inr (.inr x) :: as) := fun z hz => hS.app.1 z (by
                rcases List.mem_cons.mp hz with rfl | hz
                · exact List.mem_append_right _ List.mem_cons_self
                · exact List.mem_append_left _ (List.mem_reverse.mpr hz))
              have hlen : as.length = b - 1 := by
                have : u.length = as.length + 1 := by rw [hu]; simp
                omega
              have F := ctfacts d1
              have C1 := hcall a _ cs cs1 d1 hc1 (by omega)
              have hcl := hlen0 _ _ _ _ hc1
              have hst : ((as.reverse ++ [Sum.inr (Sum.inr x)]) ++ t).map (conc ad) = (as.map (conc ad)).reverse ++ Value.ref (ad x) :: t.map (conc ad) := by simp [conc]
              rw [hst]
              obtain ⟨w1, w2, w3⟩ := ct_words d1
              have hini : (Cond.initialized (ctY a).cls).before args s = true := by rw [F.1]; exact hts _ w3
              have hpre1 : PreS s H (PcC D cI cJ ad B (.inr (.inr x) :: as) cs) (.ref (ad x) :: as.map (conc ad)) := ⟨PcC.blind, fun U hU hWm => ⟨rfl, ⟨by rw [hU]; exact hC.1, by rw [hU]; exact hC.2⟩, va_K.moved hWm.alike hK, hOa, hNS.warm hWm⟩⟩
              have hroom : (rmC d a).frames + 1 ≤ R.frames ∧ 8 + (ctL a + 11) + (rmC d a).locals ≤ R.locals := ⟨hR.1, by have := F.2.2.2.2.2.1; show 8 + (ctL a + 11) + 64 * d ≤ R.locals; omega⟩
              have fin9 : va_Run p l e R s m args below meth c H locs kc ks (ctC a) (ctS a) (F0 m pc jls ((as.map (conc ad)).reverse ++ Value.ref (ad x) :: t.map (conc ad))) (t.map (conc ad)) (QcC D cI cJ ad B cs1 (Value.ref (ad x) :: as.map (conc ad)).toArray) (fun q => B ≤ q) := by
                rcases hlk with hlk | hlk
                · exact va_runI (n := b - 1) (As := as.map (conc ad)) (rest := t.map (conc ad)) ⟨hx, hb, hml, hown, hts⟩ C1 ⟨callB_of (b - 1) hts (ct_good d1) rfl rfl rfl hini (hts _ (pk_gwl MCt_ok MCt_g (any_q hlk))) ⟨F.2.2.1, F.2.2.2.1, hdesc⟩ hroom, F.2.2.2.2.1, hts _ w2⟩ hpre1 rfl (by rw [List.length_map]; exact hlen) hL.1.1 rfl (lv_room (by rw [catS_conc]; exact d2)) hdg ⟨by omega, by omega⟩
                · exact va_runIN (n := b - 1) (As := as.map (conc ad)) (rest := t.map (conc ad)) ⟨hx, hb, hml, hown, hts⟩ C1 ⟨va_cnB (host := "ShowRoom") (b - 1) hts (ct_good d1) rfl rfl rfl (nc_in hNS hlk) hini ⟨F.2.2.1, F.2.2.2.1, hdesc⟩ hroom, F.2.2.2.2.1, hts _ w2⟩ hpre1 rfl (by rw [List.length_map]; exact hlen) hL.1.1 rfl (lv_room (by rw [catS_conc]; exact d2)) hdg ⟨by omega, by omega⟩
              refine ccall_W fin9 hSS (fun H1 locs1 hC1 hS1 => ?_)
              exact nxt _ _ _ _ _ h (by omega) (by omega) _ _ _ hL hOt hC1 hS1
            · cases h
          · cases h
        · cases h
    · split at h
      · cases h
        simp only [okC, beq_iff_eq] at hok
        subst hok
        exact hfin pc jls H locs hL hS hC hSS (fun _ => ⟨hdg, rfl⟩) (fun z => by cases z)
      · cases h
    · split at h
      · rename_i n1 n2 n3 n4 n5 n6 xx ls1 st1 hp1
        have hok2 : okE nL (pc, mask, ins, len, a, b, cx, v, ts) = true ∧ (∀ k, ins ≠ .ldc_w k) ∧ ∀ k, ins ≠ .ldc2_w k := okC_pure hok n1 n2 n3 n4 n5 n6
        exact pure_W hx hb hown hdg hok2.1 (fun k z => absurd z (hok2.2.1 k)) (fun k z => absurd z (hok2.2.2 k)) hp1 hL hS (fun jl hL1 hS1 => nxt _ _ _ _ _ h hl1 hkc _ _ _ hL1 hS1 hC hSS)
      · cases h
end CM
