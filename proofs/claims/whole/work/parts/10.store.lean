-- THE SMALL MACHINE IS TRUE, 3: stores, arrays, copies, Math, branches
section GW
variable {p : Program} {l : Launch} {e : Env} {R : Room} {s : State} {m : MethodId} {args : Array Value} {below : List Frame} {meth : Method} {c : Code} {H : Heap} {locs : List Loc} {cells slots : Nat} {Qs : State → Prop}
variable {D : va_G} {cI cJ : ClassId} {ad : Nat → Nat} {A : Nat → Prop} {H0 : Heap} {cc : ByteArray} {jls : Array Slot} {rest : List Value} {pc : Nat} {σ : Mem}
theorem flds_set {k : Nat} {o : Nat} {x : Int} {fts : List Nat} {ft : Nat} (hft : fts[k]? = some ft) : (flds ad σ o 0 fts).set k (fval ad ft x) = flds ad (mset σ o k x) o 0 fts := by
  apply List.ext_getElem?
  intro j
  have hl : k < (flds ad σ o 0 fts).length := by
    have : (flds ad σ o 0 fts)[k]? = some (fval ad ft (σ o k)) := by rw [flds_get, hft, Nat.zero_add]; rfl
    exact (List.getElem?_eq_some_iff.mp this).1
  by_cases hj : j = k
  · subst hj
    rw [List.getElem?_set_self hl, flds_get, hft, Nat.zero_add]
    simp [mset]
  · rw [List.getElem?_set_ne (Ne.symm hj), flds_get, flds_get, Nat.zero_add]
    simp [mset, hj]
theorem pf_W (hx : p.tables.exec = Jvm.exec) (hb : c.code = cc) {own idx k ci o : Nat} (hown : s.vm.findClass (clsN own) = some m.cls) (hts : ∀ w ∈ gwl, w.before args s = true) (hK : va_K D vwCl (tyIJ cI cJ) s)
    (hW : WH D cI cJ ad A σ H) (hS : va_S A H0 H locs) (hfl : FLt.any (fun q => decide (q.2 = (own, idx, ci, k))) = true) (hfi : finF ci k = false) (hdg : decode cc pc = .ok (.putfield idx, 3)) {v : AV} (hv0 : OKv v) {K : Mem → Prop} (h : putF σ o k ci v K)
    (kk : ∀ σ1 H1 locs1, K σ1 → WH D cI cJ ad A σ1 H1 → va_S A H0 H1 locs1 → W p l e R s m args below meth c H1 locs1 cells slots Qs (F0 m (pc + 3) jls rest)) : W p l e R s m args below meth c H locs cells slots Qs (F0 m pc jls (conc ad v :: .ref (ad o) :: rest)) := by
  obtain ⟨q, hq, hq2⟩ := List.any_eq_true.mp hfl
  have eq : q.2 = (own, idx, ci, k) := of_decide_eq_true hq2
  have hw := pk_gwl FLt_ok FLt_g (a := (own, idx, ci, k)) ⟨q.1, by rw [← eq]; exact hq⟩
  unfold putF at h
  split at h
  · rename_i c0 fts hlc
    split at h
    · rename_i hb1
      have hci : c0 = ci := Nat.eq_of_beq_eq_true hb1
      subst hci
      have hlay := lay_r hlc
      obtain ⟨h9, hlen, hftok⟩ := lay_obj hlay
      obtain ⟨C, T, N, hv, hin, hty, hnm⟩ := cls_ok h9
      have hN := hlen C T N hv
      have hfw : flw (own, idx, c0, k) = .fieldLink (clsN own) idx (T k).1 (T k).2.1 (T k).2.2.1 := by
        unfold flw
        simp only [hv]
      rw [hfw] at hw
      have hfin : (T k).2.2.2 = false := by
        unfold finF at hfi
        rw [hv] at hfi
        exact hfi
      have key : ∀ (ft : Nat) (x : Int), fts[k]? = some ft → fval ad ft x = conc ad v → narrow (tyOf c0 k) (conc ad v) = conc ad v → fits (tyOf c0 k) (conc ad v) = true → ((ft = 0 ∨ ft = 2 → InI x) ∧ (ft = 1 → InL x)) → K (mset σ o k x) → W p l e R s m args below meth c H locs cells slots Qs (F0 m pc jls (conc ad v :: .ref (ad o) :: rest)) := by
        intro ft x hg hval hnar hfit hrg hKx
        have hk : k < N := by rw [← hN]; exact (List.getElem?_eq_some_iff.mp hg).1
        refine va_put hx hb hts hin (tyOf c0) hty hnm hown hK hW.1 hW.2.1 hS o (ww_get hlay) hv k hk (hts _ hw) (fun _ h9 => h9) hfin (hty k hk) hnar hfit ?_ hdg (fun H1 locs1 hP1 hD1 hS1 => ?_)
        · have : (flds ad σ o 0 fts)[k]? = some (fval ad ft (σ o k)) := by rw [flds_get, hg, Nat.zero_add]; rfl
          exact (List.getElem?_eq_some_iff.mp this).1
        · have es : (ww cI cJ ad σ).set o (ad o, .inr (c0, (flds ad σ o 0 fts).set k (conc ad v))) = ww cI cJ ad (mset σ o k x) := by
            refine ww_set hlay (fun k hk => mset_off k hk) ?_
            show _ = Sum.inr (c0, flds ad (mset σ o k x) o 0 fts)
            rw [← hval, flds_set hg]
          rw [es] at hP1 hD1
          refine kk _ H1 locs1 hKx ⟨hP1, hD1, WT_mset hW.2.2 fun c1 hc1 => ?_⟩ hS1
          rw [hlay] at hc1
          cases hc1
          intro ft2 hf2
          rw [hg] at hf2
          cases hf2
          exact hrg
      split at h
      · rename_i x
        split at h
        · rename_i hft
          have hg := lnth_get hft (by decide)
          have ht := hftok k 0 hg
          have ht : tyOf c0 k = .int := of_decide_eq_true ht
          exact key 0 x hg rfl (by rw [ht]; rfl) (by rw [ht]; rfl) ⟨fun _ => hv0, fun z => absurd z (by decide)⟩ h
        · rename_i hft
          have hg := lnth_get hft (by decide)
          have ht := hftok k 2 hg
          have ht : tyOf c0 k = .boolean := of_decide_eq_true ht
          rcases h.1 with rfl | rfl
          · exact key 2 0 hg rfl (by rw [ht]; rfl) (by rw [ht]; rfl) ⟨fun _ => hv0, fun z => absurd z (by decide)⟩ h.2
          · exact key 2 1 hg rfl (by rw [ht]; rfl) (by rw [ht]; rfl) ⟨fun _ => hv0, fun z => absurd z (by decide)⟩ h.2
        · exact h.elim
      · rename_i x
        split at h
        · rename_i hft
          have hg := lnth_get hft (by decide)
          have ht := hftok k 1 hg
          have ht : tyOf c0 k = .long := of_decide_eq_true ht
          exact key 1 x hg rfl (by rw [ht]; rfl) (by rw [ht]; rfl) ⟨fun z => absurd z (by decide), fun _ => hv0⟩ h
        · exact h.elim
      · exact h.elim
    · exact h.elim
  · exact h.elim
theorem InA.lay {o : Nat} {i : Int} (h : InA o i) : ∃ n : Nat, layL[o]? = some (.inl n) ∧ 0 ≤ i ∧ i < (n : Int) ∧ n < 2147483648 := by
  unfold InA at h
  split at h
  · rename_i n hl
    have hl2 := lay_int hl (by omega)
    have h1 := List.all_eq_true.mp lay_all _ (List.mem_of_getElem? hl2)
    exact ⟨n, hl2, h.1, h.2, of_decide_eq_true h1⟩
  · exact h.elim
theorem InJ.lay {o : Nat} {i : Int} (h : InJ o i) : ∃ n : Nat, layL[o]? = some (.inr (.inl n)) ∧ 0 ≤ i ∧ i < (n : Int) ∧ n < 2147483648 := by
  unfold InJ at h
  split at h
  · rename_i n hl
    have hl2 := lay_r hl
    have h1 := List.all_eq_true.mp lay_all _ (List.mem_of_getElem? hl2)
    exact ⟨n, hl2, h.1, h.2, of_decide_eq_true h1⟩
  · exact h.elim
theorem clampI {i : Int} (h : InI i) : (Int32.ofInt i).toNatClampNeg = i.toNat := by
  show (Int32.ofInt i).toInt.toNat = i.toNat
  rw [i32_id h]
theorem in_of {i : Int} {n : Nat} (h0 : 0 ≤ i) (h1 : i < (n : Int)) (hi : InI i) : vp_in (Int32.ofInt i) n := vp_in_iff.mpr (by rw [i32_id hi]; exact ⟨h0, h1⟩)
theorem il_W (hx : p.tables.exec = Jvm.exec) (hb : c.code = cc) {o : Nat} {i : Int} (hK : va_K D vwCl (tyIJ cI cJ) s) (hW : WH D cI cJ ad A σ H) (hi : InI i) (h : InA o i) (hdg : decode cc pc = .ok (.iaload, 1))
    (kk : InI (σ o i.toNat) → W p l e R s m args below meth c H locs cells slots Qs (F0 m (pc + 1) jls (.int (Int32.ofInt (σ o i.toNat)) :: rest))) : W p l e R s m args below meth c H locs cells slots Qs (F0 m pc jls (.int (Int32.ofInt i) :: .ref (ad o) :: rest)) := by
  obtain ⟨n, hl, h0, h1, h2⟩ := h.lay
  refine va_iald hx hb hK hW.1 o 0 (ww_get hl) rfl (in_of h0 h1 hi) hdg ?_
  rw [clampI hi]
  exact kk (hW.2.2 o _ hl _)
theorem ll_W (hx : p.tables.exec = Jvm.exec) (hb : c.code = cc) {o : Nat} {i : Int} (hK : va_K D vwCl (tyIJ cI cJ) s) (hW : WH D cI cJ ad A σ H) (hi : InI i) (h : InJ o i) (hdg : decode cc pc = .ok (.laload, 1))
    (kk : InL (σ o i.toNat) → W p l e R s m args below meth c H locs cells slots Qs (F0 m (pc + 1) jls (.long (Int64.ofInt (σ o i.toNat)) :: rest))) : W p l e R s m args below meth c H locs cells slots Qs (F0 m pc jls (.int (Int32.ofInt i) :: .ref (ad o) :: rest)) := by
  obtain ⟨n, hl, h0, h1, h2⟩ := h.lay
  refine va_lald hx hb hK hW.1 o 1 (ww_get hl) rfl (in_of h0 h1 hi) hdg ?_
  rw [clampI hi]
  exact kk (hW.2.2 o _ hl _)
theorem is_W (hx : p.tables.exec = Jvm.exec) (hb : c.code = cc) {o : Nat} {i x : Int} (hK : va_K D vwCl (tyIJ cI cJ) s) (hW : WH D cI cJ ad A σ H) (hS : va_S A H0 H locs) (hi : InI i) (hxi : InI x) (h : InA o i) (hdg : decode cc pc = .ok (.iastore, 1))
    (kk : ∀ H1 locs1, WH D cI cJ ad A (mset σ o i.toNat x) H1 → va_S A H0 H1 locs1 → W p l e R s m args below meth c H1 locs1 cells slots Qs (F0 m (pc + 1) jls rest)) : W p l e R s m args below meth c H locs cells slots Qs (F0 m pc jls (.int (Int32.ofInt x) :: .int (Int32.ofInt i) :: .ref (ad o) :: rest)) := by
  obtain ⟨n, hl, h0, h1, h2⟩ := h.lay
  refine va_iast hx hb hK hW.1 hW.2.1 hS o 0 (ww_get hl) rfl (in_of h0 h1 hi) hdg (fun H1 locs1 hP1 hD1 hS1 => ?_)
  have es : (ww cI cJ ad σ).set o (ad o, .inl (cI, n, .inl (upd (fun j => Int32.ofInt (σ o j)) (Int32.ofInt i).toNatClampNeg (Int32.ofInt x)))) = ww cI cJ ad (mset σ o i.toNat x) := by
    refine ww_set hl (fun k hk => mset_off k hk) ?_
    show _ = Sum.inl (cI, n, Sum.inl (fun j => Int32.ofInt (mset σ o i.toNat x o j)))
    rw [clampI hi]
    congr 4
    funext j
    simp only [upd, mset, true_and]
    split <;> rfl
  rw [es] at hP1 hD1
  refine kk H1 locs1 ⟨hP1, hD1, WT_mset hW.2.2 fun c1 hc1 => ?_⟩ hS1
  rw [hl] at hc1
  cases hc1
  exact hxi
theorem ls_W (hx : p.tables.exec = Jvm.exec) (hb : c.code = cc) {o : Nat} {i x : Int} (hK : va_K D vwCl (tyIJ cI cJ) s) (hW : WH D cI cJ ad A σ H) (hS : va_S A H0 H locs) (hi : InI i) (hxi : InL x) (h : InJ o i) (hdg : decode cc pc = .ok (.lastore, 1))
    (kk : ∀ H1 locs1, WH D cI cJ ad A (mset σ o i.toNat x) H1 → va_S A H0 H1 locs1 → W p l e R s m args below meth c H1 locs1 cells slots Qs (F0 m (pc + 1) jls rest)) : W p l e R s m args below meth c H locs cells slots Qs (F0 m pc jls (.long (Int64.ofInt x) :: .int (Int32.ofInt i) :: .ref (ad o) :: rest)) := by
  obtain ⟨n, hl, h0, h1, h2⟩ := h.lay
  refine va_last hx hb hK hW.1 hW.2.1 hS o 1 (ww_get hl) rfl (in_of h0 h1 hi) hdg (fun H1 locs1 hP1 hD1 hS1 => ?_)
  have es : (ww cI cJ ad σ).set o (ad o, .inl (cJ, n, .inr (.inl (vp_updL (fun j => Int64.ofInt (σ o j)) (Int32.ofInt i).toNatClampNeg (Int64.ofInt x))))) = ww cI cJ ad (mset σ o i.toNat x) := by
    refine ww_set hl (fun k hk => mset_off k hk) ?_
    show _ = Sum.inl (cJ, n, Sum.inr (Sum.inl (fun j => Int64.ofInt (mset σ o i.toNat x o j))))
    rw [clampI hi]
    congr 5
    funext j
    simp only [vp_updL, mset, true_and]
    split <;> rfl
  rw [es] at hP1 hD1
  refine kk H1 locs1 ⟨hP1, hD1, WT_mset hW.2.2 fun c1 hc1 => ?_⟩ hS1
  rw [hl] at hc1
  cases hc1
  exact hxi
theorem nlt0 {x : Int} (h : 0 ≤ x) (hi : InI x) : ¬ Int32.ofInt x < 0 := by
  rw [← of_0, of_lt hi in0]
  omega
theorem copy_W (hx : p.tables.exec = Jvm.exec) (hb : c.code = cc) (hml : c.maxLocals = jls.size) {own idx so d : Nat} {sp dp n : Int} (hown : s.vm.findClass (clsN own) = some m.cls) (hts : ∀ w ∈ gwl, w.before args s = true) (hK : va_K D vwCl (tyIJ cI cJ) s)
    (hW : WH D cI cJ ad A σ H) (hS : va_S A H0 H locs) (hac : ACt.any (fun q => decide (q.2 = (own, idx))) = true) (hsp : InI sp) (hdp : InI dp) (hn : InI n) (hfr : 1 ≤ R.frames) (hlo : 20 ≤ R.locals) (hdg : decode cc pc = .ok (.invokestatic idx, 3)) {K : Mem → Prop} (h : copyC σ so sp d dp n K)
    (kk : ∀ σ1 H1 locs1, K σ1 → WH D cI cJ ad A σ1 H1 → va_S A H0 H1 locs1 → W p l e R s m args below meth c H1 locs1 cells slots Qs (F0 m (pc + 3) jls [])) : W p l e R s m args below meth c H locs cells slots Qs (F0 m pc jls [.int (Int32.ofInt n), .int (Int32.ofInt dp), .ref (ad d), .int (Int32.ofInt sp), .ref (ad so)]) := by
  obtain ⟨q, hq, hq2⟩ := List.any_eq_true.mp hac
  have eq : q.2 = (own, idx) := of_decide_eq_true hq2
  have hw := pk_gwl ACt_ok ACt_g (a := (own, idx)) ⟨q.1, by rw [← eq]; exact hq⟩
  have hg : ∀ w ∈ AC0.map (fun q => q.2), w ∈ gwl := fun w hw => by
    obtain ⟨q, hq, rfl⟩ := List.mem_map.mp hw
    refine List.mem_filter.mpr ⟨pkW_in AC0_ok q hq, ?_⟩
    have : (AC0.map (fun q => q.2)).all goodWord = true := by decide +kernel
    exact List.all_eq_true.mp this _ hw
  have hlo2 : (([] : List Value).map fun v => v.category).sum + (nativeFrameWords "java/lang/System" "arraycopy" 5 + 11) ≤ R.locals := by
    have h18 : (18 : Nat) ≤ R.locals := by omega
    simpa [nativeFrameWords] using h18
  have w1 := hts _ (hg (.native arraycopyName) (by simp [AC0]))
  have w2 := hts _ (hg (.static arraycopyName) (by simp [AC0]))
  have w3 := hts _ (hg (.initialized "java/lang/System") (by simp [AC0]))
  have hwt : ∀ (n0 n1 : LC), layL[so]? = some n0 → layL[d]? = some n1 → (∃ a b, (n0 = .inl a ∧ n1 = .inl b) ∨ (n0 = .inr (.inl a) ∧ n1 = .inr (.inl b))) → WT (mcpy σ so sp.toNat d dp.toNat n.toNat) := by
    intro n0 n1 hs0 hd0 hk k c1 hc1
    by_cases hkd : k = d
    · subst hkd
      rw [hd0] at hc1
      cases hc1
      have a0 := hW.2.2 so _ hs0
      have a1 := hW.2.2 k _ hd0
      obtain ⟨a, b, ⟨rfl, rfl⟩ | ⟨rfl, rfl⟩⟩ := hk
      · intro j
        show InI (if _ then _ else _)
        split
        · exact a0 _
        · exact a1 _
      · intro j
        show InL (if _ then _ else _)
        split
        · exact a0 _
        · exact a1 _
    · have e1 := mcpy_off (σ := σ) (so := so) (sp := sp.toNat) (dp := dp.toNat) (n := n.toNat) k hkd
      have h0 := hW.2.2 k c1 hc1
      match c1 with
      | .inl n => intro j; rw [e1]; exact h0 j
      | .inr (.inl n) => intro j; rw [e1]; exact h0 j
      | .inr (.inr (ci, fts)) => intro j ft hf; rw [e1]; exact h0 j ft hf
  unfold copyC at h
  split at h
  · rename_i n0 n1 hl0 hl1
    obtain ⟨⟨h1, h2, h3, h4, h5⟩, hKx⟩ := h
    have hz : 0 < n0 ∧ 0 < n1 := by omega
    · have l0 := lay_int hl0 hz.1
      have l1 := lay_int hl1 hz.2
      refine va_copyi hx hb hml hown (hts _ hw) w1 w2 w3 hK hW.1 hW.2.1 hS so d 0 0 (ww_get l0) (ww_get l1) rfl rfl rfl (nlt0 h1 hsp) (nlt0 h2 hdp) (nlt0 (Int.le_of_lt h3) hn) (by rw [clampI hsp, clampI hn]; omega) (by rw [clampI hdp, clampI hn]; omega) (fun _ _ => rfl) hfr hlo2 hdg (fun H1 locs1 hP1 hD1 hS1 => ?_)
      have es : (ww cI cJ ad σ).set d (ad d, .inl (cI, n1, .inl (va_cpy (fun j => Int32.ofInt (σ so j)) (fun j => Int32.ofInt (σ d j)) (Int32.ofInt sp).toNatClampNeg (Int32.ofInt dp).toNatClampNeg (Int32.ofInt n).toNatClampNeg))) = ww cI cJ ad (mcpy σ so sp.toNat d dp.toNat n.toNat) := by
        refine ww_set l1 (fun k hk => mcpy_off k hk) ?_
        show _ = Sum.inl (cI, n1, Sum.inl (fun j => Int32.ofInt (mcpy σ so sp.toNat d dp.toNat n.toNat d j)))
        rw [clampI hsp, clampI hdp, clampI hn]
        congr 4
        funext j
        simp only [va_cpy, mcpy, true_and]
        split <;> rfl
      rw [es] at hP1 hD1
      exact kk _ H1 locs1 hKx ⟨hP1, hD1, hwt _ _ l0 l1 ⟨n0, n1, Or.inl ⟨rfl, rfl⟩⟩⟩ hS1
  · rename_i n0 n1 hl0 hl1
    obtain ⟨⟨h1, h2, h3, h4, h5⟩, hKx⟩ := h
    have l0 := lay_r hl0
    have l1 := lay_r hl1
    refine va_copyl hx hb hml hown (hts _ hw) w1 w2 w3 hK hW.1 hW.2.1 hS so d 1 1 (ww_get l0) (ww_get l1) rfl rfl rfl (nlt0 h1 hsp) (nlt0 h2 hdp) (nlt0 (Int.le_of_lt h3) hn) (by rw [clampI hsp, clampI hn]; omega) (by rw [clampI hdp, clampI hn]; omega) (fun _ _ => rfl) hfr hlo2 hdg (fun H1 locs1 hP1 hD1 hS1 => ?_)
    have es : (ww cI cJ ad σ).set d (ad d, .inl (cJ, n1, .inr (.inl (va_cpy (fun j => Int64.ofInt (σ so j)) (fun j => Int64.ofInt (σ d j)) (Int32.ofInt sp).toNatClampNeg (Int32.ofInt dp).toNatClampNeg (Int32.ofInt n).toNatClampNeg)))) = ww cI cJ ad (mcpy σ so sp.toNat d dp.toNat n.toNat) := by
      refine ww_set l1 (fun k hk => mcpy_off k hk) ?_
      show _ = Sum.inl (cJ, n1, Sum.inr (Sum.inl (fun j => Int64.ofInt (mcpy σ so sp.toNat d dp.toNat n.toNat d j))))
      rw [clampI hsp, clampI hdp, clampI hn]
      congr 5
      funext j
      simp only [va_cpy, mcpy, true_and]
      split <;> rfl
    rw [es] at hP1 hD1
    exact kk _ H1 locs1 hKx ⟨hP1, hD1, hwt _ _ l0 l1 ⟨n0, n1, Or.inr ⟨rfl, rfl⟩⟩⟩ hS1
  · exact h.elim
end GW
