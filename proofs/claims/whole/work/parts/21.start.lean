-- FROM THE LAW'S ENTRY TO ITS LOOP
section ST
theorem ctor_met (l : Launch) (D : va_G) (cI cJ : ClassId) (ad : Nat → Nat) (B : Nat) (had : ∀ k, k < 1000 → ad k = B + k) : ∀ (d i : Nat) (as : List AV) (cs cs1 : List CC), i < 9 → ctor d i as cs = some cs1 → cs.length + ctC i ≤ 1000 → CtC l D cI cJ ad B d i as cs cs1 := by
  intro d
  induction d with
  | zero => intro i as cs cs1 _ h; cases h
  | succ d ih =>
    intro i as cs cs1 hi h hlen
    have F := ctfacts hi
    unfold ctor at h
    split at h
    · rename_i hcat
      have hcat := of_decide_eq_true hcat
      split at h
      · rename_i ls1 st1 cs2 kc ks he
        split at h
        · rename_i hkk
          obtain ⟨hk1, hk2⟩ := of_decide_eq_true hkk
          cases h
          refine Met.ofW (cc := ctB i) (maxL := ctL i) (ret := none) F.2.1 rfl ?_
          intro p e s m args below meth c s₁ Bd hml hv
          obtain ⟨rfl, hC, hK, hO, hNS⟩ := hv
          have hx := Bd.exec
          have hb := Bd.bytes
          have hr := Bd.returns
          have hts0 := atoms_spec (ws := ctw i :: gwl) Bd.pre
          have hts : ∀ w ∈ gwl, w.before (as.map (conc ad)).toArray s = true := fun w hw => hts0 w (List.mem_cons_of_mem _ hw)
          have hown : s.vm.findClass (clsN i) = some m.cls := by rw [← F.1]; exact findClass_of_methodNamed Bd.named
          have hlocks := Bd.notSynchronized
          have hin : meth.name = "<init>" := by rw [(name_of_methodNamed Bd.named Bd.method).1]; exact F.2.2.2.2.1
          have hl := lv_entry (as.map (conc ad)) (n := ctL i) (by rw [lg_len]; exact hcat)
          rw [lg_entry_eq]
          generalize (lg_sl (as.map (conc ad)) ++ List.replicate (ctL i - (lg_sl (as.map (conc ad))).length) Slot.unset).toArray = jls at hl ⊢
          have hLR := LR_entry hl hO
          have h0 := F.2.2.2.2.2.2.2.2
          refine crun_W (mc := ctC i) (ms := ctS i) (own := i) (d := d) (pcE := 0) hx hb hml hown hts hNS hK had (by rw [hC.2]; omega) (fun _ => hin) ⟨Nat.le_refl _, by show 64 * d + 64 ≤ 64 * (d + 1); omega⟩ ⟨Nat.le_refl _, Nat.le_refl _⟩ (fun a as cs cs1 h => ctor_len d a as cs cs1 h) (fun a as cs cs1 ha h hl => ih a as cs cs1 ha h hl) F.2.2.2.2.2.2.1 F.2.2.2.2.2.2.2.1 (fun _ _ _ z => by cases z) (fun pc jl H locs a1 a2 a3 a4 a5 _ => ?_) (ccOf i) _ _ _ _ _ he ⟨[], rfl⟩ (by omega) (Nat.zero_le _) 0 jls s.heap [] hLR OKs.nil hC va_S.rf (fun en tl hh => ?_) (fun hh => ?_)
          · obtain ⟨hd1, hs1⟩ := a5 rfl
            simp only at a3 hs1 ⊢
            subst hs1
            rw [hk1, hk2]
            exact W.vret hx hb hr (fun t ht hW => ⟨⟨rfl, by rw [ht]; exact a3⟩, a4.F ht⟩) a4.2.2 hd1
          · rw [hh] at h0
            have : some en.1 = some 0 := h0
            exact (Option.some.inj this).symm
          · rw [hh] at h0
            cases h0
        · cases h
      · cases h
    · cases h
theorem cw_ww {cI cJ : ClassId} {ad : Nat → Nat} : ∀ (l : List LC) (k : Nat), cwl cI cJ ad k (l.map toCC) = wlF cI cJ ad (fun _ _ => 0) k l
  | [], _ => rfl
  | c :: t, k => by
    show (ad k, ccell cI cJ ad (toCC c)) :: cwl cI cJ ad (k + 1) (t.map toCC) = (ad k, cellOf cI cJ ad (fun _ _ => 0) k c) :: wlF cI cJ ad (fun _ _ => 0) (k + 1) t
    rw [cw_ww t (k + 1)]
    congr 2
    match c with
    | .inl n => rfl
    | .inr (.inl n) => rfl
    | .inr (.inr (ci, fts)) =>
      show Sum.inr (ci, (fts.map toCV).map (cvl ad)) = Sum.inr (ci, flds ad (fun _ _ => 0) k 0 fts)
      congr 2
      apply List.ext_getElem?
      intro j
      rw [flds_get, List.map_map, List.getElem?_map]
      congr 1
      funext ft
      match ft with
      | 0 => rfl
      | 1 => rfl
      | 2 => rfl
      | j + 3 => rfl
theorem inL0 : InL 0 := ⟨by decide, by decide⟩
theorem WT0 : WT (fun _ _ => 0) := by
  intro k c _
  match c with
  | .inl n => exact fun i => in0
  | .inr (.inl n) => exact fun i => inL0
  | .inr (.inr (ci, fts)) => exact fun j ft _ => ⟨fun _ => in0, fun _ => inL0⟩
end ST
-- THE CLAIM'S FRAME: out of the skeleton
/-! THE CLAIM OUT OF ONE WALK OF THE LAW'S BODY. Your part is whole_start (and what it stands on); all else here is the same for every law, but numbers. -/
def R_law : String := "ShowRoomLaw"
def lw_P (b : Addr) (xs : List Int32) (args : Array Value) (s : State) : Prop := args = #[.ref b] ∧ s.IntsAt b xs ∧ xs.length ≤ 3072 ∧ (Jvm.Cond.and given_1 narrow_1).before args s = true
def lw_Q (_ : Array Value) (s : State) (o : Outcome) (t : State) : Prop := o = .returned (some (.int 1)) ∧ Framed s o t [] 600000 7302250
def lw_Z (below : List Frame) (a : Array Value) (s : State) : State → Prop := fun t => ∃ o, t.status = .running ∧ Ended t below o ∧ lw_Q a s o t
/-- the law's own end, with 1 on the stack, nothing written that was there before, its room as the claim has it -/
theorem lw_ret {p : Program} {l : Launch} {e : Env} {s : State} {m : MethodId} {below : List Frame} {meth : Method} {c : Code} {b : Nat} (hx : p.tables.exec = Jvm.exec) (hb : c.code = code) (hr : meth.sig.returnType = ret) (hlocks : meth.locks = false) {pc : Nat} {H : Heap} {ls : Array Slot} (hdg : decode code pc = .ok (.ireturn, 1)) : W p l e room_1 s m #[Value.ref b] below meth c H [] 600000 7302250 (lw_Z below #[Value.ref b] s) (F0 m pc ls [.int 1]) := by
  intro T hT X
  obtain ⟨fs, hret, hrun, hended, hW, hframe⟩ := X.leave (v := some (.int 1)) (hlocks := hlocks) (fun h => by rw [hr] at h; cases h)
  have hmeth' : T.vm.method? m = some meth := X.method'
  refine ⟨T.setFrames fs, ?_, .returned (some (.int 1)), hrun, hended, rfl, ⟨_, rfl⟩, hW, hframe⟩
  jvm_step X.here [X.here.top, hx, hb, hdg, hmeth', hr, ret, narrow_b1]
  (try refine ⟨rfl, ?_⟩); (try refine ⟨rfl, ?_⟩)
  first | (intro acts; rw [hret _ acts rfl rfl rfl]) | rw [hret _ _ rfl rfl rfl]
  exact Steps.refl _
/-- what holds at the law's entry: the machine, the code, the tables' words (any of lw_tbl by 'hts w (by decide +kernel)'), the script of L ints xs at the cell b, what the Statement gives of the start (any of its parts by flat_of_before) -/
def lw_At (p : Program) (s : State) (m : MethodId) (meth : Method) (c : Code) (b L : Nat) (xs : Nat → Int32) : Prop :=
  p.tables.exec = Jvm.exec ∧ c.code = code ∧ meth.sig.returnType = ret ∧ c.maxLocals = 4 ∧ s.vm.findClass R_law = some m.cls ∧ (∀ w ∈ lw_tbl, w.before #[Value.ref b] s = true) ∧ va_X b L xs s s.heap ∧ b < s.heap.size ∧ meth.locks = false ∧ (Jvm.Cond.and given_1 narrow_1).before #[Value.ref b] s = true
set_option maxRecDepth 100000 in
theorem law_rets : c_law.all (retOK (some .boolean)) = true := by decide +kernel
set_option maxHeartbeats 8000000 in
/-- the law from its entry, if its loop asks for no more than holds -/
theorem whole_open (hchk : chkAll) (hloop : ∀ (L : Nat) (xs : Nat → Int), L ≤ 3072 → (∀ j, InI (xs j)) → K_law_18 L xs 40 (fun x _ => x = 1) 0 (fun _ _ => 0)) {p : Program} {e : Env} {s : State} {m : MethodId} {below : List Frame} {meth : Method} {c : Code} (l : Launch) {b L : Nat} {xs : Nat → Int32} (hL : L ≤ 3072) (C0 : lw_At p s m meth c b L xs) : W p l e room_1 s m #[Value.ref b] below meth c s.heap [] 0 0 (lw_Z below #[Value.ref b] s) (entryFrame m ([Value.ref b] : List Value).toArray 4) := by
  obtain ⟨hx, hb, hr, hml, hown, hts0, hX, hbl, hlocks, hgv⟩ := id C0
  have hts : ∀ w ∈ gwl, w.before #[Value.ref b] s = true := fun w hw => hts0 w (List.mem_filter.mp hw).1
  have hown : s.vm.findClass (clsN 10) = some m.cls := hown
  have hNS : NS s := fun q hq => va_Nw.of rfl (hts0 _ (pkW_in NLt_ok (q.1, nlw q.2) (List.mem_map.mpr ⟨q, hq, rfl⟩)))
  have hNS2 : NS2 s := fun q hq => va_Nw.of rfl (hts0 _ (pkW_in NCt_ok (q.1, ncw q.2) (List.mem_map.mpr ⟨q, hq, rfl⟩)))
  obtain ⟨cI, kI, coI, i1, i2, i3⟩ := Cond.arrayClass_spec (hts (.arrayClass .int) (ar0_in (by simp [AR0])))
  obtain ⟨cJ, kJ, coJ, j1, j2, j3⟩ := Cond.arrayClass_spec (hts (.arrayClass .long) (ar0_in (by simp [AR0])))
  have hcl : ∀ ci : Nat, ∃ q : ClassId × (Nat → Nat), ∀ r : vw_C, vwCl[ci]? = some r → u_Kn s r.1 r.2.1 r.2.2 q.1 q.2 := by
    intro ci
    by_cases hci : ci < 9
    · obtain ⟨C, T, N, hv, hin, -⟩ := cls_ok hci
      have hCn : C = clsN ci := vw_name hci hv
      subst hCn
      obtain ⟨c0, iS, hKn⟩ := u_known (C := clsN ci) (T := T) (N := N) (n := nFl ci) hts hin (hts _ (ct_words hci).1)
      refine ⟨(c0, iS), fun r hr => ?_⟩
      rw [hv] at hr
      cases hr
      exact hKn
    · refine ⟨(0, fun _ => 0), fun r hr => ?_⟩
      have : ci < 9 := (List.getElem?_eq_some_iff.mp hr).1
      exact absurd this hci
  obtain ⟨f, hf⟩ := Classical.skolem.mp hcl
  have hK : va_K (fun ci => (f ci).1, fun ci => (f ci).2) vwCl (tyIJ cI cJ) s := by
    refine ⟨fun ci r hr => hf ci r hr, fun k q hq => ?_⟩
    match k, hq with
    | 0, hq => cases hq; exact ⟨fun n z => ⟨fun k h => (by cases h), kI, i2, coI, i3⟩, i1⟩
    | 1, hq => cases hq; exact ⟨fun n z => ⟨fun k h => (by cases h), kJ, j2, coJ, j3⟩, j1⟩
    | k + 2, hq => simp at hq
  generalize hD : ((fun ci => (f ci).1, fun ci => (f ci).2) : va_G) = D at hK
  obtain ⟨ad, had⟩ : ∃ ad : Nat → Nat, ad = fun k => if k = 1000 then b else s.heap.size + k := ⟨_, rfl⟩
  have had0 : ∀ k, k < 1000 → ad k = s.heap.size + k := fun k hk => by rw [had]; exact if_neg (by omega)
  have had1 : ad 1000 = b := by rw [had]; exact if_pos rfl
  have hl := lv_entry ([.ref b]) (n := 4) (Nat.le_of_ble_eq_true rfl)
  rw [lg_entry_eq]
  generalize (lg_sl ([.ref b]) ++ List.replicate (4 - (lg_sl ([.ref b])).length) Slot.unset).toArray = jls at hl ⊢
  have hLR : LR ad 4 [some (.inr (.inr 1000)), none, none, none] jls := by
    have h1 : lv_has jls 4 (lv_args 0 (([.inr (.inr 1000)] : List AV).map (conc ad))) := by
      show lv_has jls 4 (lv_args 0 [.ref (ad 1000)])
      rw [had1]
      exact hl
    exact LR_entry (as := [.inr (.inr 1000)]) h1 (OKs.cons trivial OKs.nil)
  have hC : CR D cI cJ ad s.heap.size [] s.heap := ⟨fun k q h => by simp [cwl] at h, rfl⟩
  have hlw := lawchk_ok
  simp only [Bool.and_eq_true] at hlw
  have hseq1 : seqC cc_law = true := by decide +kernel
  refine crun_W (R := room_1) (own := 10) (d := 3) (pcE := 18) (H0 := s.heap) hx hb hml hown hts hNS2 hK had0 (Nat.le_refl _) (fun z => by cases z) ⟨by decide, by decide⟩ ⟨by decide, by decide⟩ (fun a as cs cs1 h => ctor_len 3 a as cs cs1 h) (fun a as cs cs1 ha h hl => ctor_met l D cI cJ ad _ had0 3 a as cs cs1 ha h hl) hlw.1 hseq1 (fun pre en hh _ => ?_) (fun pc jl H locs a1 a2 a3 a4 _ a6 => ?_) cc_law _ _ _ _ _ run_law ⟨[], rfl⟩ (by decide) (by decide) 0 jls s.heap [] hLR OKs.nil hC va_S.rf (fun en tl hh => ?_) (fun hh => ?_)
  · have h1 := hlw.2
    rw [hh] at h1
    have h2 := seqC_at (pre := pre) (e1 := en) (e2 := (18, none, .nop, 1, 0, 0, 0, 0, [])) (t := []) h1 (by simp)
    exact h2
  · have hpc := a6 rfl
    subst hpc
    simp only at a1 a2 a3 ⊢
    have hWH : WH D cI cJ ad (fun q => s.heap.size ≤ q) (fun _ _ => 0) H := by
      refine ⟨?_, ?_, WT0⟩
      · have := a3.1
        rw [cw_ww] at this
        exact this
      · have := cw_D (cI := cI) (cJ := cJ) (cs := layL.map toCC) had0 (by rw [List.length_map, lay_len]; decide)
        rw [cw_ww] at this
        exact this
    have hlp := hloop L (fun j => (xs j).toInt) hL (fun j => i32_in _)
    have key := hlp (fun pc ls st σ => ∀ (jls : Array Slot) (H : Heap) (locs : List Loc), LR ad 4 ls jls → OKs st → WH D cI cJ ad (fun q => s.heap.size ≤ q) σ H → va_S (fun q => s.heap.size ≤ q) s.heap H locs → W p l e room_1 s m #[Value.ref b] below meth c H locs 81 3409 (lw_Z below #[Value.ref b] s) (F0 m pc jls (st.map (conc ad)))) (by
      intro pc ls st σ1 hseg jl H locs a1 a2 a3 a4
      obtain ⟨e2, t2, h2⟩ := seg_ne hseg
      obtain ⟨h3, h4⟩ := toPc_suf h2
      rw [h2] at hseg
      have := seg_W (R := room_1) (own := 10) (d := 40) (H0 := s.heap) (A := fun q => s.heap.size ≤ q) hx hb hml hown hts hNS hK (fun q h => h) (fun L2 xs2 z => by
        cases z
        exact ⟨by omega, xs, by rw [had1]; exact hX, by rw [had1]; exact hbl, by rw [had1]; exact Nat.not_le.mpr hbl, fun j _ => rfl⟩) ⟨by decide, by decide⟩ ⟨by decide, by decide⟩ (fun i as σ K hi h => wp_met hchk l D cI cJ ad 40 i as σ K hi h) kl_all kl_seq (fun ins pc jls H locs x σ vs hen hdg hrv hq hW hS => ?_) (fun pc ls st σ jls H locs hP a1 a2 a3 a4 => hP jls H locs a1 a2 a3 a4) _ _ _ _ _ _ hseg h4 jl H locs a1 a2 a3 a4 e2 t2 rfl
      · rw [h3] at this
        exact this
      · subst hq
        rcases hrv with ⟨rfl, rfl, hxi, hbb⟩ | ⟨rfl, -⟩ | ⟨rfl, -⟩ | ⟨rfl, -, z⟩
        · refine va_forget (fun q hq => hS.2.2 q hq) ?_
          refine W.widen (k := 600000) (n := 7302250) (by decide) (by decide) ?_
          exact lw_ret hx hb hr hlocks hdg
        · obtain ⟨en, hen1, hen2⟩ := hen
          exact absurd hen2 (by
            have := List.all_eq_true.mp law_rets en hen1
            unfold retOK at this
            intro z
            rw [z] at this
            cases this)
        · obtain ⟨en, hen1, hen2⟩ := hen
          exact absurd hen2 (by
            have := List.all_eq_true.mp law_rets en hen1
            unfold retOK at this
            intro z
            rw [z] at this
            cases this)
        · cases z)
    exact key jl H locs a1 a2 hWH a4
  · cases hh; rfl
  · cases hh
