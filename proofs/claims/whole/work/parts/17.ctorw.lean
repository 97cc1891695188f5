-- THE CONSTRUCTORS, 2: the closed machine is true
def cvl (ad : Nat → Nat) : Option AV → Value
  | none => .null
  | some v => conc ad v
def ccell (cI cJ : ClassId) (ad : Nat → Nat) (c : CC) : va_E := match c with
  | .inl n => .inl (cI, n, .inl (fun _ => Int32.ofInt 0))
  | .inr (.inl n) => .inl (cJ, n, .inr (.inl (fun _ => Int64.ofInt 0)))
  | .inr (.inr (ci, fs)) => .inr (ci, fs.map (cvl ad))
def cwl (cI cJ : ClassId) (ad : Nat → Nat) : Nat → List CC → va_W
  | _, [] => []
  | k, c :: t => (ad k, ccell cI cJ ad c) :: cwl cI cJ ad (k + 1) t
theorem cwl_get {cI cJ : ClassId} {ad : Nat → Nat} : ∀ {l : List CC} {i k : Nat}, (cwl cI cJ ad i l)[k]? = (l[k]?).map (fun c => (ad (i + k), ccell cI cJ ad c))
  | [], i, k => by simp [cwl]
  | c :: t, i, 0 => by simp [cwl]
  | c :: t, i, k + 1 => by
    show (cwl cI cJ ad (i + 1) t)[k]? = _
    rw [cwl_get, show i + 1 + k = i + (k + 1) by omega]
    rfl
theorem cw_get {cI cJ : ClassId} {ad : Nat → Nat} {cs : List CC} {k : Nat} {c : CC} (h : cs[k]? = some c) : (cwl cI cJ ad 0 cs)[k]? = some (ad k, ccell cI cJ ad c) := by
  rw [cwl_get, h, Nat.zero_add]
  rfl
theorem cwl_app {cI cJ : ClassId} {ad : Nat → Nat} {c : CC} : ∀ {l : List CC} {i : Nat}, cwl cI cJ ad i (l ++ [c]) = cwl cI cJ ad i l ++ [(ad (i + l.length), ccell cI cJ ad c)]
  | [], i => rfl
  | x :: t, i => by
    show (ad i, _) :: cwl cI cJ ad (i + 1) (t ++ [c]) = (ad i, _) :: (cwl cI cJ ad (i + 1) t ++ _)
    rw [cwl_app, show i + 1 + t.length = i + (t.length + 1) by omega]
    rfl
theorem cwl_set {cI cJ : ClassId} {ad : Nat → Nat} {cs : List CC} {o : Nat} {c c1 : CC} (h : cs[o]? = some c) : (cwl cI cJ ad 0 cs).set o (ad o, ccell cI cJ ad c1) = cwl cI cJ ad 0 (cs.set o c1) := by
  apply List.ext_getElem?
  intro k
  have hl : o < (cwl cI cJ ad 0 cs).length := (List.getElem?_eq_some_iff.mp (cw_get (cI := cI) (cJ := cJ) (ad := ad) h)).1
  have hl2 : o < cs.length := (List.getElem?_eq_some_iff.mp h).1
  by_cases hko : k = o
  · subst hko
    rw [List.getElem?_set_self hl, cwl_get, List.getElem?_set_self hl2, Nat.zero_add]
    rfl
  · rw [List.getElem?_set_ne (Ne.symm hko), cwl_get, cwl_get, List.getElem?_set_ne (Ne.symm hko)]
theorem dfl_val {ad : Nat → Nat} {ty : FieldType} (h : ty ≠ .float ∧ ty ≠ .double) : defaultValue ty = cvl ad (dfl ty) := by
  cases ty with
  | float => exact absurd rfl h.1
  | double => exact absurd rfl h.2
  | _ => rfl
theorem ty_good : (List.range 9).all (fun ci => (List.range (nFl ci)).all (fun k => decide (tyOf ci k ≠ .float ∧ tyOf ci k ≠ .double))) = true := by decide +kernel
theorem crun_len {call : Nat → List AV → List CC → Option (List CC)} {fin : Bool} {mc ms : Nat} (hcall : ∀ a as cs cs1, call a as cs = some cs1 → cs1.length = cs.length + ctC a) : ∀ (es : List En) (S S1 : CS), crun call fin mc ms es S = some S1 → S1.2.2.1.length + S.2.2.2.1 = S.2.2.1.length + S1.2.2.2.1
  | [], S, S1, h => by
    unfold crun at h
    split at h
    · cases h
    · cases h; rfl
  | (pc, mask, ins, len, a, b, c, v, ts) :: rest, (ls, st, cs, kc, ks), S1, h => by
    unfold crun at h
    split at h
    · split at h
      · split at h
        · split at h
          · have := crun_len hcall _ _ _ h; simp only [List.length_append, List.length_singleton] at this ⊢; omega
          · have := crun_len hcall _ _ _ h; simp only [List.length_append, List.length_singleton] at this ⊢; omega
          · cases h
        · cases h
      · cases h
    · split at h
      · have := crun_len hcall _ _ _ h; simp only [List.length_append, List.length_singleton] at this ⊢; omega
      · cases h
    · split at h
      · split at h
        · rename_i cs1 hc1
          have h2 := crun_len hcall _ _ _ h
          have h3 : cs1.length = cs.length := by
            unfold cset at hc1
            split at hc1
            · split at hc1
              · cases hc1; simp
              · cases hc1
            · cases hc1
          simp only [h3] at h2
          exact h2
        · cases h
      · cases h
    · split at h
      · split at h
        · have h2 := crun_len hcall _ _ _ h; exact h2
        · cases h
      · cases h
    · split at h
      · split at h
        · split at h
          · have h2 := crun_len hcall _ _ _ h; exact h2
          · cases h
        · cases h
      · split at h
        · split at h
          · split at h
            · rename_i cs1 hc1
              have h2 := crun_len hcall _ _ _ h
              have h3 := hcall _ _ _ _ hc1
              simp only at h2 ⊢
              omega
            · cases h
          · cases h
        · cases h
    · split at h
      · cases h; rfl
      · cases h
    · split at h
      · have h2 := crun_len hcall _ _ _ h; exact h2
      · cases h
theorem ctor_len : ∀ (d i : Nat) (as : List AV) (cs cs1 : List CC), ctor d i as cs = some cs1 → cs1.length = cs.length + ctC i
  | 0, _, _, _, _, h => by cases h
  | d + 1, i, as, cs, cs1, h => by
    unfold ctor at h
    split at h
    · split at h
      · rename_i ls st cs2 kc ks he
        split at h
        · rename_i hd
          cases h
          have h2 := crun_len (fun a as cs cs1 => ctor_len d a as cs cs1) _ _ _ he
          have h3 := of_decide_eq_true hd
          simp only at h2
          omega
        · cases h
      · cases h
    · cases h
def NS2 (U : State) : Prop := ∀ q ∈ NCt, va_Nw (ncw q.2) U
theorem NS2.same {u U : State} (h : NS2 u) (hv : u.vm = U.vm) : NS2 U := fun q hq => va_Nw.same rfl hv (h q hq)
theorem NS2.warm {u U : State} (h : NS2 u) (hv : u.WarmedH U.vm) : NS2 U := fun q hq => va_Nw.warmM hv (h q hq)
/-- the cells cs stand in the heap from B on, and nothing behind them -/
def CR (D : va_G) (cI cJ : ClassId) (ad : Nat → Nat) (B : Nat) (cs : List CC) (H : Heap) : Prop := va_P D vwCl (cwl cI cJ ad 0 cs) H ∧ H.size = B + cs.length
def PcC (D : va_G) (cI cJ : ClassId) (ad : Nat → Nat) (B : Nat) (as : List AV) (cs : List CC) : Array Value → State → Prop := va_Pc (as.map (conc ad)) (fun U => CR D cI cJ ad B cs U.heap ∧ va_K D vwCl (tyIJ cI cJ) U ∧ OKs as ∧ NS2 U)
def QcC (D : va_G) (cI cJ : ClassId) (ad : Nat → Nat) (B : Nat) (cs1 : List CC) : Array Value → State → Outcome → State → Prop := fun _ st oc t => (oc = .returned none ∧ CR D cI cJ ad B cs1 t.heap) ∧ va_F (fun q => B ≤ q) st t
def rmC (d i : Nat) : Room := { frames := d, cells := ctC i, slots := ctS i, locals := 64 * d }
def CtC (l : Launch) (D : va_G) (cI cJ : ClassId) (ad : Nat → Nat) (B d i : Nat) (as : List AV) (cs cs1 : List CC) : Prop := Met l (ctY i) (ctw i :: gwl) (rmC d i) (PcC D cI cJ ad B as cs) (QcC D cI cJ ad B cs1) (ctC i) (ctS i) (fun q => B ≤ q)
theorem cw_D {cI cJ : ClassId} {ad : Nat → Nat} {B : Nat} (had : ∀ k, k < 1000 → ad k = B + k) {cs : List CC} (hl : cs.length ≤ 1000) : va_D (fun q => B ≤ q) (cwl cI cJ ad 0 cs) := by
  have key : ∀ (k : Nat) (q : Nat × va_E), (cwl cI cJ ad 0 cs)[k]? = some q → q.1 = B + k := by
    intro k q h
    rw [cwl_get, Nat.zero_add] at h
    cases hc : cs[k]? with
    | none => rw [hc] at h; cases h
    | some c =>
      rw [hc] at h
      cases h
      have := (List.getElem?_eq_some_iff.mp hc).1
      exact had k (by omega)
  refine ⟨fun i j x y hi hj hxy => ?_, fun k q hk => ?_⟩
  · have h1 := key i x hi
    have h2 := key j y hj
    omega
  · rw [key k q hk]; omega
theorem PcC.blind {D : va_G} {cI cJ : ClassId} {ad : Nat → Nat} {B : Nat} {as : List AV} {cs : List CC} : FrameBlind (PcC D cI cJ ad B as cs) := fun a U g mk q => by
  obtain ⟨q0, q1, q3, q4, q5⟩ := q
  exact ⟨q0, q1, va_K.moved (u := U) (U := U.calling g mk a) (Vm.Alike.refl U.vm) q3, q4, q5.same rfl⟩
theorem any_q {α : Type} [DecidableEq α] {t : List (Nat × α)} {a : α} (h : t.any (fun q => decide (q.2 = a)) = true) : ∃ g, (g, a) ∈ t := by
  obtain ⟨q, hq, hq2⟩ := List.any_eq_true.mp h
  exact ⟨q.1, by rw [← show q.2 = a from of_decide_eq_true hq2]; exact hq⟩
theorem ar0_in {w : Cond} (h : w ∈ AR0.map (fun q => q.2)) : w ∈ gwl := by
  obtain ⟨q, hq, rfl⟩ := List.mem_map.mp h
  refine List.mem_filter.mpr ⟨pkW_in AR0_ok q hq, ?_⟩
  have : (AR0.map (fun q => q.2)).all goodWord = true := by decide +kernel
  exact List.all_eq_true.mp this _ h
theorem cwAll_it : (List.range 9).all (fun i => ITt.any (fun q => decide (q.2 = i)) && ICt.any (fun q => decide (q.2 = i)) && INt.any (fun q => decide (q.2 = i))) = true := by decide +kernel
theorem ct_words {i : Nat} (h : i < 9) : Cond.instantiable (clsN i) (nFl i) ∈ gwl ∧ Cond.instanceMethod (ctY i) ∈ gwl ∧ Cond.initialized (clsN i) ∈ gwl := by
  have h1 := List.all_eq_true.mp cwAll_it i (List.mem_range.mpr h)
  simp only [Bool.and_eq_true] at h1
  exact ⟨pk_gwl ITt_ok ITt_g (any_q h1.1.1), pk_gwl ICt_ok ICt_g (any_q h1.1.2), pk_gwl INt_ok INt_g (any_q h1.2)⟩
theorem nFl_eq {ci : Nat} {C : String} {T : u_T} {N : Nat} (h : vwCl[ci]? = some (C, T, N)) : nFl ci = N := by
  unfold nFl
  rw [h]
section CW
variable {p : Program} {l : Launch} {e : Env} {R : Room} {s : State} {m : MethodId} {args : Array Value} {below : List Frame} {meth : Method} {c : Code} {Qs : State → Prop}
variable {D : va_G} {cI cJ : ClassId} {ad : Nat → Nat} {B : Nat} {H0 : Heap} {cc : ByteArray}
/-- a new array: int (long) -/
theorem cna_W {H : Heap} {locs : List Loc} {cells slots pc : Nat} {jls : Array Slot} {rest : List Value} {atype : ArrayType} {ty : FieldType} {cA : ClassId} {cs : List CC} {n : Int} {x : CC} {t0 : Nat}
    (hx : p.tables.exec = Jvm.exec) (hb : c.code = cc) (hts : ∀ w ∈ gwl, w.before args s = true) (hK : va_K D vwCl (tyIJ cI cJ) s) (had : ∀ k, k < 1000 → ad k = B + k) (hlen : cs.length < 1000) (hC : CR D cI cJ ad B cs H) (hB : H0.size ≥ B) (hS : va_S (fun q => B ≤ q) H0 H locs)
    (hty : newarray.typeOf atype = ty) (hw : Cond.arrayClass ty ∈ gwl) (ht0 : (tyIJ cI cJ)[t0]? = some (cA, ty)) (hnr : refKind ty = false) (hra : ∀ c2, va_RA s c2 ty → s.vm.findClass ("[" ++ ty.toString) = some c2) (hxv : ∀ cB : ClassId, cB = cA → ∃ a0 : vp_A, ccell cI cJ ad x = .inl (cB, a0) ∧ ∀ c2, vp_cell c2 a0 = arrV c2 n.toNat (fun _ => defaultValue ty))
    (hn0 : 0 ≤ n) (hn1 : n < 1000) (hcb : componentBytes ty ≤ 8) (hc1 : cells + 1 ≤ R.cells) (hs1 : slots + n.toNat ≤ R.slots) (hdg : decode cc pc = .ok (.newarray atype, 2))
    (kk : ∀ H1 : Heap, CR D cI cJ ad B (cs ++ [x]) H1 → va_S (fun q => B ≤ q) H0 H1 locs → W p l e R s m args below meth c H1 locs (cells + 1) (slots + n.toNat) Qs (F0 m (pc + 2) jls (.ref (ad cs.length) :: rest))) : W p l e R s m args below meth c H locs cells slots Qs (F0 m pc jls (.int (Int32.ofInt n) :: rest)) := by
  have hni : InI n := ⟨by omega, by omega⟩
  have hby : n.toNat * componentBytes ty ≤ 536870912 := Nat.le_trans (Nat.mul_le_mul (show n.toNat ≤ 1000 by omega) hcb) (by decide)
  refine va_newaK hx hb (by rw [hty]; exact hts _ hw) rfl hdg rfl (nlt0 hn0 hni) (clampI hni) (by rw [hty]; exact hby) hc1 hs1 rfl fun H1 cB e1 z1 o1 hAr hNm => ?_
  rw [hty] at e1 hAr hNm
  have hcA := hra cA (hK.2 t0 _ ht0).2
  have hcc : cB = cA := Option.some.inj (hNm.symm.trans hcA)
  obtain ⟨a0, ha1, ha2⟩ := hxv cB hcc
  have hk : ∀ (k : Nat) (x : Nat × va_E), (cwl cI cJ ad 0 cs)[k]? = some x → H1[x.1]? = H[x.1]? := fun k x hx => o1 x.1 ((hC.1 k x hx).lt)
  have hsz : H.size = ad cs.length := by rw [hC.2, had _ hlen]
  rw [hsz] at e1 ⊢
  refine kk H1 ⟨?_, by rw [z1, hC.2]; simp; omega⟩ ⟨Nat.le_trans hS.1 (by omega), fun q h1 h2 => (o1 q (Nat.lt_of_lt_of_le h1 hS.1)).trans (hS.2.1 q h1 h2), hS.2.2⟩
  rw [cwl_app, Nat.zero_add]
  refine va_P.app (hC.1.kept hk) (fun k q hq => ?_)
  have hz : k < 1 := (List.getElem?_eq_some_iff.mp hq).1
  rw [show k = 0 by omega] at hq
  cases hq
  show va_at D vwCl (ad cs.length, ccell cI cJ ad x) H1
  rw [ha1]
  show H1[ad cs.length]? = some (vp_cell cB a0)
  rw [ha2]
  exact e1
theorem cno_W {H : Heap} {locs : List Loc} {cells slots pc own idx ci : Nat} {jls : Array Slot} {rest : List Value} {cs : List CC}
    (hx : p.tables.exec = Jvm.exec) (hb : c.code = cc) (hown : s.vm.findClass (clsN own) = some m.cls) (hts : ∀ w ∈ gwl, w.before args s = true) (hK : va_K D vwCl (tyIJ cI cJ) s) (had : ∀ k, k < 1000 → ad k = B + k) (hlen : cs.length < 1000) (hC : CR D cI cJ ad B cs H) (hS : va_S (fun q => B ≤ q) H0 H locs)
    (hci : ci < 9) (hck : CKt.any (fun q => decide (q.2 = (own, idx, ci))) = true) (hc1 : cells + 1 ≤ R.cells) (hs1 : slots + nFl ci ≤ R.slots) (hdg : decode cc pc = .ok (.new idx, 3))
    (kk : ∀ H1 : Heap, CR D cI cJ ad B (cs ++ [.inr (.inr (ci, dflt ci))]) H1 → va_S (fun q => B ≤ q) H0 H1 locs → W p l e R s m args below meth c H1 locs (cells + 1) (slots + nFl ci) Qs (F0 m (pc + 3) jls (.ref (ad cs.length) :: rest))) : W p l e R s m args below meth c H locs cells slots Qs (F0 m pc jls rest) := by
  obtain ⟨C, T, N, hv, hin, hty, hnm⟩ := cls_ok hci
  have hCn : C = clsN ci := vw_name hci hv
  subst hCn
  have hN := nFl_eq hv
  obtain ⟨w1, w2, w3⟩ := ct_words hci
  have wk := pk_gwl CKt_ok CKt_g (any_q hck)
  have hKn := hK.1 ci _ hv
  refine W.newcK hx hb hown (hts _ wk) (hts _ w1) (hts _ w3) rfl hdg hc1 hs1 hKn.2.1 rfl fun H1 kC hkC e1 z1 o1 => ?_
  have hk : ∀ (k : Nat) (x : Nat × va_E), (cwl cI cJ ad 0 cs)[k]? = some x → H1[x.1]? = H[x.1]? := fun k x hx => o1 x.1 ((hC.1 k x hx).lt)
  have hsz : H.size = ad cs.length := by rw [hC.2, had _ hlen]
  rw [hsz] at e1 ⊢
  refine kk H1 ⟨?_, by rw [z1, hC.2]; simp; omega⟩ ⟨Nat.le_trans hS.1 (by omega), fun q h1 h2 => (o1 q (Nat.lt_of_lt_of_le h1 hS.1)).trans (hS.2.1 q h1 h2), hS.2.2⟩
  rw [cwl_app, Nat.zero_add]
  refine va_P.app (hC.1.kept hk) (fun k q hq => ?_)
  have hz : k < 1 := (List.getElem?_eq_some_iff.mp hq).1
  rw [show k = 0 by omega] at hq
  cases hq
  refine ⟨_, hv, (u_born (tyOf ci) hts hin hKn hkC e1 hty).to (fun j hj => ?_)⟩
  have hg := List.all_eq_true.mp ty_good ci (List.mem_range.mpr hci)
  have hj2 : j < nFl ci := by rw [hN]; exact hj
  have hg2 := of_decide_eq_true (List.all_eq_true.mp hg j (List.mem_range.mpr hj2))
  rw [dfl_val (ad := ad) hg2]
  show _ = ((dflt ci).map (cvl ad)).getD j .null
  rw [List.getD_eq_getElem?_getD, List.getElem?_map]
  unfold dflt
  rw [List.getElem?_map, List.getElem?_range hj2]
  rfl
end CW
