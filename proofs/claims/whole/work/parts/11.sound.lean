-- THE SMALL MACHINE IS TRUE, 4: branches, Math, calls; a stretch; a method
theorem of_eq0 {x : Int} (h : InI x) : Int32.ofInt x = 0 ↔ x = 0 := by rw [← of_0]; exact of_eq h in0
theorem of_lt0 {x : Int} (h : InI x) : Int32.ofInt x < 0 ↔ x < 0 := by rw [← of_0]; exact of_lt h in0
theorem of_ge0 {x : Int} (h : InI x) : 0 ≤ Int32.ofInt x ↔ 0 ≤ x := by rw [← of_0]; exact of_le in0 h
theorem of_gt0 {x : Int} (h : InI x) : 0 < Int32.ofInt x ↔ 0 < x := by rw [← of_0]; exact of_lt in0 h
theorem of_le0 {x : Int} (h : InI x) : Int32.ofInt x ≤ 0 ↔ x ≤ 0 := by rw [← of_0]; exact of_le h in0
theorem toPc_suf {a : Nat} : ∀ {l : List En} {e : En} {t : List En}, toPc a l = e :: t → e.1 = a ∧ ∃ pre, l = pre ++ (e :: t)
  | [], _, _, h => by cases h
  | x :: l, e, t, h => by
    unfold toPc at h
    split at h
    · rename_i hb
      cases h
      exact ⟨Nat.eq_of_beq_eq_true hb, [], rfl⟩
    · obtain ⟨h1, pre, h2⟩ := toPc_suf h
      exact ⟨h1, x :: pre, by rw [h2]; rfl⟩
theorem seg_ne {sc : Option (Nat × (Nat → Int))} {call : Nat → List AV → Mem → (Int → Mem → Prop) → Prop} {full : List En} {rb : Bool} {Q : Int → Mem → Prop} {cut : Nat → Lo → List AV → Mem → Prop} : ∀ {k : Nat} {fst : Bool} {es : List En} {ls : Lo} {st : List AV} {σ : Mem}, seg sc call full rb Q cut k fst es ls st σ → ∃ e t, es = e :: t
  | 0, _, _, _, _, _, h => h.elim
  | _ + 1, _, [], _, _, _, h => h.elim
  | _ + 1, _, e :: t, _, _, _, _ => ⟨e, t, rfl⟩
theorem seqC_at : ∀ {l pre : List En} {e1 e2 : En} {t : List En}, seqC l = true → l = pre ++ (e1 :: e2 :: t) → e2.1 = e1.1 + e1.2.2.2.1
  | _, [], e1, e2, t, h, rfl => by
    simp only [List.nil_append, seqC, Bool.and_eq_true, decide_eq_true_eq] at h
    exact h.1
  | _, x :: pre, e1, e2, t, h, rfl => by
    have h1 : seqC (pre ++ (e1 :: e2 :: t)) = true := by
      have : seqC (x :: (pre ++ (e1 :: e2 :: t))) = true := h
      unfold seqC at this
      simp only [Bool.and_eq_true] at this
      exact this.2
    exact seqC_at h1 rfl
def AA (ad : Nat → Nat) (sz : Nat) : Nat → Prop := fun q => (∃ k, k < 81 ∧ q = ad k) ∨ sz ≤ q
def NS (U : State) : Prop := ∀ q ∈ NLt, va_Nw (nlw q.2) U
def PcA (D : va_G) (cI cJ : ClassId) (ad : Nat → Nat) (as : List AV) (σ : Mem) (sz : Nat) : Array Value → State → Prop := va_Pc (as.map (conc ad)) (fun U => U.heap.size = sz ∧ WH D cI cJ ad (fun _ => True) σ U.heap ∧ va_K D vwCl (tyIJ cI cJ) U ∧ OKs as ∧ NS U)
def retV (ad : Nat → Nat) (rk : Nat) (x : Int) (ov : Option Value) : Prop := match rk with
  | 0 => ov = none
  | 1 => ov = some (.int (Int32.ofInt x)) ∧ InI x
  | 2 => ov = some (.long (Int64.ofInt x)) ∧ InL x
  | _ => ∃ o : Nat, x = (o : Int) ∧ ov = some (.ref (ad o))
def QcA (D : va_G) (cI cJ : ClassId) (ad : Nat → Nat) (rk : Nat) (Q : Int → Mem → Prop) (A : Nat → Prop) : Array Value → State → Outcome → State → Prop := fun _ st oc t => (∃ (x : Int) (σ1 : Mem) (ov : Option Value), oc = .returned ov ∧ retV ad rk x ov ∧ Q x σ1 ∧ WH D cI cJ ad A σ1 t.heap) ∧ va_F A st t
def rmD (d : Nat) : Room := { frames := d, cells := 0, slots := 0, locals := 64 * d }
def Ct (l : Launch) (D : va_G) (cI cJ : ClassId) (ad : Nat → Nat) (d i : Nat) (as : List AV) (σ : Mem) (Q : Int → Mem → Prop) : Prop := ∀ sz : Nat, Met l (mY i) (cdw i :: gwl) (rmD d) (PcA D cI cJ ad as σ sz) (QcA D cI cJ ad (rkOf (mR i)) Q (AA ad sz)) 0 0 (AA ad sz)
theorem NS.same {u U : State} (h : NS u) (hv : u.vm = U.vm) : NS U := fun q hq => va_Nw.same rfl hv (h q hq)
theorem NS.warm {u U : State} (h : NS u) (hv : u.WarmedH U.vm) : NS U := fun q hq => va_Nw.warmM hv (h q hq)
theorem PcA.blind {D : va_G} {cI cJ : ClassId} {ad : Nat → Nat} {as : List AV} {σ : Mem} {sz : Nat} : FrameBlind (PcA D cI cJ ad as σ sz) := fun a U g mk q => by
  obtain ⟨q0, q1, q2, q3, q4, q5⟩ := q
  exact ⟨q0, q1, q2, va_K.moved (u := U) (U := U.calling g mk a) (Vm.Alike.refl U.vm) q3, q4, q5.same rfl⟩
theorem retV.push {ad : Nat → Nat} {rk : Nat} {x : Int} {ov : Option Value} {t : List AV} (h : retV ad rk x ov) (ht : OKs t) : (pushR rk x t).map (conc ad) = ov.toList ++ t.map (conc ad) ∧ OKs (pushR rk x t) := by
  unfold retV at h
  split at h
  · subst h
    exact ⟨rfl, ht⟩
  · obtain ⟨rfl, h1⟩ := h
    exact ⟨rfl, OKs.cons h1 ht⟩
  · obtain ⟨rfl, h1⟩ := h
    exact ⟨rfl, OKs.cons h1 ht⟩
  · rename_i n0 n1 n2
    obtain ⟨o, rfl, rfl⟩ := h
    have e1 : pushR rk (o : Int) t = .inr (.inr (o : Int).toNat) :: t := by
      unfold pushR
      split
      · exact absurd rfl n0
      · exact absurd rfl n1
      · exact absurd rfl n2
      · rfl
    rw [e1]
    exact ⟨rfl, OKs.cons trivial ht⟩
section SW
variable {p : Program} {l : Launch} {e : Env} {R : Room} {s : State} {m : MethodId} {args : Array Value} {below : List Frame} {meth : Method} {c : Code} {H : Heap} {locs : List Loc} {cells slots : Nat} {Qs : State → Prop}
variable {D : va_G} {cI cJ : ClassId} {ad : Nat → Nat} {A : Nat → Prop} {H0 : Heap} {cc : ByteArray} {jls : Array Slot} {rest : List Value} {pc : Nat} {σ : Mem}
theorem if_W (hx : p.tables.exec = Jvm.exec) (hb : c.code = cc) {cd : Jvm.ClassFile.Cond} {off : Int} {tgt : Nat} {x : Int} {T F : Prop} (hdg : decode cc pc = .ok (.ifCond cd off, 3)) (ht : (pc : Int) + off = (tgt : Int)) (hi : InI x) (h : br cd x 0 T F)
    (kt : T → W p l e R s m args below meth c H locs cells slots Qs (F0 m tgt jls rest)) (kf : F → W p l e R s m args below meth c H locs cells slots Qs (F0 m (pc + 3) jls rest)) : W p l e R s m args below meth c H locs cells slots Qs (F0 m pc jls (.int (Int32.ofInt x) :: rest)) := by
  cases cd with
  | eq => exact lv_if_eq hx hb hdg ht (fun z => kt (h.1 ((of_eq0 hi).mp z))) (fun z => kf (h.2 (fun q => z ((of_eq0 hi).mpr q))))
  | ne => exact lv_if_ne hx hb hdg ht (fun z => kt (h.2 (fun q => z ((of_eq0 hi).mpr q)))) (fun z => kf (h.1 ((of_eq0 hi).mp z)))
  | lt => exact lv_if_lt hx hb hdg ht (fun z => kt (h.1 ((of_lt0 hi).mp z))) (fun z => kf (h.2 (Int.not_lt.mp (fun q => z ((of_lt0 hi).mpr q)))))
  | ge => exact lv_if_ge hx hb hdg ht (fun z => kt (h.2 ((of_ge0 hi).mp z))) (fun z => kf (h.1 (Int.not_le.mp (fun q => z ((of_ge0 hi).mpr q)))))
  | gt => exact lv_if_gt hx hb hdg ht (fun z => kt (h.1 ((of_gt0 hi).mp z))) (fun z => kf (h.2 (Int.not_lt.mp (fun q => z ((of_gt0 hi).mpr q)))))
  | le => exact lv_if_le hx hb hdg ht (fun z => kt (h.2 ((of_le0 hi).mp z))) (fun z => kf (h.1 (Int.not_le.mp (fun q => z ((of_le0 hi).mpr q)))))
theorem ic_W (hx : p.tables.exec = Jvm.exec) (hb : c.code = cc) {cd : Jvm.ClassFile.Cond} {off : Int} {tgt : Nat} {x y : Int} {T F : Prop} (hdg : decode cc pc = .ok (.if_icmp cd off, 3)) (ht : (pc : Int) + off = (tgt : Int)) (hi : InI x) (hj : InI y) (h : br cd x y T F)
    (kt : T → W p l e R s m args below meth c H locs cells slots Qs (F0 m tgt jls rest)) (kf : F → W p l e R s m args below meth c H locs cells slots Qs (F0 m (pc + 3) jls rest)) : W p l e R s m args below meth c H locs cells slots Qs (F0 m pc jls (.int (Int32.ofInt y) :: .int (Int32.ofInt x) :: rest)) := by
  cases cd with
  | eq => exact lv_icmp_eq hx hb hdg ht (fun z => kt (h.1 ((of_eq hi hj).mp z))) (fun z => kf (h.2 (fun q => z ((of_eq hi hj).mpr q))))
  | ne => exact lv_icmp_ne hx hb hdg ht (fun z => kt (h.2 (fun q => z ((of_eq hi hj).mpr q)))) (fun z => kf (h.1 ((of_eq hi hj).mp z)))
  | lt => exact lv_icmp_lt hx hb hdg ht (fun z => kt (h.1 ((of_lt hi hj).mp z))) (fun z => kf (h.2 (Int.not_lt.mp (fun q => z ((of_lt hi hj).mpr q)))))
  | ge => exact lv_icmp_ge hx hb hdg ht (fun z => kt (h.2 ((of_le hj hi).mp z))) (fun z => kf (h.1 (Int.not_le.mp (fun q => z ((of_le hj hi).mpr q)))))
  | gt => exact lv_icmp_gt hx hb hdg ht (fun z => kt (h.1 ((of_lt hj hi).mp z))) (fun z => kf (h.2 (Int.not_lt.mp (fun q => z ((of_lt hj hi).mpr q)))))
  | le => exact lv_icmp_le hx hb hdg ht (fun z => kt (h.2 ((of_le hi hj).mp z))) (fun z => kf (h.1 (Int.not_le.mp (fun q => z ((of_le hi hj).mpr q)))))
theorem lc_W (hx : p.tables.exec = Jvm.exec) (hb : c.code = cc) {cd : Jvm.ClassFile.Cond} {off : Int} {tgt : Nat} {x y : Int} {T F : Prop} (hd0 : decode cc pc = .ok (.lcmp, 1)) (hdg : decode cc (pc + 1) = .ok (.ifCond cd off, 3)) (ht : ((pc + 1 : Nat) : Int) + off = (tgt : Int)) (hi : InL x) (hj : InL y) (h : br cd x y T F)
    (kt : T → W p l e R s m args below meth c H locs cells slots Qs (F0 m tgt jls rest)) (kf : F → W p l e R s m args below meth c H locs cells slots Qs (F0 m (pc + 1 + 3) jls rest)) : W p l e R s m args below meth c H locs cells slots Qs (F0 m pc jls (.long (Int64.ofInt y) :: .long (Int64.ofInt x) :: rest)) := by
  refine W.lcmp hx hb hd0 ?_
  cases cd with
  | eq => exact lv_if_eq hx hb hdg ht (fun z => kt (h.1 ((ol_eq hi hj).mp ((lg_cmp_eq _ _).mp z)))) (fun z => kf (h.2 (fun q => z ((lg_cmp_eq _ _).mpr ((ol_eq hi hj).mpr q)))))
  | ne => exact lv_if_ne hx hb hdg ht (fun z => kt (h.2 (fun q => z ((lg_cmp_eq _ _).mpr ((ol_eq hi hj).mpr q))))) (fun z => kf (h.1 ((ol_eq hi hj).mp ((lg_cmp_eq _ _).mp z))))
  | lt => exact lv_if_lt hx hb hdg ht (fun z => kt (h.1 ((ol_lt hi hj).mp ((lg_cmp_lt _ _).mp z)))) (fun z => kf (h.2 (Int.not_lt.mp (fun q => z ((lg_cmp_lt _ _).mpr ((ol_lt hi hj).mpr q))))))
  | ge => exact lv_if_ge hx hb hdg ht (fun z => kt (h.2 ((ol_le hj hi).mp ((lg_cmp_ge _ _).mp z)))) (fun z => kf (h.1 (Int.not_le.mp (fun q => z ((lg_cmp_ge _ _).mpr ((ol_le hj hi).mpr q))))))
  | gt => exact lv_if_gt hx hb hdg ht (fun z => kt (h.1 ((ol_lt hj hi).mp ((lg_cmp_gt _ _).mp z)))) (fun z => kf (h.2 (Int.not_lt.mp (fun q => z ((lg_cmp_gt _ _).mpr ((ol_lt hj hi).mpr q))))))
  | le => exact lv_if_le hx hb hdg ht (fun z => kt (h.2 ((ol_le hi hj).mp ((lg_cmp_le _ _).mp z)))) (fun z => kf (h.1 (Int.not_le.mp (fun q => z ((lg_cmp_le _ _).mpr ((ol_le hi hj).mpr q))))))
theorem sw_at {x : Int} {K : Nat → Prop} : ∀ {ts : List Nat} {lo : Int} {j t : Nat}, swC x K lo ts → ts[j]? = some t → x = lo + (j : Int) → K t
  | [], _, _, _, _, h, _ => by simp at h
  | y :: ts, lo, 0, t, h, h1, hx => by
    have : y = t := by simpa using h1
    subst this
    exact h.1 (by omega)
  | y :: ts, lo, j + 1, t, h, h1, hx => sw_at (ts := ts) (lo := lo + 1) (j := j) h.2 (by simpa using h1) (by omega)
theorem call_W {rk : Nat} {Q : Int → Mem → Prop} {a : Array Value} {st0 : List Value} (hr : va_Run p l e R s m args below meth c H locs cells slots 0 0 (F0 m pc jls st0) rest (QcA D cI cJ ad rk Q (AA ad H.size) a) (AA ad H.size)) (hS : va_S A H0 H locs) (hAA : ∀ q, AA ad H.size q → A q)
    (kk : ∀ x σ1 ov H1 locs1, retV ad rk x ov → Q x σ1 → WH D cI cJ ad A σ1 H1 → va_S A H0 H1 locs1 → W p l e R s m args below meth c H1 locs1 cells slots Qs (F0 m (pc + 3) jls (ov.toList ++ rest))) : W p l e R s m args below meth c H locs cells slots Qs (F0 m pc jls st0) := by
  intro T hT X
  obtain ⟨v, st₀, t, T', L, h0, X', hL, e1, e2, ⟨⟨x, σ1, ov, hv, hret, hq, hP, hD, hWT⟩, hz, hk⟩, st⟩ := hr T hT X
  cases hv
  rw [h0] at hz hk
  obtain ⟨t2, a1, b1⟩ := kk x σ1 v T'.heap (locs ++ L) hret hq ⟨by rw [e1]; exact hP, hD.weaken (fun _ q _ h => hAA q.1 h), hWT⟩
    ⟨Nat.le_trans hS.1 (by rw [e1]; exact hz), fun q h1 h2 => by rw [e1, hk q (Nat.lt_of_lt_of_le h1 hS.1) (fun z => h2 (hAA q z))]; exact hS.2.1 q h1 h2, fun q hq => by
      rcases List.mem_append.mp hq with h | h
      · exact hS.2.2 q h
      · exact hAA _ (hL q h)⟩ T' rfl X'
  exact ⟨t2, st t2 a1, b1⟩
/-- what a return shows -/
def RV (ad : Nat → Nat) (rb : Bool) (ins : Instr) (x : Int) (vs : List Value) : Prop :=
  (ins = .ireturn ∧ vs = [.int (Int32.ofInt x)] ∧ InI x ∧ (rb = true → isB x)) ∨ (ins = .lreturn ∧ vs = [.long (Int64.ofInt x)] ∧ InL x) ∨ (ins = .areturn ∧ ∃ o : Nat, x = (o : Int) ∧ vs = [.ref (ad o)]) ∨ (ins = .return_ ∧ vs = [] ∧ x = 0)
theorem popN_spec : ∀ {n : Nat} {acc st as t : List AV}, popN n acc st = some (as, t) → ∃ u : List AV, st = u ++ t ∧ as = u.reverse ++ acc ∧ u.length = n
  | 0, acc, st, as, t, h => by
    cases h
    exact ⟨[], rfl, rfl, rfl⟩
  | n + 1, acc, [], as, t, h => by cases h
  | n + 1, acc, v :: st, as, t, h => by
    obtain ⟨u, h1, h2, h3⟩ := popN_spec (n := n) (acc := v :: acc) (st := st) h
    exact ⟨v :: u, by rw [h1]; rfl, by rw [h2]; simp, by simp [h3]⟩
theorem catS_conc : ∀ (t : List AV), ((t.map (conc ad)).map fun v => v.category).sum = catS t
  | [] => rfl
  | .inl _ :: t => by simp only [List.map_cons, List.sum_cons, catS_conc t, catS]; rfl
  | .inr (.inl _) :: t => by simp only [List.map_cons, List.sum_cons, catS_conc t, catS]; rfl
  | .inr (.inr _) :: t => by simp only [List.map_cons, List.sum_cons, catS_conc t, catS]; rfl
theorem OKs.app {u t : List AV} (h : OKs (u ++ t)) : OKs u ∧ OKs t := ⟨fun x hx => h x (List.mem_append_left _ hx), fun x hx => h x (List.mem_append_right _ hx)⟩
theorem OKs.rev {u : List AV} (h : OKs u) : OKs u.reverse := fun x hx => h x (List.mem_reverse.mp hx)
theorem am0_in {w : Cond} (h : w ∈ AM0.map (fun q => q.2)) : w ∈ gwl := by
  obtain ⟨q, hq, rfl⟩ := List.mem_map.mp h
  refine List.mem_filter.mpr ⟨pkW_in AM0_ok q hq, ?_⟩
  have : (AM0.map (fun q => q.2)).all goodWord = true := by decide +kernel
  exact List.all_eq_true.mp this _ h
set_option maxRecDepth 20000 in
theorem mcode_in {w : Cond} (h : w ∈ [Cond.code Lib.Math.min.name Lib.Math.min.code 2 (some .int), .code Lib.Math.max.name Lib.Math.max.code 2 (some .int), .code Lib.MathLoose.min_long.x Lib.MathLoose.min_long.code 4 (some .long), .code Lib.MathLoose.max_long.x Lib.MathLoose.max_long.code 4 (some .long), .code Lib.MathLoose.abs_long.x Lib.MathLoose.abs_long.code 2 (some .long)]) : w ∈ gwl := by
  have hg : goodWord w = true := by
    simp only [List.mem_cons, List.not_mem_nil, or_false] at h
    rcases h with rfl | rfl | rfl | rfl | rfl <;> rfl
  refine List.mem_filter.mpr ⟨cdL_in ?_, hg⟩
  simp only [List.mem_cons, List.not_mem_nil, or_false] at h
  rcases h with rfl | rfl | rfl | rfl | rfl
  · exact List.mem_of_getElem? (i := 57) rfl
  · exact List.mem_of_getElem? (i := 58) rfl
  · exact List.mem_of_getElem? (i := 38) rfl
  · exact List.mem_of_getElem? (i := 40) rfl
  · exact List.mem_of_getElem? (i := 24) rfl
theorem math_W (hx : p.tables.exec = Jvm.exec) (hb : c.code = cc) (hml : c.maxLocals = jls.size) {own idx a : Nat} (hown : s.vm.findClass (clsN own) = some m.cls) (hts : ∀ w ∈ gwl, w.before args s = true)
    (hma : MAt.any (fun q => decide (q.2 = (own, idx, a))) = true) (hfr : 1 ≤ R.frames) (hlo : 30 ≤ R.locals) (hcs : cells ≤ R.cells ∧ slots ≤ R.slots) (hdg : decode cc pc = .ok (.invokestatic idx, 3)) {st t : List AV} {x : AV} (h : mathC a st = some (x, t)) (hS : OKs st) (hc8 : catS t ≤ 8)
    (kk : OKs (x :: t) → W p l e R s m args below meth c H locs cells slots Qs (F0 m (pc + 3) jls ((x :: t).map (conc ad)))) : W p l e R s m args below meth c H locs cells slots Qs (F0 m pc jls (st.map (conc ad))) := by
  obtain ⟨q, hq, hq2⟩ := List.any_eq_true.mp hma
  have eq : q.2 = (own, idx, a) := of_decide_eq_true hq2
  have hw := hts _ (pk_gwl MAt_ok MAt_g (a := (own, idx, a)) ⟨q.1, by rw [← eq]; exact hq⟩)
  have hin := hts _ (am0_in (w := .initialized "java/lang/Math") (by simp [AM0]))
  have hroom : ((t.map (conc ad)).map fun v => v.category).sum + 15 ≤ R.locals := by rw [catS_conc]; omega
  unfold mathC at h
  split at h
  · split at h
    · rename_i y x t0
      cases h
      have hy : InI _ := hS.hd
      have hx1 : InI _ := hS.tl.hd
      refine va_mmin hx hb hml hown hw (hts _ (am0_in (by simp [AM0]))) hin (hts _ (mcode_in (by simp))) hfr (by omega) hcs.1 hcs.2 hdg ?_
      have e1 : (if Int32.ofInt y < Int32.ofInt x then Int32.ofInt y else Int32.ofInt x) = Int32.ofInt (min x y) := by
        simp only [of_lt hy hx1]
        split
        · rw [Int.min_eq_right (by omega)]
        · rw [Int.min_eq_left (by omega)]
      rw [e1]
      exact kk (OKs.cons ⟨by have := hy.1; have := hx1.1; omega, by have := hy.2; omega⟩ hS.tl.tl)
    · cases h
  · split at h
    · rename_i y x t0
      cases h
      have hy : InI _ := hS.hd
      have hx1 : InI _ := hS.tl.hd
      refine va_mmax hx hb hml hown hw (hts _ (am0_in (by simp [AM0]))) hin (hts _ (mcode_in (by simp))) hfr (by omega) hcs.1 hcs.2 hdg ?_
      have e1 : (if Int32.ofInt x < Int32.ofInt y then Int32.ofInt y else Int32.ofInt x) = Int32.ofInt (max x y) := by
        simp only [of_lt hx1 hy]
        split
        · rw [Int.max_eq_right (by omega)]
        · rw [Int.max_eq_left (by omega)]
      rw [e1]
      exact kk (OKs.cons ⟨by have := hy.1; omega, by have := hy.2; have := hx1.2; omega⟩ hS.tl.tl)
    · cases h
  · split at h
    · rename_i y x t0
      cases h
      have hy : InL _ := hS.hd
      have hx1 : InL _ := hS.tl.hd
      refine va_mmin_long hx hb hml hown hw (hts _ (am0_in (by simp [AM0]))) hin (hts _ (mcode_in (by simp))) hfr hroom hcs.1 hcs.2 hdg ?_
      have e1 : (if Int64.ofInt y < Int64.ofInt x then Int64.ofInt y else Int64.ofInt x) = Int64.ofInt (min x y) := by
        simp only [ol_lt hy hx1]
        split
        · rw [Int.min_eq_right (by omega)]
        · rw [Int.min_eq_left (by omega)]
      rw [e1]
      exact kk (OKs.cons ⟨by have := hy.1; have := hx1.1; omega, by have := hy.2; omega⟩ hS.tl.tl)
    · cases h
  · split at h
    · rename_i y x t0
      cases h
      have hy : InL _ := hS.hd
      have hx1 : InL _ := hS.tl.hd
      refine va_mmax_long hx hb hml hown hw (hts _ (am0_in (by simp [AM0]))) hin (hts _ (mcode_in (by simp))) hfr hroom hcs.1 hcs.2 hdg ?_
      have e1 : (if Int64.ofInt y < Int64.ofInt x then Int64.ofInt x else Int64.ofInt y) = Int64.ofInt (max x y) := by
        simp only [ol_lt hy hx1]
        split
        · rw [Int.max_eq_left (by omega)]
        · rw [Int.max_eq_right (by omega)]
      rw [e1]
      exact kk (OKs.cons ⟨by have := hy.1; omega, by have := hy.2; have := hx1.2; omega⟩ hS.tl.tl)
    · cases h
  · split at h
    · rename_i x t0
      cases h
      have hx1 : InL _ := hS.hd
      refine va_mabs_long hx hb hml hown hw (hts _ (am0_in (by simp [AM0]))) hin (hts _ (mcode_in (by simp))) hfr (by omega) hcs.1 hcs.2 hdg ?_
      have e1 : (if 0 < Int64.ofInt x then Int64.ofInt x else -Int64.ofInt x) = Int64.ofInt (w64 (x.natAbs : Int)) := by
        rw [of_w64, ← ol_0]
        simp only [ol_lt (x := 0) ⟨by decide, by decide⟩ hx1]
        split
        · rw [show (x.natAbs : Int) = x by omega]
        · rw [show (x.natAbs : Int) = -x by omega, Int64.ofInt_neg]
      rw [e1]
      exact kk (OKs.cons (w64_in _) hS.tl)
    · cases h
  · cases h
end SW
