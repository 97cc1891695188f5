-- THE SMALL MACHINE IS TRUE, 2: the cells in the heap, fields and arrays
def fval (ad : Nat → Nat) (ft : Nat) (x : Int) : Value := match ft with
  | 0 => .int (Int32.ofInt x)
  | 1 => .long (Int64.ofInt x)
  | 2 => .int (Int32.ofInt x)
  | j + 3 => .ref (ad j)
def flds (ad : Nat → Nat) (σ : Mem) (k : Nat) : Nat → List Nat → List Value
  | _, [] => []
  | j, ft :: t => fval ad ft (σ k j) :: flds ad σ k (j + 1) t
def cellOf (cI cJ : ClassId) (ad : Nat → Nat) (σ : Mem) (k : Nat) (c : LC) : va_E := match c with
  | .inl n => .inl (cI, n, .inl (fun i => Int32.ofInt (σ k i)))
  | .inr (.inl n) => .inl (cJ, n, .inr (.inl (fun i => Int64.ofInt (σ k i))))
  | .inr (.inr (ci, fts)) => .inr (ci, flds ad σ k 0 fts)
def wlF (cI cJ : ClassId) (ad : Nat → Nat) (σ : Mem) : Nat → List LC → va_W
  | _, [] => []
  | k, c :: t => (ad k, cellOf cI cJ ad σ k c) :: wlF cI cJ ad σ (k + 1) t
def ww (cI cJ : ClassId) (ad : Nat → Nat) (σ : Mem) : va_W := wlF cI cJ ad σ 0 layL
def WTc (σ : Mem) (k : Nat) (c : LC) : Prop := match c with
  | .inl _ => ∀ i, InI (σ k i)
  | .inr (.inl _) => ∀ i, InL (σ k i)
  | .inr (.inr (_, fts)) => ∀ j ft, fts[j]? = some ft → (ft = 0 ∨ ft = 2 → InI (σ k j)) ∧ (ft = 1 → InL (σ k j))
def WT (σ : Mem) : Prop := ∀ k c, layL[k]? = some c → WTc σ k c
theorem wlF_get {cI cJ : ClassId} {ad : Nat → Nat} {σ : Mem} : ∀ {l : List LC} {i k : Nat}, (wlF cI cJ ad σ i l)[k]? = (l[k]?).map (fun c => (ad (i + k), cellOf cI cJ ad σ (i + k) c))
  | [], i, k => by simp [wlF]
  | c :: t, i, 0 => by simp [wlF]
  | c :: t, i, k + 1 => by
    show (wlF cI cJ ad σ (i + 1) t)[k]? = _
    rw [wlF_get, show i + 1 + k = i + (k + 1) by omega]
    rfl
theorem ww_get {cI cJ : ClassId} {ad : Nat → Nat} {σ : Mem} {k : Nat} {c : LC} (h : layL[k]? = some c) : (ww cI cJ ad σ)[k]? = some (ad k, cellOf cI cJ ad σ k c) := by
  unfold ww
  rw [wlF_get, h, Nat.zero_add]
  rfl
theorem flds_get {ad : Nat → Nat} {σ : Mem} {k : Nat} : ∀ {fts : List Nat} {i j : Nat}, (flds ad σ k i fts)[j]? = (fts[j]?).map (fun ft => fval ad ft (σ k (i + j)))
  | [], i, j => by simp [flds]
  | c :: t, i, 0 => by simp [flds]
  | c :: t, i, j + 1 => by
    show (flds ad σ k (i + 1) t)[j]? = _
    rw [flds_get, show i + 1 + j = i + (j + 1) by omega]
    rfl
theorem lnth_get {α : Type} {d x : α} : ∀ {l : List α} {i : Nat}, lnth d l i = x → x ≠ d → l[i]? = some x
  | [], i, h, hx => absurd h.symm hx
  | y :: t, 0, h, _ => by rw [← h]; rfl
  | y :: t, i + 1, h, hx => by
    show t[i]? = some x
    exact lnth_get h hx
theorem lay_int {o n : Nat} (h : layC o = .inl n) (hn : 0 < n) : layL[o]? = some (.inl n) := lnth_get h (fun q => by cases q; omega)
theorem lay_r {o : Nat} {c : Nat ⊕ (Nat × List Nat)} (h : layC o = .inr c) : layL[o]? = some (.inr c) := lnth_get h (fun q => by cases q)
/-- one cell of the world changed -/
theorem ww_set {cI cJ : ClassId} {ad : Nat → Nat} {σ σ1 : Mem} {o : Nat} {c : LC} (h : layL[o]? = some c) (hk : ∀ k, k ≠ o → σ1 k = σ k) {e : va_E} (he : e = cellOf cI cJ ad σ1 o c) : (ww cI cJ ad σ).set o (ad o, e) = ww cI cJ ad σ1 := by
  apply List.ext_getElem?
  intro k
  have hl : o < (ww cI cJ ad σ).length := (List.getElem?_eq_some_iff.mp (ww_get (cI := cI) (cJ := cJ) (ad := ad) (σ := σ) h)).1
  by_cases hko : k = o
  · subst hko
    rw [List.getElem?_set_self hl, ww_get h, he]
  · rw [List.getElem?_set_ne (Ne.symm hko)]
    unfold ww
    rw [wlF_get, wlF_get, Nat.zero_add]
    congr 1
    funext c
    have e1 := hk k hko
    have : cellOf cI cJ ad σ k c = cellOf cI cJ ad σ1 k c := by
      match c with
      | .inl n => simp [cellOf, e1]
      | .inr (.inl n) => simp [cellOf, e1]
      | .inr (.inr (ci, fts)) =>
        simp only [cellOf]
        congr 2
        apply List.ext_getElem?
        intro j
        rw [flds_get, flds_get, e1]
    rw [this]
theorem mset_off {σ : Mem} {o i : Nat} {x : Int} (k : Nat) (h : k ≠ o) : mset σ o i x k = σ k := by
  funext j
  simp [mset, h]
theorem mcpy_off {σ : Mem} {so sp d dp n : Nat} (k : Nat) (h : k ≠ d) : mcpy σ so sp d dp n k = σ k := by
  funext j
  simp [mcpy, h]
theorem WT_mset {σ : Mem} (hW : WT σ) {o i : Nat} {x : Int} (hx : ∀ c, layL[o]? = some c → match c with
    | .inl _ => InI x
    | .inr (.inl _) => InL x
    | .inr (.inr (_, fts)) => ∀ ft, fts[i]? = some ft → (ft = 0 ∨ ft = 2 → InI x) ∧ (ft = 1 → InL x)) : WT (mset σ o i x) := by
  intro k c hc
  have h0 := hW k c hc
  by_cases hk : k = o
  · subst hk
    have h1 := hx c hc
    match c with
    | .inl n =>
      intro j
      show InI (if _ then _ else _)
      split
      · exact h1
      · exact h0 j
    | .inr (.inl n) =>
      intro j
      show InL (if _ then _ else _)
      split
      · exact h1
      · exact h0 j
    | .inr (.inr (ci, fts)) =>
      intro j ft hf
      by_cases hj : j = i
      · subst hj
        have h2 := h1 ft hf
        simp only [mset, and_self, if_true]
        exact h2
      · have h2 := h0 j ft hf
        simp only [mset, hj, and_false, if_false]
        exact h2
  · have e := mset_off (σ := σ) (i := i) (x := x) k hk
    match c with
    | .inl n => intro j; rw [e]; exact h0 j
    | .inr (.inl n) => intro j; rw [e]; exact h0 j
    | .inr (.inr (ci, fts)) => intro j ft hf; rw [e]; exact h0 j ft hf
def tyOf (ci : Nat) : Nat → FieldType := match ci with
  | 0 => tyX0
  | 1 => tyX1
  | 2 => tyX2
  | 3 => tyX3
  | 4 => tyX4
  | 5 => tyX5
  | 6 => tyX6
  | 7 => tyX7
  | _ => tyX8
theorem LY_all : (List.range 9).all (fun ci => match vwCl[ci]? with
  | some (_, _, N) => (List.range N).all (fun k => LYt.any (fun q => decide (q.2 = (ci, k))))
  | none => false) = true := by decide +kernel
def ClsOK (ci : Nat) (C : String) (T : u_T) (N : Nat) : Prop := vwCl[ci]? = some (C, T, N) ∧ (∀ w ∈ u_ws C T N, w ∈ gwl) ∧ (∀ k, k < N → parseFieldDescriptor (T k).2.2.1 = some (tyOf ci k)) ∧ (∀ a, a < N → ∀ b, b < N → a ≠ b → (T a).2.1 ≠ (T b).2.1)
theorem cls_ws {ci : Nat} {C : String} {T : u_T} {N : Nat} (hci : ci < 9) (h : vwCl[ci]? = some (C, T, N)) : ∀ w ∈ u_ws C T N, w ∈ gwl := by
  intro w hw
  obtain ⟨k, hk, rfl⟩ := List.mem_map.mp hw
  have hk := List.mem_range.mp hk
  have h1 := List.all_eq_true.mp LY_all ci (List.mem_range.mpr hci)
  rw [h] at h1
  have h2 := List.all_eq_true.mp h1 k (List.mem_range.mpr hk)
  obtain ⟨q, hq, hq2⟩ := List.any_eq_true.mp h2
  have e : q.2 = (ci, k) := of_decide_eq_true hq2
  have h3 := pk_gwl LYt_ok LYt_g (a := (ci, k)) ⟨q.1, by rw [← e]; exact hq⟩
  have e2 : lyw (ci, k) = u_lay C T k := by
    unfold lyw
    simp only [h]
  rwa [e2] at h3
theorem cls_ok {ci : Nat} (hci : ci < 9) : ∃ C T N, ClsOK ci C T N := by
  match ci, hci with
  | 0, h => exact ⟨RX0, TX0, 5, rfl, cls_ws h rfl, tyX0_ok, nmX0⟩
  | 1, h => exact ⟨RX1, TX1, 13, rfl, cls_ws h rfl, tyX1_ok, nmX1⟩
  | 2, h => exact ⟨RX2, TX2, 5, rfl, cls_ws h rfl, tyX2_ok, nmX2⟩
  | 3, h => exact ⟨RX3, TX3, 4, rfl, cls_ws h rfl, tyX3_ok, nmX3⟩
  | 4, h => exact ⟨RX4, TX4, 19, rfl, cls_ws h rfl, tyX4_ok, nmX4⟩
  | 5, h => exact ⟨RX5, TX5, 2, rfl, cls_ws h rfl, tyX5_ok, nmX5⟩
  | 6, h => exact ⟨RX6, TX6, 9, rfl, cls_ws h rfl, tyX6_ok, nmX6⟩
  | 7, h => exact ⟨RX7, TX7, 11, rfl, cls_ws h rfl, tyX7_ok, nmX7⟩
  | 8, h => exact ⟨RX8, TX8, 59, rfl, cls_ws h rfl, tyX8_ok, nmX8⟩
  | n + 9, h => exact absurd h (by omega)
def ftOK (ci j ft : Nat) : Bool := match ft with
  | 0 => decide (tyOf ci j = .int)
  | 1 => decide (tyOf ci j = .long)
  | 2 => decide (tyOf ci j = .boolean)
  | _ => true
def cOK (c : LC) : Bool := match c with
  | .inl n => decide (n < 2147483648)
  | .inr (.inl n) => decide (n < 2147483648)
  | .inr (.inr (ci, fts)) => decide (ci < 9) && (match vwCl[ci]? with
    | some (_, _, N) => decide (fts.length = N)
    | none => false) && (List.range fts.length).all (fun j => ftOK ci j (lnth 0 fts j))
theorem lay_all : layL.all cOK = true := by decide +kernel
theorem lay_len : layL.length = 81 := by decide +kernel
theorem lnth_of {α : Type} {d x : α} : ∀ {l : List α} {i : Nat}, l[i]? = some x → lnth d l i = x
  | [], i, h => by simp at h
  | y :: t, 0, h => by simpa [lnth] using h
  | y :: t, i + 1, h => by
    have h1 : t[i]? = some x := by simpa using h
    exact lnth_of (l := t) h1
theorem lay_obj {o ci : Nat} {fts : List Nat} (h : layL[o]? = some (.inr (.inr (ci, fts)))) : ci < 9 ∧ (∀ C T N, vwCl[ci]? = some (C, T, N) → fts.length = N) ∧ ∀ j ft, fts[j]? = some ft → ftOK ci j ft = true := by
  have h1 := List.all_eq_true.mp lay_all _ (List.mem_of_getElem? h)
  simp only [cOK, Bool.and_eq_true, decide_eq_true_eq] at h1
  obtain ⟨⟨a, b⟩, c⟩ := h1
  refine ⟨a, fun C T N hv => ?_, fun j ft hf => ?_⟩
  · rw [hv] at b
    exact of_decide_eq_true b
  · have hj : j < fts.length := (List.getElem?_eq_some_iff.mp hf).1
    have h2 := List.all_eq_true.mp c j (List.mem_range.mpr hj)
    rw [lnth_of hf] at h2
    exact h2
section GW
variable {p : Program} {l : Launch} {e : Env} {R : Room} {s : State} {m : MethodId} {args : Array Value} {below : List Frame} {meth : Method} {c : Code} {H : Heap} {locs : List Loc} {cells slots : Nat} {Qs : State → Prop}
variable {D : va_G} {cI cJ : ClassId} {ad : Nat → Nat} {A : Nat → Prop} {H0 : Heap} {cc : ByteArray} {jls : Array Slot} {rest : List Value} {pc : Nat} {σ : Mem}
/-- the world in a heap -/
def WH (D : va_G) (cI cJ : ClassId) (ad : Nat → Nat) (A : Nat → Prop) (σ : Mem) (H : Heap) : Prop := va_P D vwCl (ww cI cJ ad σ) H ∧ va_D A (ww cI cJ ad σ) ∧ WT σ
abbrev tyIJ (cI cJ : ClassId) : List (ClassId × FieldType) := [(cI, .int), (cJ, .long)]
theorem gf_W (hx : p.tables.exec = Jvm.exec) (hb : c.code = cc) {own idx k ci o : Nat} (hown : s.vm.findClass (clsN own) = some m.cls) (hts : ∀ w ∈ gwl, w.before args s = true) (hK : va_K D vwCl (tyIJ cI cJ) s)
    (hW : WH D cI cJ ad A σ H) (hfl : FLt.any (fun q => decide (q.2 = (own, idx, ci, k))) = true) (hdg : decode cc pc = .ok (.getfield idx, 3)) {K : AV → Prop} (h : getF σ o k ci K)
    (kk : ∀ v, K v → OKv v → W p l e R s m args below meth c H locs cells slots Qs (F0 m (pc + 3) jls (conc ad v :: rest))) : W p l e R s m args below meth c H locs cells slots Qs (F0 m pc jls (.ref (ad o) :: rest)) := by
  obtain ⟨q, hq, hq2⟩ := List.any_eq_true.mp hfl
  have eq : q.2 = (own, idx, ci, k) := of_decide_eq_true hq2
  have hw := pk_gwl FLt_ok FLt_g (a := (own, idx, ci, k)) ⟨q.1, by rw [← eq]; exact hq⟩
  unfold getF at h
  split at h
  · rename_i c0 fts hlc
    split at h
    · rename_i hb1
      have hci : c0 = ci := Nat.eq_of_beq_eq_true hb1
      subst hci
      have hlay := lay_r hlc
      obtain ⟨h9, hlen, -⟩ := lay_obj hlay
      obtain ⟨C, T, N, hv, hin, hty, hnm⟩ := cls_ok h9
      have hN := hlen C T N hv
      have hfw : flw (own, idx, c0, k) = .fieldLink (clsN own) idx (T k).1 (T k).2.1 (T k).2.2.1 := by
        unfold flw
        simp only [hv]
      rw [hfw] at hw
      have hwt := hW.2.2 o _ hlay
      have key : ∀ ft v, lnth 1000000 fts k = ft → ft ≠ 1000000 → fval ad ft (σ o k) = conc ad v → K v → OKv v → W p l e R s m args below meth c H locs cells slots Qs (F0 m pc jls (.ref (ad o) :: rest)) := by
        intro ft v hft hne hval hKv hOK
        have hg := lnth_get hft hne
        have hk : k < N := by rw [← hN]; exact (List.getElem?_eq_some_iff.mp hg).1
        refine va_get hx hb hts hin hown hK hW.1 o (ww_get hlay) hv k hk (hts _ hw) (fun _ h9 => h9) (v := conc ad v) ?_ hdg (kk v hKv hOK)
        rw [flds_get, hg, Nat.zero_add, Option.map_some, hval]
      split at h
      · rename_i hft
        exact key 0 _ hft (by decide) rfl h ((hwt k 0 (lnth_get hft (by decide))).1 (Or.inl rfl))
      · rename_i hft
        exact key 1 _ hft (by decide) rfl h ((hwt k 1 (lnth_get hft (by decide))).2 rfl)
      · rename_i hft
        exact key 2 _ hft (by decide) rfl h ((hwt k 2 (lnth_get hft (by decide))).1 (Or.inr rfl))
      · rename_i j hft
        split at h
        · rename_i hj
          have hj2 := Nat.le_of_ble_eq_true hj
          exact key (j + 3) _ hft (by omega) rfl h trivial
        · exact h.elim
    · exact h.elim
  · exact h.elim
end GW
