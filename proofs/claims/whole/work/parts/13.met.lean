-- THE SMALL MACHINE IS TRUE, 6: what wp says of a method is a contract of it
section MT
theorem entL_spec {ad : Nat → Nat} : ∀ {as : List AV} {i : Nat} {q : Nat × Value}, q ∈ asc ad i (entL as) → q ∈ lv_args i (as.map (conc ad))
  | [], _, _, h => by cases h
  | .inl x :: t, i, q, h => by
    have h1 : q ∈ (i, conc ad (.inl x)) :: asc ad (i + 1) (entL t) := h
    show q ∈ (i, conc ad (.inl x)) :: lv_args (i + 1) (t.map (conc ad))
    rcases List.mem_cons.mp h1 with rfl | h2
    · exact List.mem_cons_self
    · exact List.mem_cons_of_mem _ (entL_spec h2)
  | .inr (.inr x) :: t, i, q, h => by
    have h1 : q ∈ (i, conc ad (.inr (.inr x))) :: asc ad (i + 1) (entL t) := h
    show q ∈ (i, conc ad (.inr (.inr x))) :: lv_args (i + 1) (t.map (conc ad))
    rcases List.mem_cons.mp h1 with rfl | h2
    · exact List.mem_cons_self
    · exact List.mem_cons_of_mem _ (entL_spec h2)
  | .inr (.inl x) :: t, i, q, h => by
    have h1 : q ∈ (i, conc ad (.inr (.inl x))) :: asc ad (i + 1 + 1) (entL t) := h
    show q ∈ (i, conc ad (.inr (.inl x))) :: lv_args (i + 2) (t.map (conc ad))
    rcases List.mem_cons.mp h1 with rfl | h2
    · exact List.mem_cons_self
    · exact List.mem_cons_of_mem _ (entL_spec h2)
theorem lget_pad : ∀ {n : Nat} {l : Lo} {j : Nat} {v : AV}, lget (padL n l) j = some v → lget l j = some v
  | 0, _, _, _, h => h
  | n + 1, [], 0, _, h => by cases h
  | n + 1, [], j + 1, v, h => by
    have h1 : lget (padL n []) j = some v := h
    have := lget_pad h1
    cases this
  | n + 1, x :: t, 0, _, h => h
  | n + 1, x :: t, j + 1, v, h => lget_pad (n := n) (l := t) h
theorem lget_ent : ∀ {as : List AV} {j : Nat} {v : AV}, lget (entL as) j = some v → v ∈ as
  | [], _, _, h => by cases h
  | .inl x :: t, 0, v, h => by cases h; exact List.mem_cons_self
  | .inl x :: t, j + 1, v, h => List.mem_cons_of_mem _ (lget_ent (as := t) h)
  | .inr (.inr x) :: t, 0, v, h => by cases h; exact List.mem_cons_self
  | .inr (.inr x) :: t, j + 1, v, h => List.mem_cons_of_mem _ (lget_ent (as := t) h)
  | .inr (.inl x) :: t, 0, v, h => by cases h; exact List.mem_cons_self
  | .inr (.inl x) :: t, 1, v, h => by cases h
  | .inr (.inl x) :: t, j + 2, v, h => List.mem_cons_of_mem _ (lget_ent (as := t) h)
theorem LR_entry {ad : Nat → Nat} {n : Nat} {as : List AV} {jls : Array Slot} (h : lv_has jls n (lv_args 0 (as.map (conc ad)))) (hO : OKs as) : LR ad n (padL n (entL as)) jls := by
  refine ⟨⟨h.1, h.2.1, fun q hq => h.2.2 q ?_⟩, fun j v hv => hO v (lget_ent (lget_pad hv))⟩
  obtain ⟨j, v, h1, rfl⟩ := asc_mem.mp hq
  exact entL_spec (asc_mem.mpr ⟨j, v, lget_pad h1, rfl⟩)
theorem lg_len {ad : Nat → Nat} : ∀ (as : List AV), (lg_sl (as.map (conc ad))).length = catS as
  | [] => rfl
  | .inl x :: t => by
    have h1 : lg_sl ((.inl x :: t : List AV).map (conc ad)) = [.val (conc ad (.inl x))] ++ lg_sl (t.map (conc ad)) := rfl
    rw [h1, List.length_append, lg_len t]
    rfl
  | .inr (.inr x) :: t => by
    have h1 : lg_sl ((.inr (.inr x) :: t : List AV).map (conc ad)) = [.val (conc ad (.inr (.inr x)))] ++ lg_sl (t.map (conc ad)) := rfl
    rw [h1, List.length_append, lg_len t]
    rfl
  | .inr (.inl x) :: t => by
    have h1 : lg_sl ((.inr (.inl x) :: t : List AV).map (conc ad)) = [.val (conc ad (.inr (.inl x))), .second] ++ lg_sl (t.map (conc ad)) := rfl
    rw [h1, List.length_append, lg_len t]
    rfl
def chkAll : Prop := ∀ i, i < 250 → chkM i = true
theorem rb_of {i : Nat} (h : rbOf i = true) : mR i = some .boolean := by
  unfold rbOf at h
  split at h
  · rename_i h1
    exact h1
  · cases h
set_option maxHeartbeats 4000000 in
theorem wp_met (hchk : chkAll) (l : Launch) (D : va_G) (cI cJ : ClassId) (ad : Nat → Nat) : ∀ (d i : Nat) (as : List AV) (σ : Mem) (Q : Int → Mem → Prop), i < 250 → wp d i as σ Q → Ct l D cI cJ ad d i as σ Q := by
  intro d
  induction d with
  | zero => intro i as σ Q _ h; exact h.elim
  | succ d ih =>
    intro i as σ Q hi h sz
    have F := mfacts hi
    obtain ⟨hcat, hX⟩ := wp_out h
    have hcat := Nat.le_of_ble_eq_true hcat
    refine Met.ofW (cc := mB i) (maxL := mL i) (ret := mR i) F.2.2.2.2.2.1.1 rfl ?_
    intro p e s m args below meth c s₁ B hml hv
    obtain ⟨rfl, hsz, hW, hK, hO, hNS⟩ := hv
    have hx := B.exec
    have hb := B.bytes
    have hr := B.returns
    have hts0 := atoms_spec (ws := cdw i :: gwl) B.pre
    have hts : ∀ w ∈ gwl, w.before (as.map (conc ad)).toArray s = true := fun w hw => hts0 w (List.mem_cons_of_mem _ hw)
    have hown : s.vm.findClass (clsN (mxOf i).1) = some m.cls := by rw [← F.1]; exact findClass_of_methodNamed B.named
    have hlocks := B.notSynchronized
    subst hsz
    have hA : ∀ q, s.heap.size ≤ q → AA ad s.heap.size q := fun q h => Or.inr h
    have hW1 : WH D cI cJ ad (AA ad s.heap.size) σ s.heap := ⟨hW.1, ⟨hW.2.1.1, fun k q hk => Or.inl ⟨k, ?_, ?_⟩⟩, hW.2.2⟩
    · have hl := lv_entry (as.map (conc ad)) (n := mL i) (by rw [lg_len]; exact hcat)
      rw [lg_entry_eq]
      generalize (lg_sl (as.map (conc ad)) ++ List.replicate (mL i - (lg_sl (as.map (conc ad))).length) Slot.unset).toArray = jls at hl ⊢
      have hLR := LR_entry hl hO
      have hc := hchk i hi
      unfold chkM at hc
      simp only [Bool.and_eq_true] at hc
      have key := hX (fun pc ls st σ => ∀ (jls : Array Slot) (H : Heap) (locs : List Loc), LR ad (mL i) ls jls → OKs st → WH D cI cJ ad (AA ad s.heap.size) σ H → va_S (AA ad s.heap.size) s.heap H locs → W p l e (headSpec (cdw i :: gwl) (rmD (d + 1))).room s m (as.map (conc ad)).toArray below meth c H locs 0 0 (MQ below (QcA D cI cJ ad (rkOf (mR i)) Q (AA ad s.heap.size)) (as.map (conc ad)).toArray s 0 0 (AA ad s.heap.size)) (F0 m pc jls (st.map (conc ad)))) (by
        intro pc ls st σ1 hseg jl H locs a1 a2 a3 a4
        obtain ⟨e2, t2, h2⟩ := seg_ne hseg
        obtain ⟨h3, h4⟩ := toPc_suf h2
        rw [h2] at hseg
        have := seg_W (own := (mxOf i).1) (d := d) hx hb hml hown hts hNS hK hA (fun L xs z => by cases z) ⟨Nat.le_refl _, by show 64 * d + 64 ≤ 64 * (d + 1); omega⟩ ⟨Nat.zero_le _, Nat.zero_le _⟩ (fun i as σ K hi h => ih i as σ K hi h) hc.1.1 hc.1.2 (fun ins pc jls H locs x σ vs hen hdg hrv hq hW hS => ?_) (fun pc ls st σ jls H locs hP a1 a2 a3 a4 => hP jls H locs a1 a2 a3 a4) _ _ _ _ _ _ hseg h4 jl H locs a1 a2 a3 a4 e2 t2 rfl
        · rw [h3] at this
          exact this
        · have fin : ∀ ov, retV ad (rkOf (mR i)) x ov → ∀ t : State, t.heap = H → s.WarmedH t.vm → QcA D cI cJ ad (rkOf (mR i)) Q (AA ad s.heap.size) (as.map (conc ad)).toArray s (.returned ov) t := fun ov hov t ht hWm => ⟨⟨x, σ, ov, rfl, hov, hq, by rw [ht]; exact hW⟩, hS.F ht⟩
          obtain ⟨en, hen1, hen2⟩ := hen
          have hro := List.all_eq_true.mp hc.2 en hen1
          unfold retOK at hro
          rw [hen2] at hro
          rcases hrv with ⟨rfl, rfl, hxi, hbb⟩ | ⟨rfl, rfl, hxl⟩ | ⟨rfl, o, rfl, rfl⟩ | ⟨rfl, rfl, rfl⟩
          · simp only [Bool.or_eq_true, decide_eq_true_eq] at hro
            rcases hro with hro | hro
            · exact W.iret hx hb (hr.trans hro) (fin _ (by rw [hro]; exact ⟨rfl, hxi⟩)) hS.2.2 hdg
            · have hB : isB x := hbb (by unfold rbOf; rw [show (mtOf i).2.2.2 = some .boolean from hro])
              refine W.zret (ty := .boolean) hx hb (hr.trans hro) ?_ (fin _ (by rw [hro]; exact ⟨rfl, hxi⟩)) hS.2.2 hdg
              rcases hB with rfl | rfl <;> rfl
          · simp only [decide_eq_true_eq] at hro
            exact W.lret hx hb (hr.trans hro) (fin _ (by rw [hro]; exact ⟨rfl, hxl⟩)) hS.2.2 hdg
          · simp only [decide_eq_true_eq] at hro
            exact W.aret hx hb (hr.trans hro) (Or.inr ⟨_, rfl⟩) (Or.inr ⟨_, rfl⟩) (fin _ (by rw [hro]; exact ⟨o, rfl, rfl⟩)) hS.2.2 hdg
          · simp only [decide_eq_true_eq] at hro
            exact W.vret hx hb (hr.trans hro) (fin _ (by rw [hro]; exact rfl)) hS.2.2 hdg)
      exact key jls s.heap [] hLR OKs.nil hW1 va_S.rf
    · have h1 : (ww cI cJ ad σ)[k]? = some q := hk
      unfold ww at h1
      rw [wlF_get] at h1
      rw [← lay_len]
      cases hc : layL[k]? with
      | none => rw [hc] at h1; cases h1
      | some c0 => exact (List.getElem?_eq_some_iff.mp hc).1
    · have h1 : (ww cI cJ ad σ)[k]? = some q := hk
      unfold ww at h1
      rw [wlF_get, Nat.zero_add] at h1
      cases hc : layL[k]? with
      | none => rw [hc] at h1; cases h1
      | some c0 => rw [hc] at h1; cases h1; rfl
end MT
