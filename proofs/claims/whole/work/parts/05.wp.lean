def wp : Nat → Nat → List AV → Mem → (Int → Mem → Prop) → Prop
  | 0 => fun _ _ _ _ => False
  | d + 1 => fun i as σ Q => Nat.ble (catS as) (mtOf i).2.2.1 = true ∧ XX none (wp d) (codeOf i) (rbOf i) Q 0 (padL (mtOf i).2.2.1 (entL as)) [] σ
theorem wp_in {d i : Nat} {as : List AV} {σ : Mem} {Q : Int → Mem → Prop} (h : Nat.ble (catS as) (mtOf i).2.2.1 = true) (h2 : XX none (wp d) (codeOf i) (rbOf i) Q 0 (padL (mtOf i).2.2.1 (entL as)) [] σ) : wp (d + 1) i as σ Q := And.intro h h2
theorem wp_out {d i : Nat} {as : List AV} {σ : Mem} {Q : Int → Mem → Prop} (h : wp (d + 1) i as σ Q) : Nat.ble (catS as) (mtOf i).2.2.1 = true ∧ XX none (wp d) (codeOf i) (rbOf i) Q 0 (padL (mtOf i).2.2.1 (entL as)) [] σ := h
theorem XX_mono {sc : Option (Nat × (Nat → Int))} {call call' : Nat → List AV → Mem → (Int → Mem → Prop) → Prop} {full : List En} {rb : Bool} {Q Q' : Int → Mem → Prop}
    (hc : ∀ m as σ (K K' : Int → Mem → Prop), (∀ r σ1, K r σ1 → K' r σ1) → call m as σ K → call' m as σ K') (hQ : ∀ x σ, Q x σ → Q' x σ) {pc : Nat} {ls : Lo} {st : List AV} {σ : Mem} (h : XX sc call full rb Q pc ls st σ) : XX sc call' full rb Q' pc ls st σ :=
  fun P hP => h P (fun pc ls st σ h1 => hP pc ls st σ (seg_mono hc hQ (fun _ _ _ _ z => z) _ _ _ _ _ _ h1))
theorem wp_conseq {d : Nat} : ∀ {m : Nat} {as : List AV} {σ : Mem} {K K' : Int → Mem → Prop}, (∀ r σ1, K r σ1 → K' r σ1) → wp d m as σ K → wp d m as σ K' := by
  induction d with
  | zero => intro m as σ K K' _ h; exact h
  | succ d ih => intro m as σ K K' hK h; exact wp_in (wp_out h).1 (XX_mono (call := wp d) (call' := wp d) (fun m as σ K K' hk h1 => ih hk h1) hK (wp_out h).2)
theorem wp_up {d : Nat} : ∀ {m : Nat} {as : List AV} {σ : Mem} {K : Int → Mem → Prop}, wp d m as σ K → wp (d + 1) m as σ K := by
  induction d with
  | zero => intro m as σ K h; exact h.elim
  | succ d ih => intro m as σ K h; exact wp_in (wp_out h).1 (XX_mono (call := wp d) (call' := wp (d + 1)) (fun m as σ K K' hk h1 => ih (wp_conseq hk h1)) (fun _ _ z => z) (wp_out h).2)
theorem wp_le {d e : Nat} (h : d ≤ e) {m : Nat} {as : List AV} {σ : Mem} {K : Int → Mem → Prop} (h1 : wp d m as σ K) : wp e m as σ K := by
  induction h with
  | refl => exact h1
  | step _ ih => exact wp_up ih
/-- a stretch from a cut: what it asks gives the cut -/
theorem XX_intro {sc : Option (Nat × (Nat → Int))} {d : Nat} {full : List En} {rb : Bool} {Q : Int → Mem → Prop} {pc : Nat} {ls : Lo} {st : List AV} {σ : Mem}
    (h : seg sc (wp d) full rb Q (XX sc (wp d) full rb Q) 2000 true (toPc pc full) ls st σ) : XX sc (wp d) full rb Q pc ls st σ :=
  fun P hP => hP _ _ _ _ (seg_mono (call := wp d) (call' := wp d) (cut := XX sc (wp d) full rb Q) (cut' := P) (fun m as σ K K' hk h1 => wp_conseq hk h1) (fun _ _ z => z) (fun pc ls st σ z => z P hP) _ _ _ _ _ _ h)
