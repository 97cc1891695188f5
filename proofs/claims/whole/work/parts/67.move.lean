-- PURE, 38: the image is moved
def Pm (q : Nat) : Nat × Nat :=
  if q < 6 then (49, if q = 0 then 0 else if q = 1 then 1 else if q = 2 then 5 else if q = 3 then 6 else if q = 4 then 9 else 12)
  else if q < 14 then (if (q - 6) % 2 = 0 then 50 else 51, (q - 6) / 2)
  else if q < 86 then (52, q - 14)
  else if q < 98 then (53, q - 86)
  else if q < 386 then (54, q - 98)
  else if q < 404 then (if (q - 386) % 3 = 0 then 55 else if (q - 386) % 3 = 1 then 56 else 58, (q - 386) / 3)
  else (57, q - 404)
def posM (k i : Nat) : Nat :=
  if k = 49 then (if i = 0 then 0 else if i = 1 then 1 else if i = 5 then 2 else if i = 6 then 3 else if i = 9 then 4 else 5)
  else if k = 50 then 6 + 2 * i else if k = 51 then 7 + 2 * i else if k = 52 then 14 + i else if k = 53 then 86 + i else if k = 54 then 98 + i
  else if k = 55 then 386 + 3 * i else if k = 56 then 387 + 3 * i else if k = 58 then 388 + 3 * i else 404 + i
set_option maxRecDepth 10000 in
theorem posP_fin : ∀ q : Fin 428, posM (Pm q.val).1 (Pm q.val).2 = q.val ∧ (Pm q.val).1 ≠ 80 ∧ ¬ ((Pm q.val).1 = 49 ∧ ((Pm q.val).2 = 57 ∨ (Pm q.val).2 = 58)) := by decide +kernel
theorem posP {q : Nat} (h : q < 428) : posM (Pm q).1 (Pm q).2 = q ∧ (Pm q).1 ≠ 80 ∧ ¬ ((Pm q).1 = 49 ∧ ((Pm q).2 = 57 ∨ (Pm q).2 = 58)) := posP_fin ⟨q, h⟩
set_option maxRecDepth 10000 in
theorem Pm50 : ∀ i : Fin 4, Pm (6 + 2 * i.val) = (50, i.val) ∧ Pm (7 + 2 * i.val) = (51, i.val) := by decide +kernel
set_option maxRecDepth 10000 in
theorem Pm52 : ∀ i : Fin 72, Pm (14 + i.val) = (52, i.val) := by decide +kernel
set_option maxRecDepth 10000 in
theorem Pm53 : ∀ i : Fin 12, Pm (86 + i.val) = (53, i.val) := by decide +kernel
set_option maxRecDepth 10000 in
theorem Pm54 : ∀ i : Fin 288, Pm (98 + i.val) = (54, i.val) := by decide +kernel
set_option maxRecDepth 10000 in
theorem Pm55 : ∀ i : Fin 6, Pm (386 + 3 * i.val) = (55, i.val) ∧ Pm (387 + 3 * i.val) = (56, i.val) ∧ Pm (388 + 3 * i.val) = (58, i.val) := by decide +kernel
set_option maxRecDepth 10000 in
theorem Pm57 : ∀ i : Fin 24, Pm (404 + i.val) = (57, i.val) := by decide +kernel
/-- the first p places are moved (tk: taken) -/
def INV (tk : Bool) (σ : Mem) (p : Nat) (τ : Mem) : Prop := τ 49 57 = (p : Int) ∧ (τ 49 58 = if tk then 1 else 0) ∧ (∀ q, q < p → τ 80 q = τ (Pm q).1 (Pm q).2) ∧ (tk = true → ∀ k i, k ≠ 80 → ¬ (k = 49 ∧ i = 57) → τ k i = σ k i) ∧ (tk = false → ∀ i, τ 80 i = σ 80 i) ∧ (∀ k i, k ≠ 80 → ¬ (50 ≤ k ∧ k ≤ 58) → ¬ (k = 49 ∧ (i = 0 ∨ i = 1 ∨ i = 5 ∨ i = 6 ∨ i = 9 ∨ i = 12 ∨ i = 57)) → τ k i = σ k i)
theorem sp_M_move {d : Nat} {tk : Bool} {σ τ : Mem} {Q : Int → Mem → Prop} {p c j : Nat} (hI : INV tk σ p τ) (hp : p < 428) (hP : Pm p = (c, j)) (hcj : (50 ≤ c ∧ c ≤ 58) ∨ (c = 49 ∧ (j = 0 ∨ j = 1 ∨ j = 5 ∨ j = 6 ∨ j = 9 ∨ j = 12))) (hQ : ∀ r s, INV tk σ (p + 1) (mset s c j r) → Q r s) : wp (d + 1) m_M_move [.inr (.inr 49), .inl (τ c j)] τ Q := by
  obtain ⟨h57, h58, hq, ht, hn, ho⟩ := hI
  have e1 : w32 ((p : Int) + 1) = (p : Int) + 1 := w32_id (by omega) (by omega)
  have e2 : (p : Int) + 1 - 1 = (p : Int) := by omega
  have inj : ∀ q, q < p → ¬ ((Pm q).1 = c ∧ (Pm q).2 = j) := fun q hqp z => by
    have h1 := (posP (q := q) (by omega)).1
    have h2 := (posP (q := p) hp).1
    rw [hP] at h2
    rw [z.1, z.2] at h1
    have h3 : posM c j = p := h2
    omega
  cases tk with
  | true =>
    refine e_M_move ⟨fun h => by rw [h58] at h; exact absurd h (by decide), fun _ => ?_⟩
    simp (discharger := first | decide | omega) only [ms_eq, ms_nk, h57, Int.toNat_natCast, w32_id, e2, ms_ni]
    refine ⟨⟨by omega, by omega⟩, ⟨by omega, by omega⟩, hQ _ _ ⟨?_, ?_, fun q hqp => ?_, fun _ k i h1 h2 => ?_, fun h => (by cases h), fun k i h1 h2 h3 => ?_⟩⟩
    · rw [ms_ne (by omega), ms_eq]; rfl
    · rw [ms_ne (by omega), ms_ne (by omega), ms_ne (by omega)]; exact h58
    · have hc80 : c ≠ 80 := by omega
      by_cases e : q = p
      · subst e
        rw [hP, ms_eq]
        rw [ms_nk (by omega), ms_nk (by decide), ms_eq]
      · have hq2 : q < p := by omega
        have np := posP (q := q) (by omega)
        have ij := inj q hq2
        rw [ms_nk (Ne.symm hc80), ms_nk (by decide), ms_ni e, ms_ne (by omega), ms_ne (by omega), ms_ne (by omega)]
        exact hq q hq2
    · by_cases e : k = c ∧ i = j
      · obtain ⟨rfl, rfl⟩ := e
        rw [ms_eq]; exact ht rfl _ _ h1 h2
      · rw [ms_ne (by omega), ms_ne (by omega), ms_nk h1]; exact ht rfl k i h1 h2
    · rw [ms_ne (by omega), ms_ne (by omega), ms_nk h1]; exact ho k i h1 h2 h3
  | false =>
    refine e_M_move ⟨fun _ => ?_, fun h => by rw [h58] at h; exact absurd rfl h⟩
    simp (discharger := first | decide | omega) only [ms_eq, ms_nk, h57, Int.toNat_natCast, w32_id, e2, ms_ni]
    refine ⟨⟨by omega, by omega⟩, hQ _ _ ⟨?_, ?_, fun q hqp => ?_, fun h => (by cases h), fun _ i => ?_, fun k i h1 h2 h3 => ?_⟩⟩
    · rw [ms_ne (by omega), ms_eq]; rfl
    · rw [ms_ne (by omega), ms_ne (by omega)]; exact h58
    · have hc80 : c ≠ 80 := by omega
      by_cases e : q = p
      · subst e
        rw [hP, ms_eq]
        rw [ms_nk (by omega), ms_nk (by decide)]
      · have hq2 : q < p := by omega
        have np := posP (q := q) (by omega)
        have ij := inj q hq2
        rw [ms_nk (Ne.symm hc80), ms_nk (by decide), ms_ne (by omega), ms_ne (by omega)]
        exact hq q hq2
    · rw [ms_nk (by omega), ms_nk (by decide)]; exact hn rfl i
    · rw [ms_ne (by omega), ms_ne (by omega)]; exact ho k i h1 h2 h3
theorem mv_277 {d : Nat} {tk : Bool} {σ τ : Mem} {Q : Int → Mem → Prop} (hI : INV tk σ 404 τ) (hQ : ∀ s, INV tk σ 428 s → Q 0 s) : K_M_moveAll_277 (d + 1) Q 0 τ := by
  refine upto (n := 24) (P := fun i => ∀ τ, INV tk σ (404 + i) τ → K_M_moveAll_277 (d + 1) Q ((i : Nat) : Int) τ) (fun τ hI => ?_) (fun i hi ih τ hI => ?_) τ hI
  · exact e_M_moveAll_277 ⟨fun h => by omega, fun _ => hQ τ hI⟩
  · have e1 : w32 ((i : Int) + 1) = ((i + 1 : Nat) : Int) := w32_eq (by omega) (by omega)
    refine e_M_moveAll_277 ⟨fun _ => ?_, fun h => by omega⟩
    rw [e1, Int.toNat_natCast]
    refine ⟨⟨by omega, by omega⟩, sp_M_move hI (by omega) (Pm57 ⟨i, hi⟩) (by omega) (fun r s hs => ⟨⟨by omega, by omega⟩, ih _ hs⟩)⟩
theorem mv_215 {d : Nat} {tk : Bool} {σ τ : Mem} {Q : Int → Mem → Prop} (hI : INV tk σ 386 τ) (hQ : ∀ s, INV tk σ 404 s → K_M_moveAll_277 (d + 1) Q 0 s) : K_M_moveAll_215 (d + 1) Q 0 τ := by
  refine upto (n := 6) (P := fun i => ∀ τ, INV tk σ (386 + 3 * i) τ → K_M_moveAll_215 (d + 1) Q ((i : Nat) : Int) τ) (fun τ hI => ?_) (fun i hi ih τ hI => ?_) τ hI
  · exact e_M_moveAll_215 ⟨fun h => by omega, fun _ => hQ τ hI⟩
  · have e1 : w32 ((i : Int) + 1) = ((i + 1 : Nat) : Int) := w32_eq (by omega) (by omega)
    have hp := Pm55 ⟨i, hi⟩
    refine e_M_moveAll_215 ⟨fun _ => ?_, fun h => by omega⟩
    rw [e1, Int.toNat_natCast]
    refine ⟨⟨by omega, by omega⟩, sp_M_move hI (by omega) hp.1 (by omega) (fun r s hs => ⟨⟨by omega, by omega⟩, ⟨by omega, by omega⟩, ?_⟩)⟩
    refine sp_M_move hs (by omega) (by rw [show 386 + 3 * i + 1 = 387 + 3 * i by omega]; exact hp.2.1) (by omega) (fun r2 s2 hs2 => ⟨⟨by omega, by omega⟩, ⟨by omega, by omega⟩, ?_⟩)
    refine sp_M_move hs2 (by omega) (by rw [show 386 + 3 * i + 1 + 1 = 388 + 3 * i by omega]; exact hp.2.2) (by omega) (fun r3 s3 hs3 => ⟨⟨by omega, by omega⟩, ih _ ?_⟩)
    rw [show 386 + 3 * i + 1 + 1 + 1 = 386 + 3 * (i + 1) by omega] at hs3
    exact hs3
theorem mv_184 {d : Nat} {tk : Bool} {σ τ : Mem} {Q : Int → Mem → Prop} (hI : INV tk σ 98 τ) (hQ : ∀ s, INV tk σ 386 s → K_M_moveAll_215 (d + 1) Q 0 s) : K_M_moveAll_184 (d + 1) Q 0 τ := by
  refine upto (n := 288) (P := fun i => ∀ τ, INV tk σ (98 + i) τ → K_M_moveAll_184 (d + 1) Q ((i : Nat) : Int) τ) (fun τ hI => ?_) (fun i hi ih τ hI => ?_) τ hI
  · exact e_M_moveAll_184 ⟨fun h => by omega, fun _ => hQ τ hI⟩
  · have e1 : w32 ((i : Int) + 1) = ((i + 1 : Nat) : Int) := w32_eq (by omega) (by omega)
    refine e_M_moveAll_184 ⟨fun _ => ?_, fun h => by omega⟩
    rw [e1, Int.toNat_natCast]
    refine ⟨⟨by omega, by omega⟩, sp_M_move hI (by omega) (Pm54 ⟨i, hi⟩) (by omega) (fun r s hs => ⟨⟨by omega, by omega⟩, ih _ hs⟩)⟩
theorem mv_154 {d : Nat} {tk : Bool} {σ τ : Mem} {Q : Int → Mem → Prop} (hI : INV tk σ 86 τ) (hQ : ∀ s, INV tk σ 98 s → K_M_moveAll_184 (d + 1) Q 0 s) : K_M_moveAll_154 (d + 1) Q 0 τ := by
  refine upto (n := 12) (P := fun i => ∀ τ, INV tk σ (86 + i) τ → K_M_moveAll_154 (d + 1) Q ((i : Nat) : Int) τ) (fun τ hI => ?_) (fun i hi ih τ hI => ?_) τ hI
  · exact e_M_moveAll_154 ⟨fun h => by omega, fun _ => hQ τ hI⟩
  · have e1 : w32 ((i : Int) + 1) = ((i + 1 : Nat) : Int) := w32_eq (by omega) (by omega)
    refine e_M_moveAll_154 ⟨fun _ => ?_, fun h => by omega⟩
    rw [e1, Int.toNat_natCast]
    refine ⟨⟨by omega, by omega⟩, sp_M_move hI (by omega) (Pm53 ⟨i, hi⟩) (by omega) (fun r s hs => ⟨⟨by omega, by omega⟩, ih _ hs⟩)⟩
theorem mv_124 {d : Nat} {tk : Bool} {σ τ : Mem} {Q : Int → Mem → Prop} (hI : INV tk σ 14 τ) (hQ : ∀ s, INV tk σ 86 s → K_M_moveAll_154 (d + 1) Q 0 s) : K_M_moveAll_124 (d + 1) Q 0 τ := by
  refine upto (n := 72) (P := fun i => ∀ τ, INV tk σ (14 + i) τ → K_M_moveAll_124 (d + 1) Q ((i : Nat) : Int) τ) (fun τ hI => ?_) (fun i hi ih τ hI => ?_) τ hI
  · exact e_M_moveAll_124 ⟨fun h => by omega, fun _ => hQ τ hI⟩
  · have e1 : w32 ((i : Int) + 1) = ((i + 1 : Nat) : Int) := w32_eq (by omega) (by omega)
    refine e_M_moveAll_124 ⟨fun _ => ?_, fun h => by omega⟩
    rw [e1, Int.toNat_natCast]
    refine ⟨⟨by omega, by omega⟩, sp_M_move hI (by omega) (Pm52 ⟨i, hi⟩) (by omega) (fun r s hs => ⟨⟨by omega, by omega⟩, ih _ hs⟩)⟩
theorem mv_79 {d : Nat} {tk : Bool} {σ τ : Mem} {Q : Int → Mem → Prop} (hI : INV tk σ 6 τ) (hQ : ∀ s, INV tk σ 14 s → K_M_moveAll_124 (d + 1) Q 0 s) : K_M_moveAll_79 (d + 1) Q 0 τ := by
  refine upto (n := 4) (P := fun i => ∀ τ, INV tk σ (6 + 2 * i) τ → K_M_moveAll_79 (d + 1) Q ((i : Nat) : Int) τ) (fun τ hI => ?_) (fun i hi ih τ hI => ?_) τ hI
  · exact e_M_moveAll_79 ⟨fun h => by omega, fun _ => hQ τ hI⟩
  · have e1 : w32 ((i : Int) + 1) = ((i + 1 : Nat) : Int) := w32_eq (by omega) (by omega)
    have hp := Pm50 ⟨i, hi⟩
    refine e_M_moveAll_79 ⟨fun _ => ?_, fun h => by omega⟩
    rw [e1, Int.toNat_natCast]
    refine ⟨⟨by omega, by omega⟩, sp_M_move hI (by omega) hp.1 (by omega) (fun r s hs => ⟨⟨by omega, by omega⟩, ⟨by omega, by omega⟩, ?_⟩)⟩
    refine sp_M_move hs (by omega) (by rw [show 6 + 2 * i + 1 = 7 + 2 * i by omega]; exact hp.2) (by omega) (fun r2 s2 hs2 => ⟨⟨by omega, by omega⟩, ih _ ?_⟩)
    rw [show 6 + 2 * i + 1 + 1 = 6 + 2 * (i + 1) by omega] at hs2
    exact hs2
theorem sp_M_moveAll {d : Nat} {tk : Bool} {σ : Mem} {Q : Int → Mem → Prop} (h58 : σ 49 58 = if tk then 1 else 0) (hQ : ∀ s, INV tk σ 428 s → Q 0 s) : wp (d + 2) m_M_moveAll [.inr (.inr 49)] σ Q := by
  have hI : INV tk σ 0 (mset σ 49 57 0) := ⟨ms_eq, by rw [ms_ni (by decide)]; exact h58, fun q hq => absurd hq (by omega), fun _ k i h1 h2 => ms_ne (by omega), fun _ i => ms_nk (by decide), fun k i h1 h2 h3 => ms_ne (by omega)⟩
  refine e_M_moveAll ?_
  refine sp_M_move hI (by omega) rfl (by omega) (fun r1 s2 h1 => ?_)
  refine sp_M_move h1 (by omega) rfl (by omega) (fun r3 s4 h3 => ?_)
  refine sp_M_move h3 (by omega) rfl (by omega) (fun r5 s6 h5 => ?_)
  refine sp_M_move h5 (by omega) rfl (by omega) (fun r7 s8 h7 => ?_)
  refine sp_M_move h7 (by omega) rfl (by omega) (fun r9 s10 h9 => ?_)
  refine sp_M_move h9 (by omega) rfl (by omega) (fun r11 s12 h11 => ?_)
  exact mv_79 h11 (fun s hs => mv_124 hs (fun s hs => mv_154 hs (fun s hs => mv_184 hs (fun s hs => mv_215 hs (fun s hs => mv_277 hs hQ)))))
def inR (f i : Nat) : Prop := (f = 0 ∧ i < 6) ∨ ((f = 1 ∨ f = 2) ∧ i < 4) ∨ (f = 3 ∧ i < 72) ∨ (f = 4 ∧ i < 12) ∨ (f = 5 ∧ i < 288) ∨ ((f = 6 ∨ f = 7) ∧ i < 6) ∨ (f = 8 ∧ i < 4) ∨ (f = 9 ∧ i < 16)
theorem mImg_eq {tk : Bool} {σ τ : Mem} (h : INV tk σ 428 τ) {f i : Nat} (hf : inR f i) : mImg τ f i = mLive τ f i := by
  have hq := h.2.2.1
  rcases hf with ⟨rfl, hi⟩ | ⟨hf, hi⟩ | ⟨rfl, hi⟩ | ⟨rfl, hi⟩ | ⟨rfl, hi⟩ | ⟨hf, hi⟩ | ⟨rfl, hi⟩ | ⟨rfl, hi⟩
  · match i, hi with
    | 0, _ => exact hq 0 (by omega)
    | 1, _ => exact hq 1 (by omega)
    | 2, _ => exact hq 2 (by omega)
    | 3, _ => exact hq 3 (by omega)
    | 4, _ => exact hq 4 (by omega)
    | 5, _ => exact hq 5 (by omega)
  · have hp := Pm50 ⟨i, hi⟩
    rcases hf with rfl | rfl
    · have := hq (6 + 2 * i) (by omega)
      rw [hp.1] at this
      exact this
    · have := hq (7 + 2 * i) (by omega)
      rw [hp.2] at this
      exact this
  · have := hq (14 + i) (by omega)
    rw [Pm52 ⟨i, hi⟩] at this
    exact this
  · have := hq (86 + i) (by omega)
    rw [Pm53 ⟨i, hi⟩] at this
    exact this
  · have := hq (98 + i) (by omega)
    rw [Pm54 ⟨i, hi⟩] at this
    exact this
  · have hp := Pm55 ⟨i, hi⟩
    rcases hf with rfl | rfl
    · have := hq (386 + 3 * i) (by omega)
      rw [hp.1] at this
      exact this
    · have := hq (387 + 3 * i) (by omega)
      rw [hp.2.1] at this
      exact this
  · have hp := Pm55 ⟨i, by omega⟩
    have := hq (388 + 3 * i) (by omega)
    rw [hp.2.2] at this
    exact this
  · have := hq (404 + i) (by omega)
    rw [Pm57 ⟨i, by omega⟩] at this
    exact this
