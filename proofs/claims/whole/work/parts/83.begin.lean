-- a case begins: the class, then the reference
theorem gcdW_dvd {w : Nat → Int} {t : Nat} : ∀ {k : Nat}, t < k → gcdW w k ∣ w t
  | 0, h => absurd h (by omega)
  | k + 1, h => by
    show gI (gcdW w k) (w k) ∣ w t
    by_cases e : t = k
    · subst e; exact gI_dr
    · exact Int.dvd_trans gI_dl (gcdW_dvd (k := k) (by omega))
def lw (w : Nat → Int) (n t : Nat) : Int := (w t).tdiv (gcdW w n)
theorem lw_bd {w : Nat → Int} {n t : Nat} (ht : t < n) (hw : 1 ≤ w t ∧ w t ≤ 99) : (1 ≤ lw w n t ∧ lw w n t ≤ 99) ∧ 1 ≤ gcdW w n := by
  have hg := gcdW_pos (w := w) ht (by omega)
  obtain ⟨c, hc⟩ := gcdW_dvd (w := w) ht
  unfold lw
  rw [hc, Int.mul_tdiv_cancel_left _ (by omega)]
  have h1 : 1 ≤ gcdW w n * c := by omega
  have c1 : 0 < c := Int.pos_of_mul_pos_right (a := gcdW w n) (by omega) (by omega)
  have := Int.mul_le_mul_of_nonneg_right (show (1 : Int) ≤ gcdW w n by omega) (show 0 ≤ c by omega)
  refine ⟨⟨by omega, by omega⟩, by omega⟩
theorem sp_S_reduce {d : Nat} {σ : Mem} {Q : Int → Mem → Prop} {n : Nat} (h1 : σ 7 1 = (n : Int)) (hn : 1 ≤ n ∧ n ≤ 4) {w : Nat → Int} (hw : ∀ i, i < n → σ 8 i = w i ∧ 1 ≤ w i ∧ w i ≤ 99) (hQ : ∀ σ1, (∀ k i, ¬ (k = 7 ∧ i = 6) → k ≠ 9 → σ1 k i = σ k i) → σ1 7 6 = sumN n (fun t => lw w n t) → (∀ i, i < n → σ1 9 i = lw w n i) → Q 0 σ1) : wp (d + 2) m_S_reducePrior [.inr (.inr 7)] σ Q := by
  have hg0 := lw_bd (w := w) (n := n) (t := 0) (by omega) (hw 0 (by omega)).2
  have hgb := gcdW_bd (w := w) (B := 99) (by decide) (k := n) (fun i hi => ⟨by have := hw i hi; omega, (hw i hi).2.2⟩)
  refine e_S_reducePrior ?_
  refine upto (n := n) (P := fun t => K_S_reducePrior_4 (d + 1) Q (gcdW w t) ((t : Nat) : Int) σ) (e_S_reducePrior_4 ⟨fun h => by omega, fun _ => ?_⟩) (fun t ht ih => e_S_reducePrior_4 ⟨fun _ => ⟨⟨by omega, by omega⟩, ?_⟩, fun h => by omega⟩)
  · refine upto (n := n) (P := fun t => ∀ τ, (∀ k i, ¬ (k = 7 ∧ i = 6) → k ≠ 9 → τ k i = σ k i) → τ 7 6 = sumN t (fun t => lw w n t) → (∀ i, i < t → τ 9 i = lw w n i) → K_S_reducePrior_37 (d + 1) Q (gcdW w n) ((t : Nat) : Int) τ) (fun τ hF h6 h9 => e_S_reducePrior_37 ⟨fun h => ?_, fun _ => hQ τ hF h6 h9⟩) (fun t ht ih τ hF h6 h9 => e_S_reducePrior_37 ⟨fun _ => ?_, fun h => ?_⟩) _ (fun k i hk _ => by rw [ms_ne (by omega)]) ms_eq (fun i hi => absurd hi (by omega))
    · rw [hF 7 1 (by omega) (by decide)] at h; omega
    · have e1 : w32 ((t : Int) + 1) = ((t + 1 : Nat) : Int) := w32_eq (by omega) (by omega)
      have lb := lw_bd (w := w) ht (hw t ht).2
      have e8 : τ 8 t = w t := by rw [hF 8 t (by omega) (by decide)]; exact (hw t ht).1
      have sb := sumN_bd (n := t) (f := fun t => lw w n t) (B := 99) (fun i hi => ⟨by have := lw_bd (w := w) (n := n) (t := i) (by omega) (hw i (by omega)).2; omega, (lw_bd (w := w) (n := n) (t := i) (by omega) (hw i (by omega)).2).1.2⟩)
      have go : K_S_reducePrior_37 (d + 1) Q (gcdW w n) ((t + 1 : Nat) : Int) (mset (mset τ 9 t (lw w n t)) 7 6 (sumN (t + 1) (fun t => lw w n t))) := ih _ (fun k i h1 h2 => by rw [ms_ne (by omega), ms_nk h2]; exact hF k i h1 h2) ms_eq (fun i hi => by
        rw [ms_nk (by decide)]
        by_cases e : i = t
        · subst e; exact ms_eq
        · rw [ms_ni e]; exact h9 i (by omega))
      have es : w64 (sumN t (fun t => lw w n t) + lw w n t) = sumN (t + 1) (fun t => lw w n t) := by
        rw [w64_id (by omega) (by omega)]; rfl
      rw [e1, Int.toNat_natCast, e8]
      refine ⟨fun hz => ⟨⟨by omega, by omega⟩, by omega, ⟨by omega, by omega⟩, ⟨by omega, by omega⟩, ?_⟩, fun hz => ⟨⟨by omega, by omega⟩, ⟨by omega, by omega⟩, ⟨by omega, by omega⟩, ?_⟩⟩
      · have e2 : w64 ((w t).tdiv (gcdW w n)) = lw w n t := by
          show w64 (lw w n t) = _
          exact w64_id (by omega) (by omega)
        rw [e2, ms_nk (by decide), ms_eq, h6, es]
        exact go
      · have g1 : gcdW w n = 1 := by omega
        have e2 : w t = lw w n t := by unfold lw; rw [g1, Int.tdiv_one]
        rw [e2, ms_nk (by decide), ms_eq, h6, es]
        exact go
    · rw [hF 7 1 (by omega) (by decide)] at h; omega
  · have e1 : w32 ((t : Int) + 1) = ((t + 1 : Nat) : Int) := w32_eq (by omega) (by omega)
    have bg := gcdW_bd (w := w) (B := 99) (by decide) (k := t) (fun i hi => ⟨by have := hw i (by omega); omega, (hw i (by omega)).2.2⟩)
    have bw := hw t ht
    rw [Int.toNat_natCast, bw.1]
    refine sp_X_cd ⟨by omega, by omega⟩ ⟨by omega, by omega⟩ ?_
    rw [e1]
    exact ih
theorem sp_S_begin {d : Nat} {σ : Mem} {Q : Int → Mem → Prop} {n a : Nat} (h4 : σ 1 4 = (n : Int)) (h5 : σ 1 5 = (a : Int)) (hn : 1 ≤ n ∧ n ≤ 4) {w : Nat → Int} (hw : ∀ i, i < n → σ 3 i = w i ∧ 1 ≤ w i ∧ w i ≤ 99) (hQ : ∀ σ1, (∀ k i, ¬ (7 ≤ k ∧ k ≤ 12) → σ1 k i = σ k i) → (σ1 7 0 = 1 ∧ σ1 7 1 = (n : Int) ∧ σ1 7 2 = (a : Int) ∧ σ1 7 3 = 0 ∧ σ1 7 10 = 0 ∧ σ1 7 13 = 0 ∧ σ1 7 16 = 0) → σ1 7 6 = sumN n (fun t => lw w n t) → (∀ i, i < n → σ1 8 i = w i ∧ σ1 9 i = lw w n i) → (∀ i, i < 24 → σ1 10 i = σ 4 i ∧ σ1 12 i = σ 4 i ∧ σ1 11 i = σ 5 i) → Q 0 σ1) : wp (d + 3) m_S_begin [.inr (.inr 7), .inr (.inr 1)] σ Q := by
  refine e_S_begin ?_
  refine sp_S_reduce (n := n) (w := w) ?_ hn (fun i hi => ⟨?_, (hw i hi).2⟩) (fun σ1 hF h6 h9 => hQ σ1 (fun k i hk => ?_) ⟨?_, ?_, ?_, ?_, ?_, ?_, ?_⟩ h6 (fun i hi => ⟨?_, h9 i hi⟩) (fun i hi => ⟨?_, ?_, ?_⟩))
  · simp (discharger := decide) only [mc_ne, ms_nk, ms_ni, ms_eq, h4]
  · simp (discharger := first | decide | omega) only [mc_ne, mc_in, ms_nk]; exact (hw i hi).1
  · rw [hF k i (by omega) (by omega)]; simp (discharger := omega) only [mc_ne, ms_nk]
  · rw [hF 7 0 (by omega) (by omega)]; simp (discharger := decide) only [mc_ne, ms_nk, ms_ni, ms_eq]
  · rw [hF 7 1 (by omega) (by omega)]; simp (discharger := decide) only [mc_ne, ms_nk, ms_ni, ms_eq, h4]
  · rw [hF 7 2 (by omega) (by omega)]; simp (discharger := decide) only [mc_ne, ms_nk, ms_ni, ms_eq, h5]
  · rw [hF 7 3 (by omega) (by omega)]; simp (discharger := decide) only [mc_ne, ms_nk, ms_ni, ms_eq]
  · rw [hF 7 10 (by omega) (by omega)]; simp (discharger := decide) only [mc_ne, ms_nk, ms_ni, ms_eq]
  · rw [hF 7 13 (by omega) (by omega)]; simp (discharger := decide) only [mc_ne, ms_nk, ms_ni, ms_eq]
  · rw [hF 7 16 (by omega) (by omega)]; simp (discharger := decide) only [mc_ne, ms_nk, ms_ni, ms_eq]
  · rw [hF 8 i (by omega) (by omega)]; simp (discharger := first | decide | omega) only [mc_ne, mc_in, ms_nk]; exact (hw i hi).1
  · rw [hF 10 i (by omega) (by omega)]; simp (discharger := first | decide | omega) only [mc_ne, mc_in, ms_nk]
  · rw [hF 12 i (by omega) (by omega)]; simp (discharger := first | decide | omega) only [mc_ne, mc_in, ms_nk]
  · rw [hF 11 i (by omega) (by omega)]; simp (discharger := first | decide | omega) only [mc_ne, mc_in, ms_nk]
theorem sp_M_fresh {d : Nat} {σ : Mem} {Q : Int → Mem → Prop} {n a : Nat} (h0 : σ 49 0 = (n : Int)) (h1 : σ 49 1 = (a : Int)) (hn : 1 ≤ n ∧ n ≤ 4) (ha : a ≤ 6) {w : Nat → Int} (hw : ∀ i, i < n → σ 65 i = w i ∧ 1 ≤ w i ∧ w i ≤ 99) (hQ : ∀ σ1, (∀ k i, ¬ (50 ≤ k ∧ k ≤ 52) → ¬ (k = 49 ∧ (i = 5 ∨ i = 6 ∨ i = 9 ∨ i = 12 ∨ i = 16 ∨ i = 19)) → σ1 k i = σ k i) → (σ1 49 5 = 0 ∧ σ1 49 6 = 0 ∧ σ1 49 9 = 0 ∧ σ1 49 12 = 0 ∧ σ1 49 16 = 0 ∧ σ1 49 19 = 0) → (∀ i, i < n → σ1 50 i = w i ∧ σ1 51 i = lw w n i) → (∀ i, i < 24 → σ1 52 i = σ 66 i ∧ σ1 52 (24 + i) = σ 66 (24 + i) ∧ σ1 52 (48 + i) = σ 66 i) → Q (10 * (n : Int) + (a : Int)) σ1) : K_M_read_208 (d + 1) Q 0 0 σ := by
  have hg0 := lw_bd (w := w) (n := n) (t := 0) (by omega) (hw 0 (by omega)).2
  have hgb := gcdW_bd (w := w) (B := 99) (by decide) (k := n) (fun i hi => ⟨by have := hw i hi; omega, (hw i hi).2.2⟩)
  refine upto (n := n) (P := fun t => ∀ τ, (∀ k i, k ≠ 50 → τ k i = σ k i) → (∀ i, i < t → τ 50 i = w i) → K_M_read_208 (d + 1) Q (gcdW w t) ((t : Nat) : Int) τ) (fun τ hF h50 => e_M_read_208 ⟨fun h => ?_, fun _ => ?_⟩) (fun t ht ih τ hF h50 => e_M_read_208 ⟨fun _ => ⟨⟨by omega, by omega⟩, ⟨by omega, by omega⟩, ⟨by omega, by omega⟩, ?_⟩, fun h => ?_⟩) σ (fun _ _ _ => rfl) (fun i hi => absurd hi (by omega))
  · rw [hF 49 0 (by decide)] at h; omega
  · have gw : w32 (gcdW w n) = gcdW w n := w32_id (by omega) (by omega)
    refine upto (n := n) (P := fun t => ∀ τ, (∀ k i, k ≠ 50 → k ≠ 51 → τ k i = σ k i) → (∀ i, i < n → τ 50 i = w i) → (∀ i, i < t → τ 51 i = lw w n i) → K_M_read_248 (d + 1) Q (gcdW w n) ((t : Nat) : Int) τ) (fun τ hF h50 h51 => e_M_read_248 ⟨fun h => ?_, fun _ => ?_⟩) (fun t ht ih τ hF h50 h51 => e_M_read_248 ⟨fun _ => ⟨⟨by omega, by omega⟩, ?_, ⟨by omega, by omega⟩, ?_⟩, fun h => ?_⟩) τ (fun k i h1 _ => hF k i h1) h50 (fun i hi => absurd hi (by omega))
    · rw [hF 49 0 (by decide) (by decide)] at h; omega
    · refine upto (n := 24) (P := fun t => ∀ τ2, (∀ k i, k ≠ 52 → τ2 k i = τ k i) → (∀ i, i < t → τ2 52 i = σ 66 i ∧ τ2 52 (24 + i) = σ 66 (24 + i) ∧ τ2 52 (48 + i) = σ 66 i) → K_M_read_279 (d + 1) Q ((t : Nat) : Int) τ2) (fun τ2 hF2 h52 => e_M_read_279 ⟨fun h => absurd h (by omega), fun _ => ?_⟩) (fun t ht ih τ2 hF2 h52 => e_M_read_279 ⟨fun _ => ?_, fun h => by omega⟩) τ (fun _ _ _ => rfl) (fun i hi => absurd hi (by omega))
      · have e0 : (mset (mset (mset (mset (mset (mset τ2 49 5 0) 49 6 0) 49 9 0) 49 12 0) 49 16 0) 49 19 0) 49 0 = (n : Int) := by
          simp (discharger := decide) only [ms_ni]
          rw [hF2 49 0 (by decide), hF 49 0 (by decide) (by decide)]; exact h0
        have e1 : (mset (mset (mset (mset (mset (mset τ2 49 5 0) 49 6 0) 49 9 0) 49 12 0) 49 16 0) 49 19 0) 49 1 = (a : Int) := by
          simp (discharger := decide) only [ms_ni]
          rw [hF2 49 1 (by decide), hF 49 1 (by decide) (by decide)]; exact h1
        rw [e0, e1, w32_id (x := 10 * (n : Int)) (by omega) (by omega), w32_id (by omega) (by omega)]
        refine hQ _ (fun k i hk hk2 => ?_) ⟨?_, ?_, ?_, ?_, ?_, ?_⟩ (fun i hi => ⟨?_, ?_⟩) (fun i hi => ⟨?_, ?_, ?_⟩)
        · rw [ms_ne (by omega), ms_ne (by omega), ms_ne (by omega), ms_ne (by omega), ms_ne (by omega), ms_ne (by omega), hF2 k i (by omega), hF k i (by omega) (by omega)]
        · simp (discharger := decide) only [ms_ni, ms_eq]
        · simp (discharger := decide) only [ms_ni, ms_eq]
        · simp (discharger := decide) only [ms_ni, ms_eq]
        · simp (discharger := decide) only [ms_ni, ms_eq]
        · simp (discharger := decide) only [ms_ni, ms_eq]
        · simp (discharger := decide) only [ms_eq]
        · simp (discharger := decide) only [ms_nk]; rw [hF2 50 i (by decide)]; exact h50 i hi
        · simp (discharger := decide) only [ms_nk]; rw [hF2 51 i (by decide)]; exact h51 i hi
        · simp (discharger := decide) only [ms_nk]; exact (h52 i hi).1
        · simp (discharger := decide) only [ms_nk]; exact (h52 i hi).2.1
        · simp (discharger := decide) only [ms_nk]; exact (h52 i hi).2.2
      · have e1 : w32 ((t : Int) + 1) = ((t + 1 : Nat) : Int) := w32_eq (by omega) (by omega)
        have e24 : w32 (24 + (t : Int)) = ((24 + t : Nat) : Int) := w32_eq (by omega) (by omega)
        have e48 : w32 (48 + (t : Int)) = ((48 + t : Nat) : Int) := w32_eq (by omega) (by omega)
        have q66 : ∀ i, τ2 66 i = σ 66 i := fun i => by rw [hF2 66 i (by decide), hF 66 i (by decide) (by decide)]
        rw [e1, e24, e48, Int.toNat_natCast, Int.toNat_natCast, Int.toNat_natCast, ms_nk (by decide), ms_nk (by decide), ms_nk (by decide), q66, q66]
        refine ⟨⟨by omega, by omega⟩, ⟨by omega, by omega⟩, ⟨by omega, by omega⟩, ⟨by omega, by omega⟩, ⟨by omega, by omega⟩, ⟨by omega, by omega⟩, ih _ (fun k i hk => ?_) (fun i hi => ?_)⟩
        · rw [ms_nk hk, ms_nk hk, ms_nk hk]; exact hF2 k i hk
        · by_cases e : i = t
          · subst e
            refine ⟨?_, ?_, ms_eq⟩
            · rw [ms_ni (by omega), ms_ni (by omega), ms_eq]
            · rw [ms_ni (by omega), ms_eq]
          · have := h52 i (by omega)
            refine ⟨?_, ?_, ?_⟩
            · rw [ms_ni (by omega), ms_ni (by omega), ms_ni (by omega)]; exact this.1
            · rw [ms_ni (by omega), ms_ni (by omega), ms_ni (by omega)]; exact this.2.1
            · rw [ms_ni (by omega), ms_ni (by omega), ms_ni (by omega)]; exact this.2.2
    · rw [gw]; omega
    · have e1 : w32 ((t : Int) + 1) = ((t + 1 : Nat) : Int) := w32_eq (by omega) (by omega)
      have lb := lw_bd (w := w) ht (hw t ht).2
      have e2 : w32 ((w t).tdiv (gcdW w n)) = lw w n t := by
        show w32 (lw w n t) = _
        exact w32_id (by omega) (by omega)
      rw [e1, gw, Int.toNat_natCast, h50 t ht, e2]
      refine ih _ (fun k i h1 h2 => by rw [ms_nk h2]; exact hF k i h1 h2) (fun i hi => by rw [ms_nk (by decide)]; exact h50 i hi) (fun i hi => ?_)
      by_cases e : i = t
      · subst e; exact ms_eq
      · rw [ms_ni e]; exact h51 i (by omega)
    · rw [hF 49 0 (by decide) (by decide)] at h; omega
  · have e1 : w32 ((t : Int) + 1) = ((t + 1 : Nat) : Int) := w32_eq (by omega) (by omega)
    have bg := gcdW_bd (w := w) (B := 99) (by decide) (k := t) (fun i hi => ⟨by have := hw i (by omega); omega, (hw i (by omega)).2.2⟩)
    have bw := hw t ht
    have e65 : τ 65 t = w t := by rw [hF 65 t (by decide)]; exact bw.1
    rw [Int.toNat_natCast, e65, ms_eq]
    refine sp_M_dv ⟨by omega, by omega⟩ ⟨by omega, by omega⟩ ?_
    rw [e1]
    refine ih _ (fun k i hk => by rw [ms_nk hk]; exact hF k i hk) (fun i hi => ?_)
    by_cases e : i = t
    · subst e; exact ms_eq
    · rw [ms_ni e]; exact h50 i (by omega)
  · rw [hF 49 0 (by decide)] at h; omega
