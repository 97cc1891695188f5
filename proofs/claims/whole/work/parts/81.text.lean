-- the class reads a text
def rdT (A : Mem) (L : Nat) : PS × Nat × (Nat → Int) := trF A L 4 0 (false, 0) (fun _ => 0)
def rdA (A : Mem) (L : Nat) : PS × Nat × (Nat → Int) × (Nat → Int) := acF A L (rdT A L).2.1 6 0 (rdT A L).1 (fun _ => 0) (fun _ => 0)
theorem rdT_all {A : Mem} {L : Nat} : (rdT A L).1.2 ≤ L ∧ (rdT A L).2.1 ≤ 4 ∧ 1 ≤ (rdT A L).2.1 ∧ ((rdT A L).1.1 = false → ∀ i, i < (rdT A L).2.1 → 1 ≤ (rdT A L).2.2 i ∧ (rdT A L).2.2 i ≤ 99) := by
  have h := trF_all (A := A) (L := L) 4 0 (false, 0) (fun _ => 0) (Nat.zero_le L) rfl (fun _ i hi => absurd hi (Nat.not_lt_zero i))
  exact ⟨h.1, h.2.2.1, trF_one (Nat.zero_le L), h.2.2.2⟩
def FZ (σ σ1 : Mem) : Prop := ∀ k i, ¬ (k = 1 ∧ (i = 1 ∨ i = 2 ∨ i = 3 ∨ i = 4 ∨ i = 5)) → k ≠ 3 → k ≠ 4 → k ≠ 5 → σ1 k i = σ k i
theorem sp_T_parse {d : Nat} {A : Mem} {Q : Int → Mem → Prop} (hR : RR A) {L : Nat} (hA : A 1 1 = (L : Int)) (hL : L ≤ 90) (h1 : (rdA A L).1.1 = false → (rdA A L).1.2 = L → ∀ σ1, FZ A σ1 → σ1 1 1 = 0 → σ1 1 4 = (((rdT A L).2.1 : Nat) : Int) → σ1 1 5 = (((rdA A L).2.1 : Nat) : Int) → (∀ i, i < (rdT A L).2.1 → σ1 3 i = (rdT A L).2.2 i) → (∀ i, i % 4 < (rdT A L).2.1 → i < 4 * (rdA A L).2.1 → σ1 4 i = (rdA A L).2.2.1 i ∧ σ1 5 i = (rdA A L).2.2.2 i) → Q (-1) σ1) (h0 : (rdA A L).1.1 = true ∨ (rdA A L).1.2 < L → ∀ σ1, FZ A σ1 → σ1 1 1 = 0 → Q (((rdA A L).1.2 : Nat) : Int) σ1) : wp (d + 6) m_T_parse [.inr (.inr 1)] A Q := by
  have hT := rdT_all (A := A) (L := L)
  have t0 : tX A (mset (mset (mset A 1 2 0) 1 4 0) 1 5 0) L := ⟨by rw [ms_ni (by decide), ms_ni (by decide), ms_ni (by decide)]; exact hA, fun j _ => by rw [ms_nk (by decide), ms_nk (by decide), ms_nk (by decide)]⟩
  refine e_T_parse (e_T_parseTruths (sp_T_truths hR hA hL 4 0 0 _ (fun _ => 0) rfl (Nat.zero_le L) t0 (by rw [ms_ni (by decide), ms_ni (by decide), ms_eq]; rfl) (by rw [ms_ni (by decide), ms_eq]; rfl) (fun i hi => absurd hi (Nat.not_lt_zero i)) (fun e1 σ1 hF1 q1 n1 w1 => ⟨fun h => by omega, fun _ => ?_⟩) (fun e1 σ1 hF1 q1 => ⟨fun _ => ?_, fun h => absurd rfl h⟩)))
  · have z1 : ∀ k i, ¬ (k = 1 ∧ (i = 2 ∨ i = 3 ∨ i = 4 ∨ i = 5)) → k ≠ 3 → σ1 k i = A k i := fun k i a b => by rw [hF1 k i (by omega) b, ms_ne (by omega), ms_ne (by omega), ms_ne (by omega)]
    have e5 : σ1 1 5 = ((0 : Nat) : Int) := by rw [hF1 1 5 (by omega) (by decide), ms_eq]; rfl
    have eA : rdA A L = acF A L (rdT A L).2.1 6 0 (false, (rdT A L).1.2) (fun _ => 0) (fun _ => 0) := by unfold rdA; rw [← pair_split (s := (rdT A L).1) e1]
    rw [eA] at h1 h0
    refine e_T_parseActs (sp_T_acts hR hA hL hT.2.1 6 0 (rdT A L).1.2 σ1 (fun _ => 0) (fun _ => 0) rfl hT.1 (hF1.tx t0) q1 n1 e5 (fun i _ hi => absurd hi (Nat.not_lt_zero i)) (fun e2 l2 σ2 hF2 n2 w2 => ⟨fun h => by omega, fun _ => ?_⟩) (fun e2 σ2 hF2 q2 => ⟨fun _ => ?_, fun h => absurd rfl h⟩))
    · refine h1 e2 l2 _ (fun k i a b c e => ?_) ms_eq ?_ ?_ (fun i hi => ?_) (fun i hi hi2 => ?_)
      · rw [ms_ne (by omega), hF2 k i (by omega) c e]; exact z1 k i (by omega) b
      · rw [ms_ni (by decide), hF2 1 4 (by omega) (by decide) (by decide)]; exact n1
      · rw [ms_ni (by decide)]; exact n2
      · rw [ms_nk (by decide), hF2 3 i (by omega) (by decide) (by decide)]; exact w1 i hi
      · rw [ms_nk (by decide), ms_nk (by decide)]; exact w2 i hi hi2
    · rw [ms_ni (by decide), q2]
      exact h0 e2 _ (fun k i a b c e => by rw [ms_ne (by omega), hF2 k i (by omega) c e]; exact z1 k i (by omega) b) ms_eq
  · have z1 : ∀ k i, ¬ (k = 1 ∧ (i = 2 ∨ i = 3 ∨ i = 4 ∨ i = 5)) → k ≠ 3 → σ1 k i = A k i := fun k i a b => by rw [hF1 k i (by omega) b, ms_ne (by omega), ms_ne (by omega), ms_ne (by omega)]
    have eA : rdA A L = ((true, (rdT A L).1.2), 0, (fun _ => 0), (fun _ => 0)) := by unfold rdA; rw [pair_split (s := (rdT A L).1) e1, acF_bad]
    rw [eA] at h0
    rw [ms_ni (by decide), q1]
    exact h0 (Or.inl rfl) _ (fun k i a b c e => by rw [ms_ne (by omega)]; exact z1 k i (by omega) b) ms_eq
