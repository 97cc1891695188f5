-- the reference reads a text
def FY (σ σ1 : Mem) : Prop := ∀ k i, ¬ (k = 49 ∧ (i = 18 ∨ i = 24 ∨ i = 25 ∨ i = 26 ∨ i = 27 ∨ i = 28)) → k ≠ 65 → k ≠ 66 → σ1 k i = σ k i
theorem sp_M_text {d : Nat} {A σ : Mem} {Q : Int → Mem → Prop} (hR : RR A) {L : Nat} (hA : A 1 1 = (L : Int)) (hL : L ≤ 90) (h18 : σ 49 18 = (L : Int)) (h60 : ∀ j, j < L → σ 60 j = A 2 j) (h0 : (rdA A L).1.1 = true ∨ (rdA A L).1.2 < L → ∀ σ1, FY σ σ1 → σ1 49 18 = 0 → Q (w32 ((-20) - (((rdA A L).1.2 : Nat) : Int))) σ1) (h1 : (rdA A L).1.1 = false → (rdA A L).1.2 = L → ∀ σ1, FY σ σ1 → σ1 49 18 = 0 → (∀ i, i < (rdT A L).2.1 → σ1 65 i = (rdT A L).2.2 i) → (∀ i, i % 4 < (rdT A L).2.1 → i < 4 * (rdA A L).2.1 → σ1 66 i = (rdA A L).2.2.1 i ∧ σ1 66 (24 + i) = (rdA A L).2.2.2 i) → K_M_read_208 (d + 4) Q 0 0 (mset (mset σ1 49 0 (((rdT A L).2.1 : Nat) : Int)) 49 1 (((rdA A L).2.1 : Nat) : Int))) : wp (d + 5) m_M_read [.inr (.inr 49)] σ Q := by
  have hT := rdT_all (A := A) (L := L)
  refine e_M_read ?_
  rw [ms_ni (by decide), h18]
  have z0 : FY σ (mset (mset (mset (mset (mset (mset σ 49 24 0) 49 25 (L : Int)) 49 18 0) 49 26 0) 49 27 0) 49 28 0) := fun k i a b c => by rw [ms_ne (by omega), ms_ne (by omega), ms_ne (by omega), ms_ne (by omega), ms_ne (by omega), ms_ne (by omega)]
  have t0 : tM A (mset (mset (mset (mset (mset (mset σ 49 24 0) 49 25 (L : Int)) 49 18 0) 49 26 0) 49 27 0) 49 28 0) L := ⟨by rw [ms_ni (by decide), ms_ni (by decide), ms_ni (by decide), ms_ni (by decide), ms_eq], fun j hj => by rw [z0 60 j (by omega) (by decide) (by decide)]; exact h60 j hj⟩
  have s0 : stM (mset (mset (mset (mset (mset (mset σ 49 24 0) 49 25 (L : Int)) 49 18 0) 49 26 0) 49 27 0) 49 28 0) (false, 0) := ⟨by rw [ms_ni (by decide), ms_ni (by decide), ms_eq]; rfl, by rw [ms_ni (by decide), ms_ni (by decide), ms_ni (by decide), ms_ni (by decide), ms_ni (by decide), ms_eq]; rfl⟩
  have e18 : (mset (mset (mset (mset (mset (mset σ 49 24 0) 49 25 (L : Int)) 49 18 0) 49 26 0) 49 27 0) 49 28 0) 49 18 = 0 := by rw [ms_ni (by decide), ms_ni (by decide), ms_ni (by decide), ms_eq]
  have e28 : (mset (mset (mset (mset (mset (mset σ 49 24 0) 49 25 (L : Int)) 49 18 0) 49 26 0) 49 27 0) 49 28 0) 49 28 = ((0 : Nat) : Int) := by rw [ms_eq]; rfl
  have e27 : (mset (mset (mset (mset (mset (mset σ 49 24 0) 49 25 (L : Int)) 49 18 0) 49 26 0) 49 27 0) 49 28 0) 49 27 = ((0 : Nat) : Int) := by rw [ms_ni (by decide), ms_eq]; rfl
  generalize (mset (mset (mset (mset (mset (mset σ 49 24 0) 49 25 (L : Int)) 49 18 0) 49 26 0) 49 27 0) 49 28 0) = τ at z0 t0 s0 e18 e28 e27 ⊢
  refine sp_M_truths (d := d + 2) hR hA hL 4 0 (false, 0) τ (fun _ => 0) rfl (Nat.zero_le L) t0 s0 e27 (fun i hi => absurd hi (Nat.not_lt_zero i)) (fun σ1 hF1 st1 n1 w1 => ?_)
  have z1 : FY σ σ1 := fun k i a b c => by rw [hF1 k i (by omega) b]; exact z0 k i a b c
  have f18 : σ1 49 18 = 0 := by rw [hF1 49 18 (by omega) (by decide)]; exact e18
  refine sp_M_acts (d := d) hR hA hL hT.2.1 6 0 (rdT A L).1 σ1 (fun _ => 0) (fun _ => 0) rfl hT.1 (hF1.tm t0) st1 n1 (by rw [hF1 49 28 (by omega) (by decide)]; exact e28) (fun _ i _ hi => absurd hi (Nat.not_lt_zero i)) (fun hb σ2 hF2 q2 => ?_) (fun e2 l2 σ2 hF2 n2 w2 => ?_)
  · rw [q2]
    refine h0 hb _ (fun k i a b c => ?_) ?_
    · rw [ms_ne (by omega), hF2 k i (by omega) c]; exact z1 k i a b c
    · rw [ms_ni (by decide), hF2 49 18 (by omega) (by decide)]; exact f18
  · have g27 : σ2 49 27 = (((rdT A L).2.1 : Nat) : Int) := by rw [hF2 49 27 (by omega) (by decide)]; exact n1
    rw [g27, n2]
    refine h1 e2 l2 _ (fun k i a b c => ?_) ?_ (fun i hi => ?_) (fun i hi hi2 => ?_)
    · rw [ms_ne (by omega), hF2 k i (by omega) c]; exact z1 k i a b c
    · rw [ms_ni (by decide), hF2 49 18 (by omega) (by decide)]; exact f18
    · rw [ms_nk (by decide), hF2 65 i (by omega) (by decide)]; exact w1 i hi
    · rw [ms_nk (by decide), ms_nk (by decide)]; exact w2 i hi hi2
