-- the class reads its acts
theorem sp_T_act {d : Nat} {A σ : Mem} {Q : Int → Mem → Prop} (hR : RR A) {L n a p : Nat} {j v : Nat → Int} (hA : A 1 1 = (L : Int)) (hL : L ≤ 90) (hn : n ≤ 4) (ha : a < 6) (hp90 : p ≤ L) (ht : tX A σ L) (hp : σ 1 2 = (p : Int)) (h4 : σ 1 4 = (n : Int)) (hw : ∀ i, i % 4 < n → i < 4 * a → σ 4 i = j i ∧ σ 5 i = v i) {K : Mem → Prop} (h1 : (ac1 A L n a (false, p) j v).1.1 = false → ∀ σ1, FP σ σ1 → σ1 1 2 = (((ac1 A L n a (false, p) j v).1.2 : Nat) : Int) → (∀ i, i % 4 < n → i < 4 * a + n → σ1 4 i = (ac1 A L n a (false, p) j v).2.1 i ∧ σ1 5 i = (ac1 A L n a (false, p) j v).2.2 i) → K σ1) (h0 : (ac1 A L n a (false, p) j v).1.1 = true → ∀ σ1, FP σ σ1 → σ1 1 2 = (((ac1 A L n a (false, p) j v).1.2 : Nat) : Int) → Q 0 σ1) : wp (d + 4) m_T_skip [.inr (.inr 1), .inl 97] σ (fun (r1 : Int) (s2 : Mem) => (r1 = 0 → Q 0 s2) ∧ (¬ r1 = 0 → wp (d + 4) m_T_parsePairs [.inr (.inr 1), .inl ((4 * a : Nat) : Int)] s2 (fun (r3 : Int) (s4 : Mem) => (r3 = 0 → Q 0 s4) ∧ (¬ r3 = 0 → wp (d + 4) m_T_skip [.inr (.inr 1), .inl 59] s4 (fun (r5 : Int) (s6 : Mem) => (r5 = 0 → Q 0 s6) ∧ (¬ r5 = 0 → K s6)))))) := by
  refine sp_T_skip hL hp90 ht hp (fun e1 σ1 hF1 q1 _ => ⟨fun h => by omega, fun _ => ?_⟩) (fun e1 => ⟨fun _ => ?_, fun h => absurd rfl h⟩)
  · have l1 : p + 1 ≤ L := by have := tkS_le (A := A) (L := L) (c := 97) (by decide) (s := (false, p)) hp90; rw [e1] at this; exact this
    have ea : ac1 A L n a (false, p) j v = (tkS A L 59 (prS A L a n 0 (false, p + 1) j v).1, (prS A L a n 0 (false, p + 1) j v).2) := by unfold ac1; rw [e1]
    rw [ea] at h1 h0
    refine e_T_parsePairs (sp_T_pairs hR hA hL hn ha n 0 (p + 1) σ1 j v (by omega) l1 (hF1.tx ht) q1 (by rw [hF1 1 4 (by omega)]; exact h4) (fun i hi hi2 => by rw [hF1 4 i (by omega), hF1 5 i (by omega)]; exact hw i hi (by omega)) (fun e2 σ2 hF2 q2 w2 => ⟨fun h => by omega, fun _ => ?_⟩) (fun e2 σ2 hF2 q2 => ⟨fun _ => ?_, fun h => absurd rfl h⟩))
    · have lq := prS_le (A := A) (L := L) (a := a) n 0 (false, p + 1) j v l1
      have e0 := pair_split e2
      rw [e0] at h1 h0
      have hF3 := hF1.fp.trans hF2
      refine sp_T_skip hL lq (hF3.tx ht) q2 (fun e3 σ3 hF4 q3 _ => ⟨fun h => by omega, fun _ => ?_⟩) (fun e3 => ⟨fun _ => ?_, fun h => absurd rfl h⟩)
      · rw [e3] at h1
        exact h1 rfl σ3 (hF3.trans hF4.fp) q3 (fun i hi hi2 => by rw [hF4 4 i (by omega), hF4 5 i (by omega)]; exact w2 i hi hi2)
      · rw [e3] at h0
        exact h0 rfl σ2 hF3 q2
    · have e0 := pair_split e2
      rw [e0] at h0
      exact h0 rfl σ2 (hF1.fp.trans hF2) q2
  · have ea : (ac1 A L n a (false, p) j v).1 = (true, p) := by unfold ac1; rw [e1, prS_bad]; rfl
    rw [ea] at h0
    exact h0 rfl σ FP.id hp
def FA (σ σ1 : Mem) : Prop := ∀ k i, ¬ (k = 1 ∧ (i = 2 ∨ i = 3 ∨ i = 5)) → k ≠ 4 → k ≠ 5 → σ1 k i = σ k i
theorem FA.id {σ : Mem} : FA σ σ := fun _ _ _ _ _ => rfl
theorem FA.trans {σ σ1 σ2 : Mem} (h1 : FA σ σ1) (h2 : FA σ1 σ2) : FA σ σ2 := fun k i a b c => (h2 k i a b c).trans (h1 k i a b c)
theorem FP.fa {σ σ1 : Mem} (h : FP σ σ1) : FA σ σ1 := fun k i a b c => h k i (by omega) b c
theorem FA.tx {A σ σ1 : Mem} {L : Nat} (h : FA σ σ1) (ht : tX A σ L) : tX A σ1 L := ⟨by rw [h 1 1 (by omega) (by decide) (by decide)]; exact ht.1, fun j hj => by rw [h 2 j (by omega) (by decide) (by decide)]; exact ht.2 j hj⟩
theorem acF_go {A : Mem} {L n m k p : Nat} {j v : Nat → Int} (hc : k = 0 ∨ p < L) : acF A L n (m + 1) k (false, p) j v = acF A L n m (k + 1) (ac1 A L n k (false, p) j v).1 (ac1 A L n k (false, p) j v).2.1 (ac1 A L n k (false, p) j v).2.2 := by
  show (if (false : Bool) = false ∧ (k = 0 ∨ p < L) then _ else _) = _
  rw [if_pos ⟨rfl, hc⟩]
theorem acF_no {A : Mem} {L n m k p : Nat} {j v : Nat → Int} (hc : ¬ (k = 0 ∨ p < L)) : acF A L n (m + 1) k (false, p) j v = ((false, p), k, j, v) := by
  show (if (false : Bool) = false ∧ (k = 0 ∨ p < L) then _ else _) = _
  rw [if_neg (fun z => hc z.2)]
theorem sp_T_acts {d : Nat} {A : Mem} {Q : Int → Mem → Prop} (hR : RR A) {L n : Nat} (hA : A 1 1 = (L : Int)) (hL : L ≤ 90) (hn : n ≤ 4) : ∀ (m k p : Nat) (σ : Mem) (j v : Nat → Int), k + m = 6 → p ≤ L → tX A σ L → σ 1 2 = (p : Int) → σ 1 4 = (n : Int) → σ 1 5 = (k : Int) → (∀ i, i % 4 < n → i < 4 * k → σ 4 i = j i ∧ σ 5 i = v i) → ((acF A L n m k (false, p) j v).1.1 = false → (acF A L n m k (false, p) j v).1.2 = L → ∀ σ1, FA σ σ1 → σ1 1 5 = (((acF A L n m k (false, p) j v).2.1 : Nat) : Int) → (∀ i, i % 4 < n → i < 4 * (acF A L n m k (false, p) j v).2.1 → σ1 4 i = (acF A L n m k (false, p) j v).2.2.1 i ∧ σ1 5 i = (acF A L n m k (false, p) j v).2.2.2 i) → Q 1 σ1) → ((acF A L n m k (false, p) j v).1.1 = true ∨ (acF A L n m k (false, p) j v).1.2 < L → ∀ σ1, FA σ σ1 → σ1 1 2 = (((acF A L n m k (false, p) j v).1.2 : Nat) : Int) → Q 0 σ1) → K_T_parseActs_2 (d + 4) Q (k : Int) σ := by
  intro m
  induction m with
  | zero =>
    intro k p σ j v hk hp90 ht hp h4 h5 hw h1 h0
    have e11 := ht.1
    exact e_T_parseActs_2 ⟨fun h => by omega, fun _ => ⟨fun h => h1 rfl (show p = L by omega) σ FA.id h5 hw, fun h => h0 (Or.inr (show p < L by omega)) σ FA.id hp⟩⟩
  | succ m ih =>
    intro k p σ j v hk hp90 ht hp h4 h5 hw h1 h0
    have e11 := ht.1
    have ex : w32 ((k : Int) * 4) = ((4 * k : Nat) : Int) := w32_eq (by omega) (by omega)
    have et : w32 ((k : Int) + 1) = ((k + 1 : Nat) : Int) := w32_eq (by omega) (by omega)
    have good : (k = 0 ∨ p < L) → (ac1 A L n k (false, p) j v).1.1 = false → ∀ σ1, FP σ σ1 → σ1 1 2 = (((ac1 A L n k (false, p) j v).1.2 : Nat) : Int) → (∀ i, i % 4 < n → i < 4 * k + n → σ1 4 i = (ac1 A L n k (false, p) j v).2.1 i ∧ σ1 5 i = (ac1 A L n k (false, p) j v).2.2 i) → K_T_parseActs_2 (d + 4) Q ((k + 1 : Nat) : Int) (mset σ1 1 5 ((k + 1 : Nat) : Int)) := by
      intro hc e σ1 hF q w1
      rw [acF_go hc, pair_split e] at h1 h0
      have hF2 : FA σ (mset σ1 1 5 ((k + 1 : Nat) : Int)) := fun a i a1 a2 a3 => by rw [ms_ne (by omega)]; exact hF.fa a i a1 a2 a3
      refine ih (k + 1) (ac1 A L n k (false, p) j v).1.2 _ _ _ (by omega) (ac1_le hp90) (hF2.tx ht) (by rw [ms_ni (by decide)]; exact q) (by rw [hF2 1 4 (by omega) (by decide) (by decide)]; exact h4) ms_eq (fun i hi hi2 => ?_) (fun e2 e3 σ2 hF3 => h1 e2 e3 σ2 (hF2.trans hF3)) (fun e2 σ2 hF3 => h0 e2 σ2 (hF2.trans hF3))
      rw [ms_nk (by decide), ms_nk (by decide)]
      exact w1 i hi (by omega)
    have bad : (k = 0 ∨ p < L) → (ac1 A L n k (false, p) j v).1.1 = true → ∀ σ1, FP σ σ1 → σ1 1 2 = (((ac1 A L n k (false, p) j v).1.2 : Nat) : Int) → Q 0 σ1 := by
      intro hc e σ1 hF q
      rw [acF_go hc, pair_split e, acF_bad] at h0
      exact h0 (Or.inl rfl) σ1 hF.fa q
    refine e_T_parseActs_2 ⟨fun _ => ⟨fun h => ?_, fun h => ⟨fun h2 => ?_, fun h2 => ?_⟩⟩, fun h => by omega⟩
    · rw [ex, et]
      exact sp_T_act hR hA hL hn (by omega) hp90 ht hp h4 hw (good (Or.inl (by omega))) (bad (Or.inl (by omega)))
    · rw [ex, et]
      exact sp_T_act hR hA hL hn (by omega) hp90 ht hp h4 hw (good (Or.inr (by omega))) (bad (Or.inr (by omega)))
    · rw [acF_no (by omega)] at h1
      exact ⟨fun _ => h1 rfl (show p = L by omega) σ FA.id h5 hw, fun h3 => absurd (show σ 1 2 = σ 1 1 by omega) h3⟩
