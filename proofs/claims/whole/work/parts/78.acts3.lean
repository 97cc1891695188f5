-- the reference reads its acts
theorem stM_k {σ : Mem} {s : PS} {o i : Nat} {x : Int} (ho : o ≠ 49) (h : stM σ s) : stM (mset σ o i x) s := ⟨by rw [ms_nk (fun z => ho z.symm)]; exact h.1, by rw [ms_nk (fun z => ho z.symm)]; exact h.2⟩
def FR (x : Nat) (σ σ1 : Mem) : Prop := ∀ k i, ¬ (k = 49 ∧ (i = 24 ∨ i = 26)) → ¬ (k = 66 ∧ (i = x ∨ i = 24 + x)) → σ1 k i = σ k i
theorem FR.tm {A σ σ1 : Mem} {L x : Nat} (h : FR x σ σ1) (ht : tM A σ L) : tM A σ1 L := ⟨by rw [h 49 25 (by omega) (by omega)]; exact ht.1, fun j hj => by rw [h 60 j (by omega) (by omega)]; exact ht.2 j hj⟩
theorem sp_M_pair {d : Nat} {A σ : Mem} {P : Mem → Prop} (hR : RR A) {L a t : Nat} {s : PS} (hA : A 1 1 = (L : Int)) (hL : L ≤ 90) (hs : s.2 ≤ L) (ha : a < 6) (ht4 : t < 4) (ht : tM A σ L) (hst : stM σ s) (h28 : σ 49 28 = (a : Int)) (h : ∀ σ1, FR (4 * a + t) σ σ1 → stM σ1 (pr2 A L s).1 → σ1 66 (4 * a + t) = (pr2 A L s).2.1 → σ1 66 (24 + (4 * a + t)) = (pr2 A L s).2.2 → P σ1) : wp (d + 3) m_M_readSigned [.inr (.inr 49)] σ (fun (r5 : Int) (s6 : Mem) => (0 ≤ (w32 ((w32 (4 * (σ 49 28))) + (t : Int))) ∧ (w32 ((w32 (4 * (σ 49 28))) + (t : Int))) < (48 : Int)) ∧ wp (d + 3) m_M_take [.inr (.inr 49), .inl 47] (mset s6 66 (w32 ((w32 (4 * (σ 49 28))) + (t : Int))).toNat r5) (fun (_ : Int) (s8 : Mem) => wp (d + 3) m_M_readSigned [.inr (.inr 49)] s8 (fun (r9 : Int) (s10 : Mem) => (0 ≤ (w32 ((w32 (24 + (w32 (4 * (s8 49 28))))) + (t : Int))) ∧ (w32 ((w32 (24 + (w32 (4 * (s8 49 28))))) + (t : Int))) < (48 : Int)) ∧ P (mset s10 66 (w32 ((w32 (24 + (w32 (4 * (s8 49 28))))) + (t : Int))).toNat r9)))) := by
  have w1 : w32 (4 * (a : Int)) = ((4 * a : Nat) : Int) := w32_eq (by omega) (by omega)
  have w2 : w32 (((4 * a : Nat) : Int) + (t : Int)) = ((4 * a + t : Nat) : Int) := w32_eq (by omega) (by omega)
  have w3 : w32 (24 + ((4 * a : Nat) : Int)) = ((24 + 4 * a : Nat) : Int) := w32_eq (by omega) (by omega)
  have w4 : w32 (((24 + 4 * a : Nat) : Int) + (t : Int)) = ((24 + (4 * a + t) : Nat) : Int) := w32_eq (by omega) (by omega)
  refine sp_M_readSigned hR hA hL hs ht hst (fun σ1 hF1 st1 => ?_)
  rw [h28, w1, w2, Int.toNat_natCast]
  have hFa : FR (4 * a + t) σ (mset σ1 66 (4 * a + t) (sns A L s).2) := fun k i a1 a2 => by rw [ms_ne (by omega)]; exact hF1 k i a1
  refine ⟨⟨by omega, by omega⟩, sp_M_take hL (sns_le hs) (hFa.tm ht) (stM_k (by decide) st1) (fun σ2 hF2 st2 => ?_)⟩
  have hFb : FR (4 * a + t) σ σ2 := fun k i a1 a2 => by rw [hF2 k i a1]; exact hFa k i a1 a2
  have g2 : σ2 66 (4 * a + t) = (sns A L s).2 := by rw [hF2 66 _ (by omega), ms_eq]
  have e28 : σ2 49 28 = (a : Int) := by rw [hFb 49 28 (by omega) (by omega)]; exact h28
  refine sp_M_readSigned hR hA hL (tkS_le (by decide) (sns_le hs)) (hFb.tm ht) st2 (fun σ3 hF3 st3 => ?_)
  rw [e28, w1, w3, w4, Int.toNat_natCast]
  refine ⟨⟨by omega, by omega⟩, h _ (fun k i a1 a2 => ?_) (stM_k (by decide) st3) ?_ ms_eq⟩
  · rw [ms_ne (by omega), hF3 k i a1]; exact hFb k i a1 a2
  · rw [ms_ni (by omega), hF3 66 _ (by omega)]; exact g2
def FB (σ σ1 : Mem) : Prop := ∀ k i, ¬ (k = 49 ∧ (i = 24 ∨ i = 26)) → k ≠ 66 → σ1 k i = σ k i
theorem FB.id {σ : Mem} : FB σ σ := fun _ _ _ _ => rfl
theorem FB.trans {σ σ1 σ2 : Mem} (h1 : FB σ σ1) (h2 : FB σ1 σ2) : FB σ σ2 := fun k i a b => (h2 k i a b).trans (h1 k i a b)
theorem FM.fb {σ σ1 : Mem} (h : FM σ σ1) : FB σ σ1 := fun k i a _ => h k i a
theorem FR.fb {σ σ1 : Mem} {x : Nat} (h : FR x σ σ1) : FB σ σ1 := fun k i a b => h k i a (by omega)
theorem FB.tm {A σ σ1 : Mem} {L : Nat} (h : FB σ σ1) (ht : tM A σ L) : tM A σ1 L := ⟨by rw [h 49 25 (by omega) (by decide)]; exact ht.1, fun j hj => by rw [h 60 j (by omega) (by decide)]; exact ht.2 j hj⟩
theorem sp_M_pairs {d : Nat} {A : Mem} {Q : Int → Mem → Prop} (hR : RR A) {L n a : Nat} (hA : A 1 1 = (L : Int)) (hL : L ≤ 90) (hn : n ≤ 4) (ha : a < 6) : ∀ (m t : Nat) (s : PS) (σ : Mem) (j v : Nat → Int), t + m = n → s.2 ≤ L → tM A σ L → stM σ s → σ 49 27 = (n : Int) → σ 49 28 = (a : Int) → (s.1 = false → ∀ i, i % 4 < n → i < 4 * a + t → σ 66 i = j i ∧ σ 66 (24 + i) = v i) → (∀ σ1, FB σ σ1 → stM σ1 (prS A L a m t s j v).1 → ((prS A L a m t s j v).1.1 = false → ∀ i, i % 4 < n → i < 4 * a + n → σ1 66 i = (prS A L a m t s j v).2.1 i ∧ σ1 66 (24 + i) = (prS A L a m t s j v).2.2 i) → wp (d + 3) m_M_take [.inr (.inr 49), .inl 59] σ1 (fun (_ : Int) (s2 : Mem) => Q 0 (mset s2 49 28 (w32 ((s2 49 28) + 1))))) → K_M_readAct_8 (d + 3) Q (t : Int) σ := by
  intro m
  induction m with
  | zero =>
    intro t s σ j v htm hs ht hst h27 h28 hw hQ
    have e : t = n := by omega
    subst e
    exact e_M_readAct_8 ⟨fun h => by omega, fun _ => hQ σ FB.id hst hw⟩
  | succ m ih =>
    intro t s σ j v htm hs ht hst h27 h28 hw hQ
    obtain ⟨b, p⟩ := s
    cases b with
    | true =>
      have h26 : σ 49 26 = 1 := hst.1
      rw [prS_bad] at hQ
      exact e_M_readAct_8 ⟨fun _ => ⟨fun h => by omega, fun _ => hQ σ FB.id hst (fun z => by cases z)⟩, fun h => by omega⟩
    | false =>
      have h26 : σ 49 26 = 0 := hst.1
      have et : w32 ((t : Int) + 1) = ((t + 1 : Nat) : Int) := w32_eq (by omega) (by omega)
      rw [prS_go] at hQ
      have go : ∀ (s' : PS) (σ' : Mem), s'.2 ≤ L → FM σ σ' → pr1 A L t (false, p) = pr2 A L s' → ∀ σ1, FR (4 * a + t) σ' σ1 → stM σ1 (pr2 A L s').1 → σ1 66 (4 * a + t) = (pr2 A L s').2.1 → σ1 66 (24 + (4 * a + t)) = (pr2 A L s').2.2 → K_M_readAct_8 (d + 3) Q ((t + 1 : Nat) : Int) σ1 := by
        intro s' σ' ls hF0 ep σ1 hF st1 g1 g2
        rw [ep] at hQ
        have hF2 : FB σ σ1 := hF0.fb.trans hF.fb
        refine ih (t + 1) (pr2 A L s').1 σ1 _ _ (by omega) (pr2_le ls) (hF2.tm ht) st1 (by rw [hF2 49 27 (by omega) (by decide)]; exact h27) (by rw [hF2 49 28 (by omega) (by decide)]; exact h28) (fun _ i hi hi2 => ?_) (fun σ2 hF3 => hQ σ2 (hF2.trans hF3))
        unfold updI
        by_cases hik : i = 4 * a + t
        · subst hik; rw [if_pos rfl, if_pos rfl]; exact ⟨g1, g2⟩
        · rw [if_neg hik, if_neg hik, hF 66 i (by omega) (by omega), hF 66 (24 + i) (by omega) (by omega), hF0 66 i (by omega), hF0 66 (24 + i) (by omega)]
          exact hw rfl i hi (by omega)
      refine e_M_readAct_8 ⟨fun _ => ⟨fun _ => ⟨fun h => ?_, fun h => ?_⟩, fun h => absurd h26 h⟩, fun h => by omega⟩
      · rw [et]
        refine sp_M_take hL hs ht hst (fun σ3 hF3 st3 => ?_)
        have ep : pr1 A L t (false, p) = pr2 A L (tkS A L 44 (false, p)) := by unfold pr1; rw [if_pos (by omega)]
        have l3 := tkS_le (A := A) (L := L) (c := 44) (by decide) hs
        exact sp_M_pair hR hA hL l3 ha (by omega) (hF3.tm ht) st3 (by rw [hF3 49 28 (by omega)]; exact h28) (go _ _ l3 hF3 ep)
      · rw [et]
        have ep : pr1 A L t (false, p) = pr2 A L (false, p) := by unfold pr1; rw [if_neg (by omega)]
        exact sp_M_pair hR hA hL hs ha (by omega) ht hst h28 (go _ _ hs FM.id ep)
