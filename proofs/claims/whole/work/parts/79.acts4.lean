-- the reference reads all its acts, and the end of the text
def FC (σ σ1 : Mem) : Prop := ∀ k i, ¬ (k = 49 ∧ (i = 24 ∨ i = 26 ∨ i = 28)) → k ≠ 66 → σ1 k i = σ k i
theorem FC.id {σ : Mem} : FC σ σ := fun _ _ _ _ => rfl
theorem FC.trans {σ σ1 σ2 : Mem} (h1 : FC σ σ1) (h2 : FC σ1 σ2) : FC σ σ2 := fun k i a b => (h2 k i a b).trans (h1 k i a b)
theorem FC.tm {A σ σ1 : Mem} {L : Nat} (h : FC σ σ1) (ht : tM A σ L) : tM A σ1 L := ⟨by rw [h 49 25 (by omega) (by decide)]; exact ht.1, fun j hj => by rw [h 60 j (by omega) (by decide)]; exact ht.2 j hj⟩
theorem ac1_f {A : Mem} {L n a : Nat} {s : PS} {j v : Nat → Int} (h : (ac1 A L n a s j v).1.1 = false) : (prS A L a n 0 (tkS A L 97 s) j v).1.1 = false := tkS_f h
theorem sp_M_act {d : Nat} {A σ : Mem} {Q : Int → Mem → Prop} (hR : RR A) {L n a : Nat} {s : PS} {j v : Nat → Int} (hA : A 1 1 = (L : Int)) (hL : L ≤ 90) (hn : n ≤ 4) (ha : a < 6) (hs : s.2 ≤ L) (ht : tM A σ L) (hst : stM σ s) (h27 : σ 49 27 = (n : Int)) (h28 : σ 49 28 = (a : Int)) (hw : ∀ i, i % 4 < n → i < 4 * a → σ 66 i = j i ∧ σ 66 (24 + i) = v i) (hQ : ∀ σ1, FC σ σ1 → stM σ1 (ac1 A L n a s j v).1 → σ1 49 28 = ((a + 1 : Nat) : Int) → ((ac1 A L n a s j v).1.1 = false → ∀ i, i % 4 < n → i < 4 * (a + 1) → σ1 66 i = (ac1 A L n a s j v).2.1 i ∧ σ1 66 (24 + i) = (ac1 A L n a s j v).2.2 i) → Q 0 σ1) : wp (d + 4) m_M_readAct [.inr (.inr 49)] σ Q := by
  refine e_M_readAct (sp_M_take hL hs ht hst (fun σ1 hF1 st1 => sp_M_pairs hR hA hL hn ha n 0 (tkS A L 97 s) σ1 j v (by omega) (tkS_le (by decide) hs) (hF1.tm ht) st1 (by rw [hF1 49 27 (by omega)]; exact h27) (by rw [hF1 49 28 (by omega)]; exact h28) (fun _ i hi hi2 => by rw [hF1 66 i (by omega), hF1 66 (24 + i) (by omega)]; exact hw i hi (by omega)) (fun σ2 hF2 st2 w2 => sp_M_take hL (prS_le _ _ _ _ _ (tkS_le (by decide) hs)) ((hF1.fb.trans hF2).tm ht) st2 (fun σ3 hF3 st3 => ?_))))
  have hF4 : FB σ σ3 := (hF1.fb.trans hF2).trans hF3.fb
  have e28 : σ3 49 28 = (a : Int) := by rw [hF4 49 28 (by omega) (by decide)]; exact h28
  rw [e28, w32_eq (n := a + 1) (by omega) (by omega)]
  refine hQ _ (fun k i a1 a2 => ?_) ⟨by rw [ms_ni (by decide)]; exact st3.1, by rw [ms_ni (by decide)]; exact st3.2⟩ ms_eq (fun hg i hi hi2 => ?_)
  · rw [ms_ne (by omega)]; exact hF4 k i (by omega) a2
  · rw [ms_nk (by decide), ms_nk (by decide), hF3 66 i (by omega), hF3 66 (24 + i) (by omega)]
    exact w2 (ac1_f hg) i hi (by omega)
theorem M_leaf {d : Nat} {Q : Int → Mem → Prop} {σ : Mem} {L : Nat} {s : PS} (h25 : σ 49 25 = (L : Int)) (hst : stM σ s) (hs : s.2 ≤ L) (hb : s.1 = true ∨ s.2 < L → Q (w32 ((-20) - (σ 49 24))) (mset σ 49 26 1)) (hg : s.1 = false → s.2 = L → K_M_read_208 d Q 0 0 (mset (mset (mset σ 49 26 0) 49 0 (σ 49 27)) 49 1 (σ 49 28))) :
    ((σ 49 26) = 0 →
      ((σ 49 24) < (σ 49 25) →
        (((mset σ 49 26 1) 49 26) = 0 →
          K_M_read_208 d Q 0 0 (mset (mset (mset σ 49 26 1) 49 0 ((mset σ 49 26 1) 49 27)) 49 1 ((mset (mset σ 49 26 1) 49 0 ((mset σ 49 26 1) 49 27)) 49 28))) ∧
        (¬ ((mset σ 49 26 1) 49 26) = 0 → Q (w32 ((-20) - ((mset σ 49 26 1) 49 24))) (mset σ 49 26 1))) ∧
      ((σ 49 25) ≤ (σ 49 24) →
        (((mset σ 49 26 0) 49 26) = 0 →
          K_M_read_208 d Q 0 0 (mset (mset (mset σ 49 26 0) 49 0 ((mset σ 49 26 0) 49 27)) 49 1 ((mset (mset σ 49 26 0) 49 0 ((mset σ 49 26 0) 49 27)) 49 28))) ∧
        (¬ ((mset σ 49 26 0) 49 26) = 0 → Q (w32 ((-20) - ((mset σ 49 26 0) 49 24))) (mset σ 49 26 0)))) ∧
    (¬ (σ 49 26) = 0 →
      (((mset σ 49 26 1) 49 26) = 0 →
        K_M_read_208 d Q 0 0 (mset (mset (mset σ 49 26 1) 49 0 ((mset σ 49 26 1) 49 27)) 49 1 ((mset (mset σ 49 26 1) 49 0 ((mset σ 49 26 1) 49 27)) 49 28))) ∧
      (¬ ((mset σ 49 26 1) 49 26) = 0 → Q (w32 ((-20) - ((mset σ 49 26 1) 49 24))) (mset σ 49 26 1))) := by
  obtain ⟨b, p⟩ := s
  have h24 : σ 49 24 = (p : Int) := hst.2
  have hs : p ≤ L := hs
  have e24 : (mset σ 49 26 1) 49 24 = σ 49 24 := ms_ni (by decide)
  have e27 : (mset σ 49 26 0) 49 27 = σ 49 27 := ms_ni (by decide)
  have e28 : (mset (mset σ 49 26 0) 49 0 (σ 49 27)) 49 28 = σ 49 28 := by rw [ms_ni (by decide), ms_ni (by decide)]
  rw [e24, e27, e28]
  refine ⟨fun h => ⟨fun h2 => ⟨fun z => by rw [ms_eq] at z; omega, fun _ => hb (Or.inr (show p < L by omega))⟩, fun h2 => ⟨fun _ => hg ?_ (show p = L by omega), fun z => absurd ms_eq z⟩⟩, fun h => ⟨fun z => by rw [ms_eq] at z; omega, fun _ => hb (Or.inl ?_)⟩⟩
  · cases b with
    | false => rfl
    | true => have : σ 49 26 = 1 := hst.1; omega
  · cases b with
    | false => exact absurd hst.1 h
    | true => rfl
theorem sp_M_acts {d : Nat} {A : Mem} {Q : Int → Mem → Prop} (hR : RR A) {L n : Nat} (hA : A 1 1 = (L : Int)) (hL : L ≤ 90) (hn : n ≤ 4) : ∀ (m k : Nat) (s : PS) (σ : Mem) (j v : Nat → Int), k + m = 6 → s.2 ≤ L → tM A σ L → stM σ s → σ 49 27 = (n : Int) → σ 49 28 = (k : Int) → (s.1 = false → ∀ i, i % 4 < n → i < 4 * k → σ 66 i = j i ∧ σ 66 (24 + i) = v i) → ((acF A L n m k s j v).1.1 = true ∨ (acF A L n m k s j v).1.2 < L → ∀ σ1, FC σ σ1 → σ1 49 24 = (((acF A L n m k s j v).1.2 : Nat) : Int) → Q (w32 ((-20) - (σ1 49 24))) (mset σ1 49 26 1)) → ((acF A L n m k s j v).1.1 = false → (acF A L n m k s j v).1.2 = L → ∀ σ1, FC σ σ1 → σ1 49 28 = (((acF A L n m k s j v).2.1 : Nat) : Int) → (∀ i, i % 4 < n → i < 4 * (acF A L n m k s j v).2.1 → σ1 66 i = (acF A L n m k s j v).2.2.1 i ∧ σ1 66 (24 + i) = (acF A L n m k s j v).2.2.2 i) → K_M_read_208 (d + 4) Q 0 0 (mset (mset (mset σ1 49 26 0) 49 0 (σ1 49 27)) 49 1 (σ1 49 28))) → K_M_read_105 (d + 4) Q σ := by
  intro m
  induction m with
  | zero =>
    intro k s σ j v hk hs ht hst h27 h28 hw hb hg
    have lf := M_leaf (d := d + 4) (Q := Q) ht.1 hst hs (fun z => hb z σ FC.id hst.2) (fun z1 z2 => hg z1 z2 σ FC.id h28 (hw z1))
    exact e_M_read_105 ⟨fun _ => ⟨fun h => by omega, fun _ => ⟨fun h => by omega, fun _ => lf⟩⟩, fun _ => lf⟩
  | succ m ih =>
    intro k s σ j v hk hs ht hst h27 h28 hw hb hg
    obtain ⟨b, p⟩ := s
    cases b with
    | true =>
      have h26 : σ 49 26 = 1 := hst.1
      rw [acF_bad] at hb hg
      have lf := M_leaf (d := d + 4) (Q := Q) ht.1 hst hs (fun z => hb z σ FC.id hst.2) (fun z1 => by cases z1)
      exact e_M_read_105 ⟨fun h => by omega, fun _ => lf⟩
    | false =>
      have h26 : σ 49 26 = 0 := hst.1
      have h24 : σ 49 24 = ((p : Nat) : Int) := hst.2
      have h25 := ht.1
      have go : (k = 0 ∨ p < L) → wp (d + 4) m_M_readAct [.inr (.inr 49)] σ (fun (_ : Int) (s2 : Mem) => K_M_read_105 (d + 4) Q s2) := by
        intro hc
        rw [acF_go hc] at hb hg
        refine sp_M_act hR hA hL hn (by omega) hs ht hst h27 h28 (hw rfl) (fun σ1 hF st1 e28 w1 => ?_)
        exact ih (k + 1) (ac1 A L n k (false, p) j v).1 σ1 _ _ (by omega) (ac1_le hs) (hF.tm ht) st1 (by rw [hF 49 27 (by omega) (by decide)]; exact h27) e28 w1 (fun z σ2 hF2 => hb z σ2 (hF.trans hF2)) (fun z1 z2 σ2 hF2 => hg z1 z2 σ2 (hF.trans hF2))
      refine e_M_read_105 ⟨fun _ => ⟨fun h => go (Or.inl (by omega)), fun h => ⟨fun _ => ⟨fun h2 => go (Or.inr (by omega)), fun h2 => ?_⟩, fun h => by omega⟩⟩, fun h => absurd h26 h⟩
      rw [acF_no (by omega)] at hb hg
      exact M_leaf ht.1 hst hs (fun z => hb z σ FC.id hst.2) (fun z1 z2 => hg z1 z2 σ FC.id h28 (hw z1))
