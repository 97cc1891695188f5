-- PURE, 46: truths of a text
def tr1 (A : Mem) (L : Nat) (s : PS) : PS × Int := (tkS A L 59 (nms A L 1 (tkS A L 116 s)).1, (nms A L 1 (tkS A L 116 s)).2)
/-- truths from number k on: what is left of the text, how many, their weights -/
def trF (A : Mem) (L : Nat) : Nat → Nat → PS → (Nat → Int) → PS × Nat × (Nat → Int)
  | 0, k, s, w => (s, k, w)
  | m + 1, k, s, w => if s.1 = false ∧ (k = 0 ∨ pek A L s.2 = 116) then trF A L m (k + 1) (tr1 A L s).1 (fun i => if i = k then (tr1 A L s).2 else w i) else (s, k, w)
theorem tr1_le {A : Mem} {L : Nat} {s : PS} (h : s.2 ≤ L) : (tr1 A L s).1.2 ≤ L := tkS_le (by decide) (nms_le (by decide) (tkS_le (by decide) h))
theorem trF_bad {A : Mem} {L m k p : Nat} {w : Nat → Int} : trF A L m k (true, p) w = ((true, p), k, w) := by
  cases m with
  | zero => rfl
  | succ m => unfold trF; rw [if_neg (fun z => by have := z.1; cases this)]
theorem tkS_f {A : Mem} {L : Nat} {c : Int} {s : PS} (h : (tkS A L c s).1 = false) : s.1 = false := by
  unfold tkS at h
  split at h
  · exact h
  · rename_i h1; simpa using h1
theorem nms_f {A : Mem} {L : Nat} {c : Int} {s : PS} (h : (nms A L c s).1.1 = false) : s.1 = false := by
  unfold nms at h
  split at h
  · exact h
  · rename_i h1; simpa using h1
theorem sns_f {A : Mem} {L : Nat} {s : PS} (h : (sns A L s).1.1 = false) : s.1 = false := by
  unfold sns at h
  split at h
  · exact h
  · rename_i h1; simpa using h1
theorem tr1_v {A : Mem} {L : Nat} {s : PS} (h : (tr1 A L s).1.1 = false) : 1 ≤ (tr1 A L s).2 ∧ (tr1 A L s).2 ≤ 99 := nms_v (by decide) (tkS_f h)
/-- the class reads one truth -/
theorem sp_T_truth {d : Nat} {A σ : Mem} {Q : Int → Mem → Prop} (hR : RR A) {L p : Nat} (hA : A 1 1 = (L : Int)) (hL : L ≤ 90) (hp90 : p ≤ L) (ht : tX A σ L) (hp : σ 1 2 = (p : Int)) {K : Mem → Prop} (h1 : (tr1 A L (false, p)).1.1 = false → ∀ σ1, FX σ σ1 → σ1 1 2 = (((tr1 A L (false, p)).1.2 : Nat) : Int) → σ1 1 3 = (tr1 A L (false, p)).2 → K σ1) (h0 : (tr1 A L (false, p)).1.1 = true → ∀ σ1, FX σ σ1 → σ1 1 2 = (((tr1 A L (false, p)).1.2 : Nat) : Int) → Q 0 σ1) : wp (d + 2) m_T_skip [.inr (.inr 1), .inl 116] σ (fun (r1 : Int) (s2 : Mem) => (r1 = 0 → Q 0 s2) ∧ (¬ r1 = 0 → wp (d + 2) m_T_parseDigits [.inr (.inr 1), .inl 1] s2 (fun (r3 : Int) (s4 : Mem) => (r3 = 0 → Q 0 s4) ∧ (¬ r3 = 0 → wp (d + 2) m_T_skip [.inr (.inr 1), .inl 59] s4 (fun (r5 : Int) (s6 : Mem) => (r5 = 0 → Q 0 s6) ∧ (¬ r5 = 0 → K s6)))))) := by
  refine sp_T_skip hL hp90 ht hp (fun e1 σ1 hF1 q1 _ => ⟨fun h => by omega, fun _ => ?_⟩) (fun e1 => ⟨fun _ => h0 ?_ σ FX.id ?_, fun h => absurd rfl h⟩)
  · have l1 : p + 1 ≤ L := by have := tkS_le (A := A) (L := L) (c := 116) (by decide) (s := (false, p)) hp90; rw [e1] at this; exact this
    have et : tr1 A L (false, p) = (tkS A L 59 (nms A L 1 (false, p + 1)).1, (nms A L 1 (false, p + 1)).2) := by unfold tr1; rw [e1]
    rw [et] at h1 h0
    refine sp_T_digits hR hA hL l1 (hF1.tx ht) q1 (fun e2 σ2 hF2 q2 v2 => ⟨fun h => by omega, fun _ => ?_⟩) (fun e2 => ⟨fun _ => h0 (by rw [e2]; rfl) σ1 hF1 (by rw [e2]; exact q1), fun h => absurd rfl h⟩)
    rcases hN : nms A L 1 (false, p + 1) with ⟨⟨b, q⟩, v⟩
    rw [hN] at e2 q2 v2 h1 h0
    have hb : b = false := e2
    subst hb
    have l2 : q ≤ L := by have := nms_le (A := A) (L := L) (c := 1) (by decide) (s := (false, p + 1)) l1; rw [hN] at this; exact this
    refine sp_T_skip hL l2 ((hF1.trans hF2).tx ht) q2 (fun e3 σ3 hF3 q3 n3 => ⟨fun h => by omega, fun _ => h1 (by rw [e3]) σ3 ((hF1.trans hF2).trans hF3) (by rw [e3]; exact q3) (n3.trans v2)⟩) (fun e3 => ⟨fun _ => h0 (by rw [e3]) σ2 (hF1.trans hF2) (by rw [e3]; exact q2), fun h => absurd rfl h⟩)
  · unfold tr1; rw [e1]; rfl
  · unfold tr1; rw [e1]; exact hp
-- the class reads its truths
def FT (σ σ1 : Mem) : Prop := ∀ k i, ¬ (k = 1 ∧ (i = 2 ∨ i = 3 ∨ i = 4)) → k ≠ 3 → σ1 k i = σ k i
theorem FT.id {σ : Mem} : FT σ σ := fun _ _ _ _ => rfl
theorem FT.trans {σ σ1 σ2 : Mem} (h1 : FT σ σ1) (h2 : FT σ1 σ2) : FT σ σ2 := fun k i a b => (h2 k i a b).trans (h1 k i a b)
theorem FX.ft {σ σ1 : Mem} (h : FX σ σ1) : FT σ σ1 := fun k i a _ => h k i (by omega)
theorem FT.tx {A σ σ1 : Mem} {L : Nat} (h : FT σ σ1) (ht : tX A σ L) : tX A σ1 L := ⟨by rw [h 1 1 (by omega) (by decide)]; exact ht.1, fun j hj => by rw [h 2 j (by omega) (by decide)]; exact ht.2 j hj⟩
theorem trF_go {A : Mem} {L m k p : Nat} {w : Nat → Int} (hc : k = 0 ∨ pek A L p = 116) : trF A L (m + 1) k (false, p) w = trF A L m (k + 1) (tr1 A L (false, p)).1 (fun i => if i = k then (tr1 A L (false, p)).2 else w i) := by
  show (if (false : Bool) = false ∧ (k = 0 ∨ pek A L p = 116) then _ else _) = _
  rw [if_pos ⟨rfl, hc⟩]
theorem trF_no {A : Mem} {L m k p : Nat} {w : Nat → Int} (hc : ¬ (k = 0 ∨ pek A L p = 116)) : trF A L (m + 1) k (false, p) w = ((false, p), k, w) := by
  show (if (false : Bool) = false ∧ (k = 0 ∨ pek A L p = 116) then _ else _) = _
  rw [if_neg (fun z => hc z.2)]
theorem sp_T_truths {d : Nat} {A : Mem} {Q : Int → Mem → Prop} (hR : RR A) {L : Nat} (hA : A 1 1 = (L : Int)) (hL : L ≤ 90) : ∀ (m k p : Nat) (σ : Mem) (w : Nat → Int), k + m = 4 → p ≤ L → tX A σ L → σ 1 2 = (p : Int) → σ 1 4 = (k : Int) → (∀ i, i < k → σ 3 i = w i) → ((trF A L m k (false, p) w).1.1 = false → ∀ σ1, FT σ σ1 → σ1 1 2 = (((trF A L m k (false, p) w).1.2 : Nat) : Int) → σ1 1 4 = (((trF A L m k (false, p) w).2.1 : Nat) : Int) → (∀ i, i < (trF A L m k (false, p) w).2.1 → σ1 3 i = (trF A L m k (false, p) w).2.2 i) → Q 1 σ1) → ((trF A L m k (false, p) w).1.1 = true → ∀ σ1, FT σ σ1 → σ1 1 2 = (((trF A L m k (false, p) w).1.2 : Nat) : Int) → Q 0 σ1) → K_T_parseTruths_2 (d + 2) Q (k : Int) σ := by
  intro m
  induction m with
  | zero =>
    intro k p σ w hk hp90 ht hp h4 hw h1 h0
    exact e_T_parseTruths_2 ⟨fun h => by omega, fun _ => h1 rfl σ FT.id hp h4 hw⟩
  | succ m ih =>
    intro k p σ w hk hp90 ht hp h4 hw h1 h0
    have good : (k = 0 ∨ pek A L p = 116) → (tr1 A L (false, p)).1.1 = false → ∀ σ1, FX σ σ1 → σ1 1 2 = (((tr1 A L (false, p)).1.2 : Nat) : Int) → σ1 1 3 = (tr1 A L (false, p)).2 → (0 ≤ (k : Int) ∧ (k : Int) < (4 : Int)) ∧ K_T_parseTruths_2 (d + 2) Q (w32 ((k : Int) + 1)) (mset (mset σ1 3 (k : Int).toNat (σ1 1 3)) 1 4 (w32 ((k : Int) + 1))) := by
      intro hc e σ1 hF q v
      have e0 : (tr1 A L (false, p)).1 = (false, (tr1 A L (false, p)).1.2) := Prod.ext e rfl
      rw [trF_go hc, e0] at h1 h0
      rw [w32_eq (n := k + 1) (by omega) (by omega), Int.toNat_natCast, v]
      have hF2 : FT σ (mset (mset σ1 3 k (tr1 A L (false, p)).2) 1 4 ((k + 1 : Nat) : Int)) := fun a i h2 h3 => by rw [ms_ne (by omega), ms_nk h3]; exact hF a i (by omega)
      refine ⟨⟨by omega, by omega⟩, ih (k + 1) (tr1 A L (false, p)).1.2 _ (fun i => if i = k then (tr1 A L (false, p)).2 else w i) (by omega) (tr1_le hp90) (hF2.tx ht) (by rw [ms_ni (by decide), ms_nk (by decide)]; exact q) ms_eq ?_ (fun e2 σ2 hF3 => h1 e2 σ2 (hF2.trans hF3)) (fun e2 σ2 hF3 => h0 e2 σ2 (hF2.trans hF3))⟩
      intro i hi
      rw [ms_nk (by decide)]
      by_cases hik : i = k
      · subst hik; rw [ms_eq, if_pos rfl]
      · rw [ms_ni (by omega), if_neg hik, hF 3 i (by omega)]; exact hw i (by omega)
    have bad : (k = 0 ∨ pek A L p = 116) → (tr1 A L (false, p)).1.1 = true → ∀ σ1, FX σ σ1 → σ1 1 2 = (((tr1 A L (false, p)).1.2 : Nat) : Int) → Q 0 σ1 := by
      intro hc e σ1 hF q
      have e0 : (tr1 A L (false, p)).1 = (true, (tr1 A L (false, p)).1.2) := Prod.ext e rfl
      rw [trF_go hc, e0, trF_bad] at h0
      exact h0 rfl σ1 hF.ft q
    refine e_T_parseTruths_2 ⟨fun _ => ⟨fun h => ?_, fun h => sp_T_peek hL ht hp ⟨fun h2 => ?_, fun h2 => ?_⟩⟩, fun h => by omega⟩
    · exact sp_T_truth hR hA hL hp90 ht hp (good (Or.inl (by omega))) (bad (Or.inl (by omega)))
    · exact sp_T_truth hR hA hL hp90 ht hp (good (Or.inr h2)) (bad (Or.inr h2))
    · rw [trF_no (by omega)] at h1
      exact h1 rfl σ FT.id hp h4 hw
-- the reference reads its truths
theorem sp_M_truth {d : Nat} {A σ : Mem} {P : Int → Mem → Prop} (hR : RR A) {L : Nat} {s : PS} (hA : A 1 1 = (L : Int)) (hL : L ≤ 90) (hs : s.2 ≤ L) (ht : tM A σ L) (hst : stM σ s) (h : ∀ σ1, FM σ σ1 → stM σ1 (tr1 A L s).1 → P (tr1 A L s).2 σ1) : wp (d + 2) m_M_take [.inr (.inr 49), .inl 116] σ (fun (_ : Int) (s2 : Mem) => wp (d + 2) m_M_readNumber [.inr (.inr 49), .inl 1] s2 (fun (r3 : Int) (s4 : Mem) => wp (d + 2) m_M_take [.inr (.inr 49), .inl 59] s4 (fun (_ : Int) (s6 : Mem) => P r3 s6))) :=
  sp_M_take hL hs ht hst (fun σ1 hF1 st1 => sp_M_readNumber hR (by decide) hA hL (tkS_le (by decide) hs) (hF1.tm ht) st1 (fun σ2 hF2 st2 => sp_M_take hL (nms_le (by decide) (tkS_le (by decide) hs)) ((hF1.trans hF2).tm ht) st2 (fun σ3 hF3 st3 => h σ3 ((hF1.trans hF2).trans hF3) st3)))
def FN (σ σ1 : Mem) : Prop := ∀ k i, ¬ (k = 49 ∧ (i = 24 ∨ i = 26 ∨ i = 27)) → k ≠ 65 → σ1 k i = σ k i
theorem FN.id {σ : Mem} : FN σ σ := fun _ _ _ _ => rfl
theorem FN.trans {σ σ1 σ2 : Mem} (h1 : FN σ σ1) (h2 : FN σ1 σ2) : FN σ σ2 := fun k i a b => (h2 k i a b).trans (h1 k i a b)
theorem FN.tm {A σ σ1 : Mem} {L : Nat} (h : FN σ σ1) (ht : tM A σ L) : tM A σ1 L := ⟨by rw [h 49 25 (by omega) (by decide)]; exact ht.1, fun j hj => by rw [h 60 j (by omega) (by decide)]; exact ht.2 j hj⟩
theorem sp_M_truths {d : Nat} {A : Mem} {Q : Int → Mem → Prop} (hR : RR A) {L : Nat} (hA : A 1 1 = (L : Int)) (hL : L ≤ 90) : ∀ (m k : Nat) (s : PS) (σ : Mem) (w : Nat → Int), k + m = 4 → s.2 ≤ L → tM A σ L → stM σ s → σ 49 27 = (k : Int) → (∀ i, i < k → σ 65 i = w i) → (∀ σ1, FN σ σ1 → stM σ1 (trF A L m k s w).1 → σ1 49 27 = (((trF A L m k s w).2.1 : Nat) : Int) → (∀ i, i < (trF A L m k s w).2.1 → σ1 65 i = (trF A L m k s w).2.2 i) → K_M_read_105 (d + 2) Q σ1) → K_M_read_33 (d + 2) Q σ := by
  intro m
  induction m with
  | zero =>
    intro k s σ w hk hs ht hst h27 hw hQ
    have fin := hQ σ FN.id hst h27 hw
    exact e_M_read_33 ⟨fun _ => ⟨fun h => by omega, fun _ => ⟨fun h => by omega, fun _ => fin⟩⟩, fun _ => fin⟩
  | succ m ih =>
    intro k s σ w hk hs ht hst h27 hw hQ
    obtain ⟨b, p⟩ := s
    cases b with
    | true =>
      have h26 : σ 49 26 = 1 := hst.1
      rw [trF_bad] at hQ
      exact e_M_read_33 ⟨fun h => by omega, fun _ => hQ σ FN.id hst h27 hw⟩
    | false =>
      have h26 : σ 49 26 = 0 := hst.1
      have h24 : σ 49 24 = ((p : Nat) : Int) := hst.2
      have go : (k = 0 ∨ pek A L p = 116) → ∀ σ1, FM σ σ1 → stM σ1 (tr1 A L (false, p)).1 → (0 ≤ (σ1 49 27) ∧ (σ1 49 27) < (4 : Int)) ∧ K_M_read_33 (d + 2) Q (mset (mset σ1 65 (σ1 49 27).toNat (tr1 A L (false, p)).2) 49 27 (w32 (((mset σ1 65 (σ1 49 27).toNat (tr1 A L (false, p)).2) 49 27) + 1))) := by
        intro hc σ1 hF hs1
        rw [trF_go hc] at hQ
        have e27 : σ1 49 27 = (k : Int) := by rw [hF 49 27 (by omega)]; exact h27
        rw [ms_nk (by decide), e27, w32_eq (n := k + 1) (by omega) (by omega), Int.toNat_natCast]
        have hF2 : FN σ (mset (mset σ1 65 k (tr1 A L (false, p)).2) 49 27 ((k + 1 : Nat) : Int)) := fun a i h2 h3 => by rw [ms_ne (by omega), ms_nk h3]; exact hF a i (by omega)
        refine ⟨⟨by omega, by omega⟩, ih (k + 1) (tr1 A L (false, p)).1 _ (fun i => if i = k then (tr1 A L (false, p)).2 else w i) (by omega) (tr1_le hs) (hF2.tm ht) ⟨by rw [ms_ni (by decide), ms_nk (by decide)]; exact hs1.1, by rw [ms_ni (by decide), ms_nk (by decide)]; exact hs1.2⟩ ms_eq ?_ (fun σ2 hF3 => hQ σ2 (hF2.trans hF3))⟩
        intro i hi
        rw [ms_nk (by decide)]
        by_cases hik : i = k
        · subst hik; rw [ms_eq, if_pos rfl]
        · rw [ms_ni (by omega), if_neg hik, hF 65 i (by omega)]; exact hw i (by omega)
      refine e_M_read_33 ⟨fun _ => ⟨fun h => ?_, fun h => ⟨fun _ => sp_M_here hL ht h24 ⟨fun h2 => ?_, fun h2 => ?_⟩, fun h => by omega⟩⟩, fun h => absurd h26 h⟩
      · exact sp_M_truth hR hA hL hs ht hst (go (Or.inl (by omega)))
      · exact sp_M_truth hR hA hL hs ht hst (go (Or.inr h2))
      · rw [trF_no (by omega)] at hQ
        exact hQ σ FN.id hst h27 hw
