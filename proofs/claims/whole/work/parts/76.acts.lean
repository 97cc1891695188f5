-- PURE, 47: acts of a text
/-- a pair of numbers: what is left, the judge's, the advocate's -/
def pr2 (A : Mem) (L : Nat) (s : PS) : PS × Int × Int := ((sns A L (tkS A L 47 (sns A L s).1)).1, (sns A L s).2, (sns A L (tkS A L 47 (sns A L s).1)).2)
def pr1 (A : Mem) (L t : Nat) (s : PS) : PS × Int × Int := pr2 A L (if 0 < t then tkS A L 44 s else s)
def updI (f : Nat → Int) (x : Nat) (v : Int) : Nat → Int := fun i => if i = x then v else f i
/-- the pairs of act a from truth t on -/
def prS (A : Mem) (L a : Nat) : Nat → Nat → PS → (Nat → Int) → (Nat → Int) → PS × (Nat → Int) × (Nat → Int)
  | 0, _, s, j, v => (s, j, v)
  | m + 1, t, s, j, v => if s.1 = false then prS A L a m (t + 1) (pr1 A L t s).1 (updI j (4 * a + t) (pr1 A L t s).2.1) (updI v (4 * a + t) (pr1 A L t s).2.2) else (s, j, v)
def ac1 (A : Mem) (L n a : Nat) (s : PS) (j v : Nat → Int) : PS × (Nat → Int) × (Nat → Int) := (tkS A L 59 (prS A L a n 0 (tkS A L 97 s) j v).1, (prS A L a n 0 (tkS A L 97 s) j v).2)
/-- acts from number k on: what is left, how many, the judge's gains, the advocate's -/
def acF (A : Mem) (L n : Nat) : Nat → Nat → PS → (Nat → Int) → (Nat → Int) → PS × Nat × (Nat → Int) × (Nat → Int)
  | 0, k, s, j, v => (s, k, j, v)
  | m + 1, k, s, j, v => if s.1 = false ∧ (k = 0 ∨ s.2 < L) then acF A L n m (k + 1) (ac1 A L n k s j v).1 (ac1 A L n k s j v).2.1 (ac1 A L n k s j v).2.2 else (s, k, j, v)
theorem pr2_le {A : Mem} {L : Nat} {s : PS} (h : s.2 ≤ L) : (pr2 A L s).1.2 ≤ L := sns_le (tkS_le (by decide) (sns_le h))
theorem pr1_le {A : Mem} {L t : Nat} {s : PS} (h : s.2 ≤ L) : (pr1 A L t s).1.2 ≤ L := by
  unfold pr1
  split
  · exact pr2_le (tkS_le (by decide) h)
  · exact pr2_le h
theorem prS_bad {A : Mem} {L a m t p : Nat} {j v : Nat → Int} : prS A L a m t (true, p) j v = ((true, p), j, v) := by
  cases m with
  | zero => rfl
  | succ m => unfold prS; rw [if_neg (fun z => by cases z)]
theorem prS_le {A : Mem} {L a : Nat} : ∀ (m t : Nat) (s : PS) (j v : Nat → Int), s.2 ≤ L → (prS A L a m t s j v).1.2 ≤ L := by
  intro m
  induction m with
  | zero => intro t s j v h; exact h
  | succ m ih =>
    intro t s j v h
    unfold prS
    split
    · exact ih _ _ _ _ (pr1_le h)
    · exact h
theorem ac1_le {A : Mem} {L n a : Nat} {s : PS} {j v : Nat → Int} (h : s.2 ≤ L) : (ac1 A L n a s j v).1.2 ≤ L := tkS_le (by decide) (prS_le _ _ _ _ _ (tkS_le (by decide) h))
theorem acF_bad {A : Mem} {L n m k p : Nat} {j v : Nat → Int} : acF A L n m k (true, p) j v = ((true, p), k, j, v) := by
  cases m with
  | zero => rfl
  | succ m => unfold acF; rw [if_neg (fun z => by have := z.1; cases this)]
theorem pr2_b {A : Mem} {L p : Nat} : pr2 A L (true, p) = ((true, p), 0, 0) := rfl
theorem pair_split {s : PS} {b : Bool} (h : s.1 = b) : s = (b, s.2) := Prod.ext h rfl
-- the class reads a pair
def FQ (x : Nat) (σ σ1 : Mem) : Prop := ∀ k i, ¬ (k = 1 ∧ (i = 2 ∨ i = 3)) → ¬ (k = 4 ∧ i = x) → σ1 k i = σ k i
theorem FQ.tx {A σ σ1 : Mem} {L x : Nat} (h : FQ x σ σ1) (ht : tX A σ L) : tX A σ1 L := ⟨by rw [h 1 1 (by omega) (by omega)]; exact ht.1, fun j hj => by rw [h 2 j (by omega) (by omega)]; exact ht.2 j hj⟩
theorem sp_T_pair {d : Nat} {A σ : Mem} {Q : Int → Mem → Prop} (hR : RR A) {L p x : Nat} (hA : A 1 1 = (L : Int)) (hL : L ≤ 90) (hp90 : p ≤ L) (hx : x < 24) (ht : tX A σ L) (hp : σ 1 2 = (p : Int)) {K : Mem → Prop} (h1 : (pr2 A L (false, p)).1.1 = false → ∀ σ1, FQ x σ σ1 → σ1 1 2 = (((pr2 A L (false, p)).1.2 : Nat) : Int) → σ1 4 x = (pr2 A L (false, p)).2.1 → σ1 1 3 = (pr2 A L (false, p)).2.2 → K σ1) (h0 : (pr2 A L (false, p)).1.1 = true → ∀ σ1, FQ x σ σ1 → σ1 1 2 = (((pr2 A L (false, p)).1.2 : Nat) : Int) → Q 0 σ1) : wp (d + 3) m_T_parseNumber [.inr (.inr 1)] σ (fun (r1 : Int) (s2 : Mem) => (r1 = 0 → Q 0 s2) ∧ (¬ r1 = 0 → (0 ≤ (x : Int) ∧ (x : Int) < (24 : Int)) ∧ wp (d + 3) m_T_skip [.inr (.inr 1), .inl 47] (mset s2 4 (x : Int).toNat (s2 1 3)) (fun (r3 : Int) (s4 : Mem) => (r3 = 0 → Q 0 s4) ∧ (¬ r3 = 0 → wp (d + 3) m_T_parseNumber [.inr (.inr 1)] s4 (fun (r5 : Int) (s6 : Mem) => (r5 = 0 → Q 0 s6) ∧ (¬ r5 = 0 → (0 ≤ (x : Int) ∧ (x : Int) < (24 : Int)) ∧ K s6)))))) := by
  have hxi : 0 ≤ (x : Int) ∧ (x : Int) < (24 : Int) := ⟨by omega, by omega⟩
  rcases hN : sns A L (false, p) with ⟨⟨b, q⟩, u⟩
  have lq : q ≤ L := by have := sns_le (A := A) (L := L) (s := (false, p)) hp90; rw [hN] at this; exact this
  have ep : pr2 A L (false, p) = ((sns A L (tkS A L 47 (b, q))).1, u, (sns A L (tkS A L 47 (b, q))).2) := by unfold pr2; rw [hN]
  rw [ep] at h1 h0
  refine sp_T_number hR hA hL hp90 ht hp (fun e2 σ2 hF2 q2 v2 => ⟨fun h => by omega, fun _ => ⟨hxi, ?_⟩⟩) (fun e2 σ2 hF2 q2 => ⟨fun _ => ?_, fun h => absurd rfl h⟩)
  · rw [hN] at e2 q2 v2
    have hb : b = false := e2
    subst hb
    have q2 : σ2 1 2 = (q : Int) := q2
    have v2 : σ2 1 3 = u := v2
    rw [Int.toNat_natCast, v2]
    have hF3 : FQ x σ (mset σ2 4 x u) := fun k i a c => by rw [ms_ne (by omega)]; exact hF2 k i a
    refine sp_T_skip hL lq (hF3.tx ht) (by rw [ms_nk (by decide)]; exact q2) (fun e3 σ3 hF4 q3 _ => ⟨fun h => by omega, fun _ => ?_⟩) (fun e3 => ⟨fun _ => ?_, fun h => absurd rfl h⟩)
    · rw [e3] at h1 h0
      have l3 : q + 1 ≤ L := by have := tkS_le (A := A) (L := L) (c := 47) (by decide) (s := (false, q)) lq; rw [e3] at this; exact this
      have hF5 : FQ x σ σ3 := fun k i a c => by rw [hF4 k i a]; exact hF3 k i a c
      have g5 : σ3 4 x = u := by rw [hF4 4 x (by omega), ms_eq]
      refine sp_T_number hR hA hL l3 (hF5.tx ht) q3 (fun e6 σ6 hF6 q6 v6 => ⟨fun h => by omega, fun _ => ⟨hxi, ?_⟩⟩) (fun e6 σ6 hF6 q6 => ⟨fun _ => ?_, fun h => absurd rfl h⟩)
      · exact h1 e6 σ6 (fun k i a c => by rw [hF6 k i a]; exact hF5 k i a c) q6 (by rw [hF6 4 x (by omega)]; exact g5) v6
      · exact h0 e6 σ6 (fun k i a c => by rw [hF6 k i a]; exact hF5 k i a c) q6
    · rw [e3] at h0
      exact h0 rfl _ hF3 (by rw [ms_nk (by decide)]; exact q2)
  · rw [hN] at e2 q2
    have hb : b = true := e2
    subst hb
    exact h0 rfl σ2 (fun k i a _ => hF2 k i a) q2
def FP (σ σ1 : Mem) : Prop := ∀ k i, ¬ (k = 1 ∧ (i = 2 ∨ i = 3)) → k ≠ 4 → k ≠ 5 → σ1 k i = σ k i
theorem FP.id {σ : Mem} : FP σ σ := fun _ _ _ _ _ => rfl
theorem FP.trans {σ σ1 σ2 : Mem} (h1 : FP σ σ1) (h2 : FP σ1 σ2) : FP σ σ2 := fun k i a b c => (h2 k i a b c).trans (h1 k i a b c)
theorem FX.fp {σ σ1 : Mem} (h : FX σ σ1) : FP σ σ1 := fun k i a _ _ => h k i a
theorem FQ.fp {σ σ1 : Mem} {x : Nat} (h : FQ x σ σ1) : FP σ σ1 := fun k i a b _ => h k i a (by omega)
theorem FP.tx {A σ σ1 : Mem} {L : Nat} (h : FP σ σ1) (ht : tX A σ L) : tX A σ1 L := ⟨by rw [h 1 1 (by omega) (by decide) (by decide)]; exact ht.1, fun j hj => by rw [h 2 j (by omega) (by decide) (by decide)]; exact ht.2 j hj⟩
theorem prS_go {A : Mem} {L a m t p : Nat} {j v : Nat → Int} : prS A L a (m + 1) t (false, p) j v = prS A L a m (t + 1) (pr1 A L t (false, p)).1 (updI j (4 * a + t) (pr1 A L t (false, p)).2.1) (updI v (4 * a + t) (pr1 A L t (false, p)).2.2) := by
  show (if (false : Bool) = false then _ else _) = _
  rw [if_pos rfl]
theorem sp_T_pairs {d : Nat} {A : Mem} {Q : Int → Mem → Prop} (hR : RR A) {L n a : Nat} (hA : A 1 1 = (L : Int)) (hL : L ≤ 90) (hn : n ≤ 4) (ha : a < 6) : ∀ (m t p : Nat) (σ : Mem) (j v : Nat → Int), t + m = n → p ≤ L → tX A σ L → σ 1 2 = (p : Int) → σ 1 4 = (n : Int) → (∀ i, i % 4 < n → i < 4 * a + t → σ 4 i = j i ∧ σ 5 i = v i) → ((prS A L a m t (false, p) j v).1.1 = false → ∀ σ1, FP σ σ1 → σ1 1 2 = (((prS A L a m t (false, p) j v).1.2 : Nat) : Int) → (∀ i, i % 4 < n → i < 4 * a + n → σ1 4 i = (prS A L a m t (false, p) j v).2.1 i ∧ σ1 5 i = (prS A L a m t (false, p) j v).2.2 i) → Q 1 σ1) → ((prS A L a m t (false, p) j v).1.1 = true → ∀ σ1, FP σ σ1 → σ1 1 2 = (((prS A L a m t (false, p) j v).1.2 : Nat) : Int) → Q 0 σ1) → K_T_parsePairs_2 (d + 3) Q ((4 * a : Nat) : Int) (t : Int) σ := by
  intro m
  induction m with
  | zero =>
    intro t p σ j v htm hp90 ht hp h4 hw h1 h0
    have e : t = n := by omega
    subst e
    exact e_T_parsePairs_2 ⟨fun h => by omega, fun _ => h1 rfl σ FP.id hp hw⟩
  | succ m ih =>
    intro t p σ j v htm hp90 ht hp h4 hw h1 h0
    have ex : w32 (((4 * a : Nat) : Int) + (t : Int)) = ((4 * a + t : Nat) : Int) := w32_eq (by omega) (by omega)
    have et : w32 ((t : Int) + 1) = ((t + 1 : Nat) : Int) := w32_eq (by omega) (by omega)
    rw [prS_go] at h1 h0
    have good : ∀ (p' : Nat) (σ' : Mem), p' ≤ L → FX σ σ' → pr1 A L t (false, p) = pr2 A L (false, p') → (pr2 A L (false, p')).1.1 = false → ∀ σ1, FQ (4 * a + t) σ' σ1 → σ1 1 2 = (((pr2 A L (false, p')).1.2 : Nat) : Int) → σ1 4 (4 * a + t) = (pr2 A L (false, p')).2.1 → σ1 1 3 = (pr2 A L (false, p')).2.2 → K_T_parsePairs_2 (d + 3) Q ((4 * a : Nat) : Int) ((t + 1 : Nat) : Int) (mset σ1 5 ((4 * a + t : Nat) : Int).toNat (σ1 1 3)) := by
      intro p' σ' lp hF0 ep e σ1 hF q g v3
      rw [ep] at h1 h0
      have e0 : (pr2 A L (false, p')).1 = (false, (pr2 A L (false, p')).1.2) := pair_split e
      rw [e0] at h1 h0
      rw [Int.toNat_natCast, v3]
      have hF2 : FP σ (mset σ1 5 (4 * a + t) (pr2 A L (false, p')).2.2) := fun k i a1 a2 a3 => by rw [ms_nk a3]; exact (hF0.fp.trans hF.fp) k i a1 a2 a3
      refine ih (t + 1) (pr2 A L (false, p')).1.2 _ _ _ (by omega) (pr2_le lp) (hF2.tx ht) (by rw [ms_nk (by decide)]; exact q) (by rw [hF2 1 4 (by omega) (by decide) (by decide)]; exact h4) ?_ (fun e2 σ2 hF3 => h1 e2 σ2 (hF2.trans hF3)) (fun e2 σ2 hF3 => h0 e2 σ2 (hF2.trans hF3))
      intro i hi hi2
      rw [ms_nk (by decide)]
      unfold updI
      by_cases hik : i = 4 * a + t
      · subst hik; rw [if_pos rfl, if_pos rfl, ms_eq]; exact ⟨g, rfl⟩
      · rw [if_neg hik, if_neg hik, ms_ni hik, hF 4 i (by omega) (by omega), hF 5 i (by omega) (by omega), hF0 4 i (by omega), hF0 5 i (by omega)]
        exact hw i hi (by omega)
    have bad : ∀ (p' : Nat) (σ' : Mem), FX σ σ' → pr1 A L t (false, p) = pr2 A L (false, p') → (pr2 A L (false, p')).1.1 = true → ∀ σ1, FQ (4 * a + t) σ' σ1 → σ1 1 2 = (((pr2 A L (false, p')).1.2 : Nat) : Int) → Q 0 σ1 := by
      intro p' σ' hF0 ep e σ1 hF q
      rw [ep] at h0
      have e0 : (pr2 A L (false, p')).1 = (true, (pr2 A L (false, p')).1.2) := pair_split e
      rw [e0, prS_bad] at h0
      exact h0 rfl σ1 (hF0.fp.trans hF.fp) q
    refine e_T_parsePairs_2 ⟨fun _ => ⟨fun h => ?_, fun h => ?_⟩, fun h => by omega⟩
    · rw [ex, et]
      refine sp_T_skip hL hp90 ht hp (fun e3 σ3 hF3 q3 _ => ⟨fun h => by omega, fun _ => ?_⟩) (fun e3 => ⟨fun _ => ?_, fun h => absurd rfl h⟩)
      · have l3 : p + 1 ≤ L := by have := tkS_le (A := A) (L := L) (c := 44) (by decide) (s := (false, p)) hp90; rw [e3] at this; exact this
        have ep : pr1 A L t (false, p) = pr2 A L (false, p + 1) := by unfold pr1; rw [if_pos (by omega), e3]
        exact sp_T_pair hR hA hL l3 (by omega) (hF3.tx ht) q3 (good _ _ l3 hF3 ep) (bad _ _ hF3 ep)
      · have ep : pr1 A L t (false, p) = ((true, p), 0, 0) := by unfold pr1; rw [if_pos (by omega), e3]; rfl
        rw [ep, prS_bad] at h0
        exact h0 rfl σ FP.id hp
    · rw [ex, et]
      have ep : pr1 A L t (false, p) = pr2 A L (false, p) := by unfold pr1; rw [if_neg (by omega)]
      exact sp_T_pair hR hA hL hp90 (by omega) ht hp (good _ _ hp90 FX.id ep) (bad _ _ FX.id ep)
