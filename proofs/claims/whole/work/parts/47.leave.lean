-- PURE, 18: what a sign leaves, by both; worth, harm, hear
def MF (σ σ1 : Mem) : Prop := ∀ k i, k ≠ 67 → σ1 k i = σ k i
theorem MF.rfl {σ : Mem} : MF σ σ := fun _ _ _ => Eq.refl _
theorem MF.trans {σ σ1 σ2 : Mem} (h1 : MF σ σ1) (h2 : MF σ1 σ2) : MF σ σ2 := fun k i h => (h2 k i h).trans (h1 k i h)
theorem MF.set {σ σ1 : Mem} (h1 : MF σ σ1) {i : Nat} {x : Int} : MF σ (mset σ1 67 i x) := fun k j h => (ms_nk h).trans (h1 k j h)
theorem MF.eqv {A σ σ1 : Mem} (h : MF σ σ1) (hE : Eqv A σ) : Eqv A σ1 := fun k i hl => by rw [h k i (live_x (o := 67) hl (Eq.refl _))]; exact hE k i hl
theorem tNe {ms : Nat → Nat → Int} {A : Mem} (h : SR 7 ms A) : A 7 1 = ((tN A : Nat) : Int) := by
  have := h.tr
  show A 7 1 = ((A 7 1).toNat : Int)
  omega
theorem m490 {A σ : Mem} (hR : SR 7 (mLive A) A) (hE : Eqv A σ) : σ 49 0 = ((tN A : Nat) : Int) := by rw [hE 49 0 rfl, ← tNe hR]; exact hR.m0.1
theorem sumW_bd {ms : Nat → Nat → Int} {A : Mem} (hR : SR 7 ms A) {w : Nat → Int} (hb : bdW A w) {k : Nat} (hk : k ≤ tN A) : -4000000000 ≤ sumN k w ∧ sumN k w ≤ 4000000000 := by
  have h1 := sumN_bd (n := k) (f := w) (B := 1000000000) (fun t ht => hb t (by omega))
  have h4 := tN4 hR
  have e : (k : Int) * 1000000000 ≤ 4000000000 := by omega
  omega
theorem sp_M_allMass {d : Nat} {A σ : Mem} {Q : Int → Mem → Prop} (hR : SR 7 (mLive A) A) (hE : Eqv A σ) {w : Nat → Int} (hb : bdW A w) (hw : ∀ t, t < tN A → σ 67 t = w t) (hQ : Q (sumN (tN A) w) σ) : wp (d + 1) m_M_allMass [.inr (.inr 49)] σ Q := by
  have h4 := tN4 hR
  have e0 := m490 hR hE
  refine e_M_allMass ?_
  refine upto (n := tN A) (P := fun t => K_M_allMass_4 d Q (sumN t w) ((t : Nat) : Int) σ) ?_ (fun t ht ih => ?_)
  · exact e_M_allMass_4 ⟨fun h => by omega, fun _ => hQ⟩
  · refine e_M_allMass_4 ⟨fun _ => ⟨⟨by omega, by omega⟩, ?_⟩, fun h => by omega⟩
    have e1 : w32 ((t : Int) + 1) = ((t + 1 : Nat) : Int) := w32_eq (by omega) (by omega)
    have b1 : -4000000000 ≤ sumN t w + w t ∧ sumN t w + w t ≤ 4000000000 := sumW_bd hR hb (k := t + 1) (by omega)
    rw [Int.toNat_natCast, hw t ht, e1, w64_id (by omega) (by omega)]
    exact ih
theorem sp_M_allBefore {d : Nat} {A σ : Mem} {Q : Int → Mem → Prop} (hR : SR 7 (mLive A) A) (hE : Eqv A σ) (hQ : Q (A 7 6) σ) : wp (d + 1) m_M_allBefore [.inr (.inr 49)] σ Q := by
  have h4 := tN4 hR
  have e0 := m490 hR hE
  refine e_M_allBefore ?_
  rw [hR.tot] at hQ
  refine upto (n := tN A) (P := fun t => K_M_allBefore_4 d Q (sumN t (fun t => A 9 t)) ((t : Nat) : Int) σ) ?_ (fun t ht ih => ?_)
  · exact e_M_allBefore_4 ⟨fun h => by omega, fun _ => hQ⟩
  · refine e_M_allBefore_4 ⟨fun _ => ⟨⟨by omega, by omega⟩, ?_⟩, fun h => by omega⟩
    have e1 : w32 ((t : Int) + 1) = ((t + 1 : Nat) : Int) := w32_eq (by omega) (by omega)
    have b1 : -4000000000 ≤ sumN t (fun t => A 9 t) + A 9 t ∧ sumN t (fun t => A 9 t) + A 9 t ≤ 4000000000 := sumW_bd hR (w := fun t => A 9 t) ((wB.pr hR).bd (by omega)) (k := t + 1) (by omega)
    have e2 : σ 51 t = A 9 t := (hE 51 t rfl).trans (hR.pr (lt_tN ht)).1
    rw [Int.toNat_natCast, e2, e1, w64_id (by omega) (by omega)]
    exact ih
/-- weights that sign s of look l leaves -/
def lvs (A : Mem) (l s t : Nat) : Int := A 9 t * pt A l t s
theorem lvs_B {ms : Nat → Nat → Int} {A : Mem} (hR : SR 7 ms A) {l s : Nat} (hl : (l : Int) < A 7 10) (hs : (s : Int) < A 13 l) : wB A 1 (lvs A l s) := (wB.pr hR).st hR hl hs
theorem com_pos {A : Mem} {n : Nat} {w : Nat → Int} (hb : wB A n w) : (0 < sumN (tN A) w ↔ ∃ t, t < tN A ∧ ¬ w t = 0) := by
  constructor
  · intro h
    refine Classical.byContradiction (fun hc => ?_)
    have : sumN (tN A) w = 0 := sumN_z (fun t ht => Classical.byContradiction (fun z => hc ⟨t, ht, z⟩))
    omega
  · rintro ⟨t, ht, hz⟩
    exact sumN_pos (fun i hi => (hb i hi).1) ht (by have := (hb t ht).1; omega)
theorem sp_M_leave {d : Nat} {A σ : Mem} {Q : Int → Mem → Prop} (hR : SR 7 (mLive A) A) (hE : Eqv A σ) {l s : Nat} (hl : (l : Int) < A 7 10) (hs : (s : Int) < A 13 l)
    (hQ : ∀ r σ1, MF σ σ1 → (∀ t, t < tN A → σ1 67 t = lvs A l s t) → (∀ t, t < 4 → tN A ≤ t → σ1 67 t = 0) → ((r = 1 ∧ 0 < sumN (tN A) (lvs A l s)) ∨ (r = 0 ∧ ∀ t, t < tN A → lvs A l s t = 0)) → Q r σ1) : wp (d + 2) m_M_leave [.inr (.inr 49), .inl (l : Int), .inl (s : Int)] σ Q := by
  have h4 := tN4 hR
  have e0 := m490 hR hE
  have hLk := hR.lk
  have hSg := hR.sgn hl
  have hB := lvs_B hR hl hs
  refine e_M_leave ?_
  refine upto (n := 4) (P := fun t => ∀ σ1, MF σ σ1 → (∀ t2, t2 < t → t2 < tN A → σ1 67 t2 = lvs A l s t2) → (∀ t2, t2 < t → tN A ≤ t2 → σ1 67 t2 = 0) → K_M_leave_2 (d + 1) Q (l : Int) (s : Int) ((t : Nat) : Int) σ1) (fun σ1 hF h1 h2 => ?_) (fun t ht ih σ1 hF h1 h2 => ?_) σ MF.rfl (fun t2 h => absurd h (by omega)) (fun t2 h => absurd h (by omega))
  · refine e_M_leave_2 ⟨fun h => by omega, fun _ => ?_⟩
    refine sp_M_allMass hR (hF.eqv hE) (hB.bd (by omega)) (fun t ht => h1 t (by omega) ht) ⟨fun h => hQ 1 σ1 hF (fun t ht => h1 t (by omega) ht) h2 (Or.inl ⟨rfl, h⟩), fun h => hQ 0 σ1 hF (fun t ht => h1 t (by omega) ht) h2 (Or.inr ⟨rfl, fun t ht => ?_⟩)⟩
    refine Classical.byContradiction (fun z => ?_)
    have := (com_pos hB).mpr ⟨t, ht, z⟩
    omega
  · have e1 : w32 ((t : Int) + 1) = ((t + 1 : Nat) : Int) := w32_eq (by omega) (by omega)
    have e0 : σ1 49 0 = ((tN A : Nat) : Int) := m490 hR (hF.eqv hE)
    refine e_M_leave_2 ⟨fun _ => ⟨fun h => ⟨⟨by omega, by omega⟩, ?_⟩, fun h => ⟨⟨by omega, by omega⟩, ?_⟩⟩, fun h => by omega⟩
    · have ht2 : t < tN A := by omega
      refine sp_M_place (by omega) (by omega) (by omega) ⟨⟨by omega, by omega⟩, ⟨by omega, by omega⟩, ?_⟩
      have e2 : σ1 51 t = A 9 t := ((hF.eqv hE) 51 t rfl).trans (hR.pr (lt_tN ht2)).1
      have e3 : σ1 54 (24 * l + 6 * t + s) = pt A l t s := ((hF.eqv hE) 54 _ rfl).trans (hR.prt hl (lt_tN ht2) hs).1
      have b := hB t ht2
      unfold lvs at b
      rw [Int.toNat_natCast, Int.toNat_natCast, e2, e3, e1, w64_id (by omega) (by omega)]
      refine ih _ hF.set (fun t2 h3 h4 => ?_) (fun t2 h3 h4 => ?_)
      · by_cases e : t2 = t
        · subst e; exact ms_eq
        · rw [ms_ni e]; exact h1 t2 (by omega) h4
      · rw [ms_ni (by omega)]; exact h2 t2 (by omega) h4
    · rw [e1, Int.toNat_natCast]
      refine ih _ hF.set (fun t2 h3 h4 => ?_) (fun t2 h3 h4 => ?_)
      · rw [ms_ni (by omega)]; exact h1 t2 (by omega) h4
      · by_cases e : t2 = t
        · subst e; exact ms_eq
        · rw [ms_ni e]; exact h2 t2 (by omega) h4
theorem payW {wi : Nat} (h : wi ≤ 2) : isPay (10 + wi) := by
  match wi, h with
  | 0, _ => exact Or.inl rfl
  | 1, _ => exact Or.inr (Or.inl rfl)
  | 2, _ => exact Or.inr (Or.inr rfl)
theorem sp_M_gotOf {d : Nat} {A σ : Mem} {Q : Int → Mem → Prop} (hR : SR 7 (mLive A) A) (ho : 1 ≤ A 7 2) (hE : Eqv A σ) {l wi j : Nat} {jd : Int} (hl : (l : Int) < A 7 10) (hwi : wi ≤ 2) (hj : (jd = 0 ∧ j = 10) ∨ (¬ jd = 0 ∧ j = 12)) (hQ : ∀ σ1, MF σ σ1 → Q (gath A j (10 + wi) [l] (fun t => A 9 t)) σ1) : wp (d + 3) m_M_gotOf [.inr (.inr 49), .inl (l : Int), .inl jd, .inl (wi : Int)] σ Q := by
  have hLk := hR.lk
  have hSg := hR.sgn hl
  have h53 : ∀ σ1, MF σ σ1 → σ1 53 l = ((sg A l : Nat) : Int) := fun σ1 hF => by
    have e : σ1 53 l = A 13 l := ((hF.eqv hE) 53 l rfl).trans hSg.1
    rw [e]; unfold sg; omega
  have hs6 : sg A l ≤ 6 := by unfold sg; omega
  refine e_M_gotOf ?_
  have hq2 : ∀ σ1, MF σ σ1 → Q (sumN (sg A l) (fun s => gath A j (10 + wi) [] (lvs A l s))) σ1 := hQ
  refine upto (n := sg A l) (P := fun s => ∀ σ1, MF σ σ1 → K_M_gotOf_6 (d + 2) Q (l : Int) jd (wi : Int) (sumN s (fun s => gath A j (10 + wi) [] (lvs A l s))) ((s : Nat) : Int) σ1) (fun σ1 hF => ?_) (fun s hs ih σ1 hF => ?_) σ MF.rfl
  · refine e_M_gotOf_6 ⟨⟨by omega, by omega⟩, fun h => by rw [Int.toNat_natCast, h53 σ1 hF] at h; omega, fun _ => hq2 σ1 hF⟩
  · have hs2 : (s : Int) < A 13 l := by unfold sg at hs; omega
    have e1 : w32 ((s : Int) + 1) = ((s + 1 : Nat) : Int) := w32_eq (by omega) (by omega)
    have hB := lvs_B hR hl hs2
    have bb : ∀ i, i < sg A l → -396000000000 ≤ gath A j (10 + wi) [] (lvs A l i) ∧ gath A j (10 + wi) [] (lvs A l i) ≤ 396000000000 := fun i hi => by
      have := gath_bd hR ho (payW hwi) (j := j) (ls := []) (n := 1) (w := lvs A l i) (fun _ h => by cases h) (by decide) (lvs_B hR hl (by unfold sg at hi; omega))
      simpa using this
    have b1 := sumN_bd (n := s) (f := fun s => gath A j (10 + wi) [] (lvs A l s)) (B := 396000000000) (fun i hi => bb i (by omega))
    have b2 := bb s hs
    have b3 : (s : Int) * 396000000000 ≤ 2376000000000 := by omega
    refine e_M_gotOf_6 ⟨⟨by omega, by omega⟩, fun _ => ?_, fun h => by rw [Int.toNat_natCast, h53 σ1 hF] at h; omega⟩
    rw [e1]
    refine sp_M_leave hR (hF.eqv hE) hl hs2 (fun r σ2 hF2 hw _ hr => ⟨fun h => ?_, fun h => ?_⟩)
    · have hz : gath A j (10 + wi) [] (lvs A l s) = 0 := by
        rcases hr with hr | hr
        · omega
        · exact gath_0 hr.2
      rw [w64_id (by omega) (by omega), Int.add_zero]
      have := ih σ2 (hF.trans hF2)
      have e : sumN (s + 1) (fun s => gath A j (10 + wi) [] (lvs A l s)) = sumN s (fun s => gath A j (10 + wi) [] (lvs A l s)) + gath A j (10 + wi) [] (lvs A l s) := rfl
      rw [e, hz, Int.add_zero] at this
      exact this
    · have hE2 := (hF.trans hF2).eqv hE
      refine sp_M_doneBy hR hE2 ho hj (hB.bd (by omega)) hw ?_
      refine wp_le (d := 0 + 1) (by omega) (sp_M_sumOf hR hE2 hwi (act_lt hR ho) (hB.bd (by omega)) hw ?_)
      have e : dot A (lvs A l s) (10 + wi) (act A (lvs A l s) j) = gath A j (10 + wi) [] (lvs A l s) := rfl
      rw [e, w64_id (by omega) (by omega)]
      exact ih σ2 (hF.trans hF2)
theorem sp_M_gotPlain {d : Nat} {A σ : Mem} {Q : Int → Mem → Prop} (hR : SR 7 (mLive A) A) (ho : 1 ≤ A 7 2) (hE : Eqv A σ) (hQ : ∀ σ1, MF σ σ1 → Q (60 * gath A 10 10 [] (fun t => A 9 t)) σ1) : wp (d + 3) m_M_gotPlain [.inr (.inr 49), .inl 0, .inl 0] σ Q := by
  have h4 := tN4 hR
  have hB : wB A 1 (fun t => 60 * A 9 t) := fun t ht => by
    have := hR.pr (lt_tN ht)
    show 0 ≤ 60 * A 9 t ∧ 60 * A 9 t ≤ 99 * 60 ^ 1
    omega
  refine e_M_gotPlain ?_
  refine upto (n := 4) (P := fun t => ∀ σ1, MF σ σ1 → (∀ t2, t2 < t → t2 < tN A → σ1 67 t2 = 60 * A 9 t2) → K_M_gotPlain_2 (d + 2) Q 0 0 ((t : Nat) : Int) σ1) (fun σ1 hF h1 => ?_) (fun t ht ih σ1 hF h1 => ?_) σ MF.rfl (fun t2 h => absurd h (by omega))
  · refine e_M_gotPlain_2 ⟨fun h => by omega, fun _ => ?_⟩
    have hE2 := hF.eqv hE
    have hw : ∀ t, t < tN A → σ1 67 t = 60 * A 9 t := fun t ht => h1 t (by omega) ht
    refine sp_M_doneBy (j := 10) hR hE2 ho (Or.inl ⟨rfl, rfl⟩) (hB.bd (by omega)) hw ?_
    refine wp_le (d := 0 + 1) (by omega) (sp_M_sumOf (wi := 0) hR hE2 (by omega) (act_lt hR ho) (hB.bd (by omega)) hw ?_)
    have e1 : ∀ p a, dot A (fun t => 60 * A 9 t) p a = 60 * dot A (fun t => A 9 t) p a := fun p a => by
      unfold dot
      rw [← sumN_mul]
      exact sumN_congr (fun t _ => Int.mul_assoc _ _ _)
    have e2 : act A (fun t => 60 * A 9 t) 10 = act A (fun t => A 9 t) 10 := by
      have sc : ∀ u v u2 v2 : Nat → Int, (∀ a, u2 a = 60 * u a) → (∀ a, v2 a = 60 * v a) → ∀ n, pkA (A 7 3) u2 v2 n = pkA (A 7 3) u v n := by
        intro u v u2 v2 hu hv n
        induction n with
        | zero => rfl
        | succ n ih =>
          unfold pkA
          rw [ih]
          have : betB (A 7 3) u2 v2 (n + 1) (pkA (A 7 3) u v n) = betB (A 7 3) u v (n + 1) (pkA (A 7 3) u v n) := by
            unfold betB
            rw [hu, hu, hv, hv]
            have q1 : decide (60 * u (pkA (A 7 3) u v n) < 60 * u (n + 1)) = decide (u (pkA (A 7 3) u v n) < u (n + 1)) := decide_eq_decide.mpr (by omega)
            have q2 : decide (60 * u (n + 1) = 60 * u (pkA (A 7 3) u v n)) = decide (u (n + 1) = u (pkA (A 7 3) u v n)) := decide_eq_decide.mpr (by omega)
            have q3 : decide (60 * v (pkA (A 7 3) u v n) < 60 * v (n + 1)) = decide (v (pkA (A 7 3) u v n) < v (n + 1)) := decide_eq_decide.mpr (by omega)
            have q4 : decide (60 * v (n + 1) < 60 * v (pkA (A 7 3) u v n)) = decide (v (n + 1) < v (pkA (A 7 3) u v n)) := decide_eq_decide.mpr (by omega)
            rw [q1, q2, q3, q4]
          rw [this]
      exact sc _ _ _ _ (fun a => e1 10 a) (fun a => e1 11 a) _
    rw [e2, e1]
    exact hQ σ1 hF
  · have e1 : w32 ((t : Int) + 1) = ((t + 1 : Nat) : Int) := w32_eq (by omega) (by omega)
    have e0 : σ1 49 0 = ((tN A : Nat) : Int) := m490 hR (hF.eqv hE)
    refine e_M_gotPlain_2 ⟨fun _ => ⟨fun h => ⟨⟨by omega, by omega⟩, ⟨by omega, by omega⟩, ?_⟩, fun h => ⟨⟨by omega, by omega⟩, ?_⟩⟩, fun h => by omega⟩
    · have ht2 : t < tN A := by omega
      have e2 : σ1 51 t = A 9 t := ((hF.eqv hE) 51 t rfl).trans (hR.pr (lt_tN ht2)).1
      have b := hR.pr (lt_tN ht2)
      rw [Int.toNat_natCast, e2, e1, w64_id (by omega) (by omega)]
      refine ih _ hF.set (fun t2 h3 h4 => ?_)
      by_cases e : t2 = t
      · subst e; exact ms_eq
      · rw [ms_ni e]; exact h1 t2 (by omega) h4
    · rw [e1, Int.toNat_natCast]
      refine ih _ hF.set (fun t2 h3 h4 => ?_)
      rw [ms_ni (by omega)]; exact h1 t2 (by omega) h4
