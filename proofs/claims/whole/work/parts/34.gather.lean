-- PURE, 5: what looks bring, by the class
set_option maxHeartbeats 2000000 in
theorem sp_B_gather {A : Mem} {ms : Nat → Nat → Int} (hR : SR 7 ms A) (ho : 1 ≤ A 7 2) {j p : Nat} (hj : isPay j) (hp : isPay p) {d : Nat} : ∀ (ls : List Nat) (lv : Nat) (w : Nat → Int) (σ : Mem) (Q : Int → Mem → Prop), lksOK A ls → lv + ls.length ≤ 3 → Eqv A σ → wB A lv w → (∀ t, t < tN A → σ 36 (4 * lv + t) = w t) → σ 35 4 = ((lv + ls.length : Nat) : Int) → (∀ i l : Nat, ls[i]? = some l → σ 37 (lv + i) = (l : Int)) → (∀ σ1, BF (4 * (lv + 1)) σ σ1 → Q (gath A j p ls w) σ1) → wp (d + 3 + ls.length) m_B_gather [.inr (.inr 35), .inl (lv : Int), .inr (.inr j), .inr (.inr p)] σ Q
  | [], lv, w, σ, Q, hl, hn, hE, hw, hv, hk, hc, hQ => by
    have hk : σ 35 4 = (lv : Int) := hk
    refine e_B_gather ⟨fun h => ?_, fun _ => ?_⟩
    · rw [hk] at h
      omega
    · have hn3 : lv ≤ 3 := by simp at hn; exact hn
      refine sp_B_choose hR hE ho hn3 hj (hw.bd hn3) hv ?_
      refine wp_le (d := 0 + 1) (by omega) (sp_B_sumOf hR hE hn3 hp (act_lt hR ho) (hw.bd hn3) hv ?_)
      exact hQ σ BF.rfl
  | l :: ls, lv, w, σ, Q, hl, hn, hE, hw, hv, hk, hc, hQ => by
    have hn1 : lv + ls.length + 1 ≤ 3 := by simp at hn; omega
    have hl1 : (l : Int) < A 7 10 := hl l List.mem_cons_self
    have hLk := hR.lk
    have hSg := hR.sgn hl1
    have hc0 : σ 37 lv = (l : Int) := hc 0 l rfl
    have hlen : (l :: ls).length = ls.length + 1 := rfl
    rw [hlen] at hk
    have loop : ∀ k s : Nat, s + k = sg A l → ∀ σ1, BF (4 * (lv + 1)) σ σ1 → K_B_gather_40 (d + 3 + ls.length) Q (lv : Int) j p (l : Int) (sumN s (fun s => gath A j p ls (fun t => w t * pt A l t s))) (s : Int) σ1 := by
      intro k
      induction k with
      | zero =>
        intro s hs σ1 h1
        have e : σ1 13 l = A 13 l := h1.eqv hE 13 l rfl
        refine e_B_gather_40 ⟨⟨by omega, by omega⟩, ?_⟩
        rw [Int.toNat_natCast, e]
        refine ⟨fun h => ?_, fun _ => ?_⟩
        · exact absurd hs (by show ¬ s + 0 = (A 13 l).toNat; omega)
        · have : s = sg A l := by omega
          subst this
          exact hQ σ1 h1
      | succ k ih =>
        intro s hs σ1 h1
        have e : σ1 13 l = A 13 l := h1.eqv hE 13 l rfl
        have hs2 : (s : Int) < A 13 l := by
          have : s + (k + 1) = (A 13 l).toNat := hs
          omega
        have e3 : w32 ((s : Int) + 1) = ((s + 1 : Nat) : Int) := w32_eq (by omega) (by omega)
        have hsum : sumN (s + 1) (fun s => gath A j p ls (fun t => w t * pt A l t s)) = sumN s (fun s => gath A j p ls (fun t => w t * pt A l t s)) + gath A j p ls (fun t => w t * pt A l t s) := rfl
        refine e_B_gather_40 ⟨⟨by omega, by omega⟩, ?_⟩
        rw [Int.toNat_natCast, e, e3]
        refine ⟨fun _ => ?_, fun h => by omega⟩
        refine wp_le (d := 0 + 2) (by omega) (sp_B_step (n := lv) hR (h1.eqv hE) (by omega) hl1 hs2 (by omega) hw (fun t ht => by rw [h1.2 _ (by have := hR.tr; have : tN A ≤ 4 := (by show (A 7 1).toNat ≤ 4; omega); omega)]; exact hv t ht) (fun r σ2 g1 g2 g3 => ⟨fun hr => ?_, fun hr => ?_⟩))
        · have hz : gath A j p ls (fun t => w t * pt A l t s) = 0 := by
            rcases g3 with g3 | g3
            · exact gath_0 g3.2
            · rw [g3.1] at hr; cases hr
          have := ih (s + 1) (by omega) σ2 (h1.trans g1)
          rw [hsum, hz, Int.add_zero] at this
          exact this
        · have e5 : w32 ((lv : Int) + 1) = ((lv + 1 : Nat) : Int) := w32_eq (by omega) (by omega)
          rw [e5]
          have hE2 := (h1.trans g1).eqv hE
          have hlo : lksOK A ls := fun x hx => hl x (List.mem_cons_of_mem _ hx)
          refine sp_B_gather hR ho hj hp ls (lv + 1) (fun t => w t * pt A l t s) σ2 _ hlo (by omega) hE2 (hw.st hR hl1 hs2) (fun t ht => g2 t ht) ?_ (fun i l2 hi => ?_) (fun σ3 h3 => ?_)
          · rw [(h1.trans g1).1 35 4 (by decide), hk]
            congr 1
            omega
          · rw [(h1.trans g1).1 37 _ (by decide), show lv + 1 + i = lv + (i + 1) by omega]
            exact hc (i + 1) l2 hi
          · have b1 := gath_bd hR ho hp (j := j) hlo (show lv + 1 + ls.length ≤ 3 by omega) (hw.st hR hl1 hs2)
            have b2 := sumN_bd (n := s) (f := fun s => gath A j p ls (fun t => w t * pt A l t s)) (B := 396000000000 * 6 ^ ls.length) (fun i hi => gath_bd hR ho hp hlo (show lv + 1 + ls.length ≤ 3 by omega) (hw.st hR hl1 (by omega)))
            have p1 := p6 (n := ls.length) (by omega)
            have b3 : (s : Int) * (396000000000 * 6 ^ ls.length) ≤ 6 * (396000000000 * 216) := Int.mul_le_mul (by omega) (by omega) (by omega) (by decide)
            rw [w64_id (by omega) (by omega)]
            have := ih (s + 1) (by omega) σ3 ((h1.trans g1).trans (h3.le (by omega)))
            rw [hsum] at this
            exact this
    have h0 := loop (sg A l) 0 (by omega) σ BF.rfl
    show wp (d + 3 + ls.length + 1) m_B_gather [.inr (.inr 35), .inl (lv : Int), .inr (.inr j), .inr (.inr p)] σ Q
    refine e_B_gather ⟨fun _ => ⟨fun _ => ⟨⟨by omega, by omega⟩, ?_⟩, fun h => by omega⟩, fun h => ?_⟩
    · rw [Int.toNat_natCast, hc0]
      exact h0
    · rw [hk] at h
      omega
theorem sp_X_wholes {d : Nat} {σ : Mem} {Q : Int → Mem → Prop} {n : Nat} (hn : n ≤ 3) (hQ : Q (60 ^ n) σ) : wp (d + 1) m_X_wholes [.inl (n : Int)] σ Q := by
  have loop : ∀ k i : Nat, i + k = n → K_X_wholes_4 d Q (n : Int) (60 ^ i) (i : Int) σ := by
    intro k
    induction k with
    | zero =>
      intro i hi
      have : i = n := by omega
      subst this
      exact e_X_wholes_4 ⟨fun h => by omega, fun _ => hQ⟩
    | succ k ih =>
      intro i hi
      have e1 : w32 ((i : Int) + 1) = ((i + 1 : Nat) : Int) := w32_eq (by omega) (by omega)
      have p1 := p60 (n := i) (by omega)
      refine e_X_wholes_4 ⟨fun _ => ⟨fun _ => ?_, fun h => by omega⟩, fun h => by omega⟩
      rw [e1, w64_id (by omega) (by omega), ← Int.pow_succ]
      exact ih (i + 1) (by omega)
  have h0 := loop n 0 (by omega)
  rw [Int.pow_zero] at h0
  exact e_X_wholes h0
theorem SR.tot {ms : Nat → Nat → Int} {A : Mem} (h : SR 7 ms A) : A 7 6 = sumN (tN A) (fun t => A 9 t) := h.2.2.2.2.1
theorem tot_bd {ms : Nat → Nat → Int} {A : Mem} (h : SR 7 ms A) : 0 ≤ A 7 6 ∧ A 7 6 ≤ 396 := by
  rw [h.tot]
  have h1 := sumN_bd (n := tN A) (f := fun t => A 9 t) (B := 99) (fun t ht => by have := h.pr (lt_tN ht); constructor <;> omega)
  have h2 := sumN_nn (n := tN A) (f := fun t => A 9 t) (fun t ht => by have := h.pr (lt_tN ht); omega)
  have h3 := h.tr
  have h4 : tN A ≤ 4 := by show (A 7 1).toNat ≤ 4; omega
  constructor
  · exact h2
  · omega
theorem sp_B_unit {d : Nat} {A σ : Mem} {Q : Int → Mem → Prop} {ms : Nat → Nat → Int} (hR : SR 7 ms A) (hE : Eqv A σ) (hQ : Q (A 7 6 * 216000) σ) : wp (d + 2) m_B_unit [.inr (.inr 35)] σ Q := by
  refine e_B_unit (sp_X_wholes (n := 3) (by omega) ?_)
  have b := tot_bd hR
  rw [hE 7 6 rfl, show (60 : Int) ^ 3 = 216000 from rfl, w64_id (by omega) (by omega)]
  exact hQ
/-- what the looks that are attended bring, in units of all weights before times 60 cubed -/
def brg (A : Mem) (j p : Nat) (ls : List Nat) : Int := gath A j p ls (fun t => A 9 t) * 60 ^ (3 - ls.length)
def chainR (σ : Mem) (ls : List Nat) : Prop := σ 35 4 = (ls.length : Int) ∧ ∀ i l : Nat, ls[i]? = some l → σ 37 i = (l : Int)
theorem brg_bd {ms : Nat → Nat → Int} {A : Mem} (h : SR 7 ms A) (ho : 1 ≤ A 7 2) {j p : Nat} (hp : isPay p) {ls : List Nat} (hl : lksOK A ls) (hn : ls.length ≤ 3) : -100000000000000000 ≤ brg A j p ls ∧ brg A j p ls ≤ 100000000000000000 := by
  have h1 := gath_bd h ho hp (j := j) hl (show 0 + ls.length ≤ 3 by omega) (wB.pr h)
  have key : ∀ n : Nat, n ≤ 3 → (6 : Int) ^ n * 60 ^ (3 - n) ≤ 216000 := by
    intro n hn
    match n, hn with
    | 0, _ => decide
    | 1, _ => decide
    | 2, _ => decide
    | 3, _ => decide
  have h2 := key ls.length hn
  have p1 := p60 (n := 3 - ls.length) (by omega)
  have h3 := mul_bd h1 (y := 60 ^ (3 - ls.length)) (Y := 60 ^ (3 - ls.length)) ⟨by omega, Int.le_refl _⟩
  have e : (396000000000 * 6 ^ ls.length : Int) * 60 ^ (3 - ls.length) ≤ 396000000000 * 216000 := by
    rw [Int.mul_assoc]
    exact Int.mul_le_mul_of_nonneg_left h2 (by decide)
  unfold brg
  constructor <;> omega
theorem sp_B_brings {d : Nat} {A σ : Mem} {Q : Int → Mem → Prop} {ms : Nat → Nat → Int} (hR : SR 7 ms A) (hE : Eqv A σ) (ho : 1 ≤ A 7 2) {j p : Nat} (hj : isPay j) (hp : isPay p) {ls : List Nat} (hl : lksOK A ls) (hn : ls.length ≤ 3) (hc : chainR σ ls) (hQ : ∀ σ1, BF 0 σ σ1 → Q (brg A j p ls) σ1) : wp (d + 7) m_B_brings [.inr (.inr 35), .inr (.inr j), .inr (.inr p)] σ Q := by
  refine e_B_brings (wp_le (d := 0 + 1) (by omega) (sp_B_layBefore hR hE (fun σ1 h1 h2 => ?_)))
  refine wp_le (d := 0 + 3 + ls.length) (by omega) (sp_B_gather hR ho hj hp ls 0 (fun t => A 9 t) σ1 _ hl (by omega) (h1.eqv hE) (wB.pr hR) (fun t ht => by rw [show 4 * 0 + t = t by omega]; exact h2 t ht) ?_ (fun i l hi => ?_) (fun σ2 h3 => ?_))
  · rw [h1.1 35 4 (by decide), hc.1]
    congr 1
    omega
  · rw [h1.1 37 _ (by decide), Nat.zero_add]
    exact hc.2 i l hi
  · have e1 : σ2 35 4 = (ls.length : Int) := by rw [h3.1 35 4 (by decide), h1.1 35 4 (by decide)]; exact hc.1
    rw [e1]
    have e2 : w32 (3 - (ls.length : Int)) = ((3 - ls.length : Nat) : Int) := w32_eq (by omega) (by omega)
    rw [e2]
    refine wp_le (d := 0 + 1) (by omega) (sp_X_wholes (by omega) ?_)
    have b := brg_bd hR ho hp (j := j) hl hn
    unfold brg at b hQ
    rw [w64_id (by omega) (by omega)]
    exact hQ σ2 (h1.trans (h3.le (by omega)))
