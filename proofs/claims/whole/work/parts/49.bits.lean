-- PURE, 20: bits; the bench's small ones; done, leaves, does
set_option maxRecDepth 10000 in
theorem bit_fin : ∀ x : Fin 64, ∀ i : Fin 6, andI (shrI (x.val : Int) (i.val : Int)) 1 = if x.val.testBit i.val then 1 else 0 := by decide +kernel
set_option maxRecDepth 10000 in
theorem or_fin : ∀ x : Fin 64, ∀ y : Fin 64, orI (x.val : Int) (y.val : Int) = ((x.val ||| y.val : Nat) : Int) := by decide +kernel
theorem shl_fin : ∀ i : Fin 7, shlI 1 (i.val : Int) = ((2 ^ i.val : Nat) : Int) := by decide +kernel
theorem bit_eq {x i : Nat} (hx : x < 64) (hi : i < 6) : andI (shrI (x : Int) (i : Int)) 1 = if x.testBit i then 1 else 0 := bit_fin ⟨x, hx⟩ ⟨i, hi⟩
theorem or_eq {x y : Nat} (hx : x < 64) (hy : y < 64) : orI (x : Int) (y : Int) = ((x ||| y : Nat) : Int) := or_fin ⟨x, hx⟩ ⟨y, hy⟩
theorem shl_eq {i : Nat} (hi : i < 7) : shlI 1 (i : Int) = ((2 ^ i : Nat) : Int) := shl_fin ⟨i, hi⟩
def bitsOf (p : Nat → Bool) : Nat → Nat
  | 0 => 0
  | k + 1 => match p k with
    | true => bitsOf p k ||| 2 ^ k
    | false => bitsOf p k
theorem bitsOf_t {p : Nat → Bool} {k : Nat} (h : p k = true) : bitsOf p (k + 1) = bitsOf p k ||| 2 ^ k := by
  show (match p k with
    | true => bitsOf p k ||| 2 ^ k
    | false => bitsOf p k) = _
  rw [h]
theorem bitsOf_f {p : Nat → Bool} {k : Nat} (h : p k = false) : bitsOf p (k + 1) = bitsOf p k := by
  show (match p k with
    | true => bitsOf p k ||| 2 ^ k
    | false => bitsOf p k) = _
  rw [h]
theorem bitsOf_test {p : Nat → Bool} {i : Nat} : ∀ {k : Nat}, (bitsOf p k).testBit i = (decide (i < k) && p i)
  | 0 => by simp [bitsOf]
  | k + 1 => by
    cases h : p k with
    | true =>
      rw [bitsOf_t h, Nat.testBit_or, bitsOf_test, Nat.testBit_two_pow]
      by_cases e : k = i
      · subst e; simp [h]
      · by_cases e2 : i < k
        · simp [e, e2, Nat.lt_succ_of_lt e2]
        · have : ¬ i < k + 1 := by omega
          simp [e, e2, this]
    | false =>
      rw [bitsOf_f h, bitsOf_test]
      by_cases e : k = i
      · subst e; simp [h]
      · by_cases e2 : i < k
        · simp [e2, Nat.lt_succ_of_lt e2]
        · have : ¬ i < k + 1 := by omega
          simp [e2, this]
theorem bitsOf_lt {p : Nat → Bool} : ∀ {k : Nat}, bitsOf p k < 2 ^ k
  | 0 => Nat.lt_add_one 0
  | k + 1 => by
    have ih := bitsOf_lt (p := p) (k := k)
    cases h : p k with
    | true =>
      rw [bitsOf_t h]
      exact Nat.or_lt_two_pow (Nat.lt_of_lt_of_le ih (Nat.pow_le_pow_right (by decide) (by omega))) (Nat.pow_lt_pow_right (by decide) (by omega))
    | false =>
      rw [bitsOf_f h]
      exact Nat.lt_of_lt_of_le ih (Nat.pow_le_pow_right (by decide) (by omega))
theorem p2_64 {k : Nat} (h : k ≤ 6) : 2 ^ k ≤ 64 := by
  have := Nat.pow_le_pow_right (n := 2) (by decide) h
  exact this
theorem sp_B_any {d : Nat} {A σ : Mem} {Q : Int → Mem → Prop} {ms : Nat → Nat → Int} (hR : SR 7 ms A) (hE : Eqv A σ) {lv : Nat} (hlv : lv ≤ 3) {w : Nat → Int} (hw : ∀ t, t < tN A → σ 36 (4 * lv + t) = w t) (h1 : (∃ t, t < tN A ∧ ¬ w t = 0) → Q 1 σ) (h0 : (∀ t, t < tN A → w t = 0) → Q 0 σ) : wp (d + 1) m_B_any [.inr (.inr 35), .inl (lv : Int)] σ Q := by
  have h4 := tN4 hR
  have e0 : σ 7 1 = ((tN A : Nat) : Int) := by rw [hE 7 1 rfl]; exact tNe hR
  refine e_B_any ?_
  refine upto (n := tN A) (P := fun t => (∀ t2, t2 < t → w t2 = 0) → K_B_any_2 d Q (lv : Int) ((t : Nat) : Int) σ) (fun hz => ?_) (fun t ht ih hz => ?_) (fun t2 h => absurd h (by omega))
  · exact e_B_any_2 ⟨fun h => by omega, fun _ => h0 hz⟩
  · have e1 : w32 ((t : Int) + 1) = ((t + 1 : Nat) : Int) := w32_eq (by omega) (by omega)
    have e2 : w32 ((lv : Int) * 4) = ((4 * lv : Nat) : Int) := w32_eq (by omega) (by omega)
    have e3 : w32 (((4 * lv : Nat) : Int) + (t : Int)) = ((4 * lv + t : Nat) : Int) := w32_eq (by omega) (by omega)
    refine e_B_any_2 ⟨fun _ => ?_, fun h => by omega⟩
    rw [e1, e2, e3, Int.toNat_natCast, hw t ht]
    refine ⟨⟨by omega, by omega⟩, fun h => ih (fun t2 h2 => ?_), fun h => h1 ⟨t, ht, h⟩⟩
    by_cases e : t2 = t
    · subst e; exact h
    · exact hz t2 (by omega)
theorem sp_B_mass {d : Nat} {A σ : Mem} {Q : Int → Mem → Prop} {ms : Nat → Nat → Int} (hR : SR 7 ms A) (hE : Eqv A σ) {lv : Nat} (hlv : lv ≤ 3) {w : Nat → Int} (hb : bdW A w) (hw : ∀ t, t < tN A → σ 36 (4 * lv + t) = w t) (hQ : Q (sumN (tN A) w) σ) : wp (d + 1) m_B_mass [.inr (.inr 35), .inl (lv : Int)] σ Q := by
  have h4 := tN4 hR
  have e0 : σ 7 1 = ((tN A : Nat) : Int) := by rw [hE 7 1 rfl]; exact tNe hR
  refine e_B_mass ?_
  refine upto (n := tN A) (P := fun t => K_B_mass_5 d Q (lv : Int) (sumN t w) ((t : Nat) : Int) σ) ?_ (fun t ht ih => ?_)
  · exact e_B_mass_5 ⟨fun h => by omega, fun _ => hQ⟩
  · have e1 : w32 ((t : Int) + 1) = ((t + 1 : Nat) : Int) := w32_eq (by omega) (by omega)
    have e2 : w32 ((lv : Int) * 4) = ((4 * lv : Nat) : Int) := w32_eq (by omega) (by omega)
    have e3 : w32 (((4 * lv : Nat) : Int) + (t : Int)) = ((4 * lv + t : Nat) : Int) := w32_eq (by omega) (by omega)
    have b1 : -4000000000 ≤ sumN t w + w t ∧ sumN t w + w t ≤ 4000000000 := sumW_bd hR hb (k := t + 1) (by omega)
    refine e_B_mass_5 ⟨fun _ => ?_, fun h => by omega⟩
    rw [e1, e2, e3, Int.toNat_natCast, hw t ht, w64_id (by omega) (by omega)]
    exact ⟨⟨by omega, by omega⟩, ih⟩
theorem sp_B_seeOne {d : Nat} {A σ : Mem} {Q : Int → Mem → Prop} {ms : Nat → Nat → Int} (hR : SR 7 ms A) (hE : Eqv A σ) {l s : Nat} (hl : (l : Int) < A 7 10) (hs : (s : Int) < A 13 l) (hQ : ∀ r σ1, BF 0 σ σ1 → (∀ t, t < tN A → σ1 36 (4 * 1 + t) = lvs A l s t) → ((r = 0 ∧ ∀ t, t < tN A → lvs A l s t = 0) ∨ (r = 1 ∧ ∃ t, t < tN A ∧ ¬ lvs A l s t = 0)) → Q r σ1) : wp (d + 3) m_B_seeOne [.inr (.inr 35), .inl (l : Int), .inl (s : Int)] σ Q := by
  refine e_B_seeOne (sp_B_layBefore hR hE (fun σ1 h1 h2 => ?_))
  refine sp_B_step (lv := 0) (n := 0) hR (h1.eqv hE) (by omega) hl hs (by omega) (wB.pr hR) (fun t ht => by rw [show 4 * 0 + t = t by omega]; exact h2 t ht) (fun r σ2 g1 g2 g3 => ⟨?_, hQ r σ2 (h1.trans (g1.le (by omega))) (fun t ht => by have := g2 t ht; rw [show 4 * (0 + 1) + t = 4 * 1 + t by omega] at this; exact this) g3⟩)
  rcases g3 with g | g
  · exact Or.inl g.1
  · exact Or.inr g.1
theorem sp_B_outcome {d : Nat} {A σ : Mem} {Q : Int → Mem → Prop} {ms : Nat → Nat → Int} (hR : SR 7 ms A) (hE : Eqv A σ) (ho : 1 ≤ A 7 2) {lv j p : Nat} (hlv : lv ≤ 3) (hj : isPay j) (hp : isPay p) {w : Nat → Int} (hb : bdW A w) (hw : ∀ t, t < tN A → σ 36 (4 * lv + t) = w t) (hQ : Q (gath A j p [] w) σ) : wp (d + 3) m_B_outcome [.inr (.inr 35), .inl (lv : Int), .inr (.inr j), .inr (.inr p)] σ Q :=
  e_B_outcome (sp_B_choose hR hE ho hlv hj hb hw (wp_le (d := 0 + 1) (by omega) (sp_B_sumOf hR hE hlv hp (act_lt hR ho) hb hw hQ)))
/-- the divisor of weights below k -/
def gcdW (w : Nat → Int) : Nat → Int
  | 0 => 0
  | k + 1 => gI (gcdW w k) (w k)
theorem gcdW_nn {w : Nat → Int} : ∀ {k : Nat}, 0 ≤ gcdW w k
  | 0 => Int.le_refl _
  | k + 1 => by
    show 0 ≤ gI _ _
    unfold gI
    omega
theorem gI_le {a b B : Int} (ha : -B ≤ a ∧ a ≤ B) (hb : -B ≤ b ∧ b ≤ B) : 0 ≤ gI a b ∧ gI a b ≤ B := by
  unfold gI
  refine ⟨by omega, ?_⟩
  by_cases e : a = 0
  · subst e
    rw [Int.natAbs_zero, Nat.gcd_zero_left]
    omega
  · have := Nat.gcd_le_left b.natAbs (show 0 < a.natAbs by omega)
    omega
theorem gcdW_bd {w : Nat → Int} {B : Int} (hB : 0 ≤ B) : ∀ {k : Nat}, (∀ t, t < k → -B ≤ w t ∧ w t ≤ B) → 0 ≤ gcdW w k ∧ gcdW w k ≤ B
  | 0, _ => ⟨Int.le_refl _, hB⟩
  | k + 1, h => by
    have ih := gcdW_bd hB (k := k) (fun t ht => h t (by omega))
    exact gI_le ⟨by omega, ih.2⟩ (h k (by omega))
theorem gcdW_pos {w : Nat → Int} {t : Nat} : ∀ {k : Nat}, t < k → ¬ w t = 0 → 0 < gcdW w k
  | 0, h, _ => absurd h (by omega)
  | k + 1, h, hz => by
    show 0 < gI (gcdW w k) (w k)
    unfold gI
    by_cases e : t = k
    · subst e
      have := Nat.gcd_pos_of_pos_right (gcdW w t).natAbs (show 0 < (w t).natAbs by omega)
      omega
    · have ih := gcdW_pos (k := k) (by omega) hz
      have := Nat.gcd_pos_of_pos_left (w k).natAbs (show 0 < (gcdW w k).natAbs by omega)
      omega
theorem pr_does {A : Mem} (hR : RR A) {a1 : Int} (i1 : InI a1) {a2 : Int} (i2 : InI a2) : wp 40 m_X_does [.inr (.inr 0), .inl a1, .inl a2] A (fun r σ1 => wp 40 m_M_does [.inr (.inr 49), .inl a1, .inl a2] σ1 (fun r2 σ2 => PQ r r2 σ2)) := by
  have sc := hR.sc
  unfold InI at i1 i2
  have hs : ∀ l : Nat, (l : Int) < A 7 10 → A 53 l = A 13 l ∧ 1 ≤ A 13 l ∧ A 13 l ≤ 6 := fun l hl => hR.1.sgn hl
  have hs1 := hs a1.toNat
  repeat' first
    | with_reducible refine e_X_does ?_
    | with_reducible refine e_S_lacksSign ?_
    | with_reducible refine e_S_hasSign ?_
    | with_reducible refine e_S_hasLook ?_
    | with_reducible refine e_S_hasTruth ?_
    | with_reducible refine xr1 ?_
    | with_reducible refine xr2 ?_
    | with_reducible refine xr3 ?_
    | with_reducible refine xr4 ?_
    | with_reducible refine xr6 ?_
    | with_reducible refine mr1 ?_
    | with_reducible refine mr2 ?_
    | with_reducible refine mr3 ?_
    | with_reducible refine mr4 ?_
    | with_reducible refine mr6 ?_
    | with_reducible refine xf1 ?_
    | with_reducible refine xf2 ?_
    | with_reducible refine xf3 ?_
    | with_reducible refine xf6 ?_
    | with_reducible refine mf1 ?_
    | with_reducible refine mf2 ?_
    | with_reducible refine mf3 ?_
    | with_reducible refine mf6 ?_
    | with_reducible exact isB0
    | with_reducible exact isB1
    | with_reducible refine And.intro ?_ ?_
    | (with_reducible refine fun (hz : (_ : Int) < _) => ?_) <;> ((try simp (discharger := first | decide | omega) only [ms_eq, ms_nk, ms_ni, w32_id, w64_id, Int.toNat_natCast, not_true_eq_false, not_false_eq_true] at hz) ; (try (exfalso; omega)))
    | (with_reducible refine fun (hz : (_ : Int) ≤ _) => ?_) <;> ((try simp (discharger := first | decide | omega) only [ms_eq, ms_nk, ms_ni, w32_id, w64_id, Int.toNat_natCast, not_true_eq_false, not_false_eq_true] at hz) ; (try (exfalso; omega)))
    | (with_reducible refine fun (hz : (_ : Int) = _) => ?_) <;> ((try simp (discharger := first | decide | omega) only [ms_eq, ms_nk, ms_ni, w32_id, w64_id, Int.toNat_natCast, not_true_eq_false, not_false_eq_true] at hz) ; (try (exfalso; omega)))
    | (with_reducible refine fun (hz : ¬ (_ : Int) = _) => ?_) <;> ((try simp (discharger := first | decide | omega) only [ms_eq, ms_nk, ms_ni, w32_id, w64_id, Int.toNat_natCast, not_true_eq_false, not_false_eq_true] at hz) ; (try (exfalso; omega)))
    | (with_reducible refine fun (hz : _ ∨ _) => ?_) <;> ((try simp (discharger := first | decide | omega) only [ms_eq, ms_nk, ms_ni, w32_id, w64_id, Int.toNat_natCast, not_true_eq_false, not_false_eq_true] at hz) ; (try (exfalso; omega)))
    | omega
    | (simp (discharger := first | decide | omega) only [ms_eq, ms_nk, ms_ni, w32_id, w64_id, Int.toNat_natCast, not_true_eq_false, not_false_eq_true] ; omega)
  all_goals first
    | (repeat' first
      | with_reducible refine e_M_does ?_
      | with_reducible refine e_M_isSign ?_
      | with_reducible refine e_M_isLook ?_
      | with_reducible refine e_M_in ?_
      | with_reducible refine xr1 ?_
      | with_reducible refine xr2 ?_
      | with_reducible refine xr3 ?_
      | with_reducible refine xr4 ?_
      | with_reducible refine xr6 ?_
      | with_reducible refine mr1 ?_
      | with_reducible refine mr2 ?_
      | with_reducible refine mr3 ?_
      | with_reducible refine mr4 ?_
      | with_reducible refine mr6 ?_
      | with_reducible refine xf1 ?_
      | with_reducible refine xf2 ?_
      | with_reducible refine xf3 ?_
      | with_reducible refine xf6 ?_
      | with_reducible refine mf1 ?_
      | with_reducible refine mf2 ?_
      | with_reducible refine mf3 ?_
      | with_reducible refine mf6 ?_
      | with_reducible exact isB0
      | with_reducible exact isB1
      | with_reducible refine And.intro ?_ ?_
      | (with_reducible refine fun (hz : (_ : Int) < _) => ?_) <;> ((try simp (discharger := first | decide | omega) only [ms_eq, ms_nk, ms_ni, w32_id, w64_id, Int.toNat_natCast, not_true_eq_false, not_false_eq_true] at hz) ; (try (exfalso; omega)))
      | (with_reducible refine fun (hz : (_ : Int) ≤ _) => ?_) <;> ((try simp (discharger := first | decide | omega) only [ms_eq, ms_nk, ms_ni, w32_id, w64_id, Int.toNat_natCast, not_true_eq_false, not_false_eq_true] at hz) ; (try (exfalso; omega)))
      | (with_reducible refine fun (hz : (_ : Int) = _) => ?_) <;> ((try simp (discharger := first | decide | omega) only [ms_eq, ms_nk, ms_ni, w32_id, w64_id, Int.toNat_natCast, not_true_eq_false, not_false_eq_true] at hz) ; (try (exfalso; omega)))
      | (with_reducible refine fun (hz : ¬ (_ : Int) = _) => ?_) <;> ((try simp (discharger := first | decide | omega) only [ms_eq, ms_nk, ms_ni, w32_id, w64_id, Int.toNat_natCast, not_true_eq_false, not_false_eq_true] at hz) ; (try (exfalso; omega)))
      | (with_reducible refine fun (hz : _ ∨ _) => ?_) <;> ((try simp (discharger := first | decide | omega) only [ms_eq, ms_nk, ms_ni, w32_id, w64_id, Int.toNat_natCast, not_true_eq_false, not_false_eq_true] at hz) ; (try (exfalso; omega)))
      | omega
      | (simp (discharger := first | decide | omega) only [ms_eq, ms_nk, ms_ni, w32_id, w64_id, Int.toNat_natCast, not_true_eq_false, not_false_eq_true] ; omega)
       all_goals first
         | exact PQ.rf0 hR (by decide)
         | skip
       done)
    | skip
  obtain ⟨l, rfl⟩ : ∃ k : Nat, a1 = (k : Int) := ⟨a1.toNat, by omega⟩
  obtain ⟨s, rfl⟩ : ∃ k : Nat, a2 = (k : Int) := ⟨a2.toNat, by omega⟩
  simp only [Int.toNat_natCast] at *
  have hl : (l : Int) < A 7 10 := by omega
  have hsl : (s : Int) < A 13 l := by omega
  have ho : 1 ≤ A 7 2 := by omega
  have hB := lvs_B hR.1 hl hsl
  have hs2 := hs l hl
  refine sp_B_seeOne hR.1 Eqv.rfl hl hsl (fun r σ1 hF hw hr => ?_)
  have hE := hF.eqv Eqv.rfl
  have q0 := hE 49 0 rfl
  have q6 := hE 49 6 rfl
  have q53 := hE 53 l rfl
  refine ⟨fun h => ?_, fun h => sp_B_choose (lv := 1) hR.1 hE ho (by omega) (Or.inl rfl) (hB.bd (by omega)) hw ?_⟩
  · repeat' first
    | with_reducible refine e_M_does ?_
    | with_reducible refine e_M_isSign ?_
    | with_reducible refine e_M_isLook ?_
    | with_reducible refine e_M_in ?_
    | with_reducible refine xr1 ?_
    | with_reducible refine xr2 ?_
    | with_reducible refine xr3 ?_
    | with_reducible refine xr4 ?_
    | with_reducible refine xr6 ?_
    | with_reducible refine mr1 ?_
    | with_reducible refine mr2 ?_
    | with_reducible refine mr3 ?_
    | with_reducible refine mr4 ?_
    | with_reducible refine mr6 ?_
    | with_reducible refine xf1 ?_
    | with_reducible refine xf2 ?_
    | with_reducible refine xf3 ?_
    | with_reducible refine xf6 ?_
    | with_reducible refine mf1 ?_
    | with_reducible refine mf2 ?_
    | with_reducible refine mf3 ?_
    | with_reducible refine mf6 ?_
    | with_reducible exact isB0
    | with_reducible exact isB1
    | with_reducible refine And.intro ?_ ?_
    | (with_reducible refine fun (hz : (_ : Int) < _) => ?_) <;> ((try simp (discharger := first | decide | omega) only [ms_eq, ms_nk, ms_ni, w32_id, w64_id, Int.toNat_natCast, not_true_eq_false, not_false_eq_true, q0, q6, q53] at hz) ; (try (exfalso; omega)))
    | (with_reducible refine fun (hz : (_ : Int) ≤ _) => ?_) <;> ((try simp (discharger := first | decide | omega) only [ms_eq, ms_nk, ms_ni, w32_id, w64_id, Int.toNat_natCast, not_true_eq_false, not_false_eq_true, q0, q6, q53] at hz) ; (try (exfalso; omega)))
    | (with_reducible refine fun (hz : (_ : Int) = _) => ?_) <;> ((try simp (discharger := first | decide | omega) only [ms_eq, ms_nk, ms_ni, w32_id, w64_id, Int.toNat_natCast, not_true_eq_false, not_false_eq_true, q0, q6, q53] at hz) ; (try (exfalso; omega)))
    | (with_reducible refine fun (hz : ¬ (_ : Int) = _) => ?_) <;> ((try simp (discharger := first | decide | omega) only [ms_eq, ms_nk, ms_ni, w32_id, w64_id, Int.toNat_natCast, not_true_eq_false, not_false_eq_true, q0, q6, q53] at hz) ; (try (exfalso; omega)))
    | (with_reducible refine fun (hz : _ ∨ _) => ?_) <;> ((try simp (discharger := first | decide | omega) only [ms_eq, ms_nk, ms_ni, w32_id, w64_id, Int.toNat_natCast, not_true_eq_false, not_false_eq_true, q0, q6, q53] at hz) ; (try (exfalso; omega)))
    | omega
    | (simp (discharger := first | decide | omega) only [ms_eq, ms_nk, ms_ni, w32_id, w64_id, Int.toNat_natCast, not_true_eq_false, not_false_eq_true, q0, q6, q53] ; omega)
    refine sp_M_leave hR.1 hE hl hsl (fun r2 σ2 hF2 hw2 _ hr2 => ⟨fun _ => PQ.eqv hR rfl (hF2.eqv hE), fun h2 => ?_⟩)
    rcases hr2 with hr2 | hr2
    · have := (com_pos hB).mp hr2.2
      obtain ⟨t, ht, hz⟩ := this
      rcases hr with hr | hr
      · exact absurd (hr.2 t ht) hz
      · omega
    · omega
  · repeat' first
    | with_reducible refine e_M_does ?_
    | with_reducible refine e_M_isSign ?_
    | with_reducible refine e_M_isLook ?_
    | with_reducible refine e_M_in ?_
    | with_reducible refine xr1 ?_
    | with_reducible refine xr2 ?_
    | with_reducible refine xr3 ?_
    | with_reducible refine xr4 ?_
    | with_reducible refine xr6 ?_
    | with_reducible refine mr1 ?_
    | with_reducible refine mr2 ?_
    | with_reducible refine mr3 ?_
    | with_reducible refine mr4 ?_
    | with_reducible refine mr6 ?_
    | with_reducible refine xf1 ?_
    | with_reducible refine xf2 ?_
    | with_reducible refine xf3 ?_
    | with_reducible refine xf6 ?_
    | with_reducible refine mf1 ?_
    | with_reducible refine mf2 ?_
    | with_reducible refine mf3 ?_
    | with_reducible refine mf6 ?_
    | with_reducible exact isB0
    | with_reducible exact isB1
    | with_reducible refine And.intro ?_ ?_
    | (with_reducible refine fun (hz : (_ : Int) < _) => ?_) <;> ((try simp (discharger := first | decide | omega) only [ms_eq, ms_nk, ms_ni, w32_id, w64_id, Int.toNat_natCast, not_true_eq_false, not_false_eq_true, q0, q6, q53] at hz) ; (try (exfalso; omega)))
    | (with_reducible refine fun (hz : (_ : Int) ≤ _) => ?_) <;> ((try simp (discharger := first | decide | omega) only [ms_eq, ms_nk, ms_ni, w32_id, w64_id, Int.toNat_natCast, not_true_eq_false, not_false_eq_true, q0, q6, q53] at hz) ; (try (exfalso; omega)))
    | (with_reducible refine fun (hz : (_ : Int) = _) => ?_) <;> ((try simp (discharger := first | decide | omega) only [ms_eq, ms_nk, ms_ni, w32_id, w64_id, Int.toNat_natCast, not_true_eq_false, not_false_eq_true, q0, q6, q53] at hz) ; (try (exfalso; omega)))
    | (with_reducible refine fun (hz : ¬ (_ : Int) = _) => ?_) <;> ((try simp (discharger := first | decide | omega) only [ms_eq, ms_nk, ms_ni, w32_id, w64_id, Int.toNat_natCast, not_true_eq_false, not_false_eq_true, q0, q6, q53] at hz) ; (try (exfalso; omega)))
    | (with_reducible refine fun (hz : _ ∨ _) => ?_) <;> ((try simp (discharger := first | decide | omega) only [ms_eq, ms_nk, ms_ni, w32_id, w64_id, Int.toNat_natCast, not_true_eq_false, not_false_eq_true, q0, q6, q53] at hz) ; (try (exfalso; omega)))
    | omega
    | (simp (discharger := first | decide | omega) only [ms_eq, ms_nk, ms_ni, w32_id, w64_id, Int.toNat_natCast, not_true_eq_false, not_false_eq_true, q0, q6, q53] ; omega)
    refine sp_M_leave hR.1 hE hl hsl (fun r2 σ2 hF2 hw2 _ hr2 => ⟨fun h2 => ?_, fun h2 => sp_M_doneBy (j := 10) hR.1 (hF2.eqv hE) ho (Or.inl ⟨rfl, rfl⟩) (hB.bd (by omega)) hw2 (PQ.eqv hR rfl (hF2.eqv hE))⟩)
    rcases hr2 with hr2 | hr2
    · omega
    · rcases hr with hr | hr
      · omega
      · obtain ⟨t, ht, hz⟩ := hr.2
        exact absurd (hr2.2 t ht) hz
