-- PURE, 34: days of looking
def tv (A : Mem) (h : Nat → Nat) (c : Nat → Int) : Nat → Nat → (Nat → Int) → Int
  | 0, _, w => gath A 10 11 [] w
  | m + 1, k, w => max (gath A 10 11 [] w * 60 ^ (m + 1)) (-(c k) * sumN (tN A) w * 60 ^ (m + 1) + sumN (sg A (h k)) (fun s => tv A h c m (k + 1) (fun t => w t * pt A (h k) t s)))
theorem tv_congr {A : Mem} {h : Nat → Nat} {c : Nat → Int} : ∀ {m k : Nat} {w w1 : Nat → Int}, (∀ t, t < tN A → w t = w1 t) → tv A h c m k w = tv A h c m k w1
  | 0, k, w, w1, e => gath_congr e
  | m + 1, k, w, w1, e => by
    show max _ _ = max _ _
    rw [gath_congr e, sumN_congr (f := w) (g := w1) e, sumN_congr (f := fun s => tv A h c m (k + 1) (fun t => w t * pt A (h k) t s)) (g := fun s => tv A h c m (k + 1) (fun t => w1 t * pt A (h k) t s)) (fun s _ => tv_congr (fun t ht => by rw [e t ht]))]
theorem tv_0 {A : Mem} {h : Nat → Nat} {c : Nat → Int} : ∀ {m k : Nat} {w : Nat → Int}, (∀ t, t < tN A → w t = 0) → tv A h c m k w = 0
  | 0, k, w, e => gath_0 e
  | m + 1, k, w, e => by
    show max _ _ = 0
    rw [gath_0 e, sumN_z e, sumN_z (f := fun s => tv A h c m (k + 1) (fun t => w t * pt A (h k) t s)) (fun s _ => tv_0 (fun t ht => by rw [e t ht, Int.zero_mul]))]
    simp
def costOK (c : Nat → Int) (n : Nat) : Prop := ∀ i, i < n → 0 ≤ c i ∧ c i ≤ 99
theorem p60m {n m : Nat} : (60 : Int) ^ (n + m) = 60 ^ n * 60 ^ m := Int.pow_add 60 n m
theorem tv_bd {A : Mem} (hR : RR A) (ho : 1 ≤ A 7 2) {h : Nat → Nat} {c : Nat → Int} {n : Nat} (hk : hOK A h n) (hc : costOK c n) (hn : n ≤ 3) : ∀ {m k : Nat} {w : Nat → Int}, k + m = n → wB A k w → -((m + 1) * 1000000000000 * 60 ^ m) ≤ tv A h c m k w ∧ tv A h c m k w ≤ (m + 1) * 1000000000000 * 60 ^ m
  | 0, k, w, hkm, hw => by
    have := gath_bd hR.1 ho (j := 10) (p := 11) (Or.inr (Or.inl rfl)) (ls := []) (n := k) (w := w) none_lk (by simp; omega) hw
    simp only [List.length_nil, Int.pow_zero, Int.mul_one] at this
    show _ ≤ gath A 10 11 [] w ∧ gath A 10 11 [] w ≤ _
    simp only [Int.pow_zero]
    omega
  | m + 1, k, w, hkm, hw => by
    have hE := gath_bd hR.1 ho (j := 10) (p := 11) (Or.inr (Or.inl rfl)) (ls := []) (n := k) (w := w) none_lk (by simp; omega) hw
    simp only [List.length_nil, Int.pow_zero, Int.mul_one] at hE
    have hM := sumW_bd hR.1 (hw.bd (by omega)) (Nat.le_refl (tN A))
    have hc2 := hc k (by omega)
    have hS := sgI hR (hk k (by omega))
    have ih := sumN_bd (n := sg A (h k)) (f := fun s => tv A h c m (k + 1) (fun t => w t * pt A (h k) t s)) (B := (m + 1) * 1000000000000 * 60 ^ m) (fun s hs => tv_bd hR ho hk hc hn (by omega) (hw.st hR.1 (hk k (by omega)) (by omega)))
    have p1 := p60 (n := m) (by omega)
    have cM := mul_bd (x := -(c k)) (X := 99) ⟨by omega, by omega⟩ hM
    rw [show (60 : Int) ^ (m + 1) = 60 * 60 ^ m by rw [Int.pow_succ, Int.mul_comm]]
    generalize hP : (60 : Int) ^ m = P at *
    have q1 := mul_bd hE (y := 60 * P) (Y := 60 * P) ⟨by omega, Int.le_refl _⟩
    have q2 := mul_bd (x := -(c k) * sumN (tN A) w) (X := 99 * 4000000000) cM (y := 60 * P) (Y := 60 * P) ⟨by omega, Int.le_refl _⟩
    have q3 : ((sg A (h k) : Nat) : Int) * ((m + 1) * 1000000000000 * P) ≤ 6 * ((m + 1) * 1000000000000 * P) := Int.mul_le_mul_of_nonneg_right (by omega) (Int.mul_nonneg (by omega) (by omega))
    have hm3 : m ≤ 2 := by omega
    show _ ≤ max (gath A 10 11 [] w * 60 ^ (m + 1)) _ ∧ max (gath A 10 11 [] w * 60 ^ (m + 1)) _ ≤ _
    rw [show (60 : Int) ^ (m + 1) = 60 * P by rw [Int.pow_succ, Int.mul_comm, hP]]
    generalize gath A 10 11 [] w * (60 * P) = X1 at *
    generalize -(c k) * sumN (tN A) w * (60 * P) = X2 at *
    generalize sumN (sg A (h k)) (fun s => tv A h c m (k + 1) (fun t => w t * pt A (h k) t s)) = X3 at *
    have hm4 : m = 0 ∨ m = 1 ∨ m = 2 := by omega
    clear hP cM hS hc2 hM hE ho hk hc hw hn hm3 hkm
    rcases hm4 with rfl | rfl | rfl
    · simp only [Int.natCast_add, Int.cast_ofNat_Int, Int.natCast_zero, Int.natCast_one] at ih q3 ⊢
      omega
    · simp only [Int.natCast_add, Int.cast_ofNat_Int, Int.natCast_zero, Int.natCast_one] at ih q3 ⊢
      omega
    · simp only [Int.natCast_add, Int.cast_ofNat_Int, Int.natCast_zero, Int.natCast_one] at ih q3 ⊢
      omega
theorem max_mul {a b c : Int} (h : 0 ≤ c) : max (a * c) (b * c) = max a b * c := by
  rcases Int.le_total a b with z | z
  · rw [Int.max_eq_right z, Int.max_eq_right (Int.mul_le_mul_of_nonneg_right z h)]
  · rw [Int.max_eq_left z, Int.max_eq_left (Int.mul_le_mul_of_nonneg_right z h)]
def chH (σ : Mem) (h : Nat → Nat) (c : Nat → Int) (n : Nat) : Prop := σ 35 4 = (n : Int) ∧ ∀ i, i < n → σ 37 i = ((h i : Nat) : Int) ∧ σ 38 i = c i
theorem sc_bd {x : Int} {m n : Nat} (hmn : m ≤ n) (hn : n ≤ 3) (h : -((m + 1) * 1000000000000 * 60 ^ m) ≤ x ∧ x ≤ (m + 1) * 1000000000000 * 60 ^ m) : -864000000000000000 ≤ x * 60 ^ (3 - n) ∧ x * 60 ^ (3 - n) ≤ 864000000000000000 := by
  have p1 := p60 (n := 3 - n) (by omega)
  have q := mul_bd h (y := 60 ^ (3 - n)) (Y := 60 ^ (3 - n)) ⟨by omega, Int.le_refl _⟩
  have e : ((m : Int) + 1) * 1000000000000 * 60 ^ m * 60 ^ (3 - n) ≤ 864000000000000000 := by
    rw [Int.mul_assoc, ← p60m]
    have p3 := p60 (n := m + (3 - n)) (by omega)
    have : ((m : Int) + 1) * 1000000000000 * 60 ^ (m + (3 - n)) ≤ 4 * 1000000000000 * 216000 := Int.mul_le_mul (by omega) p3.1 (by omega) (by omega)
    omega
  omega
theorem sp_B_stopOrGo {A : Mem} (hR : RR A) (ho : 1 ≤ A 7 2) {h : Nat → Nat} {c : Nat → Int} {n : Nat} (hk : hOK A h n) (hc : costOK c n) (hn : n ≤ 3) : ∀ (m k D : Nat) (w : Nat → Int) (σ : Mem) (Q : Int → Mem → Prop), 4 + m ≤ D → k + m = n → Eqv A σ → wB A k w → (∀ t, t < tN A → σ 36 (4 * k + t) = w t) → chH σ h c n → (∀ σ1, BF (4 * (k + 1)) σ σ1 → Q (tv A h c m k w * 60 ^ (3 - n)) σ1) → wp D m_B_stopOrGo [.inr (.inr 35), .inl (k : Int)] σ Q := by
  intro m
  induction m with
  | zero => ?_
  | succ m ih => ?_
  all_goals
    intro k D0 w σ Q hD hkm hE hw hv hch hQ
    obtain ⟨D, rfl⟩ : ∃ D, D0 = D + 1 := ⟨D0 - 1, by omega⟩
    have h4 := tN4 hR.1
    have hb := hw.bd (by omega)
    have e1 : w32 (3 - (k : Int)) = ((3 - k : Nat) : Int) := w32_eq (by omega) (by omega)
    have p1 := p60 (n := 3 - k) (by omega)
    have gE := gath_bd hR.1 ho (j := 10) (p := 11) (Or.inr (Or.inl rfl)) (ls := []) (n := k) (w := w) none_lk (by simp; omega) hw
    simp only [List.length_nil, Int.pow_zero, Int.mul_one] at gE
    have qE := mul_bd gE (y := 60 ^ (3 - k)) (Y := 216000) ⟨by omega, p1.1⟩
    have tb := tv_bd hR ho hk hc hn hkm hw
    refine e_B_stopOrGo ?_
    rw [e1]
    refine wp_le (d := 0 + 1) (by omega) (sp_X_wholes (by omega) (wp_le (d := 0 + 3) (by omega) (sp_B_outcome hR.1 hE ho (by omega) (Or.inl rfl) (Or.inr (Or.inl rfl)) hb hv ?_)))
    rw [w64_id (x := gath A 10 11 [] w * 60 ^ (3 - k)) (by omega) (by omega), hch.1]
  · refine ⟨fun h => by omega, fun _ => ?_⟩
    have : k = n := by omega
    subst this
    exact hQ σ BF.rfl
  · refine ⟨fun _ => ⟨fun _ => ⟨⟨by omega, by omega⟩, ⟨by omega, by omega⟩, ?_⟩, fun h => by omega⟩, fun h => by omega⟩
    have hl := hk k (by omega)
    have hS := sgI hR hl
    have hLk := hR.1.lk
    have hc2 := hc k (by omega)
    have hM := sumW_bd hR.1 hb (Nat.le_refl (tN A))
    have cM := mul_bd (x := -(c k)) (X := 99) ⟨by omega, by omega⟩ hM
    have cM2 := mul_bd (x := -(c k) * sumN (tN A) w) (X := 99 * 4000000000) cM (y := 60 ^ (3 - k)) (Y := 216000) ⟨by omega, p1.1⟩
    have hwk := hch.2 k (by omega)
    rw [Int.toNat_natCast, hwk.1, hwk.2]
    refine wp_le (d := 0 + 1) (by omega) (sp_B_mass hR.1 hE (by omega) hb hv ?_)
    rw [w32_id (x := -(c k)) (by omega) (by omega), w64_id (x := -(c k) * sumN (tN A) w) (by omega) (by omega), w64_id (x := -(c k) * sumN (tN A) w * 60 ^ (3 - k)) (by omega) (by omega)]
    have es : (60 : Int) ^ (3 - k) = 60 ^ (m + 1) * 60 ^ (3 - n) := by rw [← p60m, show m + 1 + (3 - n) = 3 - k by omega]
    -- one part of the sum
    have tb2 : ∀ s, s < sg A (h k) → -864000000000000000 ≤ tv A h c m (k + 1) (fun t => w t * pt A (h k) t s) * 60 ^ (3 - n) ∧ tv A h c m (k + 1) (fun t => w t * pt A (h k) t s) * 60 ^ (3 - n) ≤ 864000000000000000 := fun s hs => sc_bd (by omega) hn (tv_bd hR ho hk hc hn (by omega) (hw.st hR.1 hl (by omega)))
    have sb : ∀ j, j ≤ sg A (h k) → -6000000000000000000 ≤ sumN j (fun s => tv A h c m (k + 1) (fun t => w t * pt A (h k) t s) * 60 ^ (3 - n)) ∧ sumN j (fun s => tv A h c m (k + 1) (fun t => w t * pt A (h k) t s) * 60 ^ (3 - n)) ≤ 6000000000000000000 := fun j hj => by
      have := sumN_bd (n := j) (f := fun s => tv A h c m (k + 1) (fun t => w t * pt A (h k) t s) * 60 ^ (3 - n)) (B := 864000000000000000) (fun s hs => tb2 s (by omega))
      have e : (j : Int) * 864000000000000000 ≤ 6 * 864000000000000000 := by omega
      omega
    have hQ2 : ∀ σ1, BF (4 * (k + 1)) σ σ1 → Q (max (gath A 10 11 [] w * 60 ^ (3 - k)) (-(c k) * sumN (tN A) w * 60 ^ (3 - k) + sumN (sg A (h k)) (fun s => tv A h c m (k + 1) (fun t => w t * pt A (h k) t s) * 60 ^ (3 - n)))) σ1 := fun σ1 hF => by
      have e2 : sumN (sg A (h k)) (fun s => tv A h c m (k + 1) (fun t => w t * pt A (h k) t s) * 60 ^ (3 - n)) = sumN (sg A (h k)) (fun s => tv A h c m (k + 1) (fun t => w t * pt A (h k) t s)) * 60 ^ (3 - n) := by
        rw [Int.mul_comm, ← sumN_mul]
        exact sumN_congr (fun s _ => Int.mul_comm _ _)
      rw [e2, es, ← Int.mul_assoc, ← Int.mul_assoc, ← Int.add_mul, max_mul (by have := p60 (n := 3 - n) (by omega); omega)]
      exact hQ σ1 hF
    have loop := upto (n := sg A (h k)) (P := fun s => ∀ σ1, BF (4 * (k + 1)) σ σ1 → K_B_stopOrGo_75 D Q (k : Int) (gath A 10 11 [] w * 60 ^ (3 - k)) ((h k : Nat) : Int) (-(c k) * sumN (tN A) w * 60 ^ (3 - k) + sumN s (fun s => tv A h c m (k + 1) (fun t => w t * pt A (h k) t s) * 60 ^ (3 - n))) ((s : Nat) : Int) σ1) (fun σ1 hF => ?_) (fun s hs ih2 σ1 hF => ?_)
    · have l0 := loop σ BF.rfl
      have e0 : sumN 0 (fun s => tv A h c m (k + 1) (fun t => w t * pt A (h k) t s) * 60 ^ (3 - n)) = 0 := rfl
      rw [e0, Int.add_zero] at l0
      exact l0
    · refine e_B_stopOrGo_75 ⟨⟨by omega, by omega⟩, fun h => by rw [Int.toNat_natCast, hF.eqv hE 13 _ rfl] at h; omega, fun _ => hQ2 σ1 hF⟩
    · have e5 : w32 ((s : Int) + 1) = ((s + 1 : Nat) : Int) := w32_eq (by omega) (by omega)
      have es2 : sumN (s + 1) (fun s => tv A h c m (k + 1) (fun t => w t * pt A (h k) t s) * 60 ^ (3 - n)) = sumN s (fun s => tv A h c m (k + 1) (fun t => w t * pt A (h k) t s) * 60 ^ (3 - n)) + tv A h c m (k + 1) (fun t => w t * pt A (h k) t s) * 60 ^ (3 - n) := rfl
      have hs13 : (s : Int) < A 13 (h k) := by omega
      refine e_B_stopOrGo_75 ⟨⟨by omega, by omega⟩, fun _ => ?_, fun h => by rw [Int.toNat_natCast, hF.eqv hE 13 _ rfl] at h; omega⟩
      rw [e5]
      refine wp_le (d := 0 + 2) (by omega) (sp_B_step (n := k) hR.1 (hF.eqv hE) (by omega) hl hs13 (by omega) hw (fun t ht => by rw [hF.2 _ (by omega)]; exact hv t ht) (fun r σ2 g1 g2 g3 => ⟨fun hr => ?_, fun hr => ?_⟩))
      · have hz : tv A h c m (k + 1) (fun t => w t * pt A (h k) t s) = 0 := by
          rcases g3 with g3 | g3
          · exact tv_0 g3.2
          · omega
        have := ih2 σ2 (hF.trans g1)
        rw [es2, hz, Int.zero_mul, Int.add_zero] at this
        exact this
      · have e6 : w32 ((k : Int) + 1) = ((k + 1 : Nat) : Int) := w32_eq (by omega) (by omega)
        rw [e6]
        have hF2 := hF.trans g1
        refine ih (k + 1) D (fun t => w t * pt A (h k) t s) σ2 _ (by omega) (by omega) (hF2.eqv hE) (hw.st hR.1 hl hs13) (fun t ht => g2 t ht) ⟨by rw [hF2.1 35 4 (by decide)]; exact hch.1, fun i hi => by rw [hF2.1 37 i (by decide), hF2.1 38 i (by decide)]; exact hch.2 i hi⟩ (fun σ3 hF3 => ?_)
        have b1 := tb2 s hs
        have b2 := sb s (by omega)
        have b3 := sb (s + 1) (by omega)
        rw [es2] at b3
        rw [w64_id (by omega) (by omega), Int.add_assoc]
        have := ih2 σ3 (hF2.trans (hF3.le (by omega)))
        rw [es2] at this
        exact this
