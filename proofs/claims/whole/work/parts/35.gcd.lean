-- PURE, 6: divisors, fractions in least terms
def gI (a b : Int) : Int := (Nat.gcd a.natAbs b.natAbs : Nat)
theorem gcd_step {x y : Nat} (_hy : 0 < y) : Nat.gcd y (x % y) = Nat.gcd x y := by rw [Nat.gcd_comm y (x % y), ← Nat.gcd_rec, Nat.gcd_comm]
theorem tmod_nat (x y : Nat) : Int.tmod (x : Int) (y : Int) = ((x % y : Nat) : Int) := by
  rw [Int.ofNat_tmod]
theorem sp_X_cd_loop {d : Nat} {σ : Mem} {Q : Int → Mem → Prop} : ∀ (k x y c : Nat), y < 2 ^ k → c + 2 * k + 2 ≤ 200 → Q ((Nat.gcd x y : Nat) : Int) σ → K_X_commonDivisor_15 d Q (x : Int) (y : Int) (c : Int) σ := by
  intro k
  induction k with
  | zero =>
    intro x y c hy hc hQ
    have : y = 0 := by simpa using hy
    subst this
    rw [Nat.gcd_zero_right] at hQ
    exact e_X_commonDivisor_15 ⟨fun _ => ⟨fun _ => hQ, fun h => absurd rfl h⟩, fun h => by omega⟩
  | succ k ih =>
    intro x y c hy hc hQ
    by_cases hy0 : y = 0
    · subst hy0
      rw [Nat.gcd_zero_right] at hQ
      exact e_X_commonDivisor_15 ⟨fun _ => ⟨fun _ => hQ, fun h => absurd rfl h⟩, fun h => by omega⟩
    · have e1 : w32 ((c : Int) + 1) = ((c + 1 : Nat) : Int) := w32_eq (by omega) (by omega)
      have g1 : Nat.gcd y (x % y) = Nat.gcd x y := gcd_step (by omega)
      refine e_X_commonDivisor_15 ⟨fun _ => ⟨fun h => absurd h (by omega), fun h => ⟨h, ?_⟩⟩, fun h => by omega⟩
      rw [e1, tmod_nat]
      have hr : x % y < y := Nat.mod_lt _ (by omega)
      generalize x % y = r at *
      by_cases hr0 : r = 0
      · subst hr0
        rw [Nat.gcd_zero_right] at g1
        rw [← g1] at hQ
        exact e_X_commonDivisor_15 ⟨fun _ => ⟨fun _ => hQ, fun h => absurd rfl h⟩, fun h => by omega⟩
      · have e2 : w32 (((c + 1 : Nat) : Int) + 1) = ((c + 1 + 1 : Nat) : Int) := w32_eq (by omega) (by omega)
        have g2 : Nat.gcd r (y % r) = Nat.gcd y r := gcd_step (by omega)
        refine e_X_commonDivisor_15 ⟨fun _ => ⟨fun h => absurd h (by omega), fun h => ⟨h, ?_⟩⟩, fun h => by omega⟩
        rw [e2, tmod_nat]
        have hh : y % r < 2 ^ k := by
          have h1 : y % r < r := Nat.mod_lt _ (by omega)
          have h2 := Nat.div_add_mod y r
          have h3 : 1 ≤ y / r := Nat.div_pos (by omega) (by omega)
          have h4 : r ≤ r * (y / r) := Nat.le_mul_of_pos_right r (by omega)
          have h5 : 2 ^ (k + 1) = 2 * 2 ^ k := by rw [Nat.pow_succ, Nat.mul_comm]
          omega
        exact ih r (y % r) (c + 1 + 1) hh (by omega) (by rw [g2, g1]; exact hQ)
theorem w64_abs {a : Int} (h : -9223372036854775807 ≤ a ∧ a ≤ 9223372036854775807) : w64 (a.natAbs : Int) = (a.natAbs : Int) := w64_id (by omega) (by omega)
theorem sp_X_cd {d : Nat} {σ : Mem} {Q : Int → Mem → Prop} {a b : Int} (ha : -9223372036854775807 ≤ a ∧ a ≤ 9223372036854775807) (hb : -9223372036854775807 ≤ b ∧ b ≤ 9223372036854775807) (hQ : Q (gI a b) σ) : wp (d + 1) m_X_commonDivisor [.inr (.inl a), .inr (.inl b)] σ Q := by
  refine e_X_commonDivisor ?_
  rw [w64_abs ha, w64_abs hb]
  exact sp_X_cd_loop 63 _ _ 0 (by omega) (by omega) hQ
theorem sp_M_dv_loop {d : Nat} {σ : Mem} {Q : Int → Mem → Prop} : ∀ (n x y : Nat), y < n → Q ((Nat.gcd x y : Nat) : Int) σ → K_M_divisor_28 d Q (x : Int) (y : Int) σ := by
  intro n
  induction n with
  | zero => intro x y hy; exact absurd hy (by omega)
  | succ n ih =>
    intro x y hy hQ
    by_cases hy0 : y = 0
    · subst hy0
      rw [Nat.gcd_zero_right] at hQ
      exact e_M_divisor_28 ⟨fun _ => hQ, fun h => absurd rfl h⟩
    · refine e_M_divisor_28 ⟨fun h => absurd h (by omega), fun h => ⟨h, ?_⟩⟩
      rw [tmod_nat]
      have hr : x % y < y := Nat.mod_lt _ (by omega)
      exact ih y (x % y) (by omega) (by rw [gcd_step (by omega)]; exact hQ)
theorem sp_M_dv {d : Nat} {σ : Mem} {Q : Int → Mem → Prop} {a b : Int} (ha : -9223372036854775807 ≤ a ∧ a ≤ 9223372036854775807) (hb : -9223372036854775807 ≤ b ∧ b ≤ 9223372036854775807) (hQ : Q (gI a b) σ) : wp (d + 1) m_M_divisor [.inr (.inl a), .inr (.inl b)] σ Q := by
  have key : K_M_divisor_28 d Q (a.natAbs : Int) (b.natAbs : Int) σ := sp_M_dv_loop (b.natAbs + 1) _ _ (by omega) hQ
  refine e_M_divisor ⟨fun h => ⟨fun h2 => ?_, fun h2 => ?_⟩, fun h => ⟨fun h2 => ?_, fun h2 => ?_⟩⟩
  · rw [w64_id (by omega) (by omega), w64_id (by omega) (by omega), show -a = (a.natAbs : Int) by omega, show -b = (b.natAbs : Int) by omega]; exact key
  · rw [w64_id (by omega) (by omega), show -a = (a.natAbs : Int) by omega, show b = (b.natAbs : Int) by omega]; exact key
  · rw [w64_id (by omega) (by omega), show a = (a.natAbs : Int) by omega, show -b = (b.natAbs : Int) by omega]; exact key
  · rw [show a = (a.natAbs : Int) by omega, show b = (b.natAbs : Int) by omega]; exact key
/-- one part of a fraction a by b (b above 0) in least terms -/
def frP (a b part : Int) : Int := if part = 0 then a.tdiv (gI a b) else b.tdiv (gI a b)
theorem gI_pos {a b : Int} (hb : 0 < b) : 1 ≤ gI a b := by
  have : 0 < Nat.gcd a.natAbs b.natAbs := Nat.gcd_pos_of_pos_right _ (by omega)
  unfold gI
  omega
theorem tdiv_bd {a g L : Int} (hg : 1 ≤ g) (h : -L ≤ a ∧ a ≤ L) : -L ≤ a.tdiv g ∧ a.tdiv g ≤ L := by
  have hn : (a.tdiv g).natAbs ≤ a.natAbs := by rw [Int.natAbs_tdiv]; exact Nat.div_le_self _ _
  omega
theorem sp_X_tell {d : Nat} {σ : Mem} {Q : Int → Mem → Prop} {a b part : Int} (ha : -9223372036854775807 ≤ a ∧ a ≤ 9223372036854775807) (hb : 0 < b ∧ b ≤ 9223372036854775807) (hQ : Q (frP a b part) σ) : wp (d + 2) m_X_tell [.inr (.inl a), .inr (.inl b), .inl part] σ Q := by
  have hg := gI_pos (a := a) hb.1
  have b1 := tdiv_bd (a := a) (L := 9223372036854775807) hg ha
  have b2 := tdiv_bd (a := b) (L := 9223372036854775807) hg ⟨by omega, hb.2⟩
  refine e_X_tell (sp_X_cd ha ⟨by omega, hb.2⟩ ⟨fun h => ⟨fun h2 => ⟨by omega, ?_⟩, fun h2 => ?_⟩, fun h => ⟨fun h2 => ⟨by omega, ?_⟩, fun h2 => ?_⟩⟩)
  · rw [w64_id (by omega) (by omega)]
    unfold frP at hQ
    rw [if_pos h] at hQ
    exact hQ
  · have e : gI a b = 1 := by omega
    unfold frP at hQ
    rw [if_pos h, e, Int.tdiv_one] at hQ
    exact hQ
  · rw [w64_id (by omega) (by omega)]
    unfold frP at hQ
    rw [if_neg h] at hQ
    exact hQ
  · have e : gI a b = 1 := by omega
    unfold frP at hQ
    rw [if_neg h, e, Int.tdiv_one] at hQ
    exact hQ
theorem sp_M_fr {d : Nat} {σ : Mem} {Q : Int → Mem → Prop} {a b part : Int} (hp : part = 0 ∨ part = 1) (ha : -9223372036854775807 ≤ a ∧ a ≤ 9223372036854775807) (hb : 0 < b ∧ b ≤ 9223372036854775807) (hQ : Q (frP a b part) σ) : wp (d + 2) m_M_fraction [.inr (.inl a), .inr (.inl b), .inl part] σ Q := by
  have hg := gI_pos (a := a) hb.1
  have b1 := tdiv_bd (a := a) (L := 9223372036854775807) hg ha
  have b2 := tdiv_bd (a := b) (L := 9223372036854775807) hg ⟨by omega, hb.2⟩
  refine e_M_fraction ⟨fun h => ?_, fun h => sp_M_dv ha ⟨by omega, hb.2⟩ ⟨fun h2 => ⟨by omega, fun h3 => by omega, fun _ => ?_⟩, fun h2 => ⟨by omega, fun h3 => by omega, fun _ => ?_⟩⟩⟩
  · subst h
    have e : gI 0 b = b := by
      unfold gI
      rw [Int.natAbs_zero, Nat.gcd_zero_left]
      omega
    unfold frP at hQ
    rw [e] at hQ
    rcases hp with rfl | rfl
    · rw [if_pos rfl, Int.zero_tdiv] at hQ
      exact hQ
    · rw [if_neg (by decide), Int.tdiv_self (by omega)] at hQ
      exact hQ
  · rw [w64_id (by omega) (by omega)]
    unfold frP at hQ
    rw [if_pos h2] at hQ
    exact hQ
  · rw [w64_id (by omega) (by omega)]
    unfold frP at hQ
    rw [if_neg h2] at hQ
    exact hQ
theorem gI_mul {k a b : Int} (hk : 0 < k) : gI (k * a) (k * b) = k * gI a b := by
  unfold gI
  rw [Int.natAbs_mul, Int.natAbs_mul, Nat.gcd_mul_left, Int.natCast_mul]
  congr 1
  omega
theorem frP_mul {k a b part : Int} (hk : 0 < k) (hb : 0 < b) : frP (k * a) (k * b) part = frP a b part := by
  unfold frP
  rw [gI_mul hk]
  split
  · exact Int.mul_tdiv_mul_of_pos _ _ hk
  · exact Int.mul_tdiv_mul_of_pos _ _ hk
theorem frP_eq {a b c e part : Int} (hb : 0 < b) (he : 0 < e) (h : a * e = c * b) : frP a b part = frP c e part := by
  rw [← frP_mul (a := a) (b := b) he hb, ← frP_mul (a := c) (b := e) hb he, Int.mul_comm e a, h, Int.mul_comm c b, Int.mul_comm e b]
