-- PURE, 2: sums of weights and gets, what is done
theorem w32_eq {x : Int} {n : Nat} (h : x = (n : Int)) (hn : n < 2147483648) : w32 x = (n : Int) := by rw [h]; exact w32_id (by omega) (by omega)
abbrev tN (A : Mem) : Nat := (A 7 1).toNat
abbrev aN (A : Mem) : Nat := (A 7 2).toNat
theorem lt_tN {A : Mem} {t : Nat} (h : t < tN A) : (t : Int) < A 7 1 := by
  have : t < (A 7 1).toNat := h
  omega
theorem tN_lt {A : Mem} {t : Nat} (h : (t : Int) < A 7 1) : t < tN A := by
  show t < (A 7 1).toNat
  omega
/-- weights times gets of an act (10 U, 11 V, 12 U of the second judge), together -/
def dot (A : Mem) (w : Nat → Int) (pay a : Nat) : Int := sumN (tN A) (fun t => w t * A pay (4 * a + t))
def bdW (A : Mem) (w : Nat → Int) : Prop := ∀ t, t < tN A → -1000000000 ≤ w t ∧ w t ≤ 1000000000
def isPay (pay : Nat) : Prop := pay = 10 ∨ pay = 11 ∨ pay = 12
theorem SR.tr {b : Nat} {ms : Nat → Nat → Int} {A : Mem} (h : SR b ms A) : 0 ≤ A b 1 ∧ A b 1 ≤ 4 := ⟨h.2.1.1, h.2.1.2.1⟩
theorem SR.ac {b : Nat} {ms : Nat → Nat → Int} {A : Mem} (h : SR b ms A) : 0 ≤ A b 2 ∧ A b 2 ≤ 6 := ⟨h.2.1.2.2.1, h.2.1.2.2.2.1⟩
theorem SR.tie {b : Nat} {ms : Nat → Nat → Int} {A : Mem} (h : SR b ms A) : A b 3 = 0 ∨ A b 3 = 1 := h.2.1.2.2.2.2.1
theorem SR.gt {b : Nat} {ms : Nat → Nat → Int} {A : Mem} (h : SR b ms A) {a t : Nat} (ha : (a : Int) < A b 2) (ht : (t : Int) < A b 1) : (ms 3 (4 * a + t) = A (b + 3) (4 * a + t) ∧ -99 ≤ A (b + 3) (4 * a + t) ∧ A (b + 3) (4 * a + t) ≤ 99) ∧ (ms 3 (24 + 4 * a + t) = A (b + 4) (4 * a + t) ∧ -99 ≤ A (b + 4) (4 * a + t) ∧ A (b + 4) (4 * a + t) ≤ 99) ∧ (ms 3 (48 + 4 * a + t) = A (b + 5) (4 * a + t) ∧ -99 ≤ A (b + 5) (4 * a + t) ∧ A (b + 5) (4 * a + t) ≤ 99) := h.2.2.2.2.2.1 a t ha ht
theorem pay_bd {ms : Nat → Nat → Int} {A : Mem} (h : SR 7 ms A) {pay a t : Nat} (hp : isPay pay) (ha : (a : Int) < A 7 2) (ht : t < tN A) : -99 ≤ A pay (4 * a + t) ∧ A pay (4 * a + t) ≤ 99 := by
  have := h.gt (a := a) (t := t) ha (lt_tN ht)
  rcases hp with rfl | rfl | rfl
  · exact this.1.2
  · exact this.2.1.2
  · exact this.2.2.2
theorem mul_bd {x y X Y : Int} (hx : -X ≤ x ∧ x ≤ X) (hy : -Y ≤ y ∧ y ≤ Y) : -(X * Y) ≤ x * y ∧ x * y ≤ X * Y := by
  have hX : 0 ≤ X := by omega
  have hY : 0 ≤ Y := by omega
  have h1 : x * y ≤ X * Y := by
    rcases Int.le_total 0 x with a | a
    · rcases Int.le_total 0 y with b | b
      · exact Int.mul_le_mul hx.2 hy.2 b hX
      · have := Int.mul_nonpos_of_nonneg_of_nonpos a b
        have := Int.mul_nonneg hX hY
        omega
    · rcases Int.le_total 0 y with b | b
      · have := Int.mul_nonpos_of_nonpos_of_nonneg a b
        have := Int.mul_nonneg hX hY
        omega
      · have e : x * y = (-x) * (-y) := by rw [Int.neg_mul_neg]
        rw [e]
        exact Int.mul_le_mul (by omega) (by omega) (by omega) hX
  have h2 : (-x) * y ≤ X * Y := by
    rcases Int.le_total 0 (-x) with a | a
    · rcases Int.le_total 0 y with b | b
      · exact Int.mul_le_mul (by omega) hy.2 b hX
      · have := Int.mul_nonpos_of_nonneg_of_nonpos a b
        have := Int.mul_nonneg hX hY
        omega
    · rcases Int.le_total 0 y with b | b
      · have := Int.mul_nonpos_of_nonpos_of_nonneg a b
        have := Int.mul_nonneg hX hY
        omega
      · have e : (-x) * y = x * (-y) := by rw [Int.neg_mul, Int.mul_neg]
        rw [e]
        exact Int.mul_le_mul (by omega) (by omega) (by omega) hX
  rw [Int.neg_mul] at h2
  omega
theorem dot_bd {ms : Nat → Nat → Int} {A : Mem} (h : SR 7 ms A) {w : Nat → Int} (hw : bdW A w) {pay a : Nat} (hp : isPay pay) (ha : (a : Int) < A 7 2) (k : Nat) (hk : k ≤ tN A) : -396000000000 ≤ sumN k (fun t => w t * A pay (4 * a + t)) ∧ sumN k (fun t => w t * A pay (4 * a + t)) ≤ 396000000000 := by
  have h1 := sumN_bd (f := fun t => w t * A pay (4 * a + t)) (B := 1000000000 * 99) (n := k) (fun t ht => mul_bd (hw t (by omega)) (pay_bd h hp ha (by omega)))
  have h4 := h.tr
  have h5 : k ≤ 4 := by
    have : tN A ≤ 4 := by show (A 7 1).toNat ≤ 4; omega
    omega
  have e : (k : Int) * (1000000000 * 99) ≤ 396000000000 := by omega
  omega
set_option maxHeartbeats 1000000 in
theorem sp_B_sumOf {d : Nat} {A σ : Mem} {Q : Int → Mem → Prop} {ms : Nat → Nat → Int} (hR : SR 7 ms A) (hE : Eqv A σ) {lv pay a : Nat} (hlv : lv ≤ 3) (hp : isPay pay) (ha : (a : Int) < A 7 2) {w : Nat → Int} (hb : bdW A w) (hw : ∀ t, t < tN A → σ 36 (4 * lv + t) = w t) (hQ : Q (dot A w pay a) σ) : wp (d + 1) m_B_sumOf [.inr (.inr 35), .inl (lv : Int), .inr (.inr pay), .inl (a : Int)] σ Q := by
  have hT := hR.tr
  have hA := hR.ac
  have e71 : σ 7 1 = A 7 1 := hE 7 1 rfl
  have loop : ∀ k t : Nat, t + k = tN A → K_B_sumOf_16 d Q pay ((4 * lv : Nat) : Int) ((4 * a : Nat) : Int) (sumN t (fun t => w t * A pay (4 * a + t))) (t : Int) σ := by
    intro k
    induction k with
    | zero =>
      intro t ht
      refine e_B_sumOf_16 ⟨fun h => ?_, fun _ => ?_⟩
      · rw [e71] at h
        exact absurd ht (by show ¬ t + 0 = (A 7 1).toNat; omega)
      · have : t = tN A := by omega
        subst this
        exact hQ
    | succ k ih =>
      intro t ht
      have ht2 : t < tN A := by omega
      have ht3 : tN A ≤ 4 := by show (A 7 1).toNat ≤ 4; omega
      refine e_B_sumOf_16 ⟨fun _ => ?_, fun h => ?_⟩
      · have e1 : w32 (((4 * lv : Nat) : Int) + (t : Int)) = ((4 * lv + t : Nat) : Int) := w32_eq (by omega) (by omega)
        have e2 : w32 (((4 * a : Nat) : Int) + (t : Int)) = ((4 * a + t : Nat) : Int) := w32_eq (by omega) (by omega)
        have e3 : w32 ((t : Int) + 1) = ((t + 1 : Nat) : Int) := w32_eq (by omega) (by omega)
        rw [e1, e2, e3, Int.toNat_natCast, Int.toNat_natCast, hw t ht2]
        have e4 : σ pay (4 * a + t) = A pay (4 * a + t) := by rcases hp with rfl | rfl | rfl <;> exact hE _ _ rfl
        rw [e4]
        have hm := mul_bd (hb t ht2) (pay_bd hR hp ha ht2)
        rw [w64_id (x := w t * A pay (4 * a + t)) (by omega) (by omega)]
        have hs := dot_bd hR hb hp ha (t + 1) (by omega)
        have hs2 : sumN (t + 1) (fun t => w t * A pay (4 * a + t)) = sumN t (fun t => w t * A pay (4 * a + t)) + w t * A pay (4 * a + t) := rfl
        rw [hs2] at hs
        rw [w64_id (by omega) (by omega)]
        refine ⟨⟨by omega, by omega⟩, ?_, ?_⟩
        · have : (0 : Int) ≤ ((4 * a + t : Nat) : Int) ∧ ((4 * a + t : Nat) : Int) < 24 := ⟨by omega, by omega⟩
          rcases hp with rfl | rfl | rfl <;> exact this
        · exact ih (t + 1) (by omega)
      · rw [e71] at h
        exact absurd ht2 (by show ¬ t < (A 7 1).toNat; omega)
  refine e_B_sumOf ?_
  have e1 : w32 ((lv : Int) * 4) = ((4 * lv : Nat) : Int) := w32_eq (by omega) (by omega)
  have e2 : w32 ((a : Int) * 4) = ((4 * a : Nat) : Int) := w32_eq (by omega) (by omega)
  rw [e1, e2]
  exact loop (tN A) 0 (by omega)
/-- act a is done rather than b -/
def betB (tie : Int) (u v : Nat → Int) (a b : Nat) : Bool := decide (u b < u a) || (decide (u a = u b) && (match decide (tie = 0) with
  | true => decide (v b < v a)
  | false => decide (v a < v b)))
/-- of the acts 0 .. n the one that is done -/
def pkA (tie : Int) (u v : Nat → Int) : Nat → Nat
  | 0 => 0
  | n + 1 => match betB tie u v (n + 1) (pkA tie u v n) with
    | true => n + 1
    | false => pkA tie u v n
theorem pkA_le {tie : Int} {u v : Nat → Int} : ∀ n, pkA tie u v n ≤ n
  | 0 => Nat.le_refl _
  | n + 1 => by
    unfold pkA
    split
    · exact Nat.le_refl _
    · exact Nat.le_succ_of_le (pkA_le n)
theorem pkA_t {tie : Int} {u v : Nat → Int} {n : Nat} (h : betB tie u v (n + 1) (pkA tie u v n) = true) : pkA tie u v (n + 1) = n + 1 := by
  show (match betB tie u v (n + 1) (pkA tie u v n) with
    | true => n + 1
    | false => pkA tie u v n) = n + 1
  rw [h]
theorem pkA_f {tie : Int} {u v : Nat → Int} {n : Nat} (h : betB tie u v (n + 1) (pkA tie u v n) = false) : pkA tie u v (n + 1) = pkA tie u v n := by
  show (match betB tie u v (n + 1) (pkA tie u v n) with
    | true => n + 1
    | false => pkA tie u v n) = pkA tie u v n
  rw [h]
/-- what is done at weights w by the judge whose gets are at cell j -/
def act (A : Mem) (w : Nat → Int) (j : Nat) : Nat := pkA (A 7 3) (fun a => dot A w j a) (fun a => dot A w 11 a) (aN A - 1)
theorem act_lt {ms : Nat → Nat → Int} {A : Mem} (h : SR 7 ms A) (ho : 1 ≤ A 7 2) {w : Nat → Int} {j : Nat} : ((act A w j : Nat) : Int) < A 7 2 := by
  have := pkA_le (tie := A 7 3) (u := fun a => dot A w j a) (v := fun a => dot A w 11 a) (aN A - 1)
  have e : act A w j ≤ aN A - 1 := this
  have : aN A - 1 < aN A := by show (A 7 2).toNat - 1 < (A 7 2).toNat; omega
  have h2 : act A w j < (A 7 2).toNat := by show act A w j < aN A; omega
  omega
set_option maxHeartbeats 2000000 in
theorem sp_B_choose {d : Nat} {A σ : Mem} {Q : Int → Mem → Prop} {ms : Nat → Nat → Int} (hR : SR 7 ms A) (hE : Eqv A σ) (ho : 1 ≤ A 7 2) {lv j : Nat} (hlv : lv ≤ 3) (hj : isPay j) {w : Nat → Int} (hb : bdW A w) (hw : ∀ t, t < tN A → σ 36 (4 * lv + t) = w t) (hQ : Q (act A w j : Nat) σ) : wp (d + 2) m_B_choose [.inr (.inr 35), .inl (lv : Int), .inr (.inr j)] σ Q := by
  have hT := hR.tr
  have hA := hR.ac
  have e72 : σ 7 2 = A 7 2 := hE 7 2 rfl
  have e73 : σ 7 3 = A 7 3 := hE 7 3 rfl
  generalize hu : (fun a => dot A w j a) = u
  generalize hv : (fun a => dot A w 11 a) = v
  have hua : ∀ a, dot A w j a = u a := fun a => by rw [← hu]
  have hva : ∀ a, dot A w 11 a = v a := fun a => by rw [← hv]
  have hvb : ∀ a : Nat, (a : Int) < A 7 2 → -396000000000 ≤ v a ∧ v a ≤ 396000000000 := fun a ha => by rw [← hva]; exact dot_bd hR hb (Or.inr (Or.inl rfl)) ha (tN A) (Nat.le_refl _)
  have hQ2 : Q ((pkA (A 7 3) u v (aN A - 1) : Nat) : Int) σ := by
    have : act A w j = pkA (A 7 3) u v (aN A - 1) := by unfold act; rw [hu, hv]
    rw [← this]
    exact hQ
  have sm : ∀ {a : Nat} {K : Int → Mem → Prop}, (a : Int) < A 7 2 → K (u a) σ → wp (d + 1) m_B_sumOf [.inr (.inr 35), .inl (lv : Int), .inr (.inr j), .inl (a : Int)] σ K := fun {a K} ha hK => sp_B_sumOf hR hE hlv hj ha hb hw (by rw [hua]; exact hK)
  have sv : ∀ {a : Nat} {K : Int → Mem → Prop}, (a : Int) < A 7 2 → K (v a) σ → wp (d + 1) m_B_sumOf [.inr (.inr 35), .inl (lv : Int), .inr (.inr 11), .inl (a : Int)] σ K := fun {a K} ha hK => sp_B_sumOf hR hE hlv (Or.inr (Or.inl rfl)) ha hb hw (by rw [hva]; exact hK)
  have loop : ∀ (turn : Int), ((A 7 3 = 0 ∧ turn = 1) ∨ (¬ A 7 3 = 0 ∧ turn = -1)) → ∀ k n : Nat, n + 1 + k = aN A → K_B_choose_40 (d + 1) Q (lv : Int) j turn ((pkA (A 7 3) u v n : Nat) : Int) (u (pkA (A 7 3) u v n)) ((n + 1 : Nat) : Int) σ := by
    intro turn htu k
    induction k with
    | zero =>
      intro n hn
      refine e_B_choose_40 ⟨fun h => ?_, fun _ => ?_⟩
      · rw [e72] at h
        exact absurd hn (by show ¬ n + 1 + 0 = (A 7 2).toNat; omega)
      · have : n = aN A - 1 := by omega
        subst this
        exact hQ2
    | succ k ih =>
      intro n hn
      have hn2 : ((n + 1 : Nat) : Int) < A 7 2 := by
        have : n + 1 + (k + 1) = (A 7 2).toNat := hn
        omega
      have hp := pkA_le (tie := A 7 3) (u := u) (v := v) n
      have hp2 : ((pkA (A 7 3) u v n : Nat) : Int) < A 7 2 := by omega
      have e3 : w32 (((n + 1 : Nat) : Int) + 1) = ((n + 1 + 1 : Nat) : Int) := w32_eq (by omega) (by omega)
      have yes : betB (A 7 3) u v (n + 1) (pkA (A 7 3) u v n) = true → K_B_choose_40 (d + 1) Q (lv : Int) j turn ((n + 1 : Nat) : Int) (u (n + 1)) ((n + 1 + 1 : Nat) : Int) σ := by
        intro hh
        have := ih (n + 1) (by omega)
        rw [pkA_t hh] at this
        exact this
      have no : betB (A 7 3) u v (n + 1) (pkA (A 7 3) u v n) = false → K_B_choose_40 (d + 1) Q (lv : Int) j turn ((pkA (A 7 3) u v n : Nat) : Int) (u (pkA (A 7 3) u v n)) ((n + 1 + 1 : Nat) : Int) σ := by
        intro hh
        have := ih (n + 1) (by omega)
        rw [pkA_f hh] at this
        exact this
      refine e_B_choose_40 ⟨fun _ => ?_, fun h => ?_⟩
      · rw [e3]
        refine sm hn2 ⟨fun h1 => yes ?_, fun h1 => ⟨fun h2 => ?_, fun h2 => no ?_⟩⟩
        · simp [betB, h1]
        · refine sv hn2 (sv hp2 ?_)
          have b1 := hvb _ hn2
          have b2 := hvb _ hp2
          rcases htu with ⟨t0, rfl⟩ | ⟨t0, rfl⟩
          · rw [w64_id (by omega) (by omega), w64_id (by omega) (by omega)]
            refine ⟨fun h3 => yes ?_, fun h3 => no ?_⟩
            · have : v (pkA (A 7 3) u v n) < v (n + 1) := by omega
              simp [betB, h2, t0] ; rw [t0] at this; exact this
            · have : ¬ v (pkA (A 7 3) u v n) < v (n + 1) := by omega
              simp [betB, h2, t0] ; rw [t0] at this h2; omega
          · rw [w64_id (by omega) (by omega), w64_id (by omega) (by omega)]
            refine ⟨fun h3 => yes ?_, fun h3 => no ?_⟩
            · have : v (n + 1) < v (pkA (A 7 3) u v n) := by omega
              simp [betB, h2, t0, this]
            · have : ¬ v (n + 1) < v (pkA (A 7 3) u v n) := by omega
              simp [betB, h2, t0, this]
        · have : ¬ u (pkA (A 7 3) u v n) < u (n + 1) := by omega
          simp [betB, h2, this]
      · rw [e72] at h
        omega
  refine e_B_choose ⟨fun h => ?_, fun h => ?_⟩
  · refine sm (a := 0) (by omega) ?_
    exact loop 1 (Or.inl ⟨by rw [← e73]; exact h, rfl⟩) (aN A - 1) 0 (by show 0 + 1 + ((A 7 2).toNat - 1) = (A 7 2).toNat; omega)
  · refine sm (a := 0) (by omega) ?_
    exact loop (-1) (Or.inr ⟨by rw [← e73]; exact h, rfl⟩) (aN A - 1) 0 (by show 0 + 1 + ((A 7 2).toNat - 1) = (A 7 2).toNat; omega)
