-- PURE, 1: sums, memories alike where it matters, what class and reference hold together
def sumN : Nat → (Nat → Int) → Int
  | 0, _ => 0
  | n + 1, f => sumN n f + f n
theorem sumN_congr {f g : Nat → Int} : ∀ {n : Nat}, (∀ i, i < n → f i = g i) → sumN n f = sumN n g
  | 0, _ => rfl
  | n + 1, h => by
    show sumN n f + f n = sumN n g + g n
    rw [sumN_congr (fun i hi => h i (by omega)), h n (by omega)]
theorem sumN_bd {f : Nat → Int} {B : Int} : ∀ {n : Nat}, (∀ i, i < n → -B ≤ f i ∧ f i ≤ B) → -((n : Int) * B) ≤ sumN n f ∧ sumN n f ≤ (n : Int) * B
  | 0, _ => by simp [sumN]
  | n + 1, h => by
    have h1 := sumN_bd (n := n) (f := f) (fun i hi => h i (by omega))
    have h2 := h n (by omega)
    have e : ((n + 1 : Nat) : Int) * B = (n : Int) * B + B := by rw [Int.natCast_add, Int.add_mul]; simp
    rw [e]
    show -((n : Int) * B + B) ≤ sumN n f + f n ∧ sumN n f + f n ≤ (n : Int) * B + B
    omega
theorem sumN_nn {f : Nat → Int} : ∀ {n : Nat}, (∀ i, i < n → 0 ≤ f i) → 0 ≤ sumN n f
  | 0, _ => Int.le_refl 0
  | n + 1, h => Int.add_nonneg (sumN_nn (fun i hi => h i (by omega))) (h n (by omega))
theorem sumN_pos {f : Nat → Int} {k : Nat} : ∀ {n : Nat}, (∀ i, i < n → 0 ≤ f i) → k < n → 0 < f k → 0 < sumN n f
  | 0, _, hk, _ => absurd hk (by omega)
  | n + 1, h, hk, hp => by
    show 0 < sumN n f + f n
    by_cases e : k = n
    · subst e
      have := sumN_nn (n := k) (f := f) (fun i hi => h i (by omega))
      omega
    · have := sumN_pos (n := n) (f := f) (fun i hi => h i (by omega)) (by omega) hp
      have := h n (by omega)
      omega
theorem sumN_mul {f : Nat → Int} {c : Int} : ∀ {n : Nat}, sumN n (fun i => c * f i) = c * sumN n f
  | 0 => by simp [sumN]
  | n + 1 => by
    show sumN n (fun i => c * f i) + c * f n = c * (sumN n f + f n)
    rw [sumN_mul, Int.mul_add]
theorem sumN_add {f g : Nat → Int} : ∀ {n : Nat}, sumN n (fun i => f i + g i) = sumN n f + sumN n g
  | 0 => rfl
  | n + 1 => by
    show sumN n (fun i => f i + g i) + (f n + g n) = (sumN n f + f n) + (sumN n g + g n)
    rw [sumN_add]
    omega
theorem sumN_0 {n : Nat} : sumN n (fun _ => 0) = 0 := by
  induction n with
  | zero => rfl
  | succ n ih => show sumN n _ + 0 = 0; rw [ih]; rfl
theorem sumN_z {f : Nat → Int} {n : Nat} (h : ∀ i, i < n → f i = 0) : sumN n f = 0 := (sumN_congr h).trans sumN_0
theorem sumN_swap {f : Nat → Nat → Int} {m : Nat} : ∀ {n : Nat}, sumN n (fun i => sumN m (fun j => f i j)) = sumN m (fun j => sumN n (fun i => f i j))
  | 0 => by
    show 0 = sumN m (fun j => 0)
    rw [sumN_0]
  | n + 1 => by
    show sumN n (fun i => sumN m (fun j => f i j)) + sumN m (fun j => f n j) = sumN m (fun j => sumN n (fun i => f i j) + f n j)
    rw [sumN_swap, sumN_add]
/-- the places that later answers depend on -/
def live (k i : Nat) : Bool := match k with
  | 0 => Nat.beq i 2
  | 1 => Nat.beq i 1
  | 2 => true
  | 6 => true
  | 48 => true
  | 49 => Nat.beq i 0 || Nat.beq i 1 || Nat.beq i 5 || Nat.beq i 6 || Nat.beq i 9 || Nat.beq i 12 || Nat.beq i 16 || Nat.beq i 18 || Nat.beq i 19 || Nat.beq i 55
  | 80 => true
  | k => (Nat.ble 7 k && Nat.ble k 34) || (Nat.ble 50 k && Nat.ble k 64)
def Eqv (A σ : Mem) : Prop := ∀ k i, live k i = true → σ k i = A k i
theorem Eqv.rfl {A : Mem} : Eqv A A := fun _ _ _ => Eq.refl _
theorem Eqv.trans {A B C : Mem} (h1 : Eqv A B) (h2 : Eqv B C) : Eqv A C := fun k i h => (h2 k i h).trans (h1 k i h)
theorem Eqv.symm {A B : Mem} (h : Eqv A B) : Eqv B A := fun k i hl => (h k i hl).symm
theorem Eqv.set {A σ : Mem} (h : Eqv A σ) {o i : Nat} {x : Int} (hl : live o i = false) : Eqv A (mset σ o i x) := fun k j hk => by
  show (if _ then _ else _) = _
  split
  · rename_i he
    rw [he.1, he.2, hl] at hk
    cases hk
  · exact h k j hk
theorem ms_eq {σ : Mem} {o i : Nat} {x : Int} : mset σ o i x o i = x := by simp [mset]
theorem ms_ne {σ : Mem} {o i k j : Nat} {x : Int} (h : k ≠ o ∨ j ≠ i) : mset σ o i x k j = σ k j := by
  simp only [mset]
  rw [if_neg]
  rintro ⟨rfl, rfl⟩
  rcases h with h | h <;> exact h rfl
/-- the scene of the class at cell b (7 the scene, 19 what is kept) beside one of the reference: ms f i (f: 0 the counts, 1 told, 2 before, 3 gets, 4 signs, 5 parts, 6 looks of tests, 7 costs, 8 shares, 9 thoughts) -/
def SR (b : Nat) (ms : Nat → Nat → Int) (A : Mem) : Prop :=
  (ms 0 0 = A b 1 ∧ ms 0 1 = A b 2 ∧ ms 0 2 = A b 3 ∧ ms 0 3 = A b 10 ∧ ms 0 4 = A b 13 ∧ ms 0 5 = A b 16) ∧
  (0 ≤ A b 1 ∧ A b 1 ≤ 4 ∧ 0 ≤ A b 2 ∧ A b 2 ≤ 6 ∧ (A b 3 = 0 ∨ A b 3 = 1) ∧ 0 ≤ A b 10 ∧ A b 10 ≤ 12 ∧ 0 ≤ A b 13 ∧ A b 13 ≤ 6 ∧ 0 ≤ A b 16 ∧ A b 16 ≤ 4) ∧
  ((A b 0 = 0 ∧ A b 1 = 0) ∨ (A b 0 = 1 ∧ 1 ≤ A b 1 ∧ 1 ≤ A b 2)) ∧
  (∀ t : Nat, (t : Int) < A b 1 → ms 1 t = A (b + 1) t ∧ 1 ≤ A (b + 1) t ∧ A (b + 1) t ≤ 99 ∧ ms 2 t = A (b + 2) t ∧ 1 ≤ A (b + 2) t ∧ A (b + 2) t ≤ 99) ∧
  A b 6 = sumN (A b 1).toNat (fun t => A (b + 2) t) ∧
  (∀ a t : Nat, (a : Int) < A b 2 → (t : Int) < A b 1 → (ms 3 (4 * a + t) = A (b + 3) (4 * a + t) ∧ -99 ≤ A (b + 3) (4 * a + t) ∧ A (b + 3) (4 * a + t) ≤ 99) ∧ (ms 3 (24 + 4 * a + t) = A (b + 4) (4 * a + t) ∧ -99 ≤ A (b + 4) (4 * a + t) ∧ A (b + 4) (4 * a + t) ≤ 99) ∧ (ms 3 (48 + 4 * a + t) = A (b + 5) (4 * a + t) ∧ -99 ≤ A (b + 5) (4 * a + t) ∧ A (b + 5) (4 * a + t) ≤ 99)) ∧
  (∀ l : Nat, (l : Int) < A b 10 → ms 4 l = A (b + 6) l ∧ 1 ≤ A (b + 6) l ∧ A (b + 6) l ≤ 6) ∧
  (∀ l t s : Nat, (l : Int) < A b 10 → (t : Int) < A b 1 → (s : Int) < A (b + 6) l → ms 5 (24 * l + 6 * t + s) = A (b + 7) (24 * l + 6 * t + s) ∧ 0 ≤ A (b + 7) (24 * l + 6 * t + s) ∧ A (b + 7) (24 * l + 6 * t + s) ≤ 60) ∧
  (∀ l t : Nat, (l : Int) < A b 10 → (t : Int) < A b 1 → sumN (A (b + 6) l).toNat (fun s => A (b + 7) (24 * l + 6 * t + s)) = 60) ∧
  (∀ i : Nat, (i : Int) < A b 13 → ms 6 i = A (b + 8) i ∧ 0 ≤ A (b + 8) i ∧ A (b + 8) i < A b 10 ∧ ms 7 i = A (b + 9) i ∧ 0 ≤ A (b + 9) i ∧ A (b + 9) i ≤ 99) ∧
  (∀ i : Nat, (i : Int) < A b 16 → ms 8 i = A (b + 11) i ∧ 1 ≤ A (b + 11) i ∧ A (b + 11) i ≤ 99 ∧ ∃ g : Int, 1 ≤ g ∧ (∀ t : Nat, t < 4 → A (b + 10) (4 * i + t) = g * ms 9 (4 * i + t) ∧ 0 ≤ A (b + 10) (4 * i + t) ∧ A (b + 10) (4 * i + t) ≤ 99 ∧ 0 ≤ ms 9 (4 * i + t) ∧ (A b 1 ≤ (t : Int) → A (b + 10) (4 * i + t) = 0)) ∧ 1 ≤ sumN 4 (fun t => A (b + 10) (4 * i + t)))
def mLive (A : Mem) (f i : Nat) : Int := match f with
  | 0 => match i with
    | 0 => A 49 0
    | 1 => A 49 1
    | 2 => A 49 5
    | 3 => A 49 6
    | 4 => A 49 9
    | _ => A 49 12
  | 1 => A 50 i
  | 2 => A 51 i
  | 3 => A 52 i
  | 4 => A 53 i
  | 5 => A 54 i
  | 6 => A 55 i
  | 7 => A 56 i
  | 8 => A 58 i
  | _ => A 57 i
def mImg (A : Mem) (f i : Nat) : Int := match f with
  | 0 => A 80 i
  | 1 => A 80 (6 + 2 * i)
  | 2 => A 80 (7 + 2 * i)
  | 3 => A 80 (14 + i)
  | 4 => A 80 (86 + i)
  | 5 => A 80 (98 + i)
  | 6 => A 80 (386 + 3 * i)
  | 7 => A 80 (387 + 3 * i)
  | 8 => A 80 (388 + 3 * i)
  | _ => A 80 (404 + i)
/-- what may be taken back leaves looks and tests that fit, however often it is done (g: looks of tests, f: kinds) -/
def VU (g f : Nat → Int) : Nat → Int → Int → Prop
  | 0, l, t => 0 ≤ l ∧ 0 ≤ t ∧ ∀ i : Nat, (i : Int) < t → g i < l
  | n + 1, l, t => (0 ≤ l ∧ 0 ≤ t ∧ ∀ i : Nat, (i : Int) < t → g i < l) ∧ VU g f n (l - (if f n = 0 then 1 else 0)) (t - (if f n = 1 then 1 else 0))
def PastR (A : Mem) : Prop :=
  A 31 0 = A 49 19 ∧ 0 ≤ A 31 0 ∧ A 31 0 ≤ 30 ∧
  (∀ j : Nat, (j : Int) < A 31 0 → (A 32 j = 0 ∧ A 61 j = 0) ∨ (A 32 j = 1 ∧ A 61 j = 1) ∨ (A 32 j = 3 ∧ A 61 j = 2 ∧ A 34 j = A 63 j ∧ (A 34 j = 0 ∨ A 34 j = 1)) ∨ (A 32 j = 2 ∧ A 61 j = 3 ∧ A 62 j = A 33 j + 48 ∧ A 34 j = A 63 j ∧ -99 ≤ A 34 j ∧ A 34 j ≤ 99 ∧ ∃ a t : Nat, (a : Int) < A 7 2 ∧ (t : Int) < A 7 1 ∧ A 33 j = ((4 * a + t : Nat) : Int))) ∧
  VU (A 15) (A 32) (A 31 0).toNat (A 7 10) (A 7 13)
def RR (A : Mem) : Prop :=
  SR 7 (mLive A) A ∧ ((A 19 0 = 0 ∧ A 49 55 = 0) ∨ (A 19 0 = 1 ∧ A 49 55 = 1 ∧ SR 19 (mImg A) A)) ∧ PastR A ∧
  (A 0 2 = A 49 16 ∧ 0 ≤ A 0 2 ∧ A 0 2 ≤ 24 ∧ ∀ j : Nat, (j : Int) < A 0 2 → A 6 j = A 59 j ∧ 0 ≤ A 6 j ∧ A 6 j ≤ 60) ∧
  (A 1 1 = A 49 18 ∧ 0 ≤ A 1 1 ∧ A 1 1 ≤ 90 ∧ ∀ j : Nat, (j : Int) < A 1 1 → A 2 j = A 60 j ∧ 0 ≤ A 2 j ∧ A 2 j ≤ 255) ∧
  ∀ j : Nat, j < 7 → A 48 j = A 64 j
