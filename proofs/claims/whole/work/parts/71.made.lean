-- PURE, 42: made
def prN (f : Nat → Int) : Nat → Int
  | 0 => 1
  | k + 1 => prN f k * f k
def prX (f : Nat → Int) (i : Nat) : Nat → Int
  | 0 => 1
  | k + 1 => if k = i then prX f i k else prX f i k * f k
theorem prN_bd {f : Nat → Int} {B : Int} (hB : 0 ≤ B) : ∀ {k : Nat}, (∀ i, i < k → 0 ≤ f i ∧ f i ≤ B) → 0 ≤ prN f k ∧ prN f k ≤ B ^ k
  | 0, _ => ⟨(by decide : (0 : Int) ≤ 1), by rw [Int.pow_zero]; exact Int.le_refl 1⟩
  | k + 1, h => by
    have ih := prN_bd hB (k := k) (fun i hi => h i (by omega))
    have h2 := h k (by omega)
    rw [Int.pow_succ]
    exact ⟨Int.mul_nonneg ih.1 h2.1, Int.mul_le_mul ih.2 h2.2 h2.1 (Int.le_trans ih.1 ih.2)⟩
theorem prX_bd {f : Nat → Int} {B : Int} {x : Nat} (hB : 1 ≤ B) : ∀ {k : Nat}, (∀ i, i < k → 0 ≤ f i ∧ f i ≤ B) → 0 ≤ prX f x k ∧ prX f x k ≤ B ^ k
  | 0, _ => ⟨(by decide : (0 : Int) ≤ 1), by rw [Int.pow_zero]; exact Int.le_refl 1⟩
  | k + 1, h => by
    have ih := prX_bd (x := x) hB (k := k) (fun i hi => h i (by omega))
    have h2 := h k (by omega)
    have hp : 0 ≤ B ^ k := Int.le_trans ih.1 ih.2
    rw [Int.pow_succ]
    unfold prX
    split
    · refine ⟨ih.1, Int.le_trans ih.2 ?_⟩
      have : B ^ k * 1 ≤ B ^ k * B := Int.mul_le_mul_of_nonneg_left hB hp
      omega
    · exact ⟨Int.mul_nonneg ih.1 h2.1, Int.mul_le_mul ih.2 h2.2 h2.1 hp⟩
theorem prX_ge {f : Nat → Int} {x : Nat} : ∀ {k : Nat}, k ≤ x → prX f x k = prN f k
  | 0, _ => rfl
  | k + 1, h => by
    show (if k = x then prX f x k else prX f x k * f k) = prN f k * f k
    rw [if_neg (by omega), prX_ge (by omega)]
theorem prN_mul {f g : Nat → Int} : ∀ {k : Nat}, prN (fun i => f i * g i) k = prN f k * prN g k
  | 0 => rfl
  | k + 1 => by
    show prN (fun i => f i * g i) k * (f k * g k) = (prN f k * f k) * (prN g k * g k)
    rw [prN_mul]
    grind
theorem prX_mul {f g : Nat → Int} {x : Nat} : ∀ {k : Nat}, prX (fun i => f i * g i) x k = prX f x k * prX g x k
  | 0 => rfl
  | k + 1 => by
    show (if k = x then prX (fun i => f i * g i) x k else prX (fun i => f i * g i) x k * (f k * g k)) = (if k = x then prX f x k else prX f x k * f k) * (if k = x then prX g x k else prX g x k * g k)
    rw [prX_mul]
    split
    · rfl
    · grind
theorem prX_N {f : Nat → Int} {x : Nat} : ∀ {k : Nat}, x < k → f x * prX f x k = prN f k
  | 0, h => absurd h (by omega)
  | k + 1, h => by
    show f x * (if k = x then prX f x k else prX f x k * f k) = prN f k * f k
    by_cases e : k = x
    · subst e
      rw [if_pos rfl, prX_ge (Nat.le_refl _), Int.mul_comm]
    · rw [if_neg e, ← Int.mul_assoc, prX_N (by omega)]
theorem prN_congr {f g : Nat → Int} : ∀ {k : Nat}, (∀ i, i < k → f i = g i) → prN f k = prN g k
  | 0, _ => rfl
  | k + 1, h => by
    show prN f k * f k = prN g k * g k
    rw [prN_congr (fun i hi => h i (by omega)), h k (by omega)]
theorem prX_congr {f g : Nat → Int} {x : Nat} : ∀ {k : Nat}, (∀ i, i < k → f i = g i) → prX f x k = prX g x k
  | 0, _ => rfl
  | k + 1, h => by
    show (if k = x then prX f x k else prX f x k * f k) = (if k = x then prX g x k else prX g x k * g k)
    rw [prX_congr (fun i hi => h i (by omega)), h k (by omega)]
def RQ (A : Mem) : Prop := SR 7 (mLive A) A ∧ True
abbrev thN (A : Mem) : Nat := (A 7 16).toNat
def totC (A : Mem) (i : Nat) : Int := sumN 4 (fun t => A 17 (4 * i + t))
def totM (A : Mem) (i : Nat) : Int := sumN 4 (fun t => A 57 (4 * i + t))
def shS (A : Mem) : Int := sumN (thN A) (fun i => A 18 i)
def dueC (A : Mem) (t : Nat) : Int := A 9 t * shS A * prN (totC A) (thN A)
def sumC (A : Mem) (t : Nat) : Int := sumN (thN A) (fun i => A 7 6 * A 18 i * A 17 (4 * i + t) * prX (totC A) i (thN A))
def dueM (A : Mem) (t : Nat) : Int := shS A * A 9 t * prN (totM A) (thN A)
def sumM (A : Mem) (t : Nat) : Int := sumN (thN A) (fun i => A 18 i * A 57 (4 * i + t) * A 7 6 * prX (totM A) i (thN A))
theorem thE {A : Mem} (hR : RQ A) : A 7 16 = ((thN A : Nat) : Int) ∧ thN A ≤ 4 ∧ A 49 12 = ((thN A : Nat) : Int) := by
  have s1 := hR.1.2.1.2.2.2.2.2.2.2.2.2
  have s2 : A 49 12 = A 7 16 := hR.1.1.2.2.2.2.2
  refine ⟨?_, ?_, ?_⟩
  · show A 7 16 = ((A 7 16).toNat : Int); omega
  · show (A 7 16).toNat ≤ 4; omega
  · show A 49 12 = ((A 7 16).toNat : Int); omega
theorem thR {A : Mem} (hR : RQ A) {i : Nat} (hi : i < thN A) : A 58 i = A 18 i ∧ 1 ≤ A 18 i ∧ A 18 i ≤ 99 ∧ ∃ g : Int, 1 ≤ g ∧ (∀ t : Nat, t < 4 → A 17 (4 * i + t) = g * A 57 (4 * i + t) ∧ 0 ≤ A 17 (4 * i + t) ∧ A 17 (4 * i + t) ≤ 99 ∧ 0 ≤ A 57 (4 * i + t) ∧ (A 7 1 ≤ (t : Int) → A 17 (4 * i + t) = 0)) ∧ 1 ≤ sumN 4 (fun t => A 17 (4 * i + t)) := by
  have hi2 : i < (A 7 16).toNat := hi
  exact hR.1.2.2.2.2.2.2.2.2.2.2 i (by omega)
theorem th57 {A : Mem} (hR : RQ A) {i t : Nat} (hi : i < thN A) (ht : t < 4) : 0 ≤ A 57 (4 * i + t) ∧ A 57 (4 * i + t) ≤ 99 := by
  obtain ⟨-, -, -, g, hg, h, -⟩ := thR hR hi
  have h1 := h t ht
  refine ⟨h1.2.2.2.1, ?_⟩
  have : 1 * A 57 (4 * i + t) ≤ g * A 57 (4 * i + t) := Int.mul_le_mul_of_nonneg_right hg h1.2.2.2.1
  rw [← h1.1] at this
  omega
theorem tot_b {A : Mem} (hR : RQ A) {i : Nat} (hi : i < thN A) : (1 ≤ totC A i ∧ totC A i ≤ 396) ∧ (0 ≤ totM A i ∧ totM A i ≤ 396) := by
  obtain ⟨-, -, -, g, hg, h, h9⟩ := thR hR hi
  have c0 := h 0 (by omega)
  have c1 := h 1 (by omega)
  have c2 := h 2 (by omega)
  have c3 := h 3 (by omega)
  have m0 := th57 hR hi (t := 0) (by omega)
  have m1 := th57 hR hi (t := 1) (by omega)
  have m2 := th57 hR hi (t := 2) (by omega)
  have m3 := th57 hR hi (t := 3) (by omega)
  refine ⟨⟨h9, ?_⟩, ?_⟩
  · show 0 + A 17 (4 * i + 0) + A 17 (4 * i + 1) + A 17 (4 * i + 2) + A 17 (4 * i + 3) ≤ 396
    omega
  · show 0 ≤ 0 + A 57 (4 * i + 0) + A 57 (4 * i + 1) + A 57 (4 * i + 2) + A 57 (4 * i + 3) ∧ 0 + A 57 (4 * i + 0) + A 57 (4 * i + 1) + A 57 (4 * i + 2) + A 57 (4 * i + 3) ≤ 396
    omega
/-- both say the same of a truth -/
theorem made_iff {A : Mem} (hR : RQ A) {t : Nat} (ht : t < tN A) : (sumC A t = dueC A t ↔ sumM A t = dueM A t) := by
  have h4 := tN4 hR.1
  have hg : ∃ g : Nat → Int, ∀ i, i < thN A → 1 ≤ g i ∧ ∀ t, t < 4 → A 17 (4 * i + t) = g i * A 57 (4 * i + t) := by
    have : ∀ i, ∃ x : Int, i < thN A → 1 ≤ x ∧ ∀ t, t < 4 → A 17 (4 * i + t) = x * A 57 (4 * i + t) := fun i => by
      by_cases hi : i < thN A
      · obtain ⟨-, -, -, g, hg, h, -⟩ := thR hR hi
        exact ⟨g, fun _ => ⟨hg, fun t ht => (h t ht).1⟩⟩
      · exact ⟨1, fun h => absurd h hi⟩
    exact Classical.skolem.mp this
  obtain ⟨g, hg⟩ := hg
  have tc : ∀ i, i < thN A → totC A i = g i * totM A i := fun i hi => by
    unfold totC totM
    rw [← sumN_mul]
    exact sumN_congr (fun t ht => (hg i hi).2 t ht)
  have hG : 1 ≤ prN g (thN A) := by
    have : ∀ k, k ≤ thN A → 1 ≤ prN g k := by
      intro k
      induction k with
      | zero => intro _; exact Int.le_refl _
      | succ k ih =>
        intro hk
        have h1 := ih (by omega)
        have h2 := (hg k (by omega)).1
        show 1 ≤ prN g k * g k
        have : 1 * 1 ≤ prN g k * g k := Int.mul_le_mul h1 h2 (by decide) (by omega)
        omega
    exact this _ (Nat.le_refl _)
  have e1 : dueC A t = prN g (thN A) * dueM A t := by
    unfold dueC dueM
    rw [prN_congr tc, prN_mul]
    grind
  have e2 : sumC A t = prN g (thN A) * sumM A t := by
    unfold sumC sumM
    rw [← sumN_mul]
    refine sumN_congr (fun i hi => ?_)
    rw [prX_congr (x := i) tc, prX_mul, (hg i hi).2 t (by omega), ← prX_N (f := g) hi]
    grind
  rw [e1, e2]
  constructor
  · intro h
    exact Int.eq_of_mul_eq_mul_left (by omega) h
  · intro h
    rw [h]
theorem sp_S_thoughtTotal {d : Nat} {A σ : Mem} {Q : Int → Mem → Prop} (hR : RQ A) (hE : Eqv A σ) {i : Nat} (hi : i < thN A) (hQ : Q (totC A i) σ) : wp (d + 1) m_S_thoughtTotal [.inr (.inr 7), .inl (i : Int)] σ Q := by
  have hT := thE hR
  obtain ⟨-, -, -, g, hg, h, -⟩ := thR hR hi
  refine e_S_thoughtTotal ?_
  have e0 : w32 ((i : Int) * 4) = ((4 * i : Nat) : Int) := w32_eq (by omega) (by omega)
  refine upto (n := 4) (P := fun t => K_S_thoughtTotal_5 d Q (i : Int) (sumN t (fun t => A 17 (4 * i + t))) ((t : Nat) : Int) σ) ?_ (fun t ht ih => ?_)
  · exact e_S_thoughtTotal_5 ⟨fun h => by omega, fun _ => hQ⟩
  · have e1 : w32 ((t : Int) + 1) = ((t + 1 : Nat) : Int) := w32_eq (by omega) (by omega)
    have e2 : w32 (((4 * i : Nat) : Int) + (t : Int)) = ((4 * i + t : Nat) : Int) := w32_eq (by omega) (by omega)
    have b1 := sumN_bd (n := t) (f := fun t => A 17 (4 * i + t)) (B := 99) (fun j hj => by have := h j (by omega); constructor <;> omega)
    have b2 := h t ht
    refine e_S_thoughtTotal_5 ⟨fun _ => ?_, fun h => by omega⟩
    rw [e0, e1, e2, Int.toNat_natCast, hE 17 _ rfl, w64_id (by omega) (by omega)]
    exact ⟨⟨by omega, by omega⟩, ih⟩
theorem shS_bd {A : Mem} (hR : RQ A) {k : Nat} (hk : k ≤ thN A) : 0 ≤ sumN k (fun i => A 18 i) ∧ sumN k (fun i => A 18 i) ≤ 396 := by
  have hT := thE hR
  have b := sumN_bd (n := k) (f := fun i => A 18 i) (B := 99) (fun j hj => by have := thR hR (i := j) (by omega); constructor <;> omega)
  have c := sumN_nn (n := k) (f := fun i => A 18 i) (fun j hj => by have := thR hR (i := j) (by omega); omega)
  omega
theorem sp_S_allShares {d : Nat} {A σ : Mem} {Q : Int → Mem → Prop} (hR : RQ A) (hE : Eqv A σ) (hQ : Q (shS A) σ) : wp (d + 1) m_S_allShares [.inr (.inr 7)] σ Q := by
  have hT := thE hR
  have e16 : σ 7 16 = ((thN A : Nat) : Int) := by rw [hE 7 16 rfl]; exact hT.1
  refine e_S_allShares ?_
  refine upto (n := thN A) (P := fun i => K_S_allShares_4 d Q (sumN i (fun i => A 18 i)) ((i : Nat) : Int) σ) ?_ (fun i hi ih => ?_)
  · exact e_S_allShares_4 ⟨fun h => by omega, fun _ => hQ⟩
  · have e1 : w32 ((i : Int) + 1) = ((i + 1 : Nat) : Int) := w32_eq (by omega) (by omega)
    have b1 : 0 ≤ sumN i (fun i => A 18 i) + A 18 i ∧ sumN i (fun i => A 18 i) + A 18 i ≤ 396 := shS_bd hR (k := i + 1) (by omega)
    refine e_S_allShares_4 ⟨fun _ => ⟨⟨by omega, by omega⟩, ?_⟩, fun h => by omega⟩
    rw [e1, Int.toNat_natCast, hE 18 _ rfl, w64_id (by omega) (by omega)]
    exact ih
theorem sp_M_allShares {d : Nat} {A σ : Mem} {Q : Int → Mem → Prop} (hR : RQ A) (hE : Eqv A σ) (hQ : Q (shS A) σ) : wp (d + 1) m_M_allShares [.inr (.inr 49)] σ Q := by
  have hT := thE hR
  have e16 : σ 49 12 = ((thN A : Nat) : Int) := by rw [hE 49 12 rfl]; exact hT.2.2
  refine e_M_allShares ?_
  refine upto (n := thN A) (P := fun i => K_M_allShares_4 d Q (sumN i (fun i => A 18 i)) ((i : Nat) : Int) σ) ?_ (fun i hi ih => ?_)
  · exact e_M_allShares_4 ⟨fun h => by omega, fun _ => hQ⟩
  · have e1 : w32 ((i : Int) + 1) = ((i + 1 : Nat) : Int) := w32_eq (by omega) (by omega)
    have b1 : 0 ≤ sumN i (fun i => A 18 i) + A 18 i ∧ sumN i (fun i => A 18 i) + A 18 i ≤ 396 := shS_bd hR (k := i + 1) (by omega)
    refine e_M_allShares_4 ⟨fun _ => ⟨⟨by omega, by omega⟩, ?_⟩, fun h => by omega⟩
    rw [e1, Int.toNat_natCast, hE 58 _ rfl, (thR hR hi).1, w32_id (by omega) (by omega)]
    exact ih
theorem sp_M_allOf {d : Nat} {A σ : Mem} {Q : Int → Mem → Prop} (hR : RQ A) (hE : Eqv A σ) {i : Nat} (hi : i < thN A) (hQ : Q (totM A i) σ) : wp (d + 1) m_M_allOf [.inr (.inr 49), .inl (i : Int)] σ Q := by
  have hT := thE hR
  have e0 : w32 (4 * (i : Int)) = ((4 * i : Nat) : Int) := w32_eq (by omega) (by omega)
  have e1 : w32 (((4 * i : Nat) : Int) + 1) = ((4 * i + 1 : Nat) : Int) := w32_eq (by omega) (by omega)
  have e2 : w32 (((4 * i : Nat) : Int) + 2) = ((4 * i + 2 : Nat) : Int) := w32_eq (by omega) (by omega)
  have e3 : w32 (((4 * i : Nat) : Int) + 3) = ((4 * i + 3 : Nat) : Int) := w32_eq (by omega) (by omega)
  have m0 := th57 hR hi (t := 0) (by omega)
  have m1 := th57 hR hi (t := 1) (by omega)
  have m2 := th57 hR hi (t := 2) (by omega)
  have m3 := th57 hR hi (t := 3) (by omega)
  rw [Nat.add_zero] at m0
  have hq : totM A i = A 57 (4 * i) + A 57 (4 * i + 1) + A 57 (4 * i + 2) + A 57 (4 * i + 3) := by
    show 0 + A 57 (4 * i + 0) + A 57 (4 * i + 1) + A 57 (4 * i + 2) + A 57 (4 * i + 3) = _
    rw [Nat.add_zero]
    omega
  refine e_M_allOf ?_
  rw [e0, e1, e2, e3, Int.toNat_natCast, Int.toNat_natCast, Int.toNat_natCast, Int.toNat_natCast, hE 57 _ rfl, hE 57 _ rfl, hE 57 _ rfl, hE 57 _ rfl, w32_id (x := A 57 (4 * i) + A 57 (4 * i + 1)) (by omega) (by omega), w32_id (x := A 57 (4 * i) + A 57 (4 * i + 1) + A 57 (4 * i + 2)) (by omega) (by omega), w32_id (by omega) (by omega), ← hq]
  exact ⟨⟨by omega, by omega⟩, ⟨by omega, by omega⟩, ⟨by omega, by omega⟩, ⟨by omega, by omega⟩, hQ⟩
