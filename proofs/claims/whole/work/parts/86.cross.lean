-- two truths: rising rows, and how the class keeps its crossings
def SL (a b : Nat → Int) (n : Nat) : Prop := (∀ i, i < n → 0 ≤ a i ∧ a i ≤ b i ∧ 1 ≤ b i ∧ b i ≤ 396) ∧ (∀ i j, i < j → j < n → a i * b j < a j * b i)
def has (a b : Nat → Int) (n : Nat) (p q : Int) : Prop := ∃ i, i < n ∧ a i * q = p * b i
theorem SL.ins {a b a2 b2 : Nat → Int} {n k : Nat} {p q : Int} (h : SL a b n) (hk : k ≤ n) (hp : 0 ≤ p ∧ p ≤ q ∧ 1 ≤ q ∧ q ≤ 396) (lo : ∀ i, i < k → a i * q < p * b i) (hi : k < n → p * b k < a k * q)
    (e1 : ∀ i, i < k → a2 i = a i ∧ b2 i = b i) (e2 : a2 k = p ∧ b2 k = q) (e3 : ∀ i, k < i → i < n + 1 → a2 i = a (i - 1) ∧ b2 i = b (i - 1)) : SL a2 b2 (n + 1) ∧ (∀ p2 q2, has a b n p2 q2 → has a2 b2 (n + 1) p2 q2) ∧ has a2 b2 (n + 1) p q := by
  have hi2 : ∀ j, k ≤ j → j < n → p * b j < a j * q := fun j hj hn => by
    rcases Nat.lt_or_eq_of_le hj with z | z
    · have b1 := h.1 k (by omega)
      have b2 := h.1 j hn
      exact fr_le_lt (by omega) (by omega) (by omega) (Int.le_of_lt (hi (by omega))) (h.2 k j z hn)
    · subst z; exact hi hn
  refine ⟨⟨fun i hin => ?_, fun i j hij hj => ?_⟩, fun p2 q2 hh => ?_, ⟨k, by omega, by rw [e2.1, e2.2]⟩⟩
  · rcases Nat.lt_trichotomy i k with z | z | z
    · rw [(e1 i z).1, (e1 i z).2]; exact h.1 i (by omega)
    · subst z; rw [e2.1, e2.2]; exact hp
    · rw [(e3 i z hin).1, (e3 i z hin).2]; exact h.1 (i - 1) (by omega)
  · rcases Nat.lt_trichotomy j k with z | z | z
    · rw [(e1 i (by omega)).1, (e1 i (by omega)).2, (e1 j z).1, (e1 j z).2]; exact h.2 i j hij (by omega)
    · subst z; rw [(e1 i hij).1, (e1 i hij).2, e2.1, e2.2]; exact lo i hij
    · rw [(e3 j z hj).1, (e3 j z hj).2]
      rcases Nat.lt_trichotomy i k with y | y | y
      · rw [(e1 i y).1, (e1 i y).2]; exact h.2 i (j - 1) (by omega) (by omega)
      · subst y; rw [e2.1, e2.2]; exact hi2 (j - 1) (by omega) (by omega)
      · rw [(e3 i y (by omega)).1, (e3 i y (by omega)).2]; exact h.2 (i - 1) (j - 1) (by omega) (by omega)
  · obtain ⟨i, i1, i2⟩ := hh
    by_cases z : i < k
    · exact ⟨i, by omega, by rw [(e1 i z).1, (e1 i z).2]; exact i2⟩
    · refine ⟨i + 1, by omega, ?_⟩
      rw [(e3 (i + 1) (by omega) (by omega)).1, (e3 (i + 1) (by omega) (by omega)).2]
      exact i2
def CF (σ σ1 : Mem) : Prop := ∀ k i, k ≠ 40 → k ≠ 41 → ¬ (k = 39 ∧ i = 4) → σ1 k i = σ k i
theorem m396 {x y : Int} (hx : 0 ≤ x ∧ x ≤ 396) (hy : 0 ≤ y ∧ y ≤ 396) : w64 (x * y) = x * y := by
  have := mul_bd (x := x) (y := y) (X := 396) (Y := 396) ⟨by omega, by omega⟩ ⟨by omega, by omega⟩
  exact w64_id (by omega) (by omega)
theorem sp_L_shift {d : Nat} {σ : Mem} {Q : Int → Mem → Prop} {n k : Nat} {p q : Int} (hn : σ 39 4 = (n : Int)) (hn3 : n < 34) (hk : k ≤ n) (hQ : ∀ σ1, CF σ σ1 → σ1 39 4 = ((n + 1 : Nat) : Int) → (∀ i, i < k → σ1 40 i = σ 40 i ∧ σ1 41 i = σ 41 i) → (σ1 40 k = p ∧ σ1 41 k = q) → (∀ i, k < i → i < n + 1 → σ1 40 i = σ 40 (i - 1) ∧ σ1 41 i = σ 41 (i - 1)) → Q 0 σ1) : K_L_cross_88 d Q p q (k : Int) (n : Int) σ := by
  have go : ∀ m x : Nat, x = k + m → x ≤ n → ∀ τ : Mem, (∀ c i, c ≠ 40 → c ≠ 41 → τ c i = σ c i) → (∀ i, i ≤ x → τ 40 i = σ 40 i ∧ τ 41 i = σ 41 i) → (∀ i, x < i → i < n + 1 → τ 40 i = σ 40 (i - 1) ∧ τ 41 i = σ 41 (i - 1)) → K_L_cross_88 d Q p q (k : Int) (x : Int) τ := by
    intro m
    induction m with
    | zero =>
      intro x hx hxn τ hF h1 h2
      have hx2 : x = k := by omega
      subst hx2
      refine e_L_cross_88 ⟨fun h => by omega, fun _ => ⟨⟨by omega, by omega⟩, ⟨by omega, by omega⟩, ?_⟩⟩
      rw [Int.toNat_natCast, ms_nk (by decide), ms_nk (by decide), hF 39 4 (by decide) (by decide), hn, w32_eq (n := n + 1) (by omega) (by omega)]
      refine hQ _ (fun c i c1 c2 c3 => ?_) ms_eq (fun i hi => ?_) ⟨?_, ?_⟩ (fun i hi hi2 => ?_)
      · rw [ms_ne (by omega), ms_nk c2, ms_nk c1]; exact hF c i c1 c2
      · rw [ms_nk (by decide), ms_nk (by decide), ms_ni (by omega), ms_nk (by decide), ms_ni (by omega)]; exact h1 i (by omega)
      · rw [ms_nk (by decide), ms_nk (by decide), ms_eq]
      · rw [ms_nk (by decide), ms_eq]
      · rw [ms_nk (by decide), ms_nk (by decide), ms_ni (by omega), ms_nk (by decide), ms_ni (by omega)]; exact h2 i hi hi2
    | succ m ih =>
      intro x hx hxn τ hF h1 h2
      have e1 : w32 ((x : Int) - 1) = ((x - 1 : Nat) : Int) := w32_eq (by omega) (by omega)
      have e2 : w32 ((x : Int) + (-1)) = ((x - 1 : Nat) : Int) := w32_eq (by omega) (by omega)
      refine e_L_cross_88 ⟨fun _ => ?_, fun h => by omega⟩
      rw [e1, e2, Int.toNat_natCast, Int.toNat_natCast, ms_nk (by decide)]
      refine ⟨⟨by omega, by omega⟩, ⟨by omega, by omega⟩, ⟨by omega, by omega⟩, ⟨by omega, by omega⟩, ih (x - 1) (by omega) (by omega) _ (fun c i c1 c2 => ?_) (fun i hi => ?_) (fun i hi hi2 => ?_)⟩
      · rw [ms_nk c2, ms_nk c1]; exact hF c i c1 c2
      · rw [ms_nk (by decide), ms_ni (by omega), ms_ni (by omega)]; exact h1 i (by omega)
      · by_cases e : i = x
        · subst e
          rw [ms_nk (by decide), ms_eq, ms_eq]
          exact h1 (i - 1) (by omega)
        · rw [ms_nk (by decide), ms_ni e, ms_ni e]; exact h2 i (by omega) hi2
  exact go (n - k) n (by omega) (Nat.le_refl n) σ (fun _ _ _ _ => rfl) (fun _ _ => ⟨rfl, rfl⟩) (fun i h1 h2 => by omega)
theorem sp_L_cross {d : Nat} {σ : Mem} {Q : Int → Mem → Prop} {n : Nat} {p q : Int} (hS : SL (σ 40) (σ 41) n) (hn : σ 39 4 = (n : Int)) (hn3 : n < 34) (hp : 0 ≤ p ∧ p ≤ q ∧ 1 ≤ q ∧ q ≤ 396) (hQ : ∀ σ1 m, CF σ σ1 → σ1 39 4 = ((m : Nat) : Int) → n ≤ m → m ≤ n + 1 → SL (σ1 40) (σ1 41) m → (∀ p2 q2, has (σ 40) (σ 41) n p2 q2 → has (σ1 40) (σ1 41) m p2 q2) → has (σ1 40) (σ1 41) m p q → Q 0 σ1) : wp (d + 1) m_L_cross [.inr (.inr 39), .inr (.inl p), .inr (.inl q)] σ Q := by
  have ins : ∀ k : Nat, k ≤ n → (∀ i, i < k → σ 40 i * q < p * σ 41 i) → (k < n → p * σ 41 k < σ 40 k * q) → K_L_cross_88 d Q p q (k : Int) (n : Int) σ := fun k hk lo hi => sp_L_shift hn hn3 hk (fun σ1 hF h4 g1 g2 g3 => by
    have z := SL.ins hS hk hp lo hi g1 g2 g3
    exact hQ σ1 (n + 1) hF h4 (by omega) (by omega) z.1 z.2.1 z.2.2)
  refine e_L_cross ?_
  refine upto (n := n) (P := fun k => (∀ i, i < k → σ 40 i * q < p * σ 41 i) → K_L_cross_3 d Q p q ((k : Nat) : Int) σ) (fun lo => e_L_cross_3 ⟨fun h => by omega, fun _ => ⟨fun h => by omega, fun _ => ⟨fun _ => ?_, fun h => by omega⟩⟩⟩) (fun k hk ih lo => e_L_cross_3 ⟨fun _ => ⟨⟨by omega, by omega⟩, ⟨by omega, by omega⟩, ?_⟩, fun h => by omega⟩) (fun i hi => absurd hi (by omega))
  · rw [hn]; exact ins n (Nat.le_refl n) lo (fun h => by omega)
  · have bk := hS.1 k hk
    have e1 : w32 ((k : Int) + 1) = ((k + 1 : Nat) : Int) := w32_eq (by omega) (by omega)
    rw [e1, Int.toNat_natCast, m396 ⟨bk.1, by omega⟩ ⟨by omega, hp.2.2.2⟩, m396 ⟨hp.1, by omega⟩ ⟨by omega, bk.2.2.2⟩]
    refine ⟨fun h => ih (fun i hi => ?_), fun h => ⟨fun _ => ⟨⟨by omega, by omega⟩, ⟨by omega, by omega⟩, fun h2 => ?_, fun h2 => ⟨fun _ => ?_, fun h3 => by omega⟩⟩, fun h2 => by omega⟩⟩
    · by_cases e : i = k
      · subst e; exact h
      · exact lo i (by omega)
    · exact hQ σ n (fun _ _ _ _ _ => rfl) hn (Nat.le_refl n) (by omega) hS (fun _ _ z => z) ⟨k, hk, h2⟩
    · rw [hn]; exact ins k (by omega) lo (fun _ => by omega)
theorem dd_neg {A : Mem} {pay a b t : Nat} : dd A pay a b t = - dd A pay b a t := by unfold dd; omega
theorem opp_neg {x y : Int} : opp (-x) (-y) ↔ opp x y := by unfold opp; omega
theorem rA_neg {x : Int} : rA (-x) = rA x := by unfold rA; omega
theorem rB_neg {x y : Int} : rB (-x) (-y) = rB x y := by unfold rB; omega
theorem dd_bd {A : Mem} (hR : SR 7 (mLive A) A) (h2 : A 7 1 = 2) {pay a b t : Nat} (hp : isPay pay) (ha : (a : Int) < A 7 2) (hb : (b : Int) < A 7 2) (ht : t < 2) : -198 ≤ dd A pay a b t ∧ dd A pay a b t ≤ 198 := by
  have e : tN A = 2 := by show (A 7 1).toNat = 2; rw [h2]; rfl
  have x := pay_bd hR hp ha (t := t) (by omega)
  have y := pay_bd hR hp hb (t := t) (by omega)
  unfold dd
  omega
/-- what the class's crossings hold of a pair of acts -/
def hasP (A : Mem) (u v : Nat → Int) (n a b : Nat) (pay : Nat) : Prop := opp (dd A pay a b 0) (dd A pay a b 1) → has u v n (rA (dd A pay a b 0)) (rB (dd A pay a b 0) (dd A pay a b 1))
theorem sp_L_crossActs {d : Nat} {A σ : Mem} {Q : Int → Mem → Prop} {n a b pay : Nat} (hR : SR 7 (mLive A) A) (h2 : A 7 1 = 2) (hE : Eqv A σ) (hS : SL (σ 40) (σ 41) n) (hn : σ 39 4 = (n : Int)) (hn3 : n < 34) (hpay : pay = 10 ∨ pay = 11) (ha : (a : Int) < A 7 2) (hb : (b : Int) < A 7 2) (hQ : ∀ σ1 m, CF σ σ1 → σ1 39 4 = ((m : Nat) : Int) → n ≤ m → m ≤ n + 1 → SL (σ1 40) (σ1 41) m → (∀ p2 q2, has (σ 40) (σ 41) n p2 q2 → has (σ1 40) (σ1 41) m p2 q2) → hasP A (σ1 40) (σ1 41) m b a pay → Q 0 σ1) : wp (d + 2) m_L_crossActs [.inr (.inr 39), .inr (.inr pay), .inl (a : Int), .inl (b : Int)] σ Q := by
  have hA := hR.ac
  have hip : isPay pay := by rcases hpay with rfl | rfl <;> unfold isPay <;> omega
  have x0 := dd_bd hR h2 (t := 0) hip ha hb (by omega)
  have x1 := dd_bd hR h2 (t := 1) hip ha hb (by omega)
  have eP : ∀ i, σ pay i = A pay i := fun i => by rcases hpay with rfl | rfl <;> exact hE _ _ rfl
  have e4 : ∀ c : Nat, (c : Int) < A 7 2 → w32 ((c : Int) * 4) = ((4 * c : Nat) : Int) := fun c hc => w32_eq (by omega) (by omega)
  have e5 : ∀ c : Nat, (c : Int) < A 7 2 → w32 (((4 * c : Nat) : Int) + 1) = ((4 * c + 1 : Nat) : Int) := fun c hc => w32_eq (by omega) (by omega)
  have iA : ∀ c : Nat, c < 24 → InA pay (c : Int) := fun c hc => by
    have : (0 : Int) ≤ (c : Int) ∧ (c : Int) < 24 := ⟨by omega, by omega⟩
    rcases hpay with rfl | rfl <;> exact this
  have d0 : A pay (4 * a) - A pay (4 * b) = dd A pay a b 0 := rfl
  have d1 : A pay (4 * a + 1) - A pay (4 * b + 1) = dd A pay a b 1 := rfl
  have nn : hasP A (σ 40) (σ 41) n b a pay ∨ True := Or.inr trivial
  have flip0 : dd A pay b a 0 = -dd A pay a b 0 := dd_neg
  have flip1 : dd A pay b a 1 = -dd A pay a b 1 := dd_neg
  refine e_L_crossActs ?_
  rw [e4 a ha, e4 b hb, e5 a ha, e5 b hb, Int.toNat_natCast, Int.toNat_natCast, Int.toNat_natCast, Int.toNat_natCast, eP, eP, eP, eP, d0, d1, w32_id (x := dd A pay a b 0) (by omega) (by omega), w32_id (x := dd A pay a b 1) (by omega) (by omega)]
  have mb := mul_bd (x := dd A pay a b 0) (y := dd A pay a b 1) (X := 198) (Y := 198) x0 x1
  rw [w64_id (x := dd A pay a b 0 * dd A pay a b 1) (by omega) (by omega), w64_id (x := ((dd A pay a b 0).natAbs : Int)) (by omega) (by omega), w64_id (x := ((dd A pay a b 1).natAbs : Int)) (by omega) (by omega), w64_id (x := ((dd A pay a b 0).natAbs : Int) + ((dd A pay a b 1).natAbs : Int)) (by omega) (by omega)]
  refine ⟨iA _ (by omega), iA _ (by omega), iA _ (by omega), iA _ (by omega), fun h => ?_, fun h => ?_⟩
  · have ho : opp (dd A pay a b 0) (dd A pay a b 1) := opp_mul.mp h
    have hr := rB_pos ho
    refine sp_L_cross (p := rA (dd A pay a b 0)) (q := rB (dd A pay a b 0) (dd A pay a b 1)) hS hn hn3 ⟨by omega, by omega, by omega, by unfold rB; omega⟩ (fun σ1 m g1 g2 g3 g4 g5 g6 g7 => hQ σ1 m g1 g2 g3 g4 g5 g6 (fun _ => ?_))
    rw [flip0, flip1, rA_neg, rB_neg]
    exact g7
  · refine hQ σ n (fun _ _ _ _ _ => rfl) hn (Nat.le_refl n) (by omega) hS (fun _ _ z => z) (fun ho => ?_)
    rw [flip0, flip1, opp_neg] at ho
    have := opp_mul.mpr ho
    omega
