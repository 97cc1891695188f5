-- PURE, 41: limbs
def dg (f : Nat → Int) : Nat → Int
  | 0 => 0
  | k + 1 => dg f k + f k * 10000 ^ k
theorem pw_pos {k : Nat} : (1 : Int) ≤ 10000 ^ k := by
  have := Int.pow_pos (n := (10000 : Int)) (m := k) (by decide)
  omega
theorem dg_congr {f g : Nat → Int} : ∀ {k : Nat}, (∀ j, j < k → f j = g j) → dg f k = dg g k
  | 0, _ => rfl
  | k + 1, h => by
    show dg f k + f k * 10000 ^ k = dg g k + g k * 10000 ^ k
    rw [dg_congr (fun j hj => h j (by omega)), h k (by omega)]
theorem dg_bd {f : Nat → Int} : ∀ {k : Nat}, (∀ j, j < k → 0 ≤ f j ∧ f j < 10000) → 0 ≤ dg f k ∧ dg f k < 10000 ^ k
  | 0, _ => ⟨Int.le_refl _, (by decide : (0 : Int) < 10000 ^ 0)⟩
  | k + 1, h => by
    have ih := dg_bd (k := k) (fun j hj => h j (by omega))
    have h2 := h k (by omega)
    have p := pw_pos (k := k)
    have m1 : 0 ≤ f k * 10000 ^ k := Int.mul_nonneg h2.1 (by omega)
    have m2 : f k * 10000 ^ k ≤ 9999 * 10000 ^ k := Int.mul_le_mul_of_nonneg_right (by omega) (by omega)
    have e : (10000 : Int) ^ (k + 1) = 10000 ^ k * 10000 := Int.pow_succ 10000 k
    show 0 ≤ dg f k + f k * 10000 ^ k ∧ dg f k + f k * 10000 ^ k < 10000 ^ (k + 1)
    rw [e]
    omega
theorem dg_inj {f g : Nat → Int} : ∀ {k : Nat}, (∀ j, j < k → 0 ≤ f j ∧ f j < 10000) → (∀ j, j < k → 0 ≤ g j ∧ g j < 10000) → dg f k = dg g k → ∀ j, j < k → f j = g j
  | 0, _, _, _, j, hj => absurd hj (by omega)
  | k + 1, hf, hg, h, j, hj => by
    have bf := dg_bd (k := k) (fun j hj => hf j (by omega))
    have bg := dg_bd (k := k) (fun j hj => hg j (by omega))
    have h1 : dg f k + f k * 10000 ^ k = dg g k + g k * 10000 ^ k := h
    have p := pw_pos (k := k)
    have hk : f k = g k := by
      rcases Int.lt_trichotomy (f k) (g k) with z | z | z
      · have : (f k + 1) * 10000 ^ k ≤ g k * 10000 ^ k := Int.mul_le_mul_of_nonneg_right (by omega) (by omega)
        rw [Int.add_mul] at this
        omega
      · exact z
      · have : (g k + 1) * 10000 ^ k ≤ f k * 10000 ^ k := Int.mul_le_mul_of_nonneg_right (by omega) (by omega)
        rw [Int.add_mul] at this
        omega
    rw [hk] at h1
    by_cases e : j = k
    · rw [e]; exact hk
    · exact dg_inj (k := k) (fun j hj => hf j (by omega)) (fun j hj => hg j (by omega)) (by omega) j (by omega)
/-- the limbs at cell c are v -/
def lim (σ : Mem) (c : Nat) (v : Int) : Prop := (∀ j, j < 12 → 0 ≤ σ c j ∧ σ c j < 10000) ∧ dg (σ c) 12 = v
def LF (c : Nat) (σ σ1 : Mem) : Prop := ∀ k i, k ≠ c → σ1 k i = σ k i
theorem LF.id {c : Nat} {σ : Mem} : LF c σ σ := fun _ _ _ => rfl
theorem LF.trans {c : Nat} {σ σ1 σ2 : Mem} (h1 : LF c σ σ1) (h2 : LF c σ1 σ2) : LF c σ σ2 := fun k i h => (h2 k i h).trans (h1 k i h)
theorem LF.set {c i : Nat} {σ σ1 : Mem} {x : Int} (h : LF c σ σ1) : LF c σ (mset σ1 c i x) := fun k j hk => by rw [ms_nk hk]; exact h k j hk
theorem LF.keep {c k : Nat} {σ σ1 : Mem} {v : Int} (h : LF c σ σ1) (hk : k ≠ c) (hl : lim σ k v) : lim σ1 k v := by
  have e : σ1 k = σ k := funext (fun i => h k i hk)
  unfold lim at *
  rw [e]
  exact hl
theorem sp_M_begin {d : Nat} {σ : Mem} {Q : Int → Mem → Prop} {v : Int} (hv : 0 ≤ v ∧ v < 100000000) (hQ : ∀ σ1, LF 70 σ σ1 → lim σ1 70 v → Q 0 σ1) : wp (d + 1) m_M_begin [.inr (.inr 49), .inl v] σ Q := by
  refine e_M_begin ?_
  refine upto (n := 12) (P := fun k => ∀ τ, LF 70 σ τ → (∀ j, j < k → τ 70 j = 0) → K_M_begin_2 d Q v ((k : Nat) : Int) τ) (fun τ hF h0 => ?_) (fun k hk ih τ hF h0 => ?_) σ LF.id (fun j h => absurd h (by omega))
  · have t1 : Int.tmod v 10000 = v % 10000 := Int.tmod_eq_emod_of_nonneg hv.1
    have t2 : Int.tdiv v 10000 = v / 10000 := Int.tdiv_eq_ediv_of_nonneg hv.1
    refine e_M_begin_2 ⟨fun h => by omega, fun _ => ?_⟩
    rw [t1, t2, w32_id (by omega) (by omega)]
    refine hQ _ hF.set.set ⟨fun j hj => ?_, ?_⟩
    · by_cases e1 : j = 1
      · subst e1; rw [ms_eq]; omega
      · by_cases e0 : j = 0
        · subst e0; rw [ms_ni e1, ms_eq]; omega
        · rw [ms_ni e1, ms_ni e0, h0 j hj]; decide
    · have e : ∀ j, mset (mset τ 70 0 (v % 10000)) 70 1 (v / 10000) 70 j = if j = 1 then v / 10000 else if j = 0 then v % 10000 else τ 70 j := fun j => by
        by_cases e1 : j = 1
        · subst e1; rw [ms_eq]; rfl
        · by_cases e0 : j = 0
          · subst e0; rw [ms_ni e1, ms_eq]; rfl
          · rw [ms_ni e1, ms_ni e0, if_neg e1, if_neg e0]
      rw [dg_congr (g := fun j => if j = 0 then v % 10000 else if j = 1 then v / 10000 else 0) (fun j hj => by
        rw [e j]
        by_cases e1 : j = 1
        · subst e1; rfl
        · by_cases e0 : j = 0
          · subst e0; rfl
          · rw [if_neg e1, if_neg e0, if_neg e0, if_neg e1]; exact h0 j hj)]
      simp only [dg]
      simp
      omega
  · have e1 : w32 ((k : Int) + 1) = ((k + 1 : Nat) : Int) := w32_eq (by omega) (by omega)
    refine e_M_begin_2 ⟨fun _ => ⟨⟨by omega, by omega⟩, ?_⟩, fun h => by omega⟩
    rw [e1, Int.toNat_natCast]
    refine ih _ hF.set (fun j hj => ?_)
    by_cases e : j = k
    · subst e; exact ms_eq
    · rw [ms_ni e]; exact h0 j (by omega)
theorem dm {x : Int} (h : 0 ≤ x) : x = (x / 10000) * 10000 + x % 10000 ∧ 0 ≤ x % 10000 ∧ x % 10000 < 10000 ∧ 0 ≤ x / 10000 := by omega
theorem sp_M_times {d : Nat} {σ : Mem} {Q : Int → Mem → Prop} {u v : Int} (hv : 0 ≤ v ∧ v ≤ 10000) (hl : lim σ 70 u) (hb : u * v < 1000000000000000000000000000000000000000000000000) (hQ : ∀ σ1, LF 70 σ σ1 → lim σ1 70 (u * v) → Q 0 σ1) : wp (d + 1) m_M_times [.inr (.inr 49), .inl v] σ Q := by
  refine e_M_times ?_
  refine upto (n := 12) (P := fun k => ∀ τ c, LF 70 σ τ → (0 ≤ c ∧ c ≤ 10000) → (∀ j, j < k → 0 ≤ τ 70 j ∧ τ 70 j < 10000) → (∀ j, k ≤ j → τ 70 j = σ 70 j) → dg (τ 70) k + c * 10000 ^ k = dg (σ 70) k * v → K_M_times_5 d Q v c ((k : Nat) : Int) τ) (fun τ c hF hc h0 h1 h2 => ?_) (fun k hk ih τ c hF hc h0 h1 h2 => ?_) σ 0 LF.id (by decide) (fun j h => absurd h (by omega)) (fun j _ => rfl) (by show (0 : Int) + 0 * 10000 ^ 0 = 0 * v; rw [Int.zero_mul, Int.zero_mul]; rfl)
  · refine e_M_times_5 ⟨fun h => by omega, fun _ => hQ τ hF ⟨h0, ?_⟩⟩
    have b := dg_bd h0
    rw [hl.2] at h2
    have p12 : (10000 : Int) ^ 12 = 1000000000000000000000000000000000000000000000000 := by decide
    rw [p12] at h2 b
    have : c = 0 := by omega
    rw [this] at h2
    omega
  · have e1 : w32 ((k : Int) + 1) = ((k + 1 : Nat) : Int) := w32_eq (by omega) (by omega)
    have hs := hl.1 k hk
    have m0 : 0 ≤ σ 70 k * v := Int.mul_nonneg hs.1 hv.1
    have m1 : σ 70 k * v ≤ 9999 * 10000 := Int.mul_le_mul (by omega) hv.2 hv.1 (by omega)
    refine e_M_times_5 ⟨fun _ => ⟨⟨by omega, by omega⟩, ⟨by omega, by omega⟩, ?_⟩, fun h => by omega⟩
    rw [e1, Int.toNat_natCast, h1 k (Nat.le_refl _), w64_id (x := σ 70 k * v) (by omega) (by omega), w64_id (x := c + σ 70 k * v) (by omega) (by omega), Int.tdiv_eq_ediv_of_nonneg (by omega), Int.tmod_eq_emod_of_nonneg (by omega)]
    have q := dm (x := c + σ 70 k * v) (by omega)
    rw [w64_id (by omega) (by omega), w32_id (by omega) (by omega)]
    refine ih _ _ hF.set (by omega) (fun j hj => ?_) (fun j hj => ?_) ?_
    · by_cases e : j = k
      · subst e; rw [ms_eq]; omega
      · rw [ms_ni e]; exact h0 j (by omega)
    · rw [ms_ni (by omega)]; exact h1 j (by omega)
    · show dg (mset τ 70 k ((c + σ 70 k * v) % 10000) 70) k + mset τ 70 k ((c + σ 70 k * v) % 10000) 70 k * 10000 ^ k + (c + σ 70 k * v) / 10000 * 10000 ^ (k + 1) = (dg (σ 70) k + σ 70 k * 10000 ^ k) * v
      rw [ms_eq, dg_congr (g := τ 70) (fun j hj => ms_ni (by omega)), Int.pow_succ]
      have q1 := q.1
      generalize (c + σ 70 k * v) / 10000 = Dv at *
      generalize (c + σ 70 k * v) % 10000 = Md at *
      grind
theorem sp_M_addLimbs {d : Nat} {σ : Mem} {Q : Int → Mem → Prop} {u v : Int} (hu : lim σ 68 u) (hl : lim σ 70 v) (hb : u + v < 1000000000000000000000000000000000000000000000000) (hQ : ∀ σ1, LF 68 σ σ1 → lim σ1 68 (u + v) → Q 0 σ1) : wp (d + 1) m_M_addLimbs [.inr (.inr 49)] σ Q := by
  refine e_M_addLimbs ?_
  refine upto (n := 12) (P := fun k => ∀ τ c, LF 68 σ τ → (0 ≤ c ∧ c ≤ 2) → (∀ j, j < k → 0 ≤ τ 68 j ∧ τ 68 j < 10000) → (∀ j, k ≤ j → τ 68 j = σ 68 j) → dg (τ 68) k + c * 10000 ^ k = dg (σ 68) k + dg (σ 70) k → K_M_addLimbs_4 d Q c ((k : Nat) : Int) τ) (fun τ c hF hc h0 h1 h2 => ?_) (fun k hk ih τ c hF hc h0 h1 h2 => ?_) σ 0 LF.id (by decide) (fun j h => absurd h (by omega)) (fun j _ => rfl) (by show (0 : Int) + 0 * 10000 ^ 0 = 0 + 0; decide)
  · refine e_M_addLimbs_4 ⟨fun h => by omega, fun _ => hQ τ hF ⟨h0, ?_⟩⟩
    have b := dg_bd h0
    rw [hu.2, hl.2] at h2
    have p12 : (10000 : Int) ^ 12 = 1000000000000000000000000000000000000000000000000 := by decide
    rw [p12] at h2 b
    have : c = 0 := by omega
    rw [this] at h2
    omega
  · have e1 : w32 ((k : Int) + 1) = ((k + 1 : Nat) : Int) := w32_eq (by omega) (by omega)
    have hs := hu.1 k hk
    have ht := hl.1 k hk
    refine e_M_addLimbs_4 ⟨fun _ => ⟨⟨by omega, by omega⟩, ⟨by omega, by omega⟩, ⟨by omega, by omega⟩, ?_⟩, fun h => by omega⟩
    rw [e1, Int.toNat_natCast, h1 k (Nat.le_refl _), hF 70 k (by decide), w32_id (x := σ 68 k + σ 70 k) (by omega) (by omega), w32_id (x := c + (σ 68 k + σ 70 k)) (by omega) (by omega), Int.tdiv_eq_ediv_of_nonneg (by omega), Int.tmod_eq_emod_of_nonneg (by omega)]
    have q := dm (x := c + (σ 68 k + σ 70 k)) (by omega)
    rw [w32_id (by omega) (by omega)]
    refine ih _ _ hF.set (by omega) (fun j hj => ?_) (fun j hj => ?_) ?_
    · by_cases e : j = k
      · subst e; rw [ms_eq]; omega
      · rw [ms_ni e]; exact h0 j (by omega)
    · rw [ms_ni (by omega)]; exact h1 j (by omega)
    · show dg (mset τ 68 k ((c + (σ 68 k + σ 70 k)) % 10000) 68) k + mset τ 68 k ((c + (σ 68 k + σ 70 k)) % 10000) 68 k * 10000 ^ k + (c + (σ 68 k + σ 70 k)) / 10000 * 10000 ^ (k + 1) = (dg (σ 68) k + σ 68 k * 10000 ^ k) + (dg (σ 70) k + σ 70 k * 10000 ^ k)
      rw [ms_eq, dg_congr (g := τ 68) (fun j hj => ms_ni (by omega)), Int.pow_succ]
      have q1 := q.1
      generalize (c + (σ 68 k + σ 70 k)) / 10000 = Dv at *
      generalize (c + (σ 68 k + σ 70 k)) % 10000 = Md at *
      grind
