-- PURE, 3: the reference's sums and what is done by it
theorem SR.m0 {b : Nat} {ms : Nat → Nat → Int} {A : Mem} (h : SR b ms A) : ms 0 0 = A b 1 ∧ ms 0 1 = A b 2 ∧ ms 0 2 = A b 3 ∧ ms 0 3 = A b 10 ∧ ms 0 4 = A b 13 ∧ ms 0 5 = A b 16 := h.1
theorem gets_m {A : Mem} (h : SR 7 (mLive A) A) {wi a t : Nat} (hw : wi ≤ 2) (ha : (a : Int) < A 7 2) (ht : (t : Int) < A 7 1) : A 52 (24 * wi + 4 * a + t) = A (10 + wi) (4 * a + t) := by
  have h1 := h.gt ha ht
  match wi, hw with
  | 0, _ => rw [show 24 * 0 + 4 * a + t = 4 * a + t by omega]; exact h1.1.1
  | 1, _ => exact h1.2.1.1
  | 2, _ => exact h1.2.2.1
set_option maxHeartbeats 1000000 in
theorem sp_M_sumOf {d : Nat} {A σ : Mem} {Q : Int → Mem → Prop} (hR : SR 7 (mLive A) A) (hE : Eqv A σ) {wi a : Nat} (hwi : wi ≤ 2) (ha : (a : Int) < A 7 2) {w : Nat → Int} (hb : bdW A w) (hw : ∀ t, t < tN A → σ 67 t = w t) (hQ : Q (dot A w (10 + wi) a) σ) : wp (d + 1) m_M_sumOf [.inr (.inr 49), .inl (wi : Int), .inl (a : Int)] σ Q := by
  have hT := hR.tr
  have hA := hR.ac
  have hp : isPay (10 + wi) := by
    match wi, hwi with
    | 0, _ => exact Or.inl rfl
    | 1, _ => exact Or.inr (Or.inl rfl)
    | 2, _ => exact Or.inr (Or.inr rfl)
  have e71 : σ 49 0 = A 7 1 := (hE 49 0 rfl).trans hR.m0.1
  have loop : ∀ k t : Nat, t + k = tN A → K_M_sumOf_5 d Q (wi : Int) (a : Int) (sumN t (fun t => w t * A (10 + wi) (4 * a + t))) (t : Int) σ := by
    intro k
    induction k with
    | zero =>
      intro t ht
      refine e_M_sumOf_5 ⟨fun h => ?_, fun _ => ?_⟩
      · rw [e71] at h
        exact absurd ht (by show ¬ t + 0 = (A 7 1).toNat; omega)
      · have : t = tN A := by omega
        subst this
        exact hQ
    | succ k ih =>
      intro t ht
      have ht2 : t < tN A := by omega
      have ht3 : tN A ≤ 4 := by show (A 7 1).toNat ≤ 4; omega
      refine e_M_sumOf_5 ⟨fun _ => ?_, fun h => ?_⟩
      · have e1 : w32 (24 * (wi : Int)) = ((24 * wi : Nat) : Int) := w32_eq (by omega) (by omega)
        have e2 : w32 (4 * (a : Int)) = ((4 * a : Nat) : Int) := w32_eq (by omega) (by omega)
        have e3 : w32 (((24 * wi : Nat) : Int) + ((4 * a : Nat) : Int)) = ((24 * wi + 4 * a : Nat) : Int) := w32_eq (by omega) (by omega)
        have e4 : w32 (((24 * wi + 4 * a : Nat) : Int) + (t : Int)) = ((24 * wi + 4 * a + t : Nat) : Int) := w32_eq (by omega) (by omega)
        have e5 : w32 ((t : Int) + 1) = ((t + 1 : Nat) : Int) := w32_eq (by omega) (by omega)
        rw [e1, e2, e3, e4, e5, Int.toNat_natCast, Int.toNat_natCast, hw t ht2, hE 52 _ rfl, gets_m hR hwi ha (lt_tN ht2)]
        have hm := mul_bd (hb t ht2) (pay_bd hR hp ha ht2)
        rw [w64_id (x := w t * A (10 + wi) (4 * a + t)) (by omega) (by omega)]
        have hs := dot_bd hR hb hp ha (t + 1) (by omega)
        have hs2 : sumN (t + 1) (fun t => w t * A (10 + wi) (4 * a + t)) = sumN t (fun t => w t * A (10 + wi) (4 * a + t)) + w t * A (10 + wi) (4 * a + t) := rfl
        rw [hs2] at hs
        rw [w64_id (by omega) (by omega)]
        exact ⟨⟨by omega, by omega⟩, ⟨by omega, by omega⟩, ih (t + 1) (by omega)⟩
      · rw [e71] at h
        exact absurd ht2 (by show ¬ t < (A 7 1).toNat; omega)
  exact e_M_sumOf (loop (tN A) 0 (by omega))
set_option maxHeartbeats 2000000 in
theorem sp_M_doneBy {d : Nat} {A σ : Mem} {Q : Int → Mem → Prop} (hR : SR 7 (mLive A) A) (hE : Eqv A σ) (ho : 1 ≤ A 7 2) {jd : Int} {j : Nat} (hj : (jd = 0 ∧ j = 10) ∨ (¬ jd = 0 ∧ j = 12)) {w : Nat → Int} (hb : bdW A w) (hw : ∀ t, t < tN A → σ 67 t = w t) (hQ : Q (act A w j : Nat) σ) : wp (d + 2) m_M_doneBy [.inr (.inr 49), .inl jd] σ Q := by
  have hT := hR.tr
  have hA := hR.ac
  have e72 : σ 49 1 = A 7 2 := (hE 49 1 rfl).trans hR.m0.2.1
  have e73 : σ 49 5 = A 7 3 := (hE 49 5 rfl).trans hR.m0.2.2.1
  generalize hu : (fun a => dot A w j a) = u
  generalize hv : (fun a => dot A w 11 a) = v
  have hua : ∀ a, dot A w j a = u a := fun a => by rw [← hu]
  have hva : ∀ a, dot A w 11 a = v a := fun a => by rw [← hv]
  have hQ2 : Q ((pkA (A 7 3) u v (aN A - 1) : Nat) : Int) σ := by
    have : act A w j = pkA (A 7 3) u v (aN A - 1) := by unfold act; rw [hu, hv]
    rw [← this]
    exact hQ
  obtain ⟨wi, hwi, hjw, hwj⟩ : ∃ wi : Nat, wi ≤ 2 ∧ j = 10 + wi ∧ (jd = 0 ∧ wi = 0 ∨ ¬ jd = 0 ∧ wi = 2) := by
    rcases hj with ⟨h1, h2⟩ | ⟨h1, h2⟩
    · exact ⟨0, by omega, by omega, Or.inl ⟨h1, rfl⟩⟩
    · exact ⟨2, by omega, by omega, Or.inr ⟨h1, rfl⟩⟩
  have sm : ∀ {a : Nat} {K : Int → Mem → Prop}, (a : Int) < A 7 2 → K (u a) σ → wp (d + 1) m_M_sumOf [.inr (.inr 49), .inl (wi : Int), .inl (a : Int)] σ K := fun {a K} ha hK => sp_M_sumOf hR hE hwi ha hb hw (by rw [← hjw, hua]; exact hK)
  have sv : ∀ {a : Nat} {K : Int → Mem → Prop}, (a : Int) < A 7 2 → K (v a) σ → wp (d + 1) m_M_sumOf [.inr (.inr 49), .inl 1, .inl (a : Int)] σ K := fun {a K} ha hK => sp_M_sumOf (wi := 1) hR hE (by omega) ha hb hw (by rw [show 10 + 1 = 11 from rfl, hva]; exact hK)
  have loop : ∀ k n : Nat, n + 1 + k = aN A → K_M_doneBy_15 (d + 1) Q (wi : Int) ((pkA (A 7 3) u v n : Nat) : Int) ((n + 1 : Nat) : Int) σ := by
    intro k
    induction k with
    | zero =>
      intro n hn
      refine e_M_doneBy_15 ⟨fun h => ?_, fun _ => ?_⟩
      · rw [e72] at h
        exact absurd hn (by show ¬ n + 1 + 0 = (A 7 2).toNat; omega)
      · have : n = aN A - 1 := by omega
        subst this
        exact hQ2
    | succ k ih =>
      intro n hn
      have hn2 : ((n + 1 : Nat) : Int) < A 7 2 := by
        have : n + 1 + (k + 1) = (A 7 2).toNat := hn
        omega
      have hp := pkA_le (tie := A 7 3) (u := u) (v := v) n
      have hp2 : ((pkA (A 7 3) u v n : Nat) : Int) < A 7 2 := by omega
      have e3 : w32 (((n + 1 : Nat) : Int) + 1) = ((n + 1 + 1 : Nat) : Int) := w32_eq (by omega) (by omega)
      have yes : betB (A 7 3) u v (n + 1) (pkA (A 7 3) u v n) = true → K_M_doneBy_15 (d + 1) Q (wi : Int) ((n + 1 : Nat) : Int) ((n + 1 + 1 : Nat) : Int) σ := by
        intro hh
        have := ih (n + 1) (by omega)
        rw [pkA_t hh] at this
        exact this
      have no : betB (A 7 3) u v (n + 1) (pkA (A 7 3) u v n) = false → K_M_doneBy_15 (d + 1) Q (wi : Int) ((pkA (A 7 3) u v n : Nat) : Int) ((n + 1 + 1 : Nat) : Int) σ := by
        intro hh
        have := ih (n + 1) (by omega)
        rw [pkA_f hh] at this
        exact this
      refine e_M_doneBy_15 ⟨fun _ => ?_, fun h => ?_⟩
      · rw [e3]
        refine sm hn2 (sm hp2 (sv hn2 (sv hp2 ⟨fun h1 => yes ?_, fun h1 => ⟨fun h2 => ⟨fun t0 => ⟨fun h3 => yes ?_, fun h3 => no ?_⟩, fun t0 => ⟨fun h3 => yes ?_, fun h3 => no ?_⟩⟩, fun h2 => no ?_⟩⟩)))
        · simp [betB, h1]
        · rw [e73] at t0
          simp only [betB, h2, t0]
          rw [t0] at h3
          simp [h3]
        · rw [e73] at t0
          have h4 : ¬ v (pkA (A 7 3) u v n) < v (n + 1) := by omega
          rw [t0] at h4 h2
          simp [betB, h2, t0]
          omega
        · rw [e73] at t0
          simp [betB, h2, t0, h3]
        · rw [e73] at t0
          have h4 : ¬ v (n + 1) < v (pkA (A 7 3) u v n) := by omega
          simp [betB, h2, t0, h4]
        · have : ¬ u (pkA (A 7 3) u v n) < u (n + 1) := by omega
          simp [betB, h2, this]
      · rw [e72] at h
        omega
  refine e_M_doneBy ⟨fun h => ?_, fun h => ?_⟩
  · have hw0 : wi = 0 := by rcases hwj with ⟨-, h9⟩ | ⟨h9, -⟩ <;> first | exact h9 | exact absurd h h9
    subst hw0
    exact loop (aN A - 1) 0 (by show 0 + 1 + ((A 7 2).toNat - 1) = (A 7 2).toNat; omega)
  · have hw0 : wi = 2 := by rcases hwj with ⟨h9, -⟩ | ⟨-, h9⟩ <;> first | exact h9 | exact absurd h9 h
    subst hw0
    exact loop (aN A - 1) 0 (by show 0 + 1 + ((A 7 2).toNat - 1) = (A 7 2).toNat; omega)
