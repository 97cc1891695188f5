-- PURE, 40: think
theorem gI_dl {a b : Int} : gI a b ∣ a := Int.gcd_dvd_left ..
theorem gI_dr {a b : Int} : gI a b ∣ b := Int.gcd_dvd_right ..
theorem SR.thk {A B : Mem} (h : SR 7 (mLive A) A) {n : Nat} (hn : A 7 16 = (n : Int)) (hn4 : n < 4) {a b c d e g : Int} (hg : 1 ≤ g) (hd : g ∣ a ∧ g ∣ b ∧ g ∣ c ∧ g ∣ d) (ha : 0 ≤ a ∧ a ≤ 99 ∧ 0 ≤ b ∧ b ≤ 99 ∧ 0 ≤ c ∧ c ≤ 99 ∧ 0 ≤ d ∧ d ≤ 99) (hz : ¬ (a = 0 ∧ b = 0 ∧ c = 0 ∧ d = 0)) (hT : 1 ≤ A 7 1) (hb : (A 7 1 < 2 → b = 0) ∧ (A 7 1 < 3 → c = 0) ∧ (A 7 1 < 4 → d = 0)) (he : 1 ≤ e ∧ e ≤ 99)
    (hB : B = mset (mset (mset (mset (mset (mset (mset (mset (mset (mset (mset (mset A 17 (4 * n) a) 17 (4 * n + 1) b) 17 (4 * n + 2) c) 17 (4 * n + 3) d) 18 n e) 7 16 ((n : Int) + 1)) 57 (4 * n) (a.tdiv g)) 57 (4 * n + 1) (b.tdiv g)) 57 (4 * n + 2) (c.tdiv g)) 57 (4 * n + 3) (d.tdiv g)) 58 n e) 49 12 ((n : Int) + 1)) : SR 7 (mLive B) B := by
  have hbd := h.2.1
  have b16 : B 7 16 = (n : Int) + 1 := by rw [hB]; rfl
  have b17 : ∀ i : Nat, i ≠ 4 * n → i ≠ 4 * n + 1 → i ≠ 4 * n + 2 → i ≠ 4 * n + 3 → B 17 i = A 17 i ∧ B 57 i = A 57 i := fun i h1 h2 h3 h4 => by
    rw [hB]
    constructor
    · simp (discharger := first | assumption | decide) only [ms_nk, ms_ni]
    · simp (discharger := first | assumption | decide) only [ms_nk, ms_ni]
  have x17 : B 17 (4 * n) = a ∧ B 17 (4 * n + 1) = b ∧ B 17 (4 * n + 2) = c ∧ B 17 (4 * n + 3) = d := by
    rw [hB]
    refine ⟨?_, ?_, ?_, ?_⟩ <;> simp (discharger := first | decide | omega) only [ms_nk, ms_ni, ms_eq]
  have x57 : B 57 (4 * n) = a.tdiv g ∧ B 57 (4 * n + 1) = b.tdiv g ∧ B 57 (4 * n + 2) = c.tdiv g ∧ B 57 (4 * n + 3) = d.tdiv g := by
    rw [hB]
    refine ⟨?_, ?_, ?_, ?_⟩ <;> simp (discharger := first | decide | omega) only [ms_nk, ms_ni, ms_eq]
  have x18 : ∀ i, i ≠ n → B 18 i = A 18 i ∧ B 58 i = A 58 i := fun i hi => by
    rw [hB]
    constructor <;> simp (discharger := first | assumption | decide) only [ms_nk, ms_ni]
  have y18 : B 18 n = e ∧ B 58 n = e := by
    rw [hB]
    constructor <;> simp (discharger := first | decide | omega) only [ms_nk, ms_ni, ms_eq]
  have b71 : B 7 1 = A 7 1 := by rw [hB]; rfl
  have h1 : SR 7 (mLive B) B ↔ SR 7 (mLive B) B := Iff.rfl
  have key : ∀ i : Nat, (i : Int) < B 7 16 → mLive B 8 i = B 18 i ∧ 1 ≤ B 18 i ∧ B 18 i ≤ 99 ∧ ∃ g : Int, 1 ≤ g ∧ (∀ t : Nat, t < 4 → B 17 (4 * i + t) = g * mLive B 9 (4 * i + t) ∧ 0 ≤ B 17 (4 * i + t) ∧ B 17 (4 * i + t) ≤ 99 ∧ 0 ≤ mLive B 9 (4 * i + t) ∧ (B 7 1 ≤ (t : Int) → B 17 (4 * i + t) = 0)) ∧ 1 ≤ sumN 4 (fun t => B 17 (4 * i + t)) := by
    intro i hi
    rw [b16] at hi
    show B 58 i = B 18 i ∧ 1 ≤ B 18 i ∧ B 18 i ≤ 99 ∧ ∃ g : Int, 1 ≤ g ∧ (∀ t : Nat, t < 4 → B 17 (4 * i + t) = g * B 57 (4 * i + t) ∧ 0 ≤ B 17 (4 * i + t) ∧ B 17 (4 * i + t) ≤ 99 ∧ 0 ≤ B 57 (4 * i + t) ∧ (B 7 1 ≤ (t : Int) → B 17 (4 * i + t) = 0)) ∧ 1 ≤ sumN 4 (fun t => B 17 (4 * i + t))
    rw [b71]
    by_cases e2 : i = n
    · subst e2
      rw [y18.1, y18.2]
      refine ⟨rfl, he.1, he.2, g, hg, fun t ht => ?_, ?_⟩
      · have q1 := Int.mul_tdiv_cancel' hd.1
        have q2 := Int.mul_tdiv_cancel' hd.2.1
        have q3 := Int.mul_tdiv_cancel' hd.2.2.1
        have q4 := Int.mul_tdiv_cancel' hd.2.2.2
        match t, ht with
        | 0, _ => rw [Nat.add_zero, x17.1, x57.1]; exact ⟨q1.symm, ha.1, ha.2.1, Int.tdiv_nonneg (by omega) (by omega), fun h => by omega⟩
        | 1, _ => rw [x17.2.1, x57.2.1]; exact ⟨q2.symm, by omega, by omega, Int.tdiv_nonneg (by omega) (by omega), fun h => hb.1 (by omega)⟩
        | 2, _ => rw [x17.2.2.1, x57.2.2.1]; exact ⟨q3.symm, by omega, by omega, Int.tdiv_nonneg (by omega) (by omega), fun h => hb.2.1 (by omega)⟩
        | 3, _ => rw [x17.2.2.2, x57.2.2.2]; exact ⟨q4.symm, by omega, by omega, Int.tdiv_nonneg (by omega) (by omega), fun h => hb.2.2 (by omega)⟩
      · show 1 ≤ 0 + B 17 (4 * i + 0) + B 17 (4 * i + 1) + B 17 (4 * i + 2) + B 17 (4 * i + 3)
        rw [Nat.add_zero, x17.1, x17.2.1, x17.2.2.1, x17.2.2.2]
        omega
    · have g9 := h.2.2.2.2.2.2.2.2.2.2 i (by omega)
      have z : ∀ t, t < 4 → B 17 (4 * i + t) = A 17 (4 * i + t) ∧ B 57 (4 * i + t) = A 57 (4 * i + t) := fun t ht => b17 _ (by omega) (by omega) (by omega) (by omega)
      rw [(x18 i e2).1, (x18 i e2).2]
      obtain ⟨g1, g2, g3, g, g4, g5, g6⟩ := g9
      refine ⟨g1, g2, g3, g, g4, fun t ht => ?_, ?_⟩
      · rw [(z t ht).1, (z t ht).2]; exact g5 t ht
      · rw [sumN_congr (g := fun t => A 17 (4 * i + t)) (fun t ht => (z t ht).1)]; exact g6
  subst hB
  exact ⟨⟨h.1.1, h.1.2.1, h.1.2.2.1, h.1.2.2.2.1, h.1.2.2.2.2.1, rfl⟩, ⟨hbd.1, hbd.2.1, hbd.2.2.1, hbd.2.2.2.1, hbd.2.2.2.2.1, hbd.2.2.2.2.2.1, hbd.2.2.2.2.2.2.1, hbd.2.2.2.2.2.2.2.1, hbd.2.2.2.2.2.2.2.2.1, by rw [b16]; omega, by rw [b16]; omega⟩, h.2.2.1, h.2.2.2.1, h.2.2.2.2.1, h.2.2.2.2.2.1, h.2.2.2.2.2.2.1, h.2.2.2.2.2.2.2.1, h.2.2.2.2.2.2.2.2.1, h.2.2.2.2.2.2.2.2.2.1, key⟩
set_option maxHeartbeats 8000000 in
theorem pr_think {A : Mem} (hR : RR A) {a1 : Int} (i1 : InI a1) {a2 : Int} (i2 : InI a2) {a3 : Int} (i3 : InI a3) {a4 : Int} (i4 : InI a4) {a5 : Int} (i5 : InI a5) : wp 40 m_X_think [.inr (.inr 0), .inl a1, .inl a2, .inl a3, .inl a4, .inl a5] A (fun r σ1 => wp 40 m_M_think [.inr (.inr 49), .inl a1, .inl a2, .inl a3, .inl a4, .inl a5] σ1 (fun r2 σ2 => PQ r r2 σ2)) := by
  have sc := hR.sc
  unfold InI at i1 i2 i3 i4 i5
  have s2 : A 49 0 = A 7 1 ∧ A 49 12 = A 7 16 ∧ 0 ≤ A 7 16 ∧ A 7 16 ≤ 4 ∧ 0 ≤ A 7 1 ∧ A 7 1 ≤ 4 ∧ ((A 7 0 = 0 ∧ A 7 1 = 0) ∨ (A 7 0 = 1 ∧ 1 ≤ A 7 1)) := by omega
  clear sc
  by_cases c1 : A 7 1 = 0
  · repeat' first
    | with_reducible refine e_X_think ?_
    | with_reducible refine e_M_think ?_
    | with_reducible refine xr1 ?_
    | with_reducible refine xr2 ?_
    | with_reducible refine xr3 ?_
    | with_reducible refine xr4 ?_
    | with_reducible refine xr6 ?_
    | with_reducible refine mr1 ?_
    | with_reducible refine mr2 ?_
    | with_reducible refine mr3 ?_
    | with_reducible refine mr4 ?_
    | with_reducible refine mr6 ?_
    | with_reducible refine xf1 ?_
    | with_reducible refine xf2 ?_
    | with_reducible refine xf3 ?_
    | with_reducible refine xf6 ?_
    | with_reducible refine mf1 ?_
    | with_reducible refine mf2 ?_
    | with_reducible refine mf3 ?_
    | with_reducible refine mf6 ?_
    | with_reducible exact isB0
    | with_reducible exact isB1
    | with_reducible refine And.intro ?_ ?_
    | (with_reducible refine fun (hz : (_ : Int) < _) => ?_) <;> ((try simp (discharger := first | decide | omega) only [ms_eq, ms_nk, ms_ni, w32_id, w64_id, Int.toNat_natCast, not_true_eq_false, not_false_eq_true] at hz) ; (try (exfalso; omega)))
    | (with_reducible refine fun (hz : (_ : Int) ≤ _) => ?_) <;> ((try simp (discharger := first | decide | omega) only [ms_eq, ms_nk, ms_ni, w32_id, w64_id, Int.toNat_natCast, not_true_eq_false, not_false_eq_true] at hz) ; (try (exfalso; omega)))
    | (with_reducible refine fun (hz : (_ : Int) = _) => ?_) <;> ((try simp (discharger := first | decide | omega) only [ms_eq, ms_nk, ms_ni, w32_id, w64_id, Int.toNat_natCast, not_true_eq_false, not_false_eq_true] at hz) ; (try (exfalso; omega)))
    | (with_reducible refine fun (hz : ¬ (_ : Int) = _) => ?_) <;> ((try simp (discharger := first | decide | omega) only [ms_eq, ms_nk, ms_ni, w32_id, w64_id, Int.toNat_natCast, not_true_eq_false, not_false_eq_true] at hz) ; (try (exfalso; omega)))
    | (with_reducible refine fun (hz : _ ∨ _) => ?_) <;> ((try simp (discharger := first | decide | omega) only [ms_eq, ms_nk, ms_ni, w32_id, w64_id, Int.toNat_natCast, not_true_eq_false, not_false_eq_true] at hz) ; (try (exfalso; omega)))
    | omega
    | (simp (discharger := first | decide | omega) only [ms_eq, ms_nk, ms_ni, w32_id, w64_id, Int.toNat_natCast, not_true_eq_false, not_false_eq_true] ; omega)
    all_goals exact PQ.rf0 hR (by decide)
  have c1b : 1 ≤ A 7 1 := by omega
  by_cases c2 : a1 = 0 ∧ a2 = 0 ∧ a3 = 0 ∧ a4 = 0
  · repeat' first
    | with_reducible refine e_X_think ?_
    | with_reducible refine e_X_think_37 ?_
    | with_reducible refine e_X_think_38 ?_
    | with_reducible refine e_X_think_68 ?_
    | with_reducible refine xr1 ?_
    | with_reducible refine xr2 ?_
    | with_reducible refine xr3 ?_
    | with_reducible refine xr4 ?_
    | with_reducible refine xr6 ?_
    | with_reducible refine mr1 ?_
    | with_reducible refine mr2 ?_
    | with_reducible refine mr3 ?_
    | with_reducible refine mr4 ?_
    | with_reducible refine mr6 ?_
    | with_reducible refine xf1 ?_
    | with_reducible refine xf2 ?_
    | with_reducible refine xf3 ?_
    | with_reducible refine xf6 ?_
    | with_reducible refine mf1 ?_
    | with_reducible refine mf2 ?_
    | with_reducible refine mf3 ?_
    | with_reducible refine mf6 ?_
    | with_reducible exact isB0
    | with_reducible exact isB1
    | with_reducible refine And.intro ?_ ?_
    | (with_reducible refine fun (hz : (_ : Int) < _) => ?_) <;> ((try simp (discharger := first | decide | omega) only [ms_eq, ms_nk, ms_ni, w32_id, w64_id, Int.toNat_natCast, not_true_eq_false, not_false_eq_true] at hz) ; (try (exfalso; omega)))
    | (with_reducible refine fun (hz : (_ : Int) ≤ _) => ?_) <;> ((try simp (discharger := first | decide | omega) only [ms_eq, ms_nk, ms_ni, w32_id, w64_id, Int.toNat_natCast, not_true_eq_false, not_false_eq_true] at hz) ; (try (exfalso; omega)))
    | (with_reducible refine fun (hz : (_ : Int) = _) => ?_) <;> ((try simp (discharger := first | decide | omega) only [ms_eq, ms_nk, ms_ni, w32_id, w64_id, Int.toNat_natCast, not_true_eq_false, not_false_eq_true] at hz) ; (try (exfalso; omega)))
    | (with_reducible refine fun (hz : ¬ (_ : Int) = _) => ?_) <;> ((try simp (discharger := first | decide | omega) only [ms_eq, ms_nk, ms_ni, w32_id, w64_id, Int.toNat_natCast, not_true_eq_false, not_false_eq_true] at hz) ; (try (exfalso; omega)))
    | (with_reducible refine fun (hz : _ ∨ _) => ?_) <;> ((try simp (discharger := first | decide | omega) only [ms_eq, ms_nk, ms_ni, w32_id, w64_id, Int.toNat_natCast, not_true_eq_false, not_false_eq_true] at hz) ; (try (exfalso; omega)))
    | omega
    | (simp (discharger := first | decide | omega) only [ms_eq, ms_nk, ms_ni, w32_id, w64_id, Int.toNat_natCast, not_true_eq_false, not_false_eq_true] ; omega)
    all_goals
      (repeat' first
        | with_reducible refine e_M_think ?_
        | with_reducible refine e_M_think_54 ?_
        | with_reducible refine xr1 ?_
        | with_reducible refine xr2 ?_
        | with_reducible refine xr3 ?_
        | with_reducible refine xr4 ?_
        | with_reducible refine xr6 ?_
        | with_reducible refine mr1 ?_
        | with_reducible refine mr2 ?_
        | with_reducible refine mr3 ?_
        | with_reducible refine mr4 ?_
        | with_reducible refine mr6 ?_
        | with_reducible refine xf1 ?_
        | with_reducible refine xf2 ?_
        | with_reducible refine xf3 ?_
        | with_reducible refine xf6 ?_
        | with_reducible refine mf1 ?_
        | with_reducible refine mf2 ?_
        | with_reducible refine mf3 ?_
        | with_reducible refine mf6 ?_
        | with_reducible exact isB0
        | with_reducible exact isB1
        | with_reducible refine And.intro ?_ ?_
        | (with_reducible refine fun (hz : (_ : Int) < _) => ?_) <;> ((try simp (discharger := first | decide | omega) only [ms_eq, ms_nk, ms_ni, w32_id, w64_id, Int.toNat_natCast, not_true_eq_false, not_false_eq_true] at hz) ; (try (exfalso; omega)))
        | (with_reducible refine fun (hz : (_ : Int) ≤ _) => ?_) <;> ((try simp (discharger := first | decide | omega) only [ms_eq, ms_nk, ms_ni, w32_id, w64_id, Int.toNat_natCast, not_true_eq_false, not_false_eq_true] at hz) ; (try (exfalso; omega)))
        | (with_reducible refine fun (hz : (_ : Int) = _) => ?_) <;> ((try simp (discharger := first | decide | omega) only [ms_eq, ms_nk, ms_ni, w32_id, w64_id, Int.toNat_natCast, not_true_eq_false, not_false_eq_true] at hz) ; (try (exfalso; omega)))
        | (with_reducible refine fun (hz : ¬ (_ : Int) = _) => ?_) <;> ((try simp (discharger := first | decide | omega) only [ms_eq, ms_nk, ms_ni, w32_id, w64_id, Int.toNat_natCast, not_true_eq_false, not_false_eq_true] at hz) ; (try (exfalso; omega)))
        | (with_reducible refine fun (hz : _ ∨ _) => ?_) <;> ((try simp (discharger := first | decide | omega) only [ms_eq, ms_nk, ms_ni, w32_id, w64_id, Int.toNat_natCast, not_true_eq_false, not_false_eq_true] at hz) ; (try (exfalso; omega)))
        | omega
        | (simp (discharger := first | decide | omega) only [ms_eq, ms_nk, ms_ni, w32_id, w64_id, Int.toNat_natCast, not_true_eq_false, not_false_eq_true] ; omega))
    all_goals exact PQ.rf0 hR (by decide)
  have hx : ∀ K : Prop, K_X_think_38 39 (fun r σ1 => wp 40 m_M_think [.inr (.inr 49), .inl a1, .inl a2, .inl a3, .inl a4, .inl a5] σ1 (fun r2 σ2 => PQ r r2 σ2)) a1 a2 a3 a4 a5 0 A → wp 40 m_X_think [.inr (.inr 0), .inl a1, .inl a2, .inl a3, .inl a4, .inl a5] A (fun r σ1 => wp 40 m_M_think [.inr (.inr 49), .inl a1, .inl a2, .inl a3, .inl a4, .inl a5] σ1 (fun r2 σ2 => PQ r r2 σ2)) := fun _ hK => by
    refine e_X_think ⟨fun h => by omega, fun _ => ⟨fun h1 => ⟨fun h2 => ⟨fun h3 => ⟨fun h4 => absurd ⟨h1, h2, h3, h4⟩ c2, fun _ => e_X_think_37 hK⟩, fun _ => e_X_think_37 hK⟩, fun _ => e_X_think_37 hK⟩, fun _ => e_X_think_37 hK⟩⟩
  refine hx True ?_
  by_cases c3 : a1 < 0 ∨ a2 < 0 ∨ a3 < 0 ∨ a4 < 0 ∨ a5 < 1
  · repeat' first
    | with_reducible refine e_X_think_38 ?_
    | with_reducible refine e_X_think_68 ?_
    | with_reducible refine xr1 ?_
    | with_reducible refine xr2 ?_
    | with_reducible refine xr3 ?_
    | with_reducible refine xr4 ?_
    | with_reducible refine xr6 ?_
    | with_reducible refine mr1 ?_
    | with_reducible refine mr2 ?_
    | with_reducible refine mr3 ?_
    | with_reducible refine mr4 ?_
    | with_reducible refine mr6 ?_
    | with_reducible refine xf1 ?_
    | with_reducible refine xf2 ?_
    | with_reducible refine xf3 ?_
    | with_reducible refine xf6 ?_
    | with_reducible refine mf1 ?_
    | with_reducible refine mf2 ?_
    | with_reducible refine mf3 ?_
    | with_reducible refine mf6 ?_
    | with_reducible exact isB0
    | with_reducible exact isB1
    | with_reducible refine And.intro ?_ ?_
    | (with_reducible refine fun (hz : (_ : Int) < _) => ?_) <;> ((try simp (discharger := first | decide | omega) only [ms_eq, ms_nk, ms_ni, w32_id, w64_id, Int.toNat_natCast, not_true_eq_false, not_false_eq_true] at hz) ; (try (exfalso; omega)))
    | (with_reducible refine fun (hz : (_ : Int) ≤ _) => ?_) <;> ((try simp (discharger := first | decide | omega) only [ms_eq, ms_nk, ms_ni, w32_id, w64_id, Int.toNat_natCast, not_true_eq_false, not_false_eq_true] at hz) ; (try (exfalso; omega)))
    | (with_reducible refine fun (hz : (_ : Int) = _) => ?_) <;> ((try simp (discharger := first | decide | omega) only [ms_eq, ms_nk, ms_ni, w32_id, w64_id, Int.toNat_natCast, not_true_eq_false, not_false_eq_true] at hz) ; (try (exfalso; omega)))
    | (with_reducible refine fun (hz : ¬ (_ : Int) = _) => ?_) <;> ((try simp (discharger := first | decide | omega) only [ms_eq, ms_nk, ms_ni, w32_id, w64_id, Int.toNat_natCast, not_true_eq_false, not_false_eq_true] at hz) ; (try (exfalso; omega)))
    | (with_reducible refine fun (hz : _ ∨ _) => ?_) <;> ((try simp (discharger := first | decide | omega) only [ms_eq, ms_nk, ms_ni, w32_id, w64_id, Int.toNat_natCast, not_true_eq_false, not_false_eq_true] at hz) ; (try (exfalso; omega)))
    | omega
    | (simp (discharger := first | decide | omega) only [ms_eq, ms_nk, ms_ni, w32_id, w64_id, Int.toNat_natCast, not_true_eq_false, not_false_eq_true] ; omega)
    all_goals
      (repeat' first
        | with_reducible refine e_M_think ?_
        | with_reducible refine e_M_think_54 ?_
        | with_reducible refine xr1 ?_
        | with_reducible refine xr2 ?_
        | with_reducible refine xr3 ?_
        | with_reducible refine xr4 ?_
        | with_reducible refine xr6 ?_
        | with_reducible refine mr1 ?_
        | with_reducible refine mr2 ?_
        | with_reducible refine mr3 ?_
        | with_reducible refine mr4 ?_
        | with_reducible refine mr6 ?_
        | with_reducible refine xf1 ?_
        | with_reducible refine xf2 ?_
        | with_reducible refine xf3 ?_
        | with_reducible refine xf6 ?_
        | with_reducible refine mf1 ?_
        | with_reducible refine mf2 ?_
        | with_reducible refine mf3 ?_
        | with_reducible refine mf6 ?_
        | with_reducible exact isB0
        | with_reducible exact isB1
        | with_reducible refine And.intro ?_ ?_
        | (with_reducible refine fun (hz : (_ : Int) < _) => ?_) <;> ((try simp (discharger := first | decide | omega) only [ms_eq, ms_nk, ms_ni, w32_id, w64_id, Int.toNat_natCast, not_true_eq_false, not_false_eq_true] at hz) ; (try (exfalso; omega)))
        | (with_reducible refine fun (hz : (_ : Int) ≤ _) => ?_) <;> ((try simp (discharger := first | decide | omega) only [ms_eq, ms_nk, ms_ni, w32_id, w64_id, Int.toNat_natCast, not_true_eq_false, not_false_eq_true] at hz) ; (try (exfalso; omega)))
        | (with_reducible refine fun (hz : (_ : Int) = _) => ?_) <;> ((try simp (discharger := first | decide | omega) only [ms_eq, ms_nk, ms_ni, w32_id, w64_id, Int.toNat_natCast, not_true_eq_false, not_false_eq_true] at hz) ; (try (exfalso; omega)))
        | (with_reducible refine fun (hz : ¬ (_ : Int) = _) => ?_) <;> ((try simp (discharger := first | decide | omega) only [ms_eq, ms_nk, ms_ni, w32_id, w64_id, Int.toNat_natCast, not_true_eq_false, not_false_eq_true] at hz) ; (try (exfalso; omega)))
        | (with_reducible refine fun (hz : _ ∨ _) => ?_) <;> ((try simp (discharger := first | decide | omega) only [ms_eq, ms_nk, ms_ni, w32_id, w64_id, Int.toNat_natCast, not_true_eq_false, not_false_eq_true] at hz) ; (try (exfalso; omega)))
        | omega
        | (simp (discharger := first | decide | omega) only [ms_eq, ms_nk, ms_ni, w32_id, w64_id, Int.toNat_natCast, not_true_eq_false, not_false_eq_true] ; omega))
    all_goals exact PQ.rf0 hR (by decide)
  have hm : ∀ σ, σ 49 0 = A 49 0 → ∀ K : Int, K_M_think_61 39 (fun r2 σ2 => PQ K r2 σ2) a1 a2 a3 a4 a5 σ → wp 40 m_M_think [.inr (.inr 49), .inl a1, .inl a2, .inl a3, .inl a4, .inl a5] σ (fun r2 σ2 => PQ K r2 σ2) := fun σ hs K hK => by
    refine e_M_think ⟨fun h => by omega, fun _ => ⟨fun h => by omega, fun _ => ⟨fun h => by omega, fun _ => ⟨fun h => by omega, fun _ => ⟨fun h => by omega, fun _ => ⟨fun h => by omega, fun _ => ⟨fun h1 => ⟨fun h2 => ⟨fun h3 => ⟨fun h4 => absurd ⟨h1, h2, h3, h4⟩ c2, fun _ => hK⟩, fun _ => hK⟩, fun _ => hK⟩, fun _ => hK⟩⟩⟩⟩⟩⟩⟩
  by_cases c4 : 99 < a1 ∨ 99 < a2 ∨ 99 < a3 ∨ 99 < a4 ∨ 99 < a5
  · repeat' first
    | with_reducible refine e_X_think_38 ?_
    | with_reducible refine e_X_think_100 ?_
    | with_reducible refine xr1 ?_
    | with_reducible refine xr2 ?_
    | with_reducible refine xr3 ?_
    | with_reducible refine xr4 ?_
    | with_reducible refine xr6 ?_
    | with_reducible refine mr1 ?_
    | with_reducible refine mr2 ?_
    | with_reducible refine mr3 ?_
    | with_reducible refine mr4 ?_
    | with_reducible refine mr6 ?_
    | with_reducible refine xf1 ?_
    | with_reducible refine xf2 ?_
    | with_reducible refine xf3 ?_
    | with_reducible refine xf6 ?_
    | with_reducible refine mf1 ?_
    | with_reducible refine mf2 ?_
    | with_reducible refine mf3 ?_
    | with_reducible refine mf6 ?_
    | with_reducible exact isB0
    | with_reducible exact isB1
    | with_reducible refine And.intro ?_ ?_
    | (with_reducible refine fun (hz : (_ : Int) < _) => ?_) <;> ((try simp (discharger := first | decide | omega) only [ms_eq, ms_nk, ms_ni, w32_id, w64_id, Int.toNat_natCast, not_true_eq_false, not_false_eq_true] at hz) ; (try (exfalso; omega)))
    | (with_reducible refine fun (hz : (_ : Int) ≤ _) => ?_) <;> ((try simp (discharger := first | decide | omega) only [ms_eq, ms_nk, ms_ni, w32_id, w64_id, Int.toNat_natCast, not_true_eq_false, not_false_eq_true] at hz) ; (try (exfalso; omega)))
    | (with_reducible refine fun (hz : (_ : Int) = _) => ?_) <;> ((try simp (discharger := first | decide | omega) only [ms_eq, ms_nk, ms_ni, w32_id, w64_id, Int.toNat_natCast, not_true_eq_false, not_false_eq_true] at hz) ; (try (exfalso; omega)))
    | (with_reducible refine fun (hz : ¬ (_ : Int) = _) => ?_) <;> ((try simp (discharger := first | decide | omega) only [ms_eq, ms_nk, ms_ni, w32_id, w64_id, Int.toNat_natCast, not_true_eq_false, not_false_eq_true] at hz) ; (try (exfalso; omega)))
    | (with_reducible refine fun (hz : _ ∨ _) => ?_) <;> ((try simp (discharger := first | decide | omega) only [ms_eq, ms_nk, ms_ni, w32_id, w64_id, Int.toNat_natCast, not_true_eq_false, not_false_eq_true] at hz) ; (try (exfalso; omega)))
    | omega
    | (simp (discharger := first | decide | omega) only [ms_eq, ms_nk, ms_ni, w32_id, w64_id, Int.toNat_natCast, not_true_eq_false, not_false_eq_true] ; omega)
    all_goals
      refine hm _ (ms_nk (by decide)) _ ?_
      (repeat' first
        | with_reducible refine e_M_think_61 ?_
        | with_reducible refine e_M_think_73 ?_
        | with_reducible refine e_M_think_85 ?_
        | with_reducible refine e_M_think_98 ?_
        | with_reducible refine e_M_think_102 ?_
        | with_reducible refine e_M_think_103 ?_
        | with_reducible refine e_M_think_150 ?_
        | with_reducible refine xr1 ?_
        | with_reducible refine xr2 ?_
        | with_reducible refine xr3 ?_
        | with_reducible refine xr4 ?_
        | with_reducible refine xr6 ?_
        | with_reducible refine mr1 ?_
        | with_reducible refine mr2 ?_
        | with_reducible refine mr3 ?_
        | with_reducible refine mr4 ?_
        | with_reducible refine mr6 ?_
        | with_reducible refine xf1 ?_
        | with_reducible refine xf2 ?_
        | with_reducible refine xf3 ?_
        | with_reducible refine xf6 ?_
        | with_reducible refine mf1 ?_
        | with_reducible refine mf2 ?_
        | with_reducible refine mf3 ?_
        | with_reducible refine mf6 ?_
        | with_reducible exact isB0
        | with_reducible exact isB1
        | with_reducible refine And.intro ?_ ?_
        | (with_reducible refine fun (hz : (_ : Int) < _) => ?_) <;> ((try simp (discharger := first | decide | omega) only [ms_eq, ms_nk, ms_ni, w32_id, w64_id, Int.toNat_natCast, not_true_eq_false, not_false_eq_true] at hz) ; (try (exfalso; omega)))
        | (with_reducible refine fun (hz : (_ : Int) ≤ _) => ?_) <;> ((try simp (discharger := first | decide | omega) only [ms_eq, ms_nk, ms_ni, w32_id, w64_id, Int.toNat_natCast, not_true_eq_false, not_false_eq_true] at hz) ; (try (exfalso; omega)))
        | (with_reducible refine fun (hz : (_ : Int) = _) => ?_) <;> ((try simp (discharger := first | decide | omega) only [ms_eq, ms_nk, ms_ni, w32_id, w64_id, Int.toNat_natCast, not_true_eq_false, not_false_eq_true] at hz) ; (try (exfalso; omega)))
        | (with_reducible refine fun (hz : ¬ (_ : Int) = _) => ?_) <;> ((try simp (discharger := first | decide | omega) only [ms_eq, ms_nk, ms_ni, w32_id, w64_id, Int.toNat_natCast, not_true_eq_false, not_false_eq_true] at hz) ; (try (exfalso; omega)))
        | (with_reducible refine fun (hz : _ ∨ _) => ?_) <;> ((try simp (discharger := first | decide | omega) only [ms_eq, ms_nk, ms_ni, w32_id, w64_id, Int.toNat_natCast, not_true_eq_false, not_false_eq_true] at hz) ; (try (exfalso; omega)))
        | omega
        | (simp (discharger := first | decide | omega) only [ms_eq, ms_nk, ms_ni, w32_id, w64_id, Int.toNat_natCast, not_true_eq_false, not_false_eq_true] ; omega))
    all_goals exact PQ.rf0 hR (by decide)
  by_cases c5 : (A 7 1 < 2 ∧ ¬ a2 = 0) ∨ (A 7 1 < 3 ∧ ¬ a3 = 0) ∨ (A 7 1 < 4 ∧ ¬ a4 = 0)
  · repeat' first
    | with_reducible refine e_X_think_38 ?_
    | with_reducible refine e_S_thoughtFits ?_
    | with_reducible refine e_X_think_132 ?_
    | with_reducible refine xr1 ?_
    | with_reducible refine xr2 ?_
    | with_reducible refine xr3 ?_
    | with_reducible refine xr4 ?_
    | with_reducible refine xr6 ?_
    | with_reducible refine mr1 ?_
    | with_reducible refine mr2 ?_
    | with_reducible refine mr3 ?_
    | with_reducible refine mr4 ?_
    | with_reducible refine mr6 ?_
    | with_reducible refine xf1 ?_
    | with_reducible refine xf2 ?_
    | with_reducible refine xf3 ?_
    | with_reducible refine xf6 ?_
    | with_reducible refine mf1 ?_
    | with_reducible refine mf2 ?_
    | with_reducible refine mf3 ?_
    | with_reducible refine mf6 ?_
    | with_reducible exact isB0
    | with_reducible exact isB1
    | with_reducible refine And.intro ?_ ?_
    | (with_reducible refine fun (hz : (_ : Int) < _) => ?_) <;> ((try simp (discharger := first | decide | omega) only [ms_eq, ms_nk, ms_ni, w32_id, w64_id, Int.toNat_natCast, not_true_eq_false, not_false_eq_true] at hz) ; (try (exfalso; omega)))
    | (with_reducible refine fun (hz : (_ : Int) ≤ _) => ?_) <;> ((try simp (discharger := first | decide | omega) only [ms_eq, ms_nk, ms_ni, w32_id, w64_id, Int.toNat_natCast, not_true_eq_false, not_false_eq_true] at hz) ; (try (exfalso; omega)))
    | (with_reducible refine fun (hz : (_ : Int) = _) => ?_) <;> ((try simp (discharger := first | decide | omega) only [ms_eq, ms_nk, ms_ni, w32_id, w64_id, Int.toNat_natCast, not_true_eq_false, not_false_eq_true] at hz) ; (try (exfalso; omega)))
    | (with_reducible refine fun (hz : ¬ (_ : Int) = _) => ?_) <;> ((try simp (discharger := first | decide | omega) only [ms_eq, ms_nk, ms_ni, w32_id, w64_id, Int.toNat_natCast, not_true_eq_false, not_false_eq_true] at hz) ; (try (exfalso; omega)))
    | (with_reducible refine fun (hz : _ ∨ _) => ?_) <;> ((try simp (discharger := first | decide | omega) only [ms_eq, ms_nk, ms_ni, w32_id, w64_id, Int.toNat_natCast, not_true_eq_false, not_false_eq_true] at hz) ; (try (exfalso; omega)))
    | omega
    | (simp (discharger := first | decide | omega) only [ms_eq, ms_nk, ms_ni, w32_id, w64_id, Int.toNat_natCast, not_true_eq_false, not_false_eq_true] ; omega)
    all_goals
      refine hm _ (ms_nk (by decide)) _ ?_
      (repeat' first
        | with_reducible refine e_M_think_61 ?_
        | with_reducible refine e_M_think_73 ?_
        | with_reducible refine e_M_think_85 ?_
        | with_reducible refine e_M_think_98 ?_
        | with_reducible refine e_M_think_102 ?_
        | with_reducible refine e_M_think_103 ?_
        | with_reducible refine e_M_think_150 ?_
        | with_reducible refine xr1 ?_
        | with_reducible refine xr2 ?_
        | with_reducible refine xr3 ?_
        | with_reducible refine xr4 ?_
        | with_reducible refine xr6 ?_
        | with_reducible refine mr1 ?_
        | with_reducible refine mr2 ?_
        | with_reducible refine mr3 ?_
        | with_reducible refine mr4 ?_
        | with_reducible refine mr6 ?_
        | with_reducible refine xf1 ?_
        | with_reducible refine xf2 ?_
        | with_reducible refine xf3 ?_
        | with_reducible refine xf6 ?_
        | with_reducible refine mf1 ?_
        | with_reducible refine mf2 ?_
        | with_reducible refine mf3 ?_
        | with_reducible refine mf6 ?_
        | with_reducible exact isB0
        | with_reducible exact isB1
        | with_reducible refine And.intro ?_ ?_
        | (with_reducible refine fun (hz : (_ : Int) < _) => ?_) <;> ((try simp (discharger := first | decide | omega) only [ms_eq, ms_nk, ms_ni, w32_id, w64_id, Int.toNat_natCast, not_true_eq_false, not_false_eq_true] at hz) ; (try (exfalso; omega)))
        | (with_reducible refine fun (hz : (_ : Int) ≤ _) => ?_) <;> ((try simp (discharger := first | decide | omega) only [ms_eq, ms_nk, ms_ni, w32_id, w64_id, Int.toNat_natCast, not_true_eq_false, not_false_eq_true] at hz) ; (try (exfalso; omega)))
        | (with_reducible refine fun (hz : (_ : Int) = _) => ?_) <;> ((try simp (discharger := first | decide | omega) only [ms_eq, ms_nk, ms_ni, w32_id, w64_id, Int.toNat_natCast, not_true_eq_false, not_false_eq_true] at hz) ; (try (exfalso; omega)))
        | (with_reducible refine fun (hz : ¬ (_ : Int) = _) => ?_) <;> ((try simp (discharger := first | decide | omega) only [ms_eq, ms_nk, ms_ni, w32_id, w64_id, Int.toNat_natCast, not_true_eq_false, not_false_eq_true] at hz) ; (try (exfalso; omega)))
        | (with_reducible refine fun (hz : _ ∨ _) => ?_) <;> ((try simp (discharger := first | decide | omega) only [ms_eq, ms_nk, ms_ni, w32_id, w64_id, Int.toNat_natCast, not_true_eq_false, not_false_eq_true] at hz) ; (try (exfalso; omega)))
        | omega
        | (simp (discharger := first | decide | omega) only [ms_eq, ms_nk, ms_ni, w32_id, w64_id, Int.toNat_natCast, not_true_eq_false, not_false_eq_true] ; omega))
    all_goals exact PQ.rf0 hR (by decide)
  by_cases c6 : A 7 16 = 4
  · repeat' first
    | with_reducible refine e_X_think_38 ?_
    | with_reducible refine e_S_thoughtFits ?_
    | with_reducible refine e_X_think_132 ?_
    | with_reducible refine xr1 ?_
    | with_reducible refine xr2 ?_
    | with_reducible refine xr3 ?_
    | with_reducible refine xr4 ?_
    | with_reducible refine xr6 ?_
    | with_reducible refine mr1 ?_
    | with_reducible refine mr2 ?_
    | with_reducible refine mr3 ?_
    | with_reducible refine mr4 ?_
    | with_reducible refine mr6 ?_
    | with_reducible refine xf1 ?_
    | with_reducible refine xf2 ?_
    | with_reducible refine xf3 ?_
    | with_reducible refine xf6 ?_
    | with_reducible refine mf1 ?_
    | with_reducible refine mf2 ?_
    | with_reducible refine mf3 ?_
    | with_reducible refine mf6 ?_
    | with_reducible exact isB0
    | with_reducible exact isB1
    | with_reducible refine And.intro ?_ ?_
    | (with_reducible refine fun (hz : (_ : Int) < _) => ?_) <;> ((try simp (discharger := first | decide | omega) only [ms_eq, ms_nk, ms_ni, w32_id, w64_id, Int.toNat_natCast, not_true_eq_false, not_false_eq_true] at hz) ; (try (exfalso; omega)))
    | (with_reducible refine fun (hz : (_ : Int) ≤ _) => ?_) <;> ((try simp (discharger := first | decide | omega) only [ms_eq, ms_nk, ms_ni, w32_id, w64_id, Int.toNat_natCast, not_true_eq_false, not_false_eq_true] at hz) ; (try (exfalso; omega)))
    | (with_reducible refine fun (hz : (_ : Int) = _) => ?_) <;> ((try simp (discharger := first | decide | omega) only [ms_eq, ms_nk, ms_ni, w32_id, w64_id, Int.toNat_natCast, not_true_eq_false, not_false_eq_true] at hz) ; (try (exfalso; omega)))
    | (with_reducible refine fun (hz : ¬ (_ : Int) = _) => ?_) <;> ((try simp (discharger := first | decide | omega) only [ms_eq, ms_nk, ms_ni, w32_id, w64_id, Int.toNat_natCast, not_true_eq_false, not_false_eq_true] at hz) ; (try (exfalso; omega)))
    | (with_reducible refine fun (hz : _ ∨ _) => ?_) <;> ((try simp (discharger := first | decide | omega) only [ms_eq, ms_nk, ms_ni, w32_id, w64_id, Int.toNat_natCast, not_true_eq_false, not_false_eq_true] at hz) ; (try (exfalso; omega)))
    | omega
    | (simp (discharger := first | decide | omega) only [ms_eq, ms_nk, ms_ni, w32_id, w64_id, Int.toNat_natCast, not_true_eq_false, not_false_eq_true] ; omega)
    all_goals
      refine hm _ (ms_nk (by decide)) _ ?_
      (repeat' first
        | with_reducible refine e_M_think_61 ?_
        | with_reducible refine e_M_think_73 ?_
        | with_reducible refine e_M_think_85 ?_
        | with_reducible refine e_M_think_98 ?_
        | with_reducible refine e_M_think_102 ?_
        | with_reducible refine e_M_think_103 ?_
        | with_reducible refine e_M_think_150 ?_
        | with_reducible refine xr1 ?_
        | with_reducible refine xr2 ?_
        | with_reducible refine xr3 ?_
        | with_reducible refine xr4 ?_
        | with_reducible refine xr6 ?_
        | with_reducible refine mr1 ?_
        | with_reducible refine mr2 ?_
        | with_reducible refine mr3 ?_
        | with_reducible refine mr4 ?_
        | with_reducible refine mr6 ?_
        | with_reducible refine xf1 ?_
        | with_reducible refine xf2 ?_
        | with_reducible refine xf3 ?_
        | with_reducible refine xf6 ?_
        | with_reducible refine mf1 ?_
        | with_reducible refine mf2 ?_
        | with_reducible refine mf3 ?_
        | with_reducible refine mf6 ?_
        | with_reducible exact isB0
        | with_reducible exact isB1
        | with_reducible refine And.intro ?_ ?_
        | (with_reducible refine fun (hz : (_ : Int) < _) => ?_) <;> ((try simp (discharger := first | decide | omega) only [ms_eq, ms_nk, ms_ni, w32_id, w64_id, Int.toNat_natCast, not_true_eq_false, not_false_eq_true] at hz) ; (try (exfalso; omega)))
        | (with_reducible refine fun (hz : (_ : Int) ≤ _) => ?_) <;> ((try simp (discharger := first | decide | omega) only [ms_eq, ms_nk, ms_ni, w32_id, w64_id, Int.toNat_natCast, not_true_eq_false, not_false_eq_true] at hz) ; (try (exfalso; omega)))
        | (with_reducible refine fun (hz : (_ : Int) = _) => ?_) <;> ((try simp (discharger := first | decide | omega) only [ms_eq, ms_nk, ms_ni, w32_id, w64_id, Int.toNat_natCast, not_true_eq_false, not_false_eq_true] at hz) ; (try (exfalso; omega)))
        | (with_reducible refine fun (hz : ¬ (_ : Int) = _) => ?_) <;> ((try simp (discharger := first | decide | omega) only [ms_eq, ms_nk, ms_ni, w32_id, w64_id, Int.toNat_natCast, not_true_eq_false, not_false_eq_true] at hz) ; (try (exfalso; omega)))
        | (with_reducible refine fun (hz : _ ∨ _) => ?_) <;> ((try simp (discharger := first | decide | omega) only [ms_eq, ms_nk, ms_ni, w32_id, w64_id, Int.toNat_natCast, not_true_eq_false, not_false_eq_true] at hz) ; (try (exfalso; omega)))
        | omega
        | (simp (discharger := first | decide | omega) only [ms_eq, ms_nk, ms_ni, w32_id, w64_id, Int.toNat_natCast, not_true_eq_false, not_false_eq_true] ; omega))
    all_goals exact PQ.rf0 hR (by decide)
  obtain ⟨n, hn⟩ : ∃ n : Nat, A 7 16 = (n : Int) := ⟨(A 7 16).toNat, by omega⟩
  have hn4 : n < 4 := by omega
  have hn2 : A 49 12 = (n : Int) := by omega
  have w0 : w32 ((n : Int) * 4) = ((4 * n : Nat) : Int) := w32_eq (by omega) (by omega)
  have w1 : w32 (((4 * n : Nat) : Int) + 1) = ((4 * n + 1 : Nat) : Int) := w32_eq (by omega) (by omega)
  have w2 : w32 (((4 * n : Nat) : Int) + 2) = ((4 * n + 2 : Nat) : Int) := w32_eq (by omega) (by omega)
  have w3 : w32 (((4 * n : Nat) : Int) + 3) = ((4 * n + 3 : Nat) : Int) := w32_eq (by omega) (by omega)
  have v0 : w32 (4 * (n : Int)) = ((4 * n : Nat) : Int) := w32_eq (by omega) (by omega)
  have wn : w32 ((n : Int) + 1) = (n : Int) + 1 := w32_id (by omega) (by omega)
  -- the class keeps it
  have kx : K_X_think_38 39 (fun r σ1 => wp 40 m_M_think [.inr (.inr 49), .inl a1, .inl a2, .inl a3, .inl a4, .inl a5] σ1 (fun r2 σ2 => PQ r r2 σ2)) a1 a2 a3 a4 a5 0 A ↔ True := by
    refine ⟨fun _ => trivial, fun _ => ?_⟩
    refine e_X_think_38 ⟨fun _ => ⟨fun h => by omega, fun _ => ⟨fun h => by omega, fun _ => ⟨fun h => by omega, fun _ => ⟨fun h => by omega, fun _ => ?_⟩⟩⟩⟩, fun h => absurd rfl h⟩
    have fits : ∀ K : Prop, ((1 : Int) = 0 → K_X_think_132 39 (fun r σ1 => wp 40 m_M_think [.inr (.inr 49), .inl a1, .inl a2, .inl a3, .inl a4, .inl a5] σ1 (fun r2 σ2 => PQ r r2 σ2)) A) ∧ (¬ (1 : Int) = 0 → (A 7 16 < 4 → wp 39 m_S_keepThought [.inr (.inr 7), .inl a1, .inl a2, .inl a3, .inl a4, .inl a5] A (fun (r3 : Int) (s4 : Mem) => wp 40 m_M_think [.inr (.inr 49), .inl a1, .inl a2, .inl a3, .inl a4, .inl a5] s4 (fun r2 σ2 => PQ (s4 7 16) r2 σ2))) ∧ (4 ≤ A 7 16 → K_X_think_132 39 (fun r σ1 => wp 40 m_M_think [.inr (.inr 49), .inl a1, .inl a2, .inl a3, .inl a4, .inl a5] σ1 (fun r2 σ2 => PQ r r2 σ2)) A)) → wp 39 m_S_thoughtFits [.inr (.inr 7), .inl a2, .inl a3, .inl a4] A (fun (r1 : Int) (s2 : Mem) => (r1 = 0 → K_X_think_132 39 (fun r σ1 => wp 40 m_M_think [.inr (.inr 49), .inl a1, .inl a2, .inl a3, .inl a4, .inl a5] σ1 (fun r2 σ2 => PQ r r2 σ2)) s2) ∧ (¬ r1 = 0 → ((s2 7 16) < 4 → wp 39 m_S_keepThought [.inr (.inr 7), .inl a1, .inl a2, .inl a3, .inl a4, .inl a5] s2 (fun (r3 : Int) (s4 : Mem) => wp 40 m_M_think [.inr (.inr 49), .inl a1, .inl a2, .inl a3, .inl a4, .inl a5] s4 (fun r2 σ2 => PQ (s4 7 16) r2 σ2))) ∧ (4 ≤ (s2 7 16) → K_X_think_132 39 (fun r σ1 => wp 40 m_M_think [.inr (.inr 49), .inl a1, .inl a2, .inl a3, .inl a4, .inl a5] σ1 (fun r2 σ2 => PQ r r2 σ2)) s2))) := fun _ hK => by
      refine e_S_thoughtFits ⟨fun h1 => ⟨fun h2 => ⟨fun h3 => hK, fun h3 => ⟨fun _ => hK, fun h => by omega⟩⟩, fun h2 => ⟨fun _ => ⟨fun h3 => by omega, fun h3 => ⟨fun _ => hK, fun h => by omega⟩⟩, fun h => by omega⟩⟩, fun h1 => ⟨fun _ => ⟨fun h => by omega, fun _ => ⟨fun _ => ⟨fun h => by omega, fun _ => ⟨fun _ => hK, fun h => by omega⟩⟩, fun h => by omega⟩⟩, fun h => by omega⟩⟩
    refine fits True ⟨fun h => by omega, fun _ => ⟨fun _ => ?_, fun h => by omega⟩⟩
    refine e_S_keepThought ⟨fun _ => ?_, fun h => by omega⟩
    simp (discharger := first | decide | omega) only [hn, w0, w1, w2, w3, ms_nk, ms_ni, ms_eq, Int.toNat_natCast, wn]
    refine ⟨⟨by omega, by omega⟩, ⟨by omega, by omega⟩, ⟨by omega, by omega⟩, ⟨by omega, by omega⟩, ⟨by omega, by omega⟩, ?_⟩
    obtain ⟨S, hS⟩ : ∃ S, S = mset (mset (mset (mset (mset (mset A 17 (4 * n) a1) 17 (4 * n + 1) a2) 17 (4 * n + 2) a3) 17 (4 * n + 3) a4) 18 n a5) 7 16 ((n : Int) + 1) := ⟨_, rfl⟩
    rw [← hS]
    have q0 : S 49 0 = A 49 0 := by rw [hS]; rfl
    have q12 : S 49 12 = (n : Int) := by rw [hS]; exact hn2
    have g1 := gI_le (a := a1) (b := a2) (B := 99) (by omega) (by omega)
    have g2 := gI_le (a := a3) (b := a4) (B := 99) (by omega) (by omega)
    obtain ⟨G, hG⟩ : ∃ G, G = gI (gI a1 a2) (gI a3 a4) := ⟨_, rfl⟩
    have g3 := gI_le (a := gI a1 a2) (b := gI a3 a4) (B := 99) (by omega) (by omega)
    rw [← hG] at g3
    have d1 : G ∣ a1 := by rw [hG]; exact Int.dvd_trans gI_dl gI_dl
    have d2 : G ∣ a2 := by rw [hG]; exact Int.dvd_trans gI_dl gI_dr
    have d3 : G ∣ a3 := by rw [hG]; exact Int.dvd_trans gI_dr gI_dl
    have d4 : G ∣ a4 := by rw [hG]; exact Int.dvd_trans gI_dr gI_dr
    have gp : 1 ≤ G := by
      refine Classical.byContradiction (fun z => ?_)
      have z0 : G = 0 := by omega
      rw [z0] at d1 d2 d3 d4
      exact c2 ⟨Int.zero_dvd.mp d1, Int.zero_dvd.mp d2, Int.zero_dvd.mp d3, Int.zero_dvd.mp d4⟩
    have t1 := tdiv_bd (a := a1) (L := 99) gp (by omega)
    have t2 := tdiv_bd (a := a2) (L := 99) gp (by omega)
    have t3 := tdiv_bd (a := a3) (L := 99) gp (by omega)
    have t4 := tdiv_bd (a := a4) (L := 99) gp (by omega)
    have u0 : w32 G = G := w32_id (by omega) (by omega)
    have u1 : w32 (a1.tdiv G) = a1.tdiv G := w32_id (by omega) (by omega)
    have u2 : w32 (a2.tdiv G) = a2.tdiv G := w32_id (by omega) (by omega)
    have u3 : w32 (a3.tdiv G) = a3.tdiv G := w32_id (by omega) (by omega)
    have u4 : w32 (a4.tdiv G) = a4.tdiv G := w32_id (by omega) (by omega)
    refine hm S q0 _ ?_
    repeat' first
      | with_reducible refine e_M_think_61 ?_
      | with_reducible refine e_M_think_73 ?_
      | with_reducible refine e_M_think_85 ?_
      | with_reducible refine e_M_think_98 ?_
      | with_reducible refine e_M_think_102 ?_
      | with_reducible refine e_M_think_103 ?_
      | with_reducible refine e_M_think_150 ?_
      | with_reducible refine xr1 ?_
      | with_reducible refine xr2 ?_
      | with_reducible refine xr3 ?_
      | with_reducible refine xr4 ?_
      | with_reducible refine xr6 ?_
      | with_reducible refine mr1 ?_
      | with_reducible refine mr2 ?_
      | with_reducible refine mr3 ?_
      | with_reducible refine mr4 ?_
      | with_reducible refine mr6 ?_
      | with_reducible refine xf1 ?_
      | with_reducible refine xf2 ?_
      | with_reducible refine xf3 ?_
      | with_reducible refine xf6 ?_
      | with_reducible refine mf1 ?_
      | with_reducible refine mf2 ?_
      | with_reducible refine mf3 ?_
      | with_reducible refine mf6 ?_
      | with_reducible exact isB0
      | with_reducible exact isB1
      | with_reducible refine And.intro ?_ ?_
      | (with_reducible refine fun (hz : (_ : Int) < _) => ?_) <;> ((try simp (discharger := first | decide | omega) only [ms_eq, ms_nk, ms_ni, w32_id, w64_id, Int.toNat_natCast, not_true_eq_false, not_false_eq_true, q0, q12] at hz) ; (try (exfalso; omega)))
      | (with_reducible refine fun (hz : (_ : Int) ≤ _) => ?_) <;> ((try simp (discharger := first | decide | omega) only [ms_eq, ms_nk, ms_ni, w32_id, w64_id, Int.toNat_natCast, not_true_eq_false, not_false_eq_true, q0, q12] at hz) ; (try (exfalso; omega)))
      | (with_reducible refine fun (hz : (_ : Int) = _) => ?_) <;> ((try simp (discharger := first | decide | omega) only [ms_eq, ms_nk, ms_ni, w32_id, w64_id, Int.toNat_natCast, not_true_eq_false, not_false_eq_true, q0, q12] at hz) ; (try (exfalso; omega)))
      | (with_reducible refine fun (hz : ¬ (_ : Int) = _) => ?_) <;> ((try simp (discharger := first | decide | omega) only [ms_eq, ms_nk, ms_ni, w32_id, w64_id, Int.toNat_natCast, not_true_eq_false, not_false_eq_true, q0, q12] at hz) ; (try (exfalso; omega)))
      | (with_reducible refine fun (hz : _ ∨ _) => ?_) <;> ((try simp (discharger := first | decide | omega) only [ms_eq, ms_nk, ms_ni, w32_id, w64_id, Int.toNat_natCast, not_true_eq_false, not_false_eq_true, q0, q12] at hz) ; (try (exfalso; omega)))
      | omega
      | (simp (discharger := first | decide | omega) only [ms_eq, ms_nk, ms_ni, w32_id, w64_id, Int.toNat_natCast, not_true_eq_false, not_false_eq_true, q0, q12] ; omega)
    all_goals
      refine sp_M_dv (by omega) (by omega) (sp_M_dv (by omega) (by omega) (sp_M_dv (by omega) (by omega) ?_))
      rw [← hG]
      simp (discharger := first | decide | omega) only [u0, u1, u2, u3, u4, q12, v0, w1, w2, w3, ms_nk, ms_ni, ms_eq, Int.toNat_natCast, wn]
      refine ⟨by omega, ⟨by omega, by omega⟩, by omega, ⟨by omega, by omega⟩, by omega, ⟨by omega, by omega⟩, by omega, ⟨by omega, by omega⟩, ⟨by omega, by omega⟩, ?_⟩
      refine ⟨rfl, ?_⟩
      obtain ⟨B, hB⟩ : ∃ B, B = mset (mset (mset (mset (mset (mset S 57 (4 * n) (a1.tdiv G)) 57 (4 * n + 1) (a2.tdiv G)) 57 (4 * n + 2) (a3.tdiv G)) 57 (4 * n + 3) (a4.tdiv G)) 58 n a5) 49 12 ((n : Int) + 1) := ⟨_, rfl⟩
      rw [← hB]
      rw [hS] at hB
      have hSR := hR.1.thk (B := B) hn hn4 gp ⟨d1, d2, d3, d4⟩ (by omega) c2 c1b (by omega) (by omega) hB
      refine ⟨hSR, ?_, ?_, ?_⟩
      · rw [hB]; exact hR.2.1
      · rw [hB]; exact hR.2.2.1
      · rw [hB]; exact hR.2.2.2
  exact kx.mpr trivial
