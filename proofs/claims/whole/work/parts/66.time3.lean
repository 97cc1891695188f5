-- PURE, 37: the call time
set_option maxHeartbeats 8000000 in
theorem pr_time {A : Mem} (hR : RR A) {a1 : Int} (i1 : InI a1) {a2 : Int} (i2 : InI a2) {a3 : Int} (i3 : InI a3) {a4 : Int} (i4 : InI a4) : wp 40 m_X_time [.inr (.inr 0), .inl a1, .inl a2, .inl a3, .inl a4] A (fun r σ1 => wp 40 m_M_time [.inr (.inr 49), .inl a1, .inl a2, .inl a3, .inl a4] σ1 (fun r2 σ2 => PQ r r2 σ2)) := by
  have sc := hR.sc
  unfold InI at i1 i2 i3 i4
  have hT := tsE hR
  by_cases hv : (0 ≤ a1 ∧ a1 < A 7 13) ∧ 1 ≤ A 7 1 ∧ (a4 = 0 ∨ a4 = 1) ∧ ((a2 = -1 ∧ a3 = -1) ∨ ((0 ≤ a2 ∧ a2 < A 7 13) ∧ ¬ a2 = a1 ∧ (a3 = -1 ∨ ((0 ≤ a3 ∧ a3 < A 7 13) ∧ ¬ a3 = a1 ∧ ¬ a3 = a2))))
  · have ho : 1 ≤ A 7 2 := by omega
    have h6 := tot_pos hR.1 hv.2.1
    have hp := hv.2.2.1
    obtain ⟨u, hu⟩ : ∃ u : Nat, a1 = (u : Int) := ⟨a1.toNat, by omega⟩
    obtain ⟨tt, hn, htt⟩ : ∃ (tt : Nat → Nat), tt 0 = u ∧ (¬ a2 = -1 → a2 = ((tt 1 : Nat) : Int)) ∧ (¬ a3 = -1 → a3 = ((tt 2 : Nat) : Int)) := ⟨fun i => match i with | 0 => u | 1 => a2.toNat | _ => a3.toNat, rfl, fun h => by show a2 = ((a2.toNat : Nat) : Int); omega, fun h => by show a3 = ((a3.toNat : Nat) : Int); omega⟩
    have e1 : a1 = ((tt 0 : Nat) : Int) := by rw [hn]; exact hu
    -- both sides, once the tests are attended
    have fin : ∀ n : Nat, 1 ≤ n ∧ n ≤ 3 → ((n = 1 ∧ a2 = -1 ∧ a3 = -1) ∨ (n = 2 ∧ ¬ a2 = -1 ∧ a3 = -1) ∨ (n = 3 ∧ ¬ a2 = -1 ∧ ¬ a3 = -1)) → ∀ σ, XF A σ → chH σ (fun i => (A 15 (tt i)).toNat) (fun i => A 16 (tt i)) n → wp 39 m_B_bestRule [.inr (.inr 35)] σ (fun r9 s10 => wp 39 m_B_unit [.inr (.inr 35)] s10 (fun r11 s12 => wp 39 m_X_tell [.inr (.inl r9), .inr (.inl r11), .inl a4] s12 (fun r s => wp 40 m_M_time [.inr (.inr 49), .inl a1, .inl a2, .inl a3, .inl a4] s (fun r2 σ2 => PQ r r2 σ2)))) := fun n hn3 hcase σ hF hch => by
      have ht : ∀ i, i < n → tt i < tsN A := fun i hi => by
        match i, hi with
        | 0, _ => omega
        | 1, hi => have := htt.1 (by omega); omega
        | 2, hi => have := htt.2 (by omega); omega
        | i + 3, hi => omega
      have hk : hOK A (fun i => (A 15 (tt i)).toNat) n := fun i hi => by
        have := tsR hR (ht i hi)
        show (((A 15 (tt i)).toNat : Nat) : Int) < A 7 10
        omega
      have hc : costOK (fun i => A 16 (tt i)) n := fun i hi => (tsR hR (ht i hi)).2.2.2.2
      refine time_x hR ho h6 hk hc hn3.2 (hF.eqv Eqv.rfl) hch (fun σ1 hE => ?_)
      have goal := time_m2 (a1 := a1) (a2 := a2) (a3 := a3) (part := a4) hR ho h6 hp ht hn3 hE e1 (fun h => htt.1 (by omega)) (fun h => htt.2 (by omega)) rfl
      have q0 := hE 49 0 rfl
      have q9 := hE 49 9 rfl
      rcases hcase with ⟨rfl, hc1⟩ | ⟨rfl, hc1⟩ | ⟨rfl, hc1⟩
      all_goals
        repeat' first
          | with_reducible refine e_M_time ?_
          | with_reducible refine e_M_isPart ?_
          | with_reducible refine e_M_isTest ?_
          | with_reducible refine e_M_in ?_
          | with_reducible refine e_M_time_86 ?_
          | with_reducible refine e_M_time_90 ?_
          | with_reducible refine e_M_time_91 ?_
          | with_reducible refine xr1 ?_
          | with_reducible refine xr2 ?_
          | with_reducible refine xr3 ?_
          | with_reducible refine xr4 ?_
          | with_reducible refine xr6 ?_
          | with_reducible refine mr1 ?_
          | with_reducible refine mr2 ?_
          | with_reducible refine mr3 ?_
          | with_reducible refine mr4 ?_
          | with_reducible refine mr6 ?_
          | with_reducible refine xf1 ?_
          | with_reducible refine xf2 ?_
          | with_reducible refine xf3 ?_
          | with_reducible refine xf6 ?_
          | with_reducible refine mf1 ?_
          | with_reducible refine mf2 ?_
          | with_reducible refine mf3 ?_
          | with_reducible refine mf6 ?_
          | with_reducible exact isB0
          | with_reducible exact isB1
          | with_reducible refine And.intro ?_ ?_
          | (with_reducible refine fun (hz : (_ : Int) < _) => ?_) <;> ((try simp (discharger := first | decide | omega) only [ms_eq, ms_nk, ms_ni, w32_id, w64_id, Int.toNat_natCast, not_true_eq_false, not_false_eq_true, q0, q9] at hz) ; (try (exfalso; omega)))
          | (with_reducible refine fun (hz : (_ : Int) ≤ _) => ?_) <;> ((try simp (discharger := first | decide | omega) only [ms_eq, ms_nk, ms_ni, w32_id, w64_id, Int.toNat_natCast, not_true_eq_false, not_false_eq_true, q0, q9] at hz) ; (try (exfalso; omega)))
          | (with_reducible refine fun (hz : (_ : Int) = _) => ?_) <;> ((try simp (discharger := first | decide | omega) only [ms_eq, ms_nk, ms_ni, w32_id, w64_id, Int.toNat_natCast, not_true_eq_false, not_false_eq_true, q0, q9] at hz) ; (try (exfalso; omega)))
          | (with_reducible refine fun (hz : ¬ (_ : Int) = _) => ?_) <;> ((try simp (discharger := first | decide | omega) only [ms_eq, ms_nk, ms_ni, w32_id, w64_id, Int.toNat_natCast, not_true_eq_false, not_false_eq_true, q0, q9] at hz) ; (try (exfalso; omega)))
          | (with_reducible refine fun (hz : _ ∨ _) => ?_) <;> ((try simp (discharger := first | decide | omega) only [ms_eq, ms_nk, ms_ni, w32_id, w64_id, Int.toNat_natCast, not_true_eq_false, not_false_eq_true, q0, q9] at hz) ; (try (exfalso; omega)))
          | omega
          | (simp (discharger := first | decide | omega) only [ms_eq, ms_nk, ms_ni, w32_id, w64_id, Int.toNat_natCast, not_true_eq_false, not_false_eq_true, q0, q9] ; omega)
        all_goals exact goal
    have t0 : tt 0 < tsN A := by omega
    rw [← hu] at *
    rcases hv.2.2.2 with hc1 | hc1
    · repeat' first
      | with_reducible refine e_X_time ?_
      | with_reducible refine e_X_isPart ?_
      | with_reducible refine e_S_isOrder ?_
      | with_reducible refine e_S_hasTest ?_
      | with_reducible refine xr1 ?_
      | with_reducible refine xr2 ?_
      | with_reducible refine xr3 ?_
      | with_reducible refine xr4 ?_
      | with_reducible refine xr6 ?_
      | with_reducible refine mr1 ?_
      | with_reducible refine mr2 ?_
      | with_reducible refine mr3 ?_
      | with_reducible refine mr4 ?_
      | with_reducible refine mr6 ?_
      | with_reducible refine xf1 ?_
      | with_reducible refine xf2 ?_
      | with_reducible refine xf3 ?_
      | with_reducible refine xf6 ?_
      | with_reducible refine mf1 ?_
      | with_reducible refine mf2 ?_
      | with_reducible refine mf3 ?_
      | with_reducible refine mf6 ?_
      | with_reducible exact isB0
      | with_reducible exact isB1
      | with_reducible refine And.intro ?_ ?_
      | (with_reducible refine fun (hz : (_ : Int) < _) => ?_) <;> ((try simp (discharger := first | decide | omega) only [ms_eq, ms_nk, ms_ni, w32_id, w64_id, Int.toNat_natCast, not_true_eq_false, not_false_eq_true] at hz) ; (try (exfalso; omega)))
      | (with_reducible refine fun (hz : (_ : Int) ≤ _) => ?_) <;> ((try simp (discharger := first | decide | omega) only [ms_eq, ms_nk, ms_ni, w32_id, w64_id, Int.toNat_natCast, not_true_eq_false, not_false_eq_true] at hz) ; (try (exfalso; omega)))
      | (with_reducible refine fun (hz : (_ : Int) = _) => ?_) <;> ((try simp (discharger := first | decide | omega) only [ms_eq, ms_nk, ms_ni, w32_id, w64_id, Int.toNat_natCast, not_true_eq_false, not_false_eq_true] at hz) ; (try (exfalso; omega)))
      | (with_reducible refine fun (hz : ¬ (_ : Int) = _) => ?_) <;> ((try simp (discharger := first | decide | omega) only [ms_eq, ms_nk, ms_ni, w32_id, w64_id, Int.toNat_natCast, not_true_eq_false, not_false_eq_true] at hz) ; (try (exfalso; omega)))
      | (with_reducible refine fun (hz : _ ∨ _) => ?_) <;> ((try simp (discharger := first | decide | omega) only [ms_eq, ms_nk, ms_ni, w32_id, w64_id, Int.toNat_natCast, not_true_eq_false, not_false_eq_true] at hz) ; (try (exfalso; omega)))
      | omega
      | (simp (discharger := first | decide | omega) only [ms_eq, ms_nk, ms_ni, w32_id, w64_id, Int.toNat_natCast, not_true_eq_false, not_false_eq_true] ; omega)
      all_goals
        refine sp_B_attendNone (fun σ1 h1 h2 => ?_)
        rw [e1]
        refine sp_B_attendTest hR (h1.eqv Eqv.rfl) t0 h2 (by decide) (fun σ2 h3 h4 _ h6 => ⟨fun _ => ⟨fun _ => ?_, fun h => by omega⟩, fun h => by omega⟩)
        rw [← e1]
        refine fin 1 (by omega) (Or.inl ⟨rfl, hc1.1, hc1.2⟩) σ2 (h1.trans h3) ⟨h4.1, fun i hi => ?_⟩
        match i, hi with
        | 0, _ => exact ⟨h4.2 0 _ rfl, h6⟩
    · have e2 := htt.1 (by omega)
      have t1 : tt 1 < tsN A := by omega
      by_cases hc3 : a3 = -1
      · repeat' first
        | with_reducible refine e_X_time ?_
        | with_reducible refine e_X_isPart ?_
        | with_reducible refine e_S_isOrder ?_
        | with_reducible refine e_S_hasTest ?_
        | with_reducible refine xr1 ?_
        | with_reducible refine xr2 ?_
        | with_reducible refine xr3 ?_
        | with_reducible refine xr4 ?_
        | with_reducible refine xr6 ?_
        | with_reducible refine mr1 ?_
        | with_reducible refine mr2 ?_
        | with_reducible refine mr3 ?_
        | with_reducible refine mr4 ?_
        | with_reducible refine mr6 ?_
        | with_reducible refine xf1 ?_
        | with_reducible refine xf2 ?_
        | with_reducible refine xf3 ?_
        | with_reducible refine xf6 ?_
        | with_reducible refine mf1 ?_
        | with_reducible refine mf2 ?_
        | with_reducible refine mf3 ?_
        | with_reducible refine mf6 ?_
        | with_reducible exact isB0
        | with_reducible exact isB1
        | with_reducible refine And.intro ?_ ?_
        | (with_reducible refine fun (hz : (_ : Int) < _) => ?_) <;> ((try simp (discharger := first | decide | omega) only [ms_eq, ms_nk, ms_ni, w32_id, w64_id, Int.toNat_natCast, not_true_eq_false, not_false_eq_true] at hz) ; (try (exfalso; omega)))
        | (with_reducible refine fun (hz : (_ : Int) ≤ _) => ?_) <;> ((try simp (discharger := first | decide | omega) only [ms_eq, ms_nk, ms_ni, w32_id, w64_id, Int.toNat_natCast, not_true_eq_false, not_false_eq_true] at hz) ; (try (exfalso; omega)))
        | (with_reducible refine fun (hz : (_ : Int) = _) => ?_) <;> ((try simp (discharger := first | decide | omega) only [ms_eq, ms_nk, ms_ni, w32_id, w64_id, Int.toNat_natCast, not_true_eq_false, not_false_eq_true] at hz) ; (try (exfalso; omega)))
        | (with_reducible refine fun (hz : ¬ (_ : Int) = _) => ?_) <;> ((try simp (discharger := first | decide | omega) only [ms_eq, ms_nk, ms_ni, w32_id, w64_id, Int.toNat_natCast, not_true_eq_false, not_false_eq_true] at hz) ; (try (exfalso; omega)))
        | (with_reducible refine fun (hz : _ ∨ _) => ?_) <;> ((try simp (discharger := first | decide | omega) only [ms_eq, ms_nk, ms_ni, w32_id, w64_id, Int.toNat_natCast, not_true_eq_false, not_false_eq_true] at hz) ; (try (exfalso; omega)))
        | omega
        | (simp (discharger := first | decide | omega) only [ms_eq, ms_nk, ms_ni, w32_id, w64_id, Int.toNat_natCast, not_true_eq_false, not_false_eq_true] ; omega)
        all_goals
          refine sp_B_attendNone (fun σ1 h1 h2 => ?_)
          rw [e1]
          refine sp_B_attendTest hR (h1.eqv Eqv.rfl) t0 h2 (by decide) (fun σ2 h3 h4 _ h6 => ⟨fun h => by omega, fun _ => ?_⟩)
          rw [e2]
          refine sp_B_attendTest hR ((h1.trans h3).eqv Eqv.rfl) t1 h4 (by simp) (fun σ3 h7 h8 h9 h10 => ⟨fun _ => ?_, fun h => by omega⟩)
          rw [← e1, ← e2]
          refine fin 2 (by omega) (Or.inr (Or.inl ⟨rfl, by omega, hc3⟩)) σ3 ((h1.trans h3).trans h7) ⟨h8.1, fun i hi => ?_⟩
          match i, hi with
          | 0, _ => exact ⟨h8.2 0 _ rfl, (h9 0 (by simp)).trans h6⟩
          | 1, _ => exact ⟨h8.2 1 _ rfl, h10⟩
      · have e3 := htt.2 hc3
        have t2 : tt 2 < tsN A := by omega
        repeat' first
          | with_reducible refine e_X_time ?_
          | with_reducible refine e_X_isPart ?_
          | with_reducible refine e_S_isOrder ?_
          | with_reducible refine e_S_hasTest ?_
          | with_reducible refine xr1 ?_
          | with_reducible refine xr2 ?_
          | with_reducible refine xr3 ?_
          | with_reducible refine xr4 ?_
          | with_reducible refine xr6 ?_
          | with_reducible refine mr1 ?_
          | with_reducible refine mr2 ?_
          | with_reducible refine mr3 ?_
          | with_reducible refine mr4 ?_
          | with_reducible refine mr6 ?_
          | with_reducible refine xf1 ?_
          | with_reducible refine xf2 ?_
          | with_reducible refine xf3 ?_
          | with_reducible refine xf6 ?_
          | with_reducible refine mf1 ?_
          | with_reducible refine mf2 ?_
          | with_reducible refine mf3 ?_
          | with_reducible refine mf6 ?_
          | with_reducible exact isB0
          | with_reducible exact isB1
          | with_reducible refine And.intro ?_ ?_
          | (with_reducible refine fun (hz : (_ : Int) < _) => ?_) <;> ((try simp (discharger := first | decide | omega) only [ms_eq, ms_nk, ms_ni, w32_id, w64_id, Int.toNat_natCast, not_true_eq_false, not_false_eq_true] at hz) ; (try (exfalso; omega)))
          | (with_reducible refine fun (hz : (_ : Int) ≤ _) => ?_) <;> ((try simp (discharger := first | decide | omega) only [ms_eq, ms_nk, ms_ni, w32_id, w64_id, Int.toNat_natCast, not_true_eq_false, not_false_eq_true] at hz) ; (try (exfalso; omega)))
          | (with_reducible refine fun (hz : (_ : Int) = _) => ?_) <;> ((try simp (discharger := first | decide | omega) only [ms_eq, ms_nk, ms_ni, w32_id, w64_id, Int.toNat_natCast, not_true_eq_false, not_false_eq_true] at hz) ; (try (exfalso; omega)))
          | (with_reducible refine fun (hz : ¬ (_ : Int) = _) => ?_) <;> ((try simp (discharger := first | decide | omega) only [ms_eq, ms_nk, ms_ni, w32_id, w64_id, Int.toNat_natCast, not_true_eq_false, not_false_eq_true] at hz) ; (try (exfalso; omega)))
          | (with_reducible refine fun (hz : _ ∨ _) => ?_) <;> ((try simp (discharger := first | decide | omega) only [ms_eq, ms_nk, ms_ni, w32_id, w64_id, Int.toNat_natCast, not_true_eq_false, not_false_eq_true] at hz) ; (try (exfalso; omega)))
          | omega
          | (simp (discharger := first | decide | omega) only [ms_eq, ms_nk, ms_ni, w32_id, w64_id, Int.toNat_natCast, not_true_eq_false, not_false_eq_true] ; omega)
        all_goals
          refine sp_B_attendNone (fun σ1 h1 h2 => ?_)
          rw [e1]
          refine sp_B_attendTest hR (h1.eqv Eqv.rfl) t0 h2 (by decide) (fun σ2 h3 h4 _ h6 => ⟨fun h => by omega, fun _ => ?_⟩)
          rw [e2]
          refine sp_B_attendTest hR ((h1.trans h3).eqv Eqv.rfl) t1 h4 (by simp) (fun σ3 h7 h8 h9 h10 => ⟨fun h => by omega, fun _ => ?_⟩)
          rw [e3]
          refine sp_B_attendTest hR (((h1.trans h3).trans h7).eqv Eqv.rfl) t2 h8 (by simp) (fun σ4 h11 h12 h13 h14 => ?_)
          rw [← e1, ← e2, ← e3]
          refine fin 3 (by omega) (Or.inr (Or.inr ⟨rfl, by omega, hc3⟩)) σ4 (((h1.trans h3).trans h7).trans h11) ⟨h12.1, fun i hi => ?_⟩
          match i, hi with
          | 0, _ => exact ⟨h12.2 0 _ rfl, ((h13 0 (by simp)).trans (h9 0 (by simp))).trans h6⟩
          | 1, _ => exact ⟨h12.2 1 _ rfl, (h13 1 (by simp)).trans h10⟩
          | 2, _ => exact ⟨h12.2 2 _ rfl, h14⟩
  · have s2 : A 49 0 = A 7 1 ∧ A 49 9 = A 7 13 ∧ 0 ≤ A 7 13 ∧ A 7 13 ≤ 6 ∧ 0 ≤ A 7 1 ∧ ((A 7 0 = 0 ∧ A 7 1 = 0) ∨ (A 7 0 = 1 ∧ 1 ≤ A 7 1)) := by omega
    by_cases c1 : a4 = 0 ∨ a4 = 1
    · by_cases c2 : 1 ≤ A 7 1
      · by_cases c3 : 0 ≤ a1 ∧ a1 < A 7 13
        · by_cases c4 : a2 = -1
          · have c5 : ¬ a3 = -1 := by omega
            clear hv sc hT
            repeat' first
              | with_reducible refine e_X_time ?_
              | with_reducible refine e_X_isPart ?_
              | with_reducible refine e_S_isOrder ?_
              | with_reducible refine e_S_hasTest ?_
              | with_reducible refine xr1 ?_
              | with_reducible refine xr2 ?_
              | with_reducible refine xr3 ?_
              | with_reducible refine xr4 ?_
              | with_reducible refine xr6 ?_
              | with_reducible refine mr1 ?_
              | with_reducible refine mr2 ?_
              | with_reducible refine mr3 ?_
              | with_reducible refine mr4 ?_
              | with_reducible refine mr6 ?_
              | with_reducible refine xf1 ?_
              | with_reducible refine xf2 ?_
              | with_reducible refine xf3 ?_
              | with_reducible refine xf6 ?_
              | with_reducible refine mf1 ?_
              | with_reducible refine mf2 ?_
              | with_reducible refine mf3 ?_
              | with_reducible refine mf6 ?_
              | with_reducible exact isB0
              | with_reducible exact isB1
              | with_reducible refine And.intro ?_ ?_
              | (with_reducible refine fun (hz : (_ : Int) < _) => ?_) <;> ((try simp (discharger := first | decide | omega) only [ms_eq, ms_nk, ms_ni, w32_id, w64_id, Int.toNat_natCast, not_true_eq_false, not_false_eq_true] at hz) ; (try (exfalso; omega)))
              | (with_reducible refine fun (hz : (_ : Int) ≤ _) => ?_) <;> ((try simp (discharger := first | decide | omega) only [ms_eq, ms_nk, ms_ni, w32_id, w64_id, Int.toNat_natCast, not_true_eq_false, not_false_eq_true] at hz) ; (try (exfalso; omega)))
              | (with_reducible refine fun (hz : (_ : Int) = _) => ?_) <;> ((try simp (discharger := first | decide | omega) only [ms_eq, ms_nk, ms_ni, w32_id, w64_id, Int.toNat_natCast, not_true_eq_false, not_false_eq_true] at hz) ; (try (exfalso; omega)))
              | (with_reducible refine fun (hz : ¬ (_ : Int) = _) => ?_) <;> ((try simp (discharger := first | decide | omega) only [ms_eq, ms_nk, ms_ni, w32_id, w64_id, Int.toNat_natCast, not_true_eq_false, not_false_eq_true] at hz) ; (try (exfalso; omega)))
              | (with_reducible refine fun (hz : _ ∨ _) => ?_) <;> ((try simp (discharger := first | decide | omega) only [ms_eq, ms_nk, ms_ni, w32_id, w64_id, Int.toNat_natCast, not_true_eq_false, not_false_eq_true] at hz) ; (try (exfalso; omega)))
              | omega
              | (simp (discharger := first | decide | omega) only [ms_eq, ms_nk, ms_ni, w32_id, w64_id, Int.toNat_natCast, not_true_eq_false, not_false_eq_true] ; omega)
            all_goals
              (repeat' first
                | with_reducible refine e_M_time ?_
                | with_reducible refine e_M_isPart ?_
                | with_reducible refine e_M_isTest ?_
                | with_reducible refine e_M_in ?_
                | with_reducible refine e_M_time_86 ?_
                | with_reducible refine e_M_time_90 ?_
                | with_reducible refine e_M_time_91 ?_
                | with_reducible refine xr1 ?_
                | with_reducible refine xr2 ?_
                | with_reducible refine xr3 ?_
                | with_reducible refine xr4 ?_
                | with_reducible refine xr6 ?_
                | with_reducible refine mr1 ?_
                | with_reducible refine mr2 ?_
                | with_reducible refine mr3 ?_
                | with_reducible refine mr4 ?_
                | with_reducible refine mr6 ?_
                | with_reducible refine xf1 ?_
                | with_reducible refine xf2 ?_
                | with_reducible refine xf3 ?_
                | with_reducible refine xf6 ?_
                | with_reducible refine mf1 ?_
                | with_reducible refine mf2 ?_
                | with_reducible refine mf3 ?_
                | with_reducible refine mf6 ?_
                | with_reducible exact isB0
                | with_reducible exact isB1
                | with_reducible refine And.intro ?_ ?_
                | (with_reducible refine fun (hz : (_ : Int) < _) => ?_) <;> ((try simp (discharger := first | decide | omega) only [ms_eq, ms_nk, ms_ni, w32_id, w64_id, Int.toNat_natCast, not_true_eq_false, not_false_eq_true] at hz) ; (try (exfalso; omega)))
                | (with_reducible refine fun (hz : (_ : Int) ≤ _) => ?_) <;> ((try simp (discharger := first | decide | omega) only [ms_eq, ms_nk, ms_ni, w32_id, w64_id, Int.toNat_natCast, not_true_eq_false, not_false_eq_true] at hz) ; (try (exfalso; omega)))
                | (with_reducible refine fun (hz : (_ : Int) = _) => ?_) <;> ((try simp (discharger := first | decide | omega) only [ms_eq, ms_nk, ms_ni, w32_id, w64_id, Int.toNat_natCast, not_true_eq_false, not_false_eq_true] at hz) ; (try (exfalso; omega)))
                | (with_reducible refine fun (hz : ¬ (_ : Int) = _) => ?_) <;> ((try simp (discharger := first | decide | omega) only [ms_eq, ms_nk, ms_ni, w32_id, w64_id, Int.toNat_natCast, not_true_eq_false, not_false_eq_true] at hz) ; (try (exfalso; omega)))
                | (with_reducible refine fun (hz : _ ∨ _) => ?_) <;> ((try simp (discharger := first | decide | omega) only [ms_eq, ms_nk, ms_ni, w32_id, w64_id, Int.toNat_natCast, not_true_eq_false, not_false_eq_true] at hz) ; (try (exfalso; omega)))
                | omega
                | (simp (discharger := first | decide | omega) only [ms_eq, ms_nk, ms_ni, w32_id, w64_id, Int.toNat_natCast, not_true_eq_false, not_false_eq_true] ; omega))
            all_goals exact PQ.rf0 hR (by decide)
          · by_cases c5 : (0 ≤ a2 ∧ a2 < A 7 13) ∧ ¬ a2 = a1
            · have c6 : ¬ a3 = -1 ∧ (a3 < 0 ∨ A 7 13 ≤ a3 ∨ a3 = a1 ∨ a3 = a2) := by omega
              clear hv sc hT
              repeat' first
                | with_reducible refine e_X_time ?_
                | with_reducible refine e_X_isPart ?_
                | with_reducible refine e_S_isOrder ?_
                | with_reducible refine e_S_hasTest ?_
                | with_reducible refine xr1 ?_
                | with_reducible refine xr2 ?_
                | with_reducible refine xr3 ?_
                | with_reducible refine xr4 ?_
                | with_reducible refine xr6 ?_
                | with_reducible refine mr1 ?_
                | with_reducible refine mr2 ?_
                | with_reducible refine mr3 ?_
                | with_reducible refine mr4 ?_
                | with_reducible refine mr6 ?_
                | with_reducible refine xf1 ?_
                | with_reducible refine xf2 ?_
                | with_reducible refine xf3 ?_
                | with_reducible refine xf6 ?_
                | with_reducible refine mf1 ?_
                | with_reducible refine mf2 ?_
                | with_reducible refine mf3 ?_
                | with_reducible refine mf6 ?_
                | with_reducible exact isB0
                | with_reducible exact isB1
                | with_reducible refine And.intro ?_ ?_
                | (with_reducible refine fun (hz : (_ : Int) < _) => ?_) <;> ((try simp (discharger := first | decide | omega) only [ms_eq, ms_nk, ms_ni, w32_id, w64_id, Int.toNat_natCast, not_true_eq_false, not_false_eq_true] at hz) ; (try (exfalso; omega)))
                | (with_reducible refine fun (hz : (_ : Int) ≤ _) => ?_) <;> ((try simp (discharger := first | decide | omega) only [ms_eq, ms_nk, ms_ni, w32_id, w64_id, Int.toNat_natCast, not_true_eq_false, not_false_eq_true] at hz) ; (try (exfalso; omega)))
                | (with_reducible refine fun (hz : (_ : Int) = _) => ?_) <;> ((try simp (discharger := first | decide | omega) only [ms_eq, ms_nk, ms_ni, w32_id, w64_id, Int.toNat_natCast, not_true_eq_false, not_false_eq_true] at hz) ; (try (exfalso; omega)))
                | (with_reducible refine fun (hz : ¬ (_ : Int) = _) => ?_) <;> ((try simp (discharger := first | decide | omega) only [ms_eq, ms_nk, ms_ni, w32_id, w64_id, Int.toNat_natCast, not_true_eq_false, not_false_eq_true] at hz) ; (try (exfalso; omega)))
                | (with_reducible refine fun (hz : _ ∨ _) => ?_) <;> ((try simp (discharger := first | decide | omega) only [ms_eq, ms_nk, ms_ni, w32_id, w64_id, Int.toNat_natCast, not_true_eq_false, not_false_eq_true] at hz) ; (try (exfalso; omega)))
                | omega
                | (simp (discharger := first | decide | omega) only [ms_eq, ms_nk, ms_ni, w32_id, w64_id, Int.toNat_natCast, not_true_eq_false, not_false_eq_true] ; omega)
              all_goals
                (repeat' first
                  | with_reducible refine e_M_time ?_
                  | with_reducible refine e_M_isPart ?_
                  | with_reducible refine e_M_isTest ?_
                  | with_reducible refine e_M_in ?_
                  | with_reducible refine e_M_time_86 ?_
                  | with_reducible refine e_M_time_90 ?_
                  | with_reducible refine e_M_time_91 ?_
                  | with_reducible refine xr1 ?_
                  | with_reducible refine xr2 ?_
                  | with_reducible refine xr3 ?_
                  | with_reducible refine xr4 ?_
                  | with_reducible refine xr6 ?_
                  | with_reducible refine mr1 ?_
                  | with_reducible refine mr2 ?_
                  | with_reducible refine mr3 ?_
                  | with_reducible refine mr4 ?_
                  | with_reducible refine mr6 ?_
                  | with_reducible refine xf1 ?_
                  | with_reducible refine xf2 ?_
                  | with_reducible refine xf3 ?_
                  | with_reducible refine xf6 ?_
                  | with_reducible refine mf1 ?_
                  | with_reducible refine mf2 ?_
                  | with_reducible refine mf3 ?_
                  | with_reducible refine mf6 ?_
                  | with_reducible exact isB0
                  | with_reducible exact isB1
                  | with_reducible refine And.intro ?_ ?_
                  | (with_reducible refine fun (hz : (_ : Int) < _) => ?_) <;> ((try simp (discharger := first | decide | omega) only [ms_eq, ms_nk, ms_ni, w32_id, w64_id, Int.toNat_natCast, not_true_eq_false, not_false_eq_true] at hz) ; (try (exfalso; omega)))
                  | (with_reducible refine fun (hz : (_ : Int) ≤ _) => ?_) <;> ((try simp (discharger := first | decide | omega) only [ms_eq, ms_nk, ms_ni, w32_id, w64_id, Int.toNat_natCast, not_true_eq_false, not_false_eq_true] at hz) ; (try (exfalso; omega)))
                  | (with_reducible refine fun (hz : (_ : Int) = _) => ?_) <;> ((try simp (discharger := first | decide | omega) only [ms_eq, ms_nk, ms_ni, w32_id, w64_id, Int.toNat_natCast, not_true_eq_false, not_false_eq_true] at hz) ; (try (exfalso; omega)))
                  | (with_reducible refine fun (hz : ¬ (_ : Int) = _) => ?_) <;> ((try simp (discharger := first | decide | omega) only [ms_eq, ms_nk, ms_ni, w32_id, w64_id, Int.toNat_natCast, not_true_eq_false, not_false_eq_true] at hz) ; (try (exfalso; omega)))
                  | (with_reducible refine fun (hz : _ ∨ _) => ?_) <;> ((try simp (discharger := first | decide | omega) only [ms_eq, ms_nk, ms_ni, w32_id, w64_id, Int.toNat_natCast, not_true_eq_false, not_false_eq_true] at hz) ; (try (exfalso; omega)))
                  | omega
                  | (simp (discharger := first | decide | omega) only [ms_eq, ms_nk, ms_ni, w32_id, w64_id, Int.toNat_natCast, not_true_eq_false, not_false_eq_true] ; omega))
              all_goals exact PQ.rf0 hR (by decide)
            · clear hv sc hT
              repeat' first
                | with_reducible refine e_X_time ?_
                | with_reducible refine e_X_isPart ?_
                | with_reducible refine e_S_isOrder ?_
                | with_reducible refine e_S_hasTest ?_
                | with_reducible refine xr1 ?_
                | with_reducible refine xr2 ?_
                | with_reducible refine xr3 ?_
                | with_reducible refine xr4 ?_
                | with_reducible refine xr6 ?_
                | with_reducible refine mr1 ?_
                | with_reducible refine mr2 ?_
                | with_reducible refine mr3 ?_
                | with_reducible refine mr4 ?_
                | with_reducible refine mr6 ?_
                | with_reducible refine xf1 ?_
                | with_reducible refine xf2 ?_
                | with_reducible refine xf3 ?_
                | with_reducible refine xf6 ?_
                | with_reducible refine mf1 ?_
                | with_reducible refine mf2 ?_
                | with_reducible refine mf3 ?_
                | with_reducible refine mf6 ?_
                | with_reducible exact isB0
                | with_reducible exact isB1
                | with_reducible refine And.intro ?_ ?_
                | (with_reducible refine fun (hz : (_ : Int) < _) => ?_) <;> ((try simp (discharger := first | decide | omega) only [ms_eq, ms_nk, ms_ni, w32_id, w64_id, Int.toNat_natCast, not_true_eq_false, not_false_eq_true] at hz) ; (try (exfalso; omega)))
                | (with_reducible refine fun (hz : (_ : Int) ≤ _) => ?_) <;> ((try simp (discharger := first | decide | omega) only [ms_eq, ms_nk, ms_ni, w32_id, w64_id, Int.toNat_natCast, not_true_eq_false, not_false_eq_true] at hz) ; (try (exfalso; omega)))
                | (with_reducible refine fun (hz : (_ : Int) = _) => ?_) <;> ((try simp (discharger := first | decide | omega) only [ms_eq, ms_nk, ms_ni, w32_id, w64_id, Int.toNat_natCast, not_true_eq_false, not_false_eq_true] at hz) ; (try (exfalso; omega)))
                | (with_reducible refine fun (hz : ¬ (_ : Int) = _) => ?_) <;> ((try simp (discharger := first | decide | omega) only [ms_eq, ms_nk, ms_ni, w32_id, w64_id, Int.toNat_natCast, not_true_eq_false, not_false_eq_true] at hz) ; (try (exfalso; omega)))
                | (with_reducible refine fun (hz : _ ∨ _) => ?_) <;> ((try simp (discharger := first | decide | omega) only [ms_eq, ms_nk, ms_ni, w32_id, w64_id, Int.toNat_natCast, not_true_eq_false, not_false_eq_true] at hz) ; (try (exfalso; omega)))
                | omega
                | (simp (discharger := first | decide | omega) only [ms_eq, ms_nk, ms_ni, w32_id, w64_id, Int.toNat_natCast, not_true_eq_false, not_false_eq_true] ; omega)
              all_goals
                (repeat' first
                  | with_reducible refine e_M_time ?_
                  | with_reducible refine e_M_isPart ?_
                  | with_reducible refine e_M_isTest ?_
                  | with_reducible refine e_M_in ?_
                  | with_reducible refine e_M_time_86 ?_
                  | with_reducible refine e_M_time_90 ?_
                  | with_reducible refine e_M_time_91 ?_
                  | with_reducible refine xr1 ?_
                  | with_reducible refine xr2 ?_
                  | with_reducible refine xr3 ?_
                  | with_reducible refine xr4 ?_
                  | with_reducible refine xr6 ?_
                  | with_reducible refine mr1 ?_
                  | with_reducible refine mr2 ?_
                  | with_reducible refine mr3 ?_
                  | with_reducible refine mr4 ?_
                  | with_reducible refine mr6 ?_
                  | with_reducible refine xf1 ?_
                  | with_reducible refine xf2 ?_
                  | with_reducible refine xf3 ?_
                  | with_reducible refine xf6 ?_
                  | with_reducible refine mf1 ?_
                  | with_reducible refine mf2 ?_
                  | with_reducible refine mf3 ?_
                  | with_reducible refine mf6 ?_
                  | with_reducible exact isB0
                  | with_reducible exact isB1
                  | with_reducible refine And.intro ?_ ?_
                  | (with_reducible refine fun (hz : (_ : Int) < _) => ?_) <;> ((try simp (discharger := first | decide | omega) only [ms_eq, ms_nk, ms_ni, w32_id, w64_id, Int.toNat_natCast, not_true_eq_false, not_false_eq_true] at hz) ; (try (exfalso; omega)))
                  | (with_reducible refine fun (hz : (_ : Int) ≤ _) => ?_) <;> ((try simp (discharger := first | decide | omega) only [ms_eq, ms_nk, ms_ni, w32_id, w64_id, Int.toNat_natCast, not_true_eq_false, not_false_eq_true] at hz) ; (try (exfalso; omega)))
                  | (with_reducible refine fun (hz : (_ : Int) = _) => ?_) <;> ((try simp (discharger := first | decide | omega) only [ms_eq, ms_nk, ms_ni, w32_id, w64_id, Int.toNat_natCast, not_true_eq_false, not_false_eq_true] at hz) ; (try (exfalso; omega)))
                  | (with_reducible refine fun (hz : ¬ (_ : Int) = _) => ?_) <;> ((try simp (discharger := first | decide | omega) only [ms_eq, ms_nk, ms_ni, w32_id, w64_id, Int.toNat_natCast, not_true_eq_false, not_false_eq_true] at hz) ; (try (exfalso; omega)))
                  | (with_reducible refine fun (hz : _ ∨ _) => ?_) <;> ((try simp (discharger := first | decide | omega) only [ms_eq, ms_nk, ms_ni, w32_id, w64_id, Int.toNat_natCast, not_true_eq_false, not_false_eq_true] at hz) ; (try (exfalso; omega)))
                  | omega
                  | (simp (discharger := first | decide | omega) only [ms_eq, ms_nk, ms_ni, w32_id, w64_id, Int.toNat_natCast, not_true_eq_false, not_false_eq_true] ; omega))
              all_goals exact PQ.rf0 hR (by decide)
        · clear hv sc hT
          repeat' first
            | with_reducible refine e_X_time ?_
            | with_reducible refine e_X_isPart ?_
            | with_reducible refine e_S_isOrder ?_
            | with_reducible refine e_S_hasTest ?_
            | with_reducible refine xr1 ?_
            | with_reducible refine xr2 ?_
            | with_reducible refine xr3 ?_
            | with_reducible refine xr4 ?_
            | with_reducible refine xr6 ?_
            | with_reducible refine mr1 ?_
            | with_reducible refine mr2 ?_
            | with_reducible refine mr3 ?_
            | with_reducible refine mr4 ?_
            | with_reducible refine mr6 ?_
            | with_reducible refine xf1 ?_
            | with_reducible refine xf2 ?_
            | with_reducible refine xf3 ?_
            | with_reducible refine xf6 ?_
            | with_reducible refine mf1 ?_
            | with_reducible refine mf2 ?_
            | with_reducible refine mf3 ?_
            | with_reducible refine mf6 ?_
            | with_reducible exact isB0
            | with_reducible exact isB1
            | with_reducible refine And.intro ?_ ?_
            | (with_reducible refine fun (hz : (_ : Int) < _) => ?_) <;> ((try simp (discharger := first | decide | omega) only [ms_eq, ms_nk, ms_ni, w32_id, w64_id, Int.toNat_natCast, not_true_eq_false, not_false_eq_true] at hz) ; (try (exfalso; omega)))
            | (with_reducible refine fun (hz : (_ : Int) ≤ _) => ?_) <;> ((try simp (discharger := first | decide | omega) only [ms_eq, ms_nk, ms_ni, w32_id, w64_id, Int.toNat_natCast, not_true_eq_false, not_false_eq_true] at hz) ; (try (exfalso; omega)))
            | (with_reducible refine fun (hz : (_ : Int) = _) => ?_) <;> ((try simp (discharger := first | decide | omega) only [ms_eq, ms_nk, ms_ni, w32_id, w64_id, Int.toNat_natCast, not_true_eq_false, not_false_eq_true] at hz) ; (try (exfalso; omega)))
            | (with_reducible refine fun (hz : ¬ (_ : Int) = _) => ?_) <;> ((try simp (discharger := first | decide | omega) only [ms_eq, ms_nk, ms_ni, w32_id, w64_id, Int.toNat_natCast, not_true_eq_false, not_false_eq_true] at hz) ; (try (exfalso; omega)))
            | (with_reducible refine fun (hz : _ ∨ _) => ?_) <;> ((try simp (discharger := first | decide | omega) only [ms_eq, ms_nk, ms_ni, w32_id, w64_id, Int.toNat_natCast, not_true_eq_false, not_false_eq_true] at hz) ; (try (exfalso; omega)))
            | omega
            | (simp (discharger := first | decide | omega) only [ms_eq, ms_nk, ms_ni, w32_id, w64_id, Int.toNat_natCast, not_true_eq_false, not_false_eq_true] ; omega)
          all_goals
            (repeat' first
              | with_reducible refine e_M_time ?_
              | with_reducible refine e_M_isPart ?_
              | with_reducible refine e_M_isTest ?_
              | with_reducible refine e_M_in ?_
              | with_reducible refine e_M_time_86 ?_
              | with_reducible refine e_M_time_90 ?_
              | with_reducible refine e_M_time_91 ?_
              | with_reducible refine xr1 ?_
              | with_reducible refine xr2 ?_
              | with_reducible refine xr3 ?_
              | with_reducible refine xr4 ?_
              | with_reducible refine xr6 ?_
              | with_reducible refine mr1 ?_
              | with_reducible refine mr2 ?_
              | with_reducible refine mr3 ?_
              | with_reducible refine mr4 ?_
              | with_reducible refine mr6 ?_
              | with_reducible refine xf1 ?_
              | with_reducible refine xf2 ?_
              | with_reducible refine xf3 ?_
              | with_reducible refine xf6 ?_
              | with_reducible refine mf1 ?_
              | with_reducible refine mf2 ?_
              | with_reducible refine mf3 ?_
              | with_reducible refine mf6 ?_
              | with_reducible exact isB0
              | with_reducible exact isB1
              | with_reducible refine And.intro ?_ ?_
              | (with_reducible refine fun (hz : (_ : Int) < _) => ?_) <;> ((try simp (discharger := first | decide | omega) only [ms_eq, ms_nk, ms_ni, w32_id, w64_id, Int.toNat_natCast, not_true_eq_false, not_false_eq_true] at hz) ; (try (exfalso; omega)))
              | (with_reducible refine fun (hz : (_ : Int) ≤ _) => ?_) <;> ((try simp (discharger := first | decide | omega) only [ms_eq, ms_nk, ms_ni, w32_id, w64_id, Int.toNat_natCast, not_true_eq_false, not_false_eq_true] at hz) ; (try (exfalso; omega)))
              | (with_reducible refine fun (hz : (_ : Int) = _) => ?_) <;> ((try simp (discharger := first | decide | omega) only [ms_eq, ms_nk, ms_ni, w32_id, w64_id, Int.toNat_natCast, not_true_eq_false, not_false_eq_true] at hz) ; (try (exfalso; omega)))
              | (with_reducible refine fun (hz : ¬ (_ : Int) = _) => ?_) <;> ((try simp (discharger := first | decide | omega) only [ms_eq, ms_nk, ms_ni, w32_id, w64_id, Int.toNat_natCast, not_true_eq_false, not_false_eq_true] at hz) ; (try (exfalso; omega)))
              | (with_reducible refine fun (hz : _ ∨ _) => ?_) <;> ((try simp (discharger := first | decide | omega) only [ms_eq, ms_nk, ms_ni, w32_id, w64_id, Int.toNat_natCast, not_true_eq_false, not_false_eq_true] at hz) ; (try (exfalso; omega)))
              | omega
              | (simp (discharger := first | decide | omega) only [ms_eq, ms_nk, ms_ni, w32_id, w64_id, Int.toNat_natCast, not_true_eq_false, not_false_eq_true] ; omega))
          all_goals exact PQ.rf0 hR (by decide)
      · clear hv sc hT
        repeat' first
          | with_reducible refine e_X_time ?_
          | with_reducible refine e_X_isPart ?_
          | with_reducible refine e_S_isOrder ?_
          | with_reducible refine e_S_hasTest ?_
          | with_reducible refine xr1 ?_
          | with_reducible refine xr2 ?_
          | with_reducible refine xr3 ?_
          | with_reducible refine xr4 ?_
          | with_reducible refine xr6 ?_
          | with_reducible refine mr1 ?_
          | with_reducible refine mr2 ?_
          | with_reducible refine mr3 ?_
          | with_reducible refine mr4 ?_
          | with_reducible refine mr6 ?_
          | with_reducible refine xf1 ?_
          | with_reducible refine xf2 ?_
          | with_reducible refine xf3 ?_
          | with_reducible refine xf6 ?_
          | with_reducible refine mf1 ?_
          | with_reducible refine mf2 ?_
          | with_reducible refine mf3 ?_
          | with_reducible refine mf6 ?_
          | with_reducible exact isB0
          | with_reducible exact isB1
          | with_reducible refine And.intro ?_ ?_
          | (with_reducible refine fun (hz : (_ : Int) < _) => ?_) <;> ((try simp (discharger := first | decide | omega) only [ms_eq, ms_nk, ms_ni, w32_id, w64_id, Int.toNat_natCast, not_true_eq_false, not_false_eq_true] at hz) ; (try (exfalso; omega)))
          | (with_reducible refine fun (hz : (_ : Int) ≤ _) => ?_) <;> ((try simp (discharger := first | decide | omega) only [ms_eq, ms_nk, ms_ni, w32_id, w64_id, Int.toNat_natCast, not_true_eq_false, not_false_eq_true] at hz) ; (try (exfalso; omega)))
          | (with_reducible refine fun (hz : (_ : Int) = _) => ?_) <;> ((try simp (discharger := first | decide | omega) only [ms_eq, ms_nk, ms_ni, w32_id, w64_id, Int.toNat_natCast, not_true_eq_false, not_false_eq_true] at hz) ; (try (exfalso; omega)))
          | (with_reducible refine fun (hz : ¬ (_ : Int) = _) => ?_) <;> ((try simp (discharger := first | decide | omega) only [ms_eq, ms_nk, ms_ni, w32_id, w64_id, Int.toNat_natCast, not_true_eq_false, not_false_eq_true] at hz) ; (try (exfalso; omega)))
          | (with_reducible refine fun (hz : _ ∨ _) => ?_) <;> ((try simp (discharger := first | decide | omega) only [ms_eq, ms_nk, ms_ni, w32_id, w64_id, Int.toNat_natCast, not_true_eq_false, not_false_eq_true] at hz) ; (try (exfalso; omega)))
          | omega
          | (simp (discharger := first | decide | omega) only [ms_eq, ms_nk, ms_ni, w32_id, w64_id, Int.toNat_natCast, not_true_eq_false, not_false_eq_true] ; omega)
        all_goals
          (repeat' first
            | with_reducible refine e_M_time ?_
            | with_reducible refine e_M_isPart ?_
            | with_reducible refine e_M_isTest ?_
            | with_reducible refine e_M_in ?_
            | with_reducible refine e_M_time_86 ?_
            | with_reducible refine e_M_time_90 ?_
            | with_reducible refine e_M_time_91 ?_
            | with_reducible refine xr1 ?_
            | with_reducible refine xr2 ?_
            | with_reducible refine xr3 ?_
            | with_reducible refine xr4 ?_
            | with_reducible refine xr6 ?_
            | with_reducible refine mr1 ?_
            | with_reducible refine mr2 ?_
            | with_reducible refine mr3 ?_
            | with_reducible refine mr4 ?_
            | with_reducible refine mr6 ?_
            | with_reducible refine xf1 ?_
            | with_reducible refine xf2 ?_
            | with_reducible refine xf3 ?_
            | with_reducible refine xf6 ?_
            | with_reducible refine mf1 ?_
            | with_reducible refine mf2 ?_
            | with_reducible refine mf3 ?_
            | with_reducible refine mf6 ?_
            | with_reducible exact isB0
            | with_reducible exact isB1
            | with_reducible refine And.intro ?_ ?_
            | (with_reducible refine fun (hz : (_ : Int) < _) => ?_) <;> ((try simp (discharger := first | decide | omega) only [ms_eq, ms_nk, ms_ni, w32_id, w64_id, Int.toNat_natCast, not_true_eq_false, not_false_eq_true] at hz) ; (try (exfalso; omega)))
            | (with_reducible refine fun (hz : (_ : Int) ≤ _) => ?_) <;> ((try simp (discharger := first | decide | omega) only [ms_eq, ms_nk, ms_ni, w32_id, w64_id, Int.toNat_natCast, not_true_eq_false, not_false_eq_true] at hz) ; (try (exfalso; omega)))
            | (with_reducible refine fun (hz : (_ : Int) = _) => ?_) <;> ((try simp (discharger := first | decide | omega) only [ms_eq, ms_nk, ms_ni, w32_id, w64_id, Int.toNat_natCast, not_true_eq_false, not_false_eq_true] at hz) ; (try (exfalso; omega)))
            | (with_reducible refine fun (hz : ¬ (_ : Int) = _) => ?_) <;> ((try simp (discharger := first | decide | omega) only [ms_eq, ms_nk, ms_ni, w32_id, w64_id, Int.toNat_natCast, not_true_eq_false, not_false_eq_true] at hz) ; (try (exfalso; omega)))
            | (with_reducible refine fun (hz : _ ∨ _) => ?_) <;> ((try simp (discharger := first | decide | omega) only [ms_eq, ms_nk, ms_ni, w32_id, w64_id, Int.toNat_natCast, not_true_eq_false, not_false_eq_true] at hz) ; (try (exfalso; omega)))
            | omega
            | (simp (discharger := first | decide | omega) only [ms_eq, ms_nk, ms_ni, w32_id, w64_id, Int.toNat_natCast, not_true_eq_false, not_false_eq_true] ; omega))
        all_goals exact PQ.rf0 hR (by decide)
    · clear hv sc hT
      repeat' first
        | with_reducible refine e_X_time ?_
        | with_reducible refine e_X_isPart ?_
        | with_reducible refine e_S_isOrder ?_
        | with_reducible refine e_S_hasTest ?_
        | with_reducible refine xr1 ?_
        | with_reducible refine xr2 ?_
        | with_reducible refine xr3 ?_
        | with_reducible refine xr4 ?_
        | with_reducible refine xr6 ?_
        | with_reducible refine mr1 ?_
        | with_reducible refine mr2 ?_
        | with_reducible refine mr3 ?_
        | with_reducible refine mr4 ?_
        | with_reducible refine mr6 ?_
        | with_reducible refine xf1 ?_
        | with_reducible refine xf2 ?_
        | with_reducible refine xf3 ?_
        | with_reducible refine xf6 ?_
        | with_reducible refine mf1 ?_
        | with_reducible refine mf2 ?_
        | with_reducible refine mf3 ?_
        | with_reducible refine mf6 ?_
        | with_reducible exact isB0
        | with_reducible exact isB1
        | with_reducible refine And.intro ?_ ?_
        | (with_reducible refine fun (hz : (_ : Int) < _) => ?_) <;> ((try simp (discharger := first | decide | omega) only [ms_eq, ms_nk, ms_ni, w32_id, w64_id, Int.toNat_natCast, not_true_eq_false, not_false_eq_true] at hz) ; (try (exfalso; omega)))
        | (with_reducible refine fun (hz : (_ : Int) ≤ _) => ?_) <;> ((try simp (discharger := first | decide | omega) only [ms_eq, ms_nk, ms_ni, w32_id, w64_id, Int.toNat_natCast, not_true_eq_false, not_false_eq_true] at hz) ; (try (exfalso; omega)))
        | (with_reducible refine fun (hz : (_ : Int) = _) => ?_) <;> ((try simp (discharger := first | decide | omega) only [ms_eq, ms_nk, ms_ni, w32_id, w64_id, Int.toNat_natCast, not_true_eq_false, not_false_eq_true] at hz) ; (try (exfalso; omega)))
        | (with_reducible refine fun (hz : ¬ (_ : Int) = _) => ?_) <;> ((try simp (discharger := first | decide | omega) only [ms_eq, ms_nk, ms_ni, w32_id, w64_id, Int.toNat_natCast, not_true_eq_false, not_false_eq_true] at hz) ; (try (exfalso; omega)))
        | (with_reducible refine fun (hz : _ ∨ _) => ?_) <;> ((try simp (discharger := first | decide | omega) only [ms_eq, ms_nk, ms_ni, w32_id, w64_id, Int.toNat_natCast, not_true_eq_false, not_false_eq_true] at hz) ; (try (exfalso; omega)))
        | omega
        | (simp (discharger := first | decide | omega) only [ms_eq, ms_nk, ms_ni, w32_id, w64_id, Int.toNat_natCast, not_true_eq_false, not_false_eq_true] ; omega)
      all_goals
        (repeat' first
          | with_reducible refine e_M_time ?_
          | with_reducible refine e_M_isPart ?_
          | with_reducible refine e_M_isTest ?_
          | with_reducible refine e_M_in ?_
          | with_reducible refine e_M_time_86 ?_
          | with_reducible refine e_M_time_90 ?_
          | with_reducible refine e_M_time_91 ?_
          | with_reducible refine xr1 ?_
          | with_reducible refine xr2 ?_
          | with_reducible refine xr3 ?_
          | with_reducible refine xr4 ?_
          | with_reducible refine xr6 ?_
          | with_reducible refine mr1 ?_
          | with_reducible refine mr2 ?_
          | with_reducible refine mr3 ?_
          | with_reducible refine mr4 ?_
          | with_reducible refine mr6 ?_
          | with_reducible refine xf1 ?_
          | with_reducible refine xf2 ?_
          | with_reducible refine xf3 ?_
          | with_reducible refine xf6 ?_
          | with_reducible refine mf1 ?_
          | with_reducible refine mf2 ?_
          | with_reducible refine mf3 ?_
          | with_reducible refine mf6 ?_
          | with_reducible exact isB0
          | with_reducible exact isB1
          | with_reducible refine And.intro ?_ ?_
          | (with_reducible refine fun (hz : (_ : Int) < _) => ?_) <;> ((try simp (discharger := first | decide | omega) only [ms_eq, ms_nk, ms_ni, w32_id, w64_id, Int.toNat_natCast, not_true_eq_false, not_false_eq_true] at hz) ; (try (exfalso; omega)))
          | (with_reducible refine fun (hz : (_ : Int) ≤ _) => ?_) <;> ((try simp (discharger := first | decide | omega) only [ms_eq, ms_nk, ms_ni, w32_id, w64_id, Int.toNat_natCast, not_true_eq_false, not_false_eq_true] at hz) ; (try (exfalso; omega)))
          | (with_reducible refine fun (hz : (_ : Int) = _) => ?_) <;> ((try simp (discharger := first | decide | omega) only [ms_eq, ms_nk, ms_ni, w32_id, w64_id, Int.toNat_natCast, not_true_eq_false, not_false_eq_true] at hz) ; (try (exfalso; omega)))
          | (with_reducible refine fun (hz : ¬ (_ : Int) = _) => ?_) <;> ((try simp (discharger := first | decide | omega) only [ms_eq, ms_nk, ms_ni, w32_id, w64_id, Int.toNat_natCast, not_true_eq_false, not_false_eq_true] at hz) ; (try (exfalso; omega)))
          | (with_reducible refine fun (hz : _ ∨ _) => ?_) <;> ((try simp (discharger := first | decide | omega) only [ms_eq, ms_nk, ms_ni, w32_id, w64_id, Int.toNat_natCast, not_true_eq_false, not_false_eq_true] at hz) ; (try (exfalso; omega)))
          | omega
          | (simp (discharger := first | decide | omega) only [ms_eq, ms_nk, ms_ni, w32_id, w64_id, Int.toNat_natCast, not_true_eq_false, not_false_eq_true] ; omega))
      all_goals exact PQ.rf0 hR (by decide)
