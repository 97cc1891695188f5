-- PURE, 8: small pairs
theorem pr_weight {A : Mem} (hR : RR A) {a1 : Int} (i1 : InI a1) : wp 40 m_X_weight [.inr (.inr 0), .inl a1] A (fun r σ1 => wp 40 m_M_weight [.inr (.inr 49), .inl a1] σ1 (fun r2 σ2 => PQ r r2 σ2)) := by
  have sc := hR.sc
  unfold InI at i1
  repeat' first
    | with_reducible refine e_X_weight ?_
    | with_reducible refine e_M_weight ?_
    | with_reducible refine e_S_hasTruth ?_
    | with_reducible refine e_M_isTruth ?_
    | with_reducible refine e_M_in ?_
    | with_reducible refine xr1 ?_
    | with_reducible refine xr2 ?_
    | with_reducible refine xr3 ?_
    | with_reducible refine xr4 ?_
    | with_reducible refine xr6 ?_
    | with_reducible refine mr1 ?_
    | with_reducible refine mr2 ?_
    | with_reducible refine mr3 ?_
    | with_reducible refine mr4 ?_
    | with_reducible refine mr6 ?_
    | with_reducible refine xf1 ?_
    | with_reducible refine xf2 ?_
    | with_reducible refine xf3 ?_
    | with_reducible refine xf6 ?_
    | with_reducible refine mf1 ?_
    | with_reducible refine mf2 ?_
    | with_reducible refine mf3 ?_
    | with_reducible refine mf6 ?_
    | with_reducible exact isB0
    | with_reducible exact isB1
    | with_reducible refine And.intro ?_ ?_
    | (with_reducible refine fun (hz : (_ : Int) < _) => ?_) <;> ((try simp (discharger := first | decide | omega) only [ms_eq, ms_nk, ms_ni, w32_id, w64_id, Int.toNat_natCast, not_true_eq_false, not_false_eq_true] at hz) ; (try (exfalso; omega)))
    | (with_reducible refine fun (hz : (_ : Int) ≤ _) => ?_) <;> ((try simp (discharger := first | decide | omega) only [ms_eq, ms_nk, ms_ni, w32_id, w64_id, Int.toNat_natCast, not_true_eq_false, not_false_eq_true] at hz) ; (try (exfalso; omega)))
    | (with_reducible refine fun (hz : (_ : Int) = _) => ?_) <;> ((try simp (discharger := first | decide | omega) only [ms_eq, ms_nk, ms_ni, w32_id, w64_id, Int.toNat_natCast, not_true_eq_false, not_false_eq_true] at hz) ; (try (exfalso; omega)))
    | (with_reducible refine fun (hz : ¬ (_ : Int) = _) => ?_) <;> ((try simp (discharger := first | decide | omega) only [ms_eq, ms_nk, ms_ni, w32_id, w64_id, Int.toNat_natCast, not_true_eq_false, not_false_eq_true] at hz) ; (try (exfalso; omega)))
    | (with_reducible refine fun (hz : _ ∨ _) => ?_) <;> ((try simp (discharger := first | decide | omega) only [ms_eq, ms_nk, ms_ni, w32_id, w64_id, Int.toNat_natCast, not_true_eq_false, not_false_eq_true] at hz) ; (try (exfalso; omega)))
    | omega
    | (simp (discharger := first | decide | omega) only [ms_eq, ms_nk, ms_ni, w32_id, w64_id, Int.toNat_natCast, not_true_eq_false, not_false_eq_true] ; omega)
  all_goals first
    | exact PQ.rf0 hR (by decide)
    | skip
  have e : a1 = (a1.toNat : Int) := by omega
  exact ⟨(hR.1.2.2.2.1 a1.toNat (by omega)).1.symm, hR⟩
theorem pr_count {A : Mem} (hR : RR A) {a1 : Int} (i1 : InI a1) : wp 40 m_X_count [.inr (.inr 0), .inl a1] A (fun r σ1 => wp 40 m_M_count [.inr (.inr 49), .inl a1] σ1 (fun r2 σ2 => PQ r r2 σ2)) := by
  have sc := hR.sc
  unfold InI at i1
  repeat' first
    | with_reducible refine e_X_count ?_
    | with_reducible refine e_M_count ?_
    | with_reducible refine e_M_in ?_
    | with_reducible refine xr1 ?_
    | with_reducible refine xr2 ?_
    | with_reducible refine xr3 ?_
    | with_reducible refine xr4 ?_
    | with_reducible refine xr6 ?_
    | with_reducible refine mr1 ?_
    | with_reducible refine mr2 ?_
    | with_reducible refine mr3 ?_
    | with_reducible refine mr4 ?_
    | with_reducible refine mr6 ?_
    | with_reducible refine xf1 ?_
    | with_reducible refine xf2 ?_
    | with_reducible refine xf3 ?_
    | with_reducible refine xf6 ?_
    | with_reducible refine mf1 ?_
    | with_reducible refine mf2 ?_
    | with_reducible refine mf3 ?_
    | with_reducible refine mf6 ?_
    | with_reducible exact isB0
    | with_reducible exact isB1
    | with_reducible refine And.intro ?_ ?_
    | (with_reducible refine fun (hz : (_ : Int) < _) => ?_) <;> ((try simp (discharger := first | decide | omega) only [ms_eq, ms_nk, ms_ni, w32_id, w64_id, Int.toNat_natCast, not_true_eq_false, not_false_eq_true] at hz) ; (try (exfalso; omega)))
    | (with_reducible refine fun (hz : (_ : Int) ≤ _) => ?_) <;> ((try simp (discharger := first | decide | omega) only [ms_eq, ms_nk, ms_ni, w32_id, w64_id, Int.toNat_natCast, not_true_eq_false, not_false_eq_true] at hz) ; (try (exfalso; omega)))
    | (with_reducible refine fun (hz : (_ : Int) = _) => ?_) <;> ((try simp (discharger := first | decide | omega) only [ms_eq, ms_nk, ms_ni, w32_id, w64_id, Int.toNat_natCast, not_true_eq_false, not_false_eq_true] at hz) ; (try (exfalso; omega)))
    | (with_reducible refine fun (hz : ¬ (_ : Int) = _) => ?_) <;> ((try simp (discharger := first | decide | omega) only [ms_eq, ms_nk, ms_ni, w32_id, w64_id, Int.toNat_natCast, not_true_eq_false, not_false_eq_true] at hz) ; (try (exfalso; omega)))
    | (with_reducible refine fun (hz : _ ∨ _) => ?_) <;> ((try simp (discharger := first | decide | omega) only [ms_eq, ms_nk, ms_ni, w32_id, w64_id, Int.toNat_natCast, not_true_eq_false, not_false_eq_true] at hz) ; (try (exfalso; omega)))
    | omega
    | (simp (discharger := first | decide | omega) only [ms_eq, ms_nk, ms_ni, w32_id, w64_id, Int.toNat_natCast, not_true_eq_false, not_false_eq_true] ; omega)
  all_goals first
    | exact ⟨by omega, hR⟩
    | exact ⟨by rfl, hR⟩
    | skip
  simp (discharger := first | decide | omega) only [ms_eq, ms_nk, ms_ni, w32_id, w64_id, Int.toNat_natCast, not_true_eq_false, not_false_eq_true]
  exact ⟨hR.2.2.2.2.2 _ (by omega), hR⟩
theorem pr_forget {A : Mem} (hR : RR A) : wp 40 m_X_forget [.inr (.inr 0)] A (fun r σ1 => wp 40 m_M_forget [.inr (.inr 49)] σ1 (fun r2 σ2 => PQ r r2 σ2)) := by
  have sc := hR.sc
  refine e_X_forget (e_M_forget ⟨by rw [ms_nk (by decide)]; omega, ?_⟩)
  refine ⟨?_, hR.2.1, hR.2.2.1, hR.2.2.2.1, hR.2.2.2.2.1, hR.2.2.2.2.2⟩
  have h := hR.1
  refine ⟨⟨h.1.1, h.1.2.1, h.1.2.2.1, h.1.2.2.2.1, h.1.2.2.2.2.1, rfl⟩, ⟨h.2.1.1, h.2.1.2.1, h.2.1.2.2.1, h.2.1.2.2.2.1, h.2.1.2.2.2.2.1, h.2.1.2.2.2.2.2.1, h.2.1.2.2.2.2.2.2.1, h.2.1.2.2.2.2.2.2.2.1, h.2.1.2.2.2.2.2.2.2.2.1, Int.le_refl 0, (by decide : (0 : Int) ≤ 4)⟩, h.2.2.1, h.2.2.2.1, h.2.2.2.2.1, h.2.2.2.2.2.1, h.2.2.2.2.2.2.1, h.2.2.2.2.2.2.2.1, h.2.2.2.2.2.2.2.2.1, h.2.2.2.2.2.2.2.2.2.1, fun i hi => ?_⟩
  have : (i : Int) < 0 := hi
  omega
theorem pr_signs {A : Mem} (hR : RR A) {a1 : Int} (i1 : InI a1) : wp 40 m_X_signs [.inr (.inr 0), .inl a1] A (fun r σ1 => wp 40 m_M_signs [.inr (.inr 49), .inl a1] σ1 (fun r2 σ2 => PQ r r2 σ2)) := by
  have sc := hR.sc
  unfold InI at i1
  repeat' first
    | with_reducible refine e_X_signs ?_
    | with_reducible refine e_M_signs ?_
    | with_reducible refine e_S_lacksLook ?_
    | with_reducible refine e_S_hasLook ?_
    | with_reducible refine e_M_isLook ?_
    | with_reducible refine e_M_in ?_
    | with_reducible refine xr1 ?_
    | with_reducible refine xr2 ?_
    | with_reducible refine xr3 ?_
    | with_reducible refine xr4 ?_
    | with_reducible refine xr6 ?_
    | with_reducible refine mr1 ?_
    | with_reducible refine mr2 ?_
    | with_reducible refine mr3 ?_
    | with_reducible refine mr4 ?_
    | with_reducible refine mr6 ?_
    | with_reducible refine xf1 ?_
    | with_reducible refine xf2 ?_
    | with_reducible refine xf3 ?_
    | with_reducible refine xf6 ?_
    | with_reducible refine mf1 ?_
    | with_reducible refine mf2 ?_
    | with_reducible refine mf3 ?_
    | with_reducible refine mf6 ?_
    | with_reducible exact isB0
    | with_reducible exact isB1
    | with_reducible refine And.intro ?_ ?_
    | (with_reducible refine fun (hz : (_ : Int) < _) => ?_) <;> ((try simp (discharger := first | decide | omega) only [ms_eq, ms_nk, ms_ni, w32_id, w64_id, Int.toNat_natCast, not_true_eq_false, not_false_eq_true] at hz) ; (try (exfalso; omega)))
    | (with_reducible refine fun (hz : (_ : Int) ≤ _) => ?_) <;> ((try simp (discharger := first | decide | omega) only [ms_eq, ms_nk, ms_ni, w32_id, w64_id, Int.toNat_natCast, not_true_eq_false, not_false_eq_true] at hz) ; (try (exfalso; omega)))
    | (with_reducible refine fun (hz : (_ : Int) = _) => ?_) <;> ((try simp (discharger := first | decide | omega) only [ms_eq, ms_nk, ms_ni, w32_id, w64_id, Int.toNat_natCast, not_true_eq_false, not_false_eq_true] at hz) ; (try (exfalso; omega)))
    | (with_reducible refine fun (hz : ¬ (_ : Int) = _) => ?_) <;> ((try simp (discharger := first | decide | omega) only [ms_eq, ms_nk, ms_ni, w32_id, w64_id, Int.toNat_natCast, not_true_eq_false, not_false_eq_true] at hz) ; (try (exfalso; omega)))
    | (with_reducible refine fun (hz : _ ∨ _) => ?_) <;> ((try simp (discharger := first | decide | omega) only [ms_eq, ms_nk, ms_ni, w32_id, w64_id, Int.toNat_natCast, not_true_eq_false, not_false_eq_true] at hz) ; (try (exfalso; omega)))
    | omega
    | (simp (discharger := first | decide | omega) only [ms_eq, ms_nk, ms_ni, w32_id, w64_id, Int.toNat_natCast, not_true_eq_false, not_false_eq_true] ; omega)
  all_goals first
    | exact PQ.rf0 hR (by decide)
    | skip
  exact ⟨(hR.1.sgn (l := a1.toNat) (by omega)).1.symm, hR⟩
theorem pr_put {A : Mem} (hR : RR A) {a1 : Int} (i1 : InI a1) : wp 40 m_X_put [.inr (.inr 0), .inl a1] A (fun r σ1 => wp 40 m_M_put [.inr (.inr 49), .inl a1] σ1 (fun r2 σ2 => PQ r r2 σ2)) := by
  have sc := hR.sc
  have hr := hR.2.2.2.1
  unfold InI at i1
  repeat' first
    | with_reducible refine e_X_put ?_
    | with_reducible refine e_M_put ?_
    | with_reducible refine xr1 ?_
    | with_reducible refine xr2 ?_
    | with_reducible refine xr3 ?_
    | with_reducible refine xr4 ?_
    | with_reducible refine xr6 ?_
    | with_reducible refine mr1 ?_
    | with_reducible refine mr2 ?_
    | with_reducible refine mr3 ?_
    | with_reducible refine mr4 ?_
    | with_reducible refine mr6 ?_
    | with_reducible refine xf1 ?_
    | with_reducible refine xf2 ?_
    | with_reducible refine xf3 ?_
    | with_reducible refine xf6 ?_
    | with_reducible refine mf1 ?_
    | with_reducible refine mf2 ?_
    | with_reducible refine mf3 ?_
    | with_reducible refine mf6 ?_
    | with_reducible exact isB0
    | with_reducible exact isB1
    | with_reducible refine And.intro ?_ ?_
    | (with_reducible refine fun (hz : (_ : Int) < _) => ?_) <;> ((try simp (discharger := first | decide | omega) only [ms_eq, ms_nk, ms_ni, w32_id, w64_id, Int.toNat_natCast, not_true_eq_false, not_false_eq_true] at hz) ; (try (exfalso; omega)))
    | (with_reducible refine fun (hz : (_ : Int) ≤ _) => ?_) <;> ((try simp (discharger := first | decide | omega) only [ms_eq, ms_nk, ms_ni, w32_id, w64_id, Int.toNat_natCast, not_true_eq_false, not_false_eq_true] at hz) ; (try (exfalso; omega)))
    | (with_reducible refine fun (hz : (_ : Int) = _) => ?_) <;> ((try simp (discharger := first | decide | omega) only [ms_eq, ms_nk, ms_ni, w32_id, w64_id, Int.toNat_natCast, not_true_eq_false, not_false_eq_true] at hz) ; (try (exfalso; omega)))
    | (with_reducible refine fun (hz : ¬ (_ : Int) = _) => ?_) <;> ((try simp (discharger := first | decide | omega) only [ms_eq, ms_nk, ms_ni, w32_id, w64_id, Int.toNat_natCast, not_true_eq_false, not_false_eq_true] at hz) ; (try (exfalso; omega)))
    | (with_reducible refine fun (hz : _ ∨ _) => ?_) <;> ((try simp (discharger := first | decide | omega) only [ms_eq, ms_nk, ms_ni, w32_id, w64_id, Int.toNat_natCast, not_true_eq_false, not_false_eq_true] at hz) ; (try (exfalso; omega)))
    | omega
    | (simp (discharger := first | decide | omega) only [ms_eq, ms_nk, ms_ni, w32_id, w64_id, Int.toNat_natCast, not_true_eq_false, not_false_eq_true] ; omega)
  all_goals first
    | exact PQ.rf0 hR (by decide)
    | skip
  simp (discharger := first | decide | omega) only [ms_eq, ms_nk, ms_ni, w32_id, w64_id, Int.toNat_natCast, not_true_eq_false, not_false_eq_true]
  obtain ⟨n, hn⟩ : ∃ n : Nat, A 0 2 = (n : Int) := ⟨(A 0 2).toNat, by omega⟩
  have hn2 : A 49 16 = (n : Int) := by omega
  rw [hn, hn2, Int.toNat_natCast]
  refine ⟨rfl, hR.1, hR.2.1, hR.2.2.1, ⟨rfl, ?_, ?_, fun j hj => ?_⟩, hR.2.2.2.2.1, hR.2.2.2.2.2⟩
  · simp (discharger := first | decide | omega) only [ms_eq, ms_nk, ms_ni, w32_id, w64_id, Int.toNat_natCast, not_true_eq_false, not_false_eq_true]
    omega
  · simp (discharger := first | decide | omega) only [ms_eq, ms_nk, ms_ni, w32_id, w64_id, Int.toNat_natCast, not_true_eq_false, not_false_eq_true]
    omega
  · simp (discharger := first | decide | omega) only [ms_eq, ms_nk, ms_ni, w32_id, w64_id, Int.toNat_natCast, not_true_eq_false, not_false_eq_true] at hj ⊢
    by_cases h : j = n
    · subst h
      simp (discharger := first | decide | omega) only [ms_eq, ms_nk, ms_ni, w32_id, w64_id, Int.toNat_natCast, not_true_eq_false, not_false_eq_true]
      exact ⟨trivial, by omega, by omega⟩
    · simp (discharger := first | decide | omega) only [ms_eq, ms_nk, ms_ni, w32_id, w64_id, Int.toNat_natCast, not_true_eq_false, not_false_eq_true]
      exact hr.2.2.2 j (by omega)
theorem pr_gets {A : Mem} (hR : RR A) {a1 : Int} (i1 : InI a1) {a2 : Int} (i2 : InI a2) {a3 : Int} (i3 : InI a3) : wp 40 m_X_gets [.inr (.inr 0), .inl a1, .inl a2, .inl a3] A (fun r σ1 => wp 40 m_M_gets [.inr (.inr 49), .inl a1, .inl a2, .inl a3] σ1 (fun r2 σ2 => PQ r r2 σ2)) := by
  have sc := hR.sc
  unfold InI at i1 i2 i3
  repeat' first
    | with_reducible refine e_X_gets ?_
    | with_reducible refine e_M_gets ?_
    | with_reducible refine e_S_lacksAct ?_
    | with_reducible refine e_S_hasAct ?_
    | with_reducible refine e_S_hasTruth ?_
    | with_reducible refine e_M_isAct ?_
    | with_reducible refine e_M_isTruth ?_
    | with_reducible refine e_M_in ?_
    | with_reducible refine xr1 ?_
    | with_reducible refine xr2 ?_
    | with_reducible refine xr3 ?_
    | with_reducible refine xr4 ?_
    | with_reducible refine xr6 ?_
    | with_reducible refine mr1 ?_
    | with_reducible refine mr2 ?_
    | with_reducible refine mr3 ?_
    | with_reducible refine mr4 ?_
    | with_reducible refine mr6 ?_
    | with_reducible refine xf1 ?_
    | with_reducible refine xf2 ?_
    | with_reducible refine xf3 ?_
    | with_reducible refine xf6 ?_
    | with_reducible refine mf1 ?_
    | with_reducible refine mf2 ?_
    | with_reducible refine mf3 ?_
    | with_reducible refine mf6 ?_
    | with_reducible exact isB0
    | with_reducible exact isB1
    | with_reducible refine And.intro ?_ ?_
    | (with_reducible refine fun (hz : (_ : Int) < _) => ?_) <;> ((try simp (discharger := first | decide | omega) only [ms_eq, ms_nk, ms_ni, w32_id, w64_id, Int.toNat_natCast, not_true_eq_false, not_false_eq_true] at hz) ; (try (exfalso; omega)))
    | (with_reducible refine fun (hz : (_ : Int) ≤ _) => ?_) <;> ((try simp (discharger := first | decide | omega) only [ms_eq, ms_nk, ms_ni, w32_id, w64_id, Int.toNat_natCast, not_true_eq_false, not_false_eq_true] at hz) ; (try (exfalso; omega)))
    | (with_reducible refine fun (hz : (_ : Int) = _) => ?_) <;> ((try simp (discharger := first | decide | omega) only [ms_eq, ms_nk, ms_ni, w32_id, w64_id, Int.toNat_natCast, not_true_eq_false, not_false_eq_true] at hz) ; (try (exfalso; omega)))
    | (with_reducible refine fun (hz : ¬ (_ : Int) = _) => ?_) <;> ((try simp (discharger := first | decide | omega) only [ms_eq, ms_nk, ms_ni, w32_id, w64_id, Int.toNat_natCast, not_true_eq_false, not_false_eq_true] at hz) ; (try (exfalso; omega)))
    | (with_reducible refine fun (hz : _ ∨ _) => ?_) <;> ((try simp (discharger := first | decide | omega) only [ms_eq, ms_nk, ms_ni, w32_id, w64_id, Int.toNat_natCast, not_true_eq_false, not_false_eq_true] at hz) ; (try (exfalso; omega)))
    | omega
    | (simp (discharger := first | decide | omega) only [ms_eq, ms_nk, ms_ni, w32_id, w64_id, Int.toNat_natCast, not_true_eq_false, not_false_eq_true] ; omega)
  all_goals first
    | exact PQ.rf0 hR (by decide)
    | skip
  all_goals
    simp (discharger := first | decide | omega) only [ms_eq, ms_nk, ms_ni, w32_id, w64_id, Int.toNat_natCast, not_true_eq_false, not_false_eq_true]
    have e1 : a1 = (a1.toNat : Int) := by omega
    have e2 : a2 = (a2.toNat : Int) := by omega
    have e3 : a3 = (a3.toNat : Int) := by omega
    have g := hR.1.gt (a := a1.toNat) (t := a2.toNat) (by omega) (by omega)
    have x1 : (a1 * 4 + a2).toNat = 4 * a1.toNat + a2.toNat := by omega
    have x2 : (24 * a3 + 4 * a1 + a2).toNat = 24 * a3.toNat + 4 * a1.toNat + a2.toNat := by omega
    rw [x1, x2]
    refine ⟨?_, hR⟩
  · have e : a3.toNat = 0 := by omega
    rw [e, show 24 * 0 + 4 * a1.toNat + a2.toNat = 4 * a1.toNat + a2.toNat by omega]
    exact g.1.1.symm
  · have e : a3.toNat = 1 := by omega
    rw [e]
    exact g.2.1.1.symm
  · have e : a3.toNat = 2 := by omega
    rw [e]
    exact g.2.2.1.symm
theorem pr_parts {A : Mem} (hR : RR A) {a1 : Int} (i1 : InI a1) {a2 : Int} (i2 : InI a2) {a3 : Int} (i3 : InI a3) : wp 40 m_X_parts [.inr (.inr 0), .inl a1, .inl a2, .inl a3] A (fun r σ1 => wp 40 m_M_parts [.inr (.inr 49), .inl a1, .inl a2, .inl a3] σ1 (fun r2 σ2 => PQ r r2 σ2)) := by
  have sc := hR.sc
  unfold InI at i1 i2 i3
  have hs : ∀ l : Nat, (l : Int) < A 7 10 → A 53 l = A 13 l ∧ 1 ≤ A 13 l ∧ A 13 l ≤ 6 := fun l hl => hR.1.sgn hl
  have hs1 := hs a1.toNat
  repeat' first
    | with_reducible refine e_X_parts ?_
    | with_reducible refine e_M_parts ?_
    | with_reducible refine e_S_lacksSign ?_
    | with_reducible refine e_S_hasSign ?_
    | with_reducible refine e_S_hasLook ?_
    | with_reducible refine e_S_hasTruth ?_
    | with_reducible refine e_S_partOf ?_
    | with_reducible refine e_M_isSign ?_
    | with_reducible refine e_M_isLook ?_
    | with_reducible refine e_M_isTruth ?_
    | with_reducible refine e_M_in ?_
    | with_reducible refine e_M_place ?_
    | with_reducible refine xr1 ?_
    | with_reducible refine xr2 ?_
    | with_reducible refine xr3 ?_
    | with_reducible refine xr4 ?_
    | with_reducible refine xr6 ?_
    | with_reducible refine mr1 ?_
    | with_reducible refine mr2 ?_
    | with_reducible refine mr3 ?_
    | with_reducible refine mr4 ?_
    | with_reducible refine mr6 ?_
    | with_reducible refine xf1 ?_
    | with_reducible refine xf2 ?_
    | with_reducible refine xf3 ?_
    | with_reducible refine xf6 ?_
    | with_reducible refine mf1 ?_
    | with_reducible refine mf2 ?_
    | with_reducible refine mf3 ?_
    | with_reducible refine mf6 ?_
    | with_reducible exact isB0
    | with_reducible exact isB1
    | with_reducible refine And.intro ?_ ?_
    | (with_reducible refine fun (hz : (_ : Int) < _) => ?_) <;> ((try simp (discharger := first | decide | omega) only [ms_eq, ms_nk, ms_ni, w32_id, w64_id, Int.toNat_natCast, not_true_eq_false, not_false_eq_true] at hz) ; (try (exfalso; omega)))
    | (with_reducible refine fun (hz : (_ : Int) ≤ _) => ?_) <;> ((try simp (discharger := first | decide | omega) only [ms_eq, ms_nk, ms_ni, w32_id, w64_id, Int.toNat_natCast, not_true_eq_false, not_false_eq_true] at hz) ; (try (exfalso; omega)))
    | (with_reducible refine fun (hz : (_ : Int) = _) => ?_) <;> ((try simp (discharger := first | decide | omega) only [ms_eq, ms_nk, ms_ni, w32_id, w64_id, Int.toNat_natCast, not_true_eq_false, not_false_eq_true] at hz) ; (try (exfalso; omega)))
    | (with_reducible refine fun (hz : ¬ (_ : Int) = _) => ?_) <;> ((try simp (discharger := first | decide | omega) only [ms_eq, ms_nk, ms_ni, w32_id, w64_id, Int.toNat_natCast, not_true_eq_false, not_false_eq_true] at hz) ; (try (exfalso; omega)))
    | (with_reducible refine fun (hz : _ ∨ _) => ?_) <;> ((try simp (discharger := first | decide | omega) only [ms_eq, ms_nk, ms_ni, w32_id, w64_id, Int.toNat_natCast, not_true_eq_false, not_false_eq_true] at hz) ; (try (exfalso; omega)))
    | omega
    | (simp (discharger := first | decide | omega) only [ms_eq, ms_nk, ms_ni, w32_id, w64_id, Int.toNat_natCast, not_true_eq_false, not_false_eq_true] ; omega)
  all_goals first
    | exact PQ.rf0 hR (by decide)
    | skip
  simp (discharger := first | decide | omega) only [ms_eq, ms_nk, ms_ni, w32_id, w64_id, Int.toNat_natCast, not_true_eq_false, not_false_eq_true]
  have g := hR.1.prt (l := a1.toNat) (t := a2.toNat) (s := a3.toNat) (by omega) (by omega) (by omega)
  have x1 : (a1 * 24 + a2 * 6 + a3).toNat = 24 * a1.toNat + 6 * a2.toNat + a3.toNat := by omega
  have x2 : (24 * a1 + 6 * a2 + a3).toNat = 24 * a1.toNat + 6 * a2.toNat + a3.toNat := by omega
  rw [x1, x2]
  exact ⟨g.1.symm, hR⟩
theorem sp_M_keepBack {d : Nat} {σ : Mem} {Q : Int → Mem → Prop} {k p w : Int} {m o : Nat} (hm : (m : Int) + (o : Int) = σ 49 19) (ho : moOK m o) (hQ : ∀ σ1, keptM σ σ1 m o k p w → Q 0 σ1) : wp (d + 1) m_M_keepBack [.inr (.inr 49), .inl k, .inl p, .inl w] σ Q := by
  have ho2 := ho.2
  have ho1 := ho.1
  refine e_M_keepBack ⟨fun h => ?_, fun h => ?_⟩
  · have o1 : o = 1 ∧ m = 29 := by omega
    obtain ⟨rfl, rfl⟩ := o1
    have loop : ∀ n x : Nat, x + n = 29 → ∀ σ1, (∀ c i, c ≠ 61 → c ≠ 62 → c ≠ 63 → σ1 c i = σ c i) → (∀ j, j < x → σ1 61 j = σ 61 (j + 1) ∧ σ1 62 j = σ 62 (j + 1) ∧ σ1 63 j = σ 63 (j + 1)) → (∀ j, x ≤ j → σ1 61 j = σ 61 j ∧ σ1 62 j = σ 62 j ∧ σ1 63 j = σ 63 j) → K_M_keepBack_12 d Q k p w (x : Int) σ1 := by
      intro n
      induction n with
      | zero =>
        intro x hx σ1 h1 h2 h3
        have : x = 29 := by omega
        subst this
        refine e_M_keepBack_12 ⟨fun h => by omega, fun _ => ?_⟩
        have t29 : (29 : Int).toNat = 29 := rfl
        simp (discharger := first | decide | omega) only [ms_eq, ms_nk, ms_ni, w32_id, w64_id, Int.toNat_natCast, not_true_eq_false, not_false_eq_true, t29]
        refine ⟨by omega, by omega, by omega, hQ _ ⟨fun c i g1 g2 g3 g4 => ?_, ?_, fun j hj => ?_, ?_, ?_, ?_⟩⟩
        · by_cases hc : c = 49
          · subst hc
            have : i ≠ 19 := fun z => g1 ⟨rfl, z⟩
            simp (discharger := first | decide | omega) only [ms_eq, ms_nk, ms_ni, w32_id, w64_id, Int.toNat_natCast, not_true_eq_false, not_false_eq_true]
            exact h1 49 i (by decide) (by decide) (by decide)
          · simp (discharger := first | decide | omega) only [ms_eq, ms_nk, ms_ni, w32_id, w64_id, Int.toNat_natCast, not_true_eq_false, not_false_eq_true]
            exact h1 c i g2 g3 g4
        · simp (discharger := first | decide | omega) only [ms_eq, ms_nk, ms_ni, w32_id, w64_id, Int.toNat_natCast, not_true_eq_false, not_false_eq_true]
          rfl
        · have : j ≠ 29 := by omega
          simp (discharger := first | decide | omega) only [ms_eq, ms_nk, ms_ni, w32_id, w64_id, Int.toNat_natCast, not_true_eq_false, not_false_eq_true]
          exact h2 j hj
        · simp (discharger := first | decide | omega) only [ms_eq, ms_nk, ms_ni, w32_id, w64_id, Int.toNat_natCast, not_true_eq_false, not_false_eq_true]
        · simp (discharger := first | decide | omega) only [ms_eq, ms_nk, ms_ni, w32_id, w64_id, Int.toNat_natCast, not_true_eq_false, not_false_eq_true]
        · simp (discharger := first | decide | omega) only [ms_eq, ms_nk, ms_ni, w32_id, w64_id, Int.toNat_natCast, not_true_eq_false, not_false_eq_true]
      | succ n ih =>
        intro x hx σ1 h1 h2 h3
        refine e_M_keepBack_12 ⟨fun _ => ?_, fun h => by omega⟩
        have e1 : w32 ((x : Int) + 1) = ((x + 1 : Nat) : Int) := w32_eq (by omega) (by omega)
        rw [e1, Int.toNat_natCast, Int.toNat_natCast]
        refine ⟨⟨by omega, by omega⟩, ⟨by omega, by omega⟩, ⟨by omega, by omega⟩, ⟨by omega, by omega⟩, ⟨by omega, by omega⟩, ⟨by omega, by omega⟩, ih (x + 1) (by omega) _ (fun c i g2 g3 g4 => ?_) (fun j hj => ?_) (fun j hj => ?_)⟩
        · simp (discharger := first | decide | omega) only [ms_eq, ms_nk, ms_ni, w32_id, w64_id, Int.toNat_natCast, not_true_eq_false, not_false_eq_true]
          exact h1 c i g2 g3 g4
        · have hh := h3 (x + 1) (by omega)
          by_cases hjx : j = x
          · subst hjx
            simp (discharger := first | decide | omega) only [ms_eq, ms_nk, ms_ni, w32_id, w64_id, Int.toNat_natCast, not_true_eq_false, not_false_eq_true]
            exact hh
          · simp (discharger := first | decide | omega) only [ms_eq, ms_nk, ms_ni, w32_id, w64_id, Int.toNat_natCast, not_true_eq_false, not_false_eq_true]
            exact h2 j (by omega)
        · have : j ≠ x := by omega
          simp (discharger := first | decide | omega) only [ms_eq, ms_nk, ms_ni, w32_id, w64_id, Int.toNat_natCast, not_true_eq_false, not_false_eq_true]
          exact h3 j (by omega)
    exact loop 29 0 (by omega) σ (fun _ _ _ _ _ => rfl) (fun j hj => by omega) (fun j _ => ⟨rfl, rfl, rfl⟩)
  · have o0 : o = 0 := by omega
    subst o0
    have e : σ 49 19 = (m : Int) := by omega
    simp (discharger := first | decide | omega) only [ms_eq, ms_nk, ms_ni, w32_id, w64_id, Int.toNat_natCast, not_true_eq_false, not_false_eq_true, e]
    refine ⟨⟨by omega, by omega⟩, ⟨by omega, by omega⟩, ⟨by omega, by omega⟩, hQ _ ⟨fun c i h1 h2 h3 h4 => ?_, ?_, fun j hj => ?_, ?_, ?_, ?_⟩⟩
    · by_cases hc : c = 49
      · subst hc
        have : i ≠ 19 := fun z => h1 ⟨rfl, z⟩
        simp (discharger := first | decide | omega) only [ms_eq, ms_nk, ms_ni, w32_id, w64_id, Int.toNat_natCast, not_true_eq_false, not_false_eq_true]
      · simp (discharger := first | decide | omega) only [ms_eq, ms_nk, ms_ni, w32_id, w64_id, Int.toNat_natCast, not_true_eq_false, not_false_eq_true]
    · simp (discharger := first | decide | omega) only [ms_eq, ms_nk, ms_ni, w32_id, w64_id, Int.toNat_natCast, not_true_eq_false, not_false_eq_true]
    · have : j ≠ m := by omega
      simp (discharger := first | decide | omega) only [ms_eq, ms_nk, ms_ni, w32_id, w64_id, Int.toNat_natCast, not_true_eq_false, not_false_eq_true]
      exact ⟨rfl, rfl, rfl⟩
    · simp (discharger := first | decide | omega) only [ms_eq, ms_nk, ms_ni, w32_id, w64_id, Int.toNat_natCast, not_true_eq_false, not_false_eq_true]
    · simp (discharger := first | decide | omega) only [ms_eq, ms_nk, ms_ni, w32_id, w64_id, Int.toNat_natCast, not_true_eq_false, not_false_eq_true]
    · simp (discharger := first | decide | omega) only [ms_eq, ms_nk, ms_ni, w32_id, w64_id, Int.toNat_natCast, not_true_eq_false, not_false_eq_true]
