-- PURE, 29: the calls set, chosen, enough
theorem vS_bd {A : Mem} (hR : RR A) (ho : 1 ≤ A 7 2) (h6 : 1 ≤ A 7 6) {x : Nat} {less : Bool} (hx : x < 2 ^ tsN A) (hp : pc x ≤ 3) : -33872256000 ≤ vS A less x ∧ vS A less x ≤ 33872256000 ∧ (-8468064000 ≤ brg A 10 11 (lsK A x (tsN A)) ∧ brg A 10 11 (lsK A x (tsN A)) ≤ 8468064000) ∧ (0 ≤ csK A x (tsN A) * (A 7 6 * 216000) ∧ csK A x (tsN A) * (A 7 6 * 216000) ≤ 25404192000) ∧ 0 ≤ csK A x (tsN A) ∧ csK A x (tsN A) ≤ 297 := by
  have hT := tsE hR
  have hTp := pcK_T hT.2.1 hx
  have hok := lsK_ok hR (x := x) (Nat.le_refl (tsN A))
  have hlen : (lsK A x (tsN A)).length ≤ 3 := by rw [lsK_len, hTp]; exact hp
  have hcs := csK_bd hR (x := x) (Nat.le_refl (tsN A))
  rw [hTp] at hcs
  have gb := gath_abs9 hR ho (j := 10) (p := 11) (Or.inr (Or.inl rfl)) hok
  have pl : (60 : Int) ^ (lsK A x (tsN A)).length * 60 ^ (3 - (lsK A x (tsN A)).length) = 216000 := by
    rw [← Int.pow_add, show (lsK A x (tsN A)).length + (3 - (lsK A x (tsN A)).length) = 3 by omega]
    rfl
  have p3 := p60 (n := 3 - (lsK A x (tsN A)).length) (by omega)
  have h6b := tot_bd hR.1
  have bb : -(99 * (A 7 6 * 216000)) ≤ brg A 10 11 (lsK A x (tsN A)) ∧ brg A 10 11 (lsK A x (tsN A)) ≤ 99 * (A 7 6 * 216000) := by
    have := mul_bd gb (y := 60 ^ (3 - (lsK A x (tsN A)).length)) (Y := 60 ^ (3 - (lsK A x (tsN A)).length)) ⟨by omega, Int.le_refl _⟩
    have e : 99 * (A 7 6 * 60 ^ (lsK A x (tsN A)).length) * 60 ^ (3 - (lsK A x (tsN A)).length) = 99 * (A 7 6 * 216000) := by
      rw [← pl]
      grind
    rw [e] at this
    exact this
  have cb : csK A x (tsN A) * (A 7 6 * 216000) ≤ 297 * (A 7 6 * 216000) := Int.mul_le_mul_of_nonneg_right (by omega) (by omega)
  have cn : 0 ≤ csK A x (tsN A) * (A 7 6 * 216000) := Int.mul_nonneg hcs.1 (by omega)
  unfold vS
  refine ⟨?_, ?_, ⟨by omega, by omega⟩, ⟨cn, by omega⟩, hcs.1, by omega⟩
  · split <;> omega
  · split <;> omega
theorem shlT {A : Mem} (hR : RR A) : shlI 1 (A 7 13) = ((2 ^ tsN A : Nat) : Int) ∧ shlI 1 (A 49 9) = ((2 ^ tsN A : Nat) : Int) ∧ 1 ≤ 2 ^ tsN A ∧ 2 ^ tsN A ≤ 64 := by
  have h := tsE hR
  refine ⟨?_, ?_, Nat.one_le_two_pow, p2_64 h.2.1⟩
  · rw [h.1]; exact shl_eq (by omega)
  · rw [h.2.2]; exact shl_eq (by omega)
theorem pr_set {A : Mem} (hR : RR A) {a1 : Int} (i1 : InI a1) {a2 : Int} (i2 : InI a2) : wp 40 m_X_set [.inr (.inr 0), .inl a1, .inl a2] A (fun r σ1 => wp 40 m_M_set [.inr (.inr 49), .inl a1, .inl a2] σ1 (fun r2 σ2 => PQ r r2 σ2)) := by
  have sc := hR.sc
  unfold InI at i1 i2
  have hsh := shlT hR
  have s1 := hsh.1
  have s2 := hsh.2.1
  have hA := hsh.2.2
  by_cases hv : 0 ≤ a1 ∧ a1 < ((2 ^ tsN A : Nat) : Int) ∧ 1 ≤ A 7 1
  · obtain ⟨x, rfl⟩ : ∃ k : Nat, a1 = (k : Int) := ⟨a1.toNat, by omega⟩
    have hx : x < 2 ^ tsN A := by omega
    have ho : 1 ≤ A 7 2 := by omega
    have h6 := tot_pos hR.1 hv.2.2
    have h6b := tot_bd hR.1
    by_cases hp : pc x ≤ 3
    · have vb := vS_bd hR ho h6 (less := true) hx hp
      repeat' first
        | with_reducible refine e_X_set ?_
        | with_reducible refine e_X_isPart ?_
        | with_reducible refine e_S_hasTests ?_
        | with_reducible refine xr1 ?_
        | with_reducible refine xr2 ?_
        | with_reducible refine xr3 ?_
        | with_reducible refine xr4 ?_
        | with_reducible refine xr6 ?_
        | with_reducible refine mr1 ?_
        | with_reducible refine mr2 ?_
        | with_reducible refine mr3 ?_
        | with_reducible refine mr4 ?_
        | with_reducible refine mr6 ?_
        | with_reducible refine xf1 ?_
        | with_reducible refine xf2 ?_
        | with_reducible refine xf3 ?_
        | with_reducible refine xf6 ?_
        | with_reducible refine mf1 ?_
        | with_reducible refine mf2 ?_
        | with_reducible refine mf3 ?_
        | with_reducible refine mf6 ?_
        | with_reducible exact isB0
        | with_reducible exact isB1
        | with_reducible refine And.intro ?_ ?_
        | (with_reducible refine fun (hz : (_ : Int) < _) => ?_) <;> ((try simp (discharger := first | decide | omega) only [ms_eq, ms_nk, ms_ni, w32_id, w64_id, Int.toNat_natCast, not_true_eq_false, not_false_eq_true, s1] at hz) ; (try (exfalso; omega)))
        | (with_reducible refine fun (hz : (_ : Int) ≤ _) => ?_) <;> ((try simp (discharger := first | decide | omega) only [ms_eq, ms_nk, ms_ni, w32_id, w64_id, Int.toNat_natCast, not_true_eq_false, not_false_eq_true, s1] at hz) ; (try (exfalso; omega)))
        | (with_reducible refine fun (hz : (_ : Int) = _) => ?_) <;> ((try simp (discharger := first | decide | omega) only [ms_eq, ms_nk, ms_ni, w32_id, w64_id, Int.toNat_natCast, not_true_eq_false, not_false_eq_true, s1] at hz) ; (try (exfalso; omega)))
        | (with_reducible refine fun (hz : ¬ (_ : Int) = _) => ?_) <;> ((try simp (discharger := first | decide | omega) only [ms_eq, ms_nk, ms_ni, w32_id, w64_id, Int.toNat_natCast, not_true_eq_false, not_false_eq_true, s1] at hz) ; (try (exfalso; omega)))
        | (with_reducible refine fun (hz : _ ∨ _) => ?_) <;> ((try simp (discharger := first | decide | omega) only [ms_eq, ms_nk, ms_ni, w32_id, w64_id, Int.toNat_natCast, not_true_eq_false, not_false_eq_true, s1] at hz) ; (try (exfalso; omega)))
        | omega
        | (simp (discharger := first | decide | omega) only [ms_eq, ms_nk, ms_ni, w32_id, w64_id, Int.toNat_natCast, not_true_eq_false, not_false_eq_true, s1] ; omega)
      all_goals first
        | (repeat' first
          | with_reducible refine e_M_set ?_
          | with_reducible refine e_M_isPart ?_
          | with_reducible refine e_M_isSet ?_
          | with_reducible refine e_M_in ?_
          | with_reducible refine xr1 ?_
          | with_reducible refine xr2 ?_
          | with_reducible refine xr3 ?_
          | with_reducible refine xr4 ?_
          | with_reducible refine xr6 ?_
          | with_reducible refine mr1 ?_
          | with_reducible refine mr2 ?_
          | with_reducible refine mr3 ?_
          | with_reducible refine mr4 ?_
          | with_reducible refine mr6 ?_
          | with_reducible refine xf1 ?_
          | with_reducible refine xf2 ?_
          | with_reducible refine xf3 ?_
          | with_reducible refine xf6 ?_
          | with_reducible refine mf1 ?_
          | with_reducible refine mf2 ?_
          | with_reducible refine mf3 ?_
          | with_reducible refine mf6 ?_
          | with_reducible exact isB0
          | with_reducible exact isB1
          | with_reducible refine And.intro ?_ ?_
          | (with_reducible refine fun (hz : (_ : Int) < _) => ?_) <;> ((try simp (discharger := first | decide | omega) only [ms_eq, ms_nk, ms_ni, w32_id, w64_id, Int.toNat_natCast, not_true_eq_false, not_false_eq_true, s2] at hz) ; (try (exfalso; omega)))
          | (with_reducible refine fun (hz : (_ : Int) ≤ _) => ?_) <;> ((try simp (discharger := first | decide | omega) only [ms_eq, ms_nk, ms_ni, w32_id, w64_id, Int.toNat_natCast, not_true_eq_false, not_false_eq_true, s2] at hz) ; (try (exfalso; omega)))
          | (with_reducible refine fun (hz : (_ : Int) = _) => ?_) <;> ((try simp (discharger := first | decide | omega) only [ms_eq, ms_nk, ms_ni, w32_id, w64_id, Int.toNat_natCast, not_true_eq_false, not_false_eq_true, s2] at hz) ; (try (exfalso; omega)))
          | (with_reducible refine fun (hz : ¬ (_ : Int) = _) => ?_) <;> ((try simp (discharger := first | decide | omega) only [ms_eq, ms_nk, ms_ni, w32_id, w64_id, Int.toNat_natCast, not_true_eq_false, not_false_eq_true, s2] at hz) ; (try (exfalso; omega)))
          | (with_reducible refine fun (hz : _ ∨ _) => ?_) <;> ((try simp (discharger := first | decide | omega) only [ms_eq, ms_nk, ms_ni, w32_id, w64_id, Int.toNat_natCast, not_true_eq_false, not_false_eq_true, s2] at hz) ; (try (exfalso; omega)))
          | omega
          | (simp (discharger := first | decide | omega) only [ms_eq, ms_nk, ms_ni, w32_id, w64_id, Int.toNat_natCast, not_true_eq_false, not_false_eq_true, s2] ; omega)
           all_goals first
             | exact PQ.rf0 hR (by decide)
             | skip
           done)
        | skip
      all_goals
        have hp3 : a2 = 0 ∨ a2 = 1 := by omega
        refine sp_bitCount (by omega) ⟨fun h => by omega, fun _ => ?_⟩
        refine sp_K_bringsOf hR ho Eqv.rfl hx hp (fun σ1 hF => ?_)
        have hE := hF.eqv Eqv.rfl
        refine sp_K_costOf hR hE (by omega) (sp_B_unit hR.1 hE (sp_B_unit hR.1 hE ?_))
        rw [w64_id (x := csK A x (tsN A) * (A 7 6 * 216000)) (by omega) (by omega), w64_id (x := brg A 10 11 (lsK A x (tsN A)) - csK A x (tsN A) * (A 7 6 * 216000)) (by omega) (by omega)]
        refine sp_X_tell (by omega) (by omega) ?_
        have q0 := hE 49 0 rfl
        have q9 : shlI 1 (σ1 49 9) = ((2 ^ tsN A : Nat) : Int) := by rw [hE 49 9 rfl]; exact s2
        repeat' first
          | with_reducible refine e_M_set ?_
          | with_reducible refine e_M_isPart ?_
          | with_reducible refine e_M_isSet ?_
          | with_reducible refine e_M_in ?_
          | with_reducible refine xr1 ?_
          | with_reducible refine xr2 ?_
          | with_reducible refine xr3 ?_
          | with_reducible refine xr4 ?_
          | with_reducible refine xr6 ?_
          | with_reducible refine mr1 ?_
          | with_reducible refine mr2 ?_
          | with_reducible refine mr3 ?_
          | with_reducible refine mr4 ?_
          | with_reducible refine mr6 ?_
          | with_reducible refine xf1 ?_
          | with_reducible refine xf2 ?_
          | with_reducible refine xf3 ?_
          | with_reducible refine xf6 ?_
          | with_reducible refine mf1 ?_
          | with_reducible refine mf2 ?_
          | with_reducible refine mf3 ?_
          | with_reducible refine mf6 ?_
          | with_reducible exact isB0
          | with_reducible exact isB1
          | with_reducible refine And.intro ?_ ?_
          | (with_reducible refine fun (hz : (_ : Int) < _) => ?_) <;> ((try simp (discharger := first | decide | omega) only [ms_eq, ms_nk, ms_ni, w32_id, w64_id, Int.toNat_natCast, not_true_eq_false, not_false_eq_true, q0, q9] at hz) ; (try (exfalso; omega)))
          | (with_reducible refine fun (hz : (_ : Int) ≤ _) => ?_) <;> ((try simp (discharger := first | decide | omega) only [ms_eq, ms_nk, ms_ni, w32_id, w64_id, Int.toNat_natCast, not_true_eq_false, not_false_eq_true, q0, q9] at hz) ; (try (exfalso; omega)))
          | (with_reducible refine fun (hz : (_ : Int) = _) => ?_) <;> ((try simp (discharger := first | decide | omega) only [ms_eq, ms_nk, ms_ni, w32_id, w64_id, Int.toNat_natCast, not_true_eq_false, not_false_eq_true, q0, q9] at hz) ; (try (exfalso; omega)))
          | (with_reducible refine fun (hz : ¬ (_ : Int) = _) => ?_) <;> ((try simp (discharger := first | decide | omega) only [ms_eq, ms_nk, ms_ni, w32_id, w64_id, Int.toNat_natCast, not_true_eq_false, not_false_eq_true, q0, q9] at hz) ; (try (exfalso; omega)))
          | (with_reducible refine fun (hz : _ ∨ _) => ?_) <;> ((try simp (discharger := first | decide | omega) only [ms_eq, ms_nk, ms_ni, w32_id, w64_id, Int.toNat_natCast, not_true_eq_false, not_false_eq_true, q0, q9] at hz) ; (try (exfalso; omega)))
          | omega
          | (simp (discharger := first | decide | omega) only [ms_eq, ms_nk, ms_ni, w32_id, w64_id, Int.toNat_natCast, not_true_eq_false, not_false_eq_true, q0, q9] ; omega)
        refine sp_M_ones (by omega) ⟨fun h => by omega, fun _ => ?_⟩
        refine sp_M_findSet (less := true) hR ho h6 hE (Or.inr ⟨by decide, rfl⟩) hx hp (fun σ2 hF2 hV hb1 hb2 => ?_)
        have hb0 := hV.1
        refine sp_M_fr hp3 (by omega) (by omega) (PQ.eqv hR ?_ (hF2.eqv hE))
        have e := hV.2
        unfold vS at e
        rw [if_pos rfl] at e
        exact frP_eq (by omega) hb0 e.symm
    · repeat' first
      | with_reducible refine e_X_set ?_
      | with_reducible refine e_X_isPart ?_
      | with_reducible refine e_S_hasTests ?_
      | with_reducible refine xr1 ?_
      | with_reducible refine xr2 ?_
      | with_reducible refine xr3 ?_
      | with_reducible refine xr4 ?_
      | with_reducible refine xr6 ?_
      | with_reducible refine mr1 ?_
      | with_reducible refine mr2 ?_
      | with_reducible refine mr3 ?_
      | with_reducible refine mr4 ?_
      | with_reducible refine mr6 ?_
      | with_reducible refine xf1 ?_
      | with_reducible refine xf2 ?_
      | with_reducible refine xf3 ?_
      | with_reducible refine xf6 ?_
      | with_reducible refine mf1 ?_
      | with_reducible refine mf2 ?_
      | with_reducible refine mf3 ?_
      | with_reducible refine mf6 ?_
      | with_reducible exact isB0
      | with_reducible exact isB1
      | with_reducible refine And.intro ?_ ?_
      | (with_reducible refine fun (hz : (_ : Int) < _) => ?_) <;> ((try simp (discharger := first | decide | omega) only [ms_eq, ms_nk, ms_ni, w32_id, w64_id, Int.toNat_natCast, not_true_eq_false, not_false_eq_true, s1] at hz) ; (try (exfalso; omega)))
      | (with_reducible refine fun (hz : (_ : Int) ≤ _) => ?_) <;> ((try simp (discharger := first | decide | omega) only [ms_eq, ms_nk, ms_ni, w32_id, w64_id, Int.toNat_natCast, not_true_eq_false, not_false_eq_true, s1] at hz) ; (try (exfalso; omega)))
      | (with_reducible refine fun (hz : (_ : Int) = _) => ?_) <;> ((try simp (discharger := first | decide | omega) only [ms_eq, ms_nk, ms_ni, w32_id, w64_id, Int.toNat_natCast, not_true_eq_false, not_false_eq_true, s1] at hz) ; (try (exfalso; omega)))
      | (with_reducible refine fun (hz : ¬ (_ : Int) = _) => ?_) <;> ((try simp (discharger := first | decide | omega) only [ms_eq, ms_nk, ms_ni, w32_id, w64_id, Int.toNat_natCast, not_true_eq_false, not_false_eq_true, s1] at hz) ; (try (exfalso; omega)))
      | (with_reducible refine fun (hz : _ ∨ _) => ?_) <;> ((try simp (discharger := first | decide | omega) only [ms_eq, ms_nk, ms_ni, w32_id, w64_id, Int.toNat_natCast, not_true_eq_false, not_false_eq_true, s1] at hz) ; (try (exfalso; omega)))
      | omega
      | (simp (discharger := first | decide | omega) only [ms_eq, ms_nk, ms_ni, w32_id, w64_id, Int.toNat_natCast, not_true_eq_false, not_false_eq_true, s1] ; omega)
      all_goals first
        | (repeat' first
          | with_reducible refine e_M_set ?_
          | with_reducible refine e_M_isPart ?_
          | with_reducible refine e_M_isSet ?_
          | with_reducible refine e_M_in ?_
          | with_reducible refine xr1 ?_
          | with_reducible refine xr2 ?_
          | with_reducible refine xr3 ?_
          | with_reducible refine xr4 ?_
          | with_reducible refine xr6 ?_
          | with_reducible refine mr1 ?_
          | with_reducible refine mr2 ?_
          | with_reducible refine mr3 ?_
          | with_reducible refine mr4 ?_
          | with_reducible refine mr6 ?_
          | with_reducible refine xf1 ?_
          | with_reducible refine xf2 ?_
          | with_reducible refine xf3 ?_
          | with_reducible refine xf6 ?_
          | with_reducible refine mf1 ?_
          | with_reducible refine mf2 ?_
          | with_reducible refine mf3 ?_
          | with_reducible refine mf6 ?_
          | with_reducible exact isB0
          | with_reducible exact isB1
          | with_reducible refine And.intro ?_ ?_
          | (with_reducible refine fun (hz : (_ : Int) < _) => ?_) <;> ((try simp (discharger := first | decide | omega) only [ms_eq, ms_nk, ms_ni, w32_id, w64_id, Int.toNat_natCast, not_true_eq_false, not_false_eq_true, s2] at hz) ; (try (exfalso; omega)))
          | (with_reducible refine fun (hz : (_ : Int) ≤ _) => ?_) <;> ((try simp (discharger := first | decide | omega) only [ms_eq, ms_nk, ms_ni, w32_id, w64_id, Int.toNat_natCast, not_true_eq_false, not_false_eq_true, s2] at hz) ; (try (exfalso; omega)))
          | (with_reducible refine fun (hz : (_ : Int) = _) => ?_) <;> ((try simp (discharger := first | decide | omega) only [ms_eq, ms_nk, ms_ni, w32_id, w64_id, Int.toNat_natCast, not_true_eq_false, not_false_eq_true, s2] at hz) ; (try (exfalso; omega)))
          | (with_reducible refine fun (hz : ¬ (_ : Int) = _) => ?_) <;> ((try simp (discharger := first | decide | omega) only [ms_eq, ms_nk, ms_ni, w32_id, w64_id, Int.toNat_natCast, not_true_eq_false, not_false_eq_true, s2] at hz) ; (try (exfalso; omega)))
          | (with_reducible refine fun (hz : _ ∨ _) => ?_) <;> ((try simp (discharger := first | decide | omega) only [ms_eq, ms_nk, ms_ni, w32_id, w64_id, Int.toNat_natCast, not_true_eq_false, not_false_eq_true, s2] at hz) ; (try (exfalso; omega)))
          | omega
          | (simp (discharger := first | decide | omega) only [ms_eq, ms_nk, ms_ni, w32_id, w64_id, Int.toNat_natCast, not_true_eq_false, not_false_eq_true, s2] ; omega)
           all_goals first
             | exact PQ.rf0 hR (by decide)
             | skip
           done)
        | skip
      all_goals
        refine sp_bitCount (by omega) ⟨fun _ => ?_, fun h => by omega⟩
        repeat' first
          | with_reducible refine xr1 ?_
          | with_reducible refine xr2 ?_
          | with_reducible refine xr3 ?_
          | with_reducible refine xr4 ?_
          | with_reducible refine xr6 ?_
          | with_reducible refine mr1 ?_
          | with_reducible refine mr2 ?_
          | with_reducible refine mr3 ?_
          | with_reducible refine mr4 ?_
          | with_reducible refine mr6 ?_
          | with_reducible refine xf1 ?_
          | with_reducible refine xf2 ?_
          | with_reducible refine xf3 ?_
          | with_reducible refine xf6 ?_
          | with_reducible refine mf1 ?_
          | with_reducible refine mf2 ?_
          | with_reducible refine mf3 ?_
          | with_reducible refine mf6 ?_
          | with_reducible exact isB0
          | with_reducible exact isB1
          | with_reducible refine And.intro ?_ ?_
          | (with_reducible refine fun (hz : (_ : Int) < _) => ?_) <;> ((try simp (discharger := first | decide | omega) only [ms_eq, ms_nk, ms_ni, w32_id, w64_id, Int.toNat_natCast, not_true_eq_false, not_false_eq_true] at hz) ; (try (exfalso; omega)))
          | (with_reducible refine fun (hz : (_ : Int) ≤ _) => ?_) <;> ((try simp (discharger := first | decide | omega) only [ms_eq, ms_nk, ms_ni, w32_id, w64_id, Int.toNat_natCast, not_true_eq_false, not_false_eq_true] at hz) ; (try (exfalso; omega)))
          | (with_reducible refine fun (hz : (_ : Int) = _) => ?_) <;> ((try simp (discharger := first | decide | omega) only [ms_eq, ms_nk, ms_ni, w32_id, w64_id, Int.toNat_natCast, not_true_eq_false, not_false_eq_true] at hz) ; (try (exfalso; omega)))
          | (with_reducible refine fun (hz : ¬ (_ : Int) = _) => ?_) <;> ((try simp (discharger := first | decide | omega) only [ms_eq, ms_nk, ms_ni, w32_id, w64_id, Int.toNat_natCast, not_true_eq_false, not_false_eq_true] at hz) ; (try (exfalso; omega)))
          | (with_reducible refine fun (hz : _ ∨ _) => ?_) <;> ((try simp (discharger := first | decide | omega) only [ms_eq, ms_nk, ms_ni, w32_id, w64_id, Int.toNat_natCast, not_true_eq_false, not_false_eq_true] at hz) ; (try (exfalso; omega)))
          | omega
          | (simp (discharger := first | decide | omega) only [ms_eq, ms_nk, ms_ni, w32_id, w64_id, Int.toNat_natCast, not_true_eq_false, not_false_eq_true] ; omega)
        have q9 : shlI 1 (mset A 48 6 (w32 (A 48 6 + 1)) 49 9) = ((2 ^ tsN A : Nat) : Int) := s2
        repeat' first
          | with_reducible refine e_M_set ?_
          | with_reducible refine e_M_isPart ?_
          | with_reducible refine e_M_isSet ?_
          | with_reducible refine e_M_in ?_
          | with_reducible refine xr1 ?_
          | with_reducible refine xr2 ?_
          | with_reducible refine xr3 ?_
          | with_reducible refine xr4 ?_
          | with_reducible refine xr6 ?_
          | with_reducible refine mr1 ?_
          | with_reducible refine mr2 ?_
          | with_reducible refine mr3 ?_
          | with_reducible refine mr4 ?_
          | with_reducible refine mr6 ?_
          | with_reducible refine xf1 ?_
          | with_reducible refine xf2 ?_
          | with_reducible refine xf3 ?_
          | with_reducible refine xf6 ?_
          | with_reducible refine mf1 ?_
          | with_reducible refine mf2 ?_
          | with_reducible refine mf3 ?_
          | with_reducible refine mf6 ?_
          | with_reducible exact isB0
          | with_reducible exact isB1
          | with_reducible refine And.intro ?_ ?_
          | (with_reducible refine fun (hz : (_ : Int) < _) => ?_) <;> ((try simp (discharger := first | decide | omega) only [ms_eq, ms_nk, ms_ni, w32_id, w64_id, Int.toNat_natCast, not_true_eq_false, not_false_eq_true, q9] at hz) ; (try (exfalso; omega)))
          | (with_reducible refine fun (hz : (_ : Int) ≤ _) => ?_) <;> ((try simp (discharger := first | decide | omega) only [ms_eq, ms_nk, ms_ni, w32_id, w64_id, Int.toNat_natCast, not_true_eq_false, not_false_eq_true, q9] at hz) ; (try (exfalso; omega)))
          | (with_reducible refine fun (hz : (_ : Int) = _) => ?_) <;> ((try simp (discharger := first | decide | omega) only [ms_eq, ms_nk, ms_ni, w32_id, w64_id, Int.toNat_natCast, not_true_eq_false, not_false_eq_true, q9] at hz) ; (try (exfalso; omega)))
          | (with_reducible refine fun (hz : ¬ (_ : Int) = _) => ?_) <;> ((try simp (discharger := first | decide | omega) only [ms_eq, ms_nk, ms_ni, w32_id, w64_id, Int.toNat_natCast, not_true_eq_false, not_false_eq_true, q9] at hz) ; (try (exfalso; omega)))
          | (with_reducible refine fun (hz : _ ∨ _) => ?_) <;> ((try simp (discharger := first | decide | omega) only [ms_eq, ms_nk, ms_ni, w32_id, w64_id, Int.toNat_natCast, not_true_eq_false, not_false_eq_true, q9] at hz) ; (try (exfalso; omega)))
          | omega
          | (simp (discharger := first | decide | omega) only [ms_eq, ms_nk, ms_ni, w32_id, w64_id, Int.toNat_natCast, not_true_eq_false, not_false_eq_true, q9] ; omega)
        refine sp_M_ones (by omega) ⟨fun _ => ?_, fun h => by omega⟩
        repeat' first
          | with_reducible refine xr1 ?_
          | with_reducible refine xr2 ?_
          | with_reducible refine xr3 ?_
          | with_reducible refine xr4 ?_
          | with_reducible refine xr6 ?_
          | with_reducible refine mr1 ?_
          | with_reducible refine mr2 ?_
          | with_reducible refine mr3 ?_
          | with_reducible refine mr4 ?_
          | with_reducible refine mr6 ?_
          | with_reducible refine xf1 ?_
          | with_reducible refine xf2 ?_
          | with_reducible refine xf3 ?_
          | with_reducible refine xf6 ?_
          | with_reducible refine mf1 ?_
          | with_reducible refine mf2 ?_
          | with_reducible refine mf3 ?_
          | with_reducible refine mf6 ?_
          | with_reducible exact isB0
          | with_reducible exact isB1
          | with_reducible refine And.intro ?_ ?_
          | (with_reducible refine fun (hz : (_ : Int) < _) => ?_) <;> ((try simp (discharger := first | decide | omega) only [ms_eq, ms_nk, ms_ni, w32_id, w64_id, Int.toNat_natCast, not_true_eq_false, not_false_eq_true] at hz) ; (try (exfalso; omega)))
          | (with_reducible refine fun (hz : (_ : Int) ≤ _) => ?_) <;> ((try simp (discharger := first | decide | omega) only [ms_eq, ms_nk, ms_ni, w32_id, w64_id, Int.toNat_natCast, not_true_eq_false, not_false_eq_true] at hz) ; (try (exfalso; omega)))
          | (with_reducible refine fun (hz : (_ : Int) = _) => ?_) <;> ((try simp (discharger := first | decide | omega) only [ms_eq, ms_nk, ms_ni, w32_id, w64_id, Int.toNat_natCast, not_true_eq_false, not_false_eq_true] at hz) ; (try (exfalso; omega)))
          | (with_reducible refine fun (hz : ¬ (_ : Int) = _) => ?_) <;> ((try simp (discharger := first | decide | omega) only [ms_eq, ms_nk, ms_ni, w32_id, w64_id, Int.toNat_natCast, not_true_eq_false, not_false_eq_true] at hz) ; (try (exfalso; omega)))
          | (with_reducible refine fun (hz : _ ∨ _) => ?_) <;> ((try simp (discharger := first | decide | omega) only [ms_eq, ms_nk, ms_ni, w32_id, w64_id, Int.toNat_natCast, not_true_eq_false, not_false_eq_true] at hz) ; (try (exfalso; omega)))
          | omega
          | (simp (discharger := first | decide | omega) only [ms_eq, ms_nk, ms_ni, w32_id, w64_id, Int.toNat_natCast, not_true_eq_false, not_false_eq_true] ; omega)
        exact PQ.rf0 hR (by decide)
  · repeat' first
    | with_reducible refine e_X_set ?_
    | with_reducible refine e_X_isPart ?_
    | with_reducible refine e_S_hasTests ?_
    | with_reducible refine xr1 ?_
    | with_reducible refine xr2 ?_
    | with_reducible refine xr3 ?_
    | with_reducible refine xr4 ?_
    | with_reducible refine xr6 ?_
    | with_reducible refine mr1 ?_
    | with_reducible refine mr2 ?_
    | with_reducible refine mr3 ?_
    | with_reducible refine mr4 ?_
    | with_reducible refine mr6 ?_
    | with_reducible refine xf1 ?_
    | with_reducible refine xf2 ?_
    | with_reducible refine xf3 ?_
    | with_reducible refine xf6 ?_
    | with_reducible refine mf1 ?_
    | with_reducible refine mf2 ?_
    | with_reducible refine mf3 ?_
    | with_reducible refine mf6 ?_
    | with_reducible exact isB0
    | with_reducible exact isB1
    | with_reducible refine And.intro ?_ ?_
    | (with_reducible refine fun (hz : (_ : Int) < _) => ?_) <;> ((try simp (discharger := first | decide | omega) only [ms_eq, ms_nk, ms_ni, w32_id, w64_id, Int.toNat_natCast, not_true_eq_false, not_false_eq_true, s1] at hz) ; (try (exfalso; omega)))
    | (with_reducible refine fun (hz : (_ : Int) ≤ _) => ?_) <;> ((try simp (discharger := first | decide | omega) only [ms_eq, ms_nk, ms_ni, w32_id, w64_id, Int.toNat_natCast, not_true_eq_false, not_false_eq_true, s1] at hz) ; (try (exfalso; omega)))
    | (with_reducible refine fun (hz : (_ : Int) = _) => ?_) <;> ((try simp (discharger := first | decide | omega) only [ms_eq, ms_nk, ms_ni, w32_id, w64_id, Int.toNat_natCast, not_true_eq_false, not_false_eq_true, s1] at hz) ; (try (exfalso; omega)))
    | (with_reducible refine fun (hz : ¬ (_ : Int) = _) => ?_) <;> ((try simp (discharger := first | decide | omega) only [ms_eq, ms_nk, ms_ni, w32_id, w64_id, Int.toNat_natCast, not_true_eq_false, not_false_eq_true, s1] at hz) ; (try (exfalso; omega)))
    | (with_reducible refine fun (hz : _ ∨ _) => ?_) <;> ((try simp (discharger := first | decide | omega) only [ms_eq, ms_nk, ms_ni, w32_id, w64_id, Int.toNat_natCast, not_true_eq_false, not_false_eq_true, s1] at hz) ; (try (exfalso; omega)))
    | omega
    | (simp (discharger := first | decide | omega) only [ms_eq, ms_nk, ms_ni, w32_id, w64_id, Int.toNat_natCast, not_true_eq_false, not_false_eq_true, s1] ; omega)
    all_goals
      (repeat' first
        | with_reducible refine e_M_set ?_
        | with_reducible refine e_M_isPart ?_
        | with_reducible refine e_M_isSet ?_
        | with_reducible refine e_M_in ?_
        | with_reducible refine xr1 ?_
        | with_reducible refine xr2 ?_
        | with_reducible refine xr3 ?_
        | with_reducible refine xr4 ?_
        | with_reducible refine xr6 ?_
        | with_reducible refine mr1 ?_
        | with_reducible refine mr2 ?_
        | with_reducible refine mr3 ?_
        | with_reducible refine mr4 ?_
        | with_reducible refine mr6 ?_
        | with_reducible refine xf1 ?_
        | with_reducible refine xf2 ?_
        | with_reducible refine xf3 ?_
        | with_reducible refine xf6 ?_
        | with_reducible refine mf1 ?_
        | with_reducible refine mf2 ?_
        | with_reducible refine mf3 ?_
        | with_reducible refine mf6 ?_
        | with_reducible exact isB0
        | with_reducible exact isB1
        | with_reducible refine And.intro ?_ ?_
        | (with_reducible refine fun (hz : (_ : Int) < _) => ?_) <;> ((try simp (discharger := first | decide | omega) only [ms_eq, ms_nk, ms_ni, w32_id, w64_id, Int.toNat_natCast, not_true_eq_false, not_false_eq_true, s2] at hz) ; (try (exfalso; omega)))
        | (with_reducible refine fun (hz : (_ : Int) ≤ _) => ?_) <;> ((try simp (discharger := first | decide | omega) only [ms_eq, ms_nk, ms_ni, w32_id, w64_id, Int.toNat_natCast, not_true_eq_false, not_false_eq_true, s2] at hz) ; (try (exfalso; omega)))
        | (with_reducible refine fun (hz : (_ : Int) = _) => ?_) <;> ((try simp (discharger := first | decide | omega) only [ms_eq, ms_nk, ms_ni, w32_id, w64_id, Int.toNat_natCast, not_true_eq_false, not_false_eq_true, s2] at hz) ; (try (exfalso; omega)))
        | (with_reducible refine fun (hz : ¬ (_ : Int) = _) => ?_) <;> ((try simp (discharger := first | decide | omega) only [ms_eq, ms_nk, ms_ni, w32_id, w64_id, Int.toNat_natCast, not_true_eq_false, not_false_eq_true, s2] at hz) ; (try (exfalso; omega)))
        | (with_reducible refine fun (hz : _ ∨ _) => ?_) <;> ((try simp (discharger := first | decide | omega) only [ms_eq, ms_nk, ms_ni, w32_id, w64_id, Int.toNat_natCast, not_true_eq_false, not_false_eq_true, s2] at hz) ; (try (exfalso; omega)))
        | omega
        | (simp (discharger := first | decide | omega) only [ms_eq, ms_nk, ms_ni, w32_id, w64_id, Int.toNat_natCast, not_true_eq_false, not_false_eq_true, s2] ; omega))
    all_goals exact PQ.rf0 hR (by decide)
