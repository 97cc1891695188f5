-- PURE, 21: leaves, done
theorem sp_B_leastTerm {d : Nat} {A σ : Mem} {Q : Int → Mem → Prop} {ms : Nat → Nat → Int} (hR : SR 7 ms A) (hE : Eqv A σ) {lv tr : Nat} (hlv : lv ≤ 3) (htr : tr < tN A) {w : Nat → Int} (hb : bdW A w) (hw : ∀ t, t < tN A → σ 36 (4 * lv + t) = w t) (hg : 0 < gcdW w (tN A)) (hQ : Q ((w tr).tdiv (gcdW w (tN A))) σ) : wp (d + 2) m_B_leastTerm [.inr (.inr 35), .inl (lv : Int), .inl (tr : Int)] σ Q := by
  have h4 := tN4 hR
  have e0 : σ 7 1 = ((tN A : Nat) : Int) := by rw [hE 7 1 rfl]; exact tNe hR
  have e2 : w32 ((lv : Int) * 4) = ((4 * lv : Nat) : Int) := w32_eq (by omega) (by omega)
  have bw := hb tr htr
  refine e_B_leastTerm ?_
  rw [e2]
  refine upto (n := tN A) (P := fun t => K_B_leastTerm_10 (d + 1) Q (tr : Int) ((4 * lv : Nat) : Int) (gcdW w t) ((t : Nat) : Int) σ) ?_ (fun t ht ih => ?_)
  · have e3 : w32 (((4 * lv : Nat) : Int) + (tr : Int)) = ((4 * lv + tr : Nat) : Int) := w32_eq (by omega) (by omega)
    refine e_B_leastTerm_10 ⟨fun h => by omega, fun _ => ?_⟩
    rw [e3, Int.toNat_natCast, hw tr htr]
    have b2 := tdiv_bd (a := w tr) (g := gcdW w (tN A)) (L := 1000000000) (by omega) bw
    refine ⟨fun h => ⟨⟨by omega, by omega⟩, by omega, ?_⟩, fun h => ⟨⟨by omega, by omega⟩, ?_⟩⟩
    · rw [w64_id (by omega) (by omega)]
      exact hQ
    · have : gcdW w (tN A) = 1 := by omega
      rw [this, Int.tdiv_one] at hQ
      exact hQ
  · have e1 : w32 ((t : Int) + 1) = ((t + 1 : Nat) : Int) := w32_eq (by omega) (by omega)
    have e3 : w32 (((4 * lv : Nat) : Int) + (t : Int)) = ((4 * lv + t : Nat) : Int) := w32_eq (by omega) (by omega)
    have bg := gcdW_bd (w := w) (B := 1000000000) (by decide) (k := t) (fun i hi => hb i (by omega))
    have bt := hb t ht
    refine e_B_leastTerm_10 ⟨fun _ => ?_, fun h => by omega⟩
    rw [e1, e3, Int.toNat_natCast, hw t ht]
    exact ⟨⟨by omega, by omega⟩, sp_X_cd (by omega) (by omega) ih⟩
theorem sp_M_leaves55 {d : Nat} {A σ : Mem} {Q : Int → Mem → Prop} (hR : SR 7 (mLive A) A) (hE : Eqv A σ) {tr : Nat} (htr : tr < tN A) {w : Nat → Int} (hb : bdW A w) (hw : ∀ t, t < tN A → σ 67 t = w t) (hg : 0 < gcdW w (tN A)) (hQ : Q (w32 ((w tr).tdiv (gcdW w (tN A)))) σ) : K_M_leaves_55 (d + 1) Q (tr : Int) 0 0 σ := by
  have h4 := tN4 hR
  have e0 := m490 hR hE
  have bw := hb tr htr
  refine upto (n := tN A) (P := fun t => K_M_leaves_55 (d + 1) Q (tr : Int) (gcdW w t) ((t : Nat) : Int) σ) ?_ (fun t ht ih => ?_)
  · have b2 := tdiv_bd (a := w tr) (g := gcdW w (tN A)) (L := 1000000000) (by omega) bw
    refine e_M_leaves_55 ⟨fun h => by omega, fun _ => ⟨⟨by omega, by omega⟩, by omega, ?_⟩⟩
    rw [Int.toNat_natCast, hw tr htr, w64_id (by omega) (by omega)]
    exact hQ
  · have e1 : w32 ((t : Int) + 1) = ((t + 1 : Nat) : Int) := w32_eq (by omega) (by omega)
    have bg := gcdW_bd (w := w) (B := 1000000000) (by decide) (k := t) (fun i hi => hb i (by omega))
    have bt := hb t ht
    refine e_M_leaves_55 ⟨fun _ => ?_, fun h => by omega⟩
    rw [e1, Int.toNat_natCast, hw t ht]
    exact ⟨⟨by omega, by omega⟩, sp_M_dv (by omega) (by omega) ih⟩
theorem pr_leaves {A : Mem} (hR : RR A) {a1 : Int} (i1 : InI a1) {a2 : Int} (i2 : InI a2) {a3 : Int} (i3 : InI a3) : wp 40 m_X_leaves [.inr (.inr 0), .inl a1, .inl a2, .inl a3] A (fun r σ1 => wp 40 m_M_leaves [.inr (.inr 49), .inl a1, .inl a2, .inl a3] σ1 (fun r2 σ2 => PQ r r2 σ2)) := by
  have sc := hR.sc
  unfold InI at i1 i2 i3
  have hs : ∀ l : Nat, (l : Int) < A 7 10 → A 53 l = A 13 l ∧ 1 ≤ A 13 l ∧ A 13 l ≤ 6 := fun l hl => hR.1.sgn hl
  have hs1 := hs a1.toNat
  repeat' first
    | with_reducible refine e_X_leaves ?_
    | with_reducible refine e_S_lacksSign ?_
    | with_reducible refine e_S_hasSign ?_
    | with_reducible refine e_S_hasLook ?_
    | with_reducible refine e_S_hasTruth ?_
    | with_reducible refine xr1 ?_
    | with_reducible refine xr2 ?_
    | with_reducible refine xr3 ?_
    | with_reducible refine xr4 ?_
    | with_reducible refine xr6 ?_
    | with_reducible refine mr1 ?_
    | with_reducible refine mr2 ?_
    | with_reducible refine mr3 ?_
    | with_reducible refine mr4 ?_
    | with_reducible refine mr6 ?_
    | with_reducible refine xf1 ?_
    | with_reducible refine xf2 ?_
    | with_reducible refine xf3 ?_
    | with_reducible refine xf6 ?_
    | with_reducible refine mf1 ?_
    | with_reducible refine mf2 ?_
    | with_reducible refine mf3 ?_
    | with_reducible refine mf6 ?_
    | with_reducible exact isB0
    | with_reducible exact isB1
    | with_reducible refine And.intro ?_ ?_
    | (with_reducible refine fun (hz : (_ : Int) < _) => ?_) <;> ((try simp (discharger := first | decide | omega) only [ms_eq, ms_nk, ms_ni, w32_id, w64_id, Int.toNat_natCast, not_true_eq_false, not_false_eq_true] at hz) ; (try (exfalso; omega)))
    | (with_reducible refine fun (hz : (_ : Int) ≤ _) => ?_) <;> ((try simp (discharger := first | decide | omega) only [ms_eq, ms_nk, ms_ni, w32_id, w64_id, Int.toNat_natCast, not_true_eq_false, not_false_eq_true] at hz) ; (try (exfalso; omega)))
    | (with_reducible refine fun (hz : (_ : Int) = _) => ?_) <;> ((try simp (discharger := first | decide | omega) only [ms_eq, ms_nk, ms_ni, w32_id, w64_id, Int.toNat_natCast, not_true_eq_false, not_false_eq_true] at hz) ; (try (exfalso; omega)))
    | (with_reducible refine fun (hz : ¬ (_ : Int) = _) => ?_) <;> ((try simp (discharger := first | decide | omega) only [ms_eq, ms_nk, ms_ni, w32_id, w64_id, Int.toNat_natCast, not_true_eq_false, not_false_eq_true] at hz) ; (try (exfalso; omega)))
    | (with_reducible refine fun (hz : _ ∨ _) => ?_) <;> ((try simp (discharger := first | decide | omega) only [ms_eq, ms_nk, ms_ni, w32_id, w64_id, Int.toNat_natCast, not_true_eq_false, not_false_eq_true] at hz) ; (try (exfalso; omega)))
    | omega
    | (simp (discharger := first | decide | omega) only [ms_eq, ms_nk, ms_ni, w32_id, w64_id, Int.toNat_natCast, not_true_eq_false, not_false_eq_true] ; omega)
  all_goals first
    | (repeat' first
      | with_reducible refine e_M_leaves ?_
      | with_reducible refine e_M_isSign ?_
      | with_reducible refine e_M_isLook ?_
      | with_reducible refine e_M_isTruth ?_
      | with_reducible refine e_M_in ?_
      | with_reducible refine xr1 ?_
      | with_reducible refine xr2 ?_
      | with_reducible refine xr3 ?_
      | with_reducible refine xr4 ?_
      | with_reducible refine xr6 ?_
      | with_reducible refine mr1 ?_
      | with_reducible refine mr2 ?_
      | with_reducible refine mr3 ?_
      | with_reducible refine mr4 ?_
      | with_reducible refine mr6 ?_
      | with_reducible refine xf1 ?_
      | with_reducible refine xf2 ?_
      | with_reducible refine xf3 ?_
      | with_reducible refine xf6 ?_
      | with_reducible refine mf1 ?_
      | with_reducible refine mf2 ?_
      | with_reducible refine mf3 ?_
      | with_reducible refine mf6 ?_
      | with_reducible exact isB0
      | with_reducible exact isB1
      | with_reducible refine And.intro ?_ ?_
      | (with_reducible refine fun (hz : (_ : Int) < _) => ?_) <;> ((try simp (discharger := first | decide | omega) only [ms_eq, ms_nk, ms_ni, w32_id, w64_id, Int.toNat_natCast, not_true_eq_false, not_false_eq_true] at hz) ; (try (exfalso; omega)))
      | (with_reducible refine fun (hz : (_ : Int) ≤ _) => ?_) <;> ((try simp (discharger := first | decide | omega) only [ms_eq, ms_nk, ms_ni, w32_id, w64_id, Int.toNat_natCast, not_true_eq_false, not_false_eq_true] at hz) ; (try (exfalso; omega)))
      | (with_reducible refine fun (hz : (_ : Int) = _) => ?_) <;> ((try simp (discharger := first | decide | omega) only [ms_eq, ms_nk, ms_ni, w32_id, w64_id, Int.toNat_natCast, not_true_eq_false, not_false_eq_true] at hz) ; (try (exfalso; omega)))
      | (with_reducible refine fun (hz : ¬ (_ : Int) = _) => ?_) <;> ((try simp (discharger := first | decide | omega) only [ms_eq, ms_nk, ms_ni, w32_id, w64_id, Int.toNat_natCast, not_true_eq_false, not_false_eq_true] at hz) ; (try (exfalso; omega)))
      | (with_reducible refine fun (hz : _ ∨ _) => ?_) <;> ((try simp (discharger := first | decide | omega) only [ms_eq, ms_nk, ms_ni, w32_id, w64_id, Int.toNat_natCast, not_true_eq_false, not_false_eq_true] at hz) ; (try (exfalso; omega)))
      | omega
      | (simp (discharger := first | decide | omega) only [ms_eq, ms_nk, ms_ni, w32_id, w64_id, Int.toNat_natCast, not_true_eq_false, not_false_eq_true] ; omega)
       all_goals first
         | exact PQ.rf0 hR (by decide)
         | skip
       done)
    | skip
  obtain ⟨l, rfl⟩ : ∃ k : Nat, a1 = (k : Int) := ⟨a1.toNat, by omega⟩
  obtain ⟨s, rfl⟩ : ∃ k : Nat, a2 = (k : Int) := ⟨a2.toNat, by omega⟩
  obtain ⟨tr, rfl⟩ : ∃ k : Nat, a3 = (k : Int) := ⟨a3.toNat, by omega⟩
  simp only [Int.toNat_natCast] at *
  have hl : (l : Int) < A 7 10 := by omega
  have hsl : (s : Int) < A 13 l := by omega
  have htr : tr < tN A := tN_lt (by omega)
  have hB := lvs_B hR.1 hl hsl
  have hs2 := hs l hl
  refine sp_B_seeOne hR.1 Eqv.rfl hl hsl (fun r σ1 hF hw hr => ?_)
  have hE := hF.eqv Eqv.rfl
  have q0 := hE 49 0 rfl
  have q6 := hE 49 6 rfl
  have q53 := hE 53 l rfl
  refine ⟨fun h => ?_, fun h => ?_⟩
  · repeat' first
    | with_reducible refine e_M_leaves ?_
    | with_reducible refine e_M_isSign ?_
    | with_reducible refine e_M_isLook ?_
    | with_reducible refine e_M_isTruth ?_
    | with_reducible refine e_M_in ?_
    | with_reducible refine xr1 ?_
    | with_reducible refine xr2 ?_
    | with_reducible refine xr3 ?_
    | with_reducible refine xr4 ?_
    | with_reducible refine xr6 ?_
    | with_reducible refine mr1 ?_
    | with_reducible refine mr2 ?_
    | with_reducible refine mr3 ?_
    | with_reducible refine mr4 ?_
    | with_reducible refine mr6 ?_
    | with_reducible refine xf1 ?_
    | with_reducible refine xf2 ?_
    | with_reducible refine xf3 ?_
    | with_reducible refine xf6 ?_
    | with_reducible refine mf1 ?_
    | with_reducible refine mf2 ?_
    | with_reducible refine mf3 ?_
    | with_reducible refine mf6 ?_
    | with_reducible exact isB0
    | with_reducible exact isB1
    | with_reducible refine And.intro ?_ ?_
    | (with_reducible refine fun (hz : (_ : Int) < _) => ?_) <;> ((try simp (discharger := first | decide | omega) only [ms_eq, ms_nk, ms_ni, w32_id, w64_id, Int.toNat_natCast, not_true_eq_false, not_false_eq_true, q0, q6, q53] at hz) ; (try (exfalso; omega)))
    | (with_reducible refine fun (hz : (_ : Int) ≤ _) => ?_) <;> ((try simp (discharger := first | decide | omega) only [ms_eq, ms_nk, ms_ni, w32_id, w64_id, Int.toNat_natCast, not_true_eq_false, not_false_eq_true, q0, q6, q53] at hz) ; (try (exfalso; omega)))
    | (with_reducible refine fun (hz : (_ : Int) = _) => ?_) <;> ((try simp (discharger := first | decide | omega) only [ms_eq, ms_nk, ms_ni, w32_id, w64_id, Int.toNat_natCast, not_true_eq_false, not_false_eq_true, q0, q6, q53] at hz) ; (try (exfalso; omega)))
    | (with_reducible refine fun (hz : ¬ (_ : Int) = _) => ?_) <;> ((try simp (discharger := first | decide | omega) only [ms_eq, ms_nk, ms_ni, w32_id, w64_id, Int.toNat_natCast, not_true_eq_false, not_false_eq_true, q0, q6, q53] at hz) ; (try (exfalso; omega)))
    | (with_reducible refine fun (hz : _ ∨ _) => ?_) <;> ((try simp (discharger := first | decide | omega) only [ms_eq, ms_nk, ms_ni, w32_id, w64_id, Int.toNat_natCast, not_true_eq_false, not_false_eq_true, q0, q6, q53] at hz) ; (try (exfalso; omega)))
    | omega
    | (simp (discharger := first | decide | omega) only [ms_eq, ms_nk, ms_ni, w32_id, w64_id, Int.toNat_natCast, not_true_eq_false, not_false_eq_true, q0, q6, q53] ; omega)
    refine sp_M_leave hR.1 hE hl hsl (fun r2 σ2 hF2 hw2 _ hr2 => ⟨fun _ => PQ.eqv hR rfl (hF2.eqv hE), fun h2 => ?_⟩)
    rcases hr2 with hr2 | hr2
    · have := (com_pos hB).mp hr2.2
      obtain ⟨t, ht, hz⟩ := this
      rcases hr with hr | hr
      · exact absurd (hr.2 t ht) hz
      · omega
    · omega
  · obtain ⟨t, ht, hnz⟩ : ∃ t, t < tN A ∧ ¬ lvs A l s t = 0 := by
      rcases hr with hr | hr
      · omega
      · exact hr.2
    have hg := gcdW_pos (w := lvs A l s) ht hnz
    refine sp_B_leastTerm (lv := 1) hR.1 hE (by omega) htr (hB.bd (by omega)) hw hg ?_
    repeat' first
      | with_reducible refine e_M_leaves ?_
      | with_reducible refine e_M_isSign ?_
      | with_reducible refine e_M_isLook ?_
      | with_reducible refine e_M_isTruth ?_
      | with_reducible refine e_M_in ?_
      | with_reducible refine xr1 ?_
      | with_reducible refine xr2 ?_
      | with_reducible refine xr3 ?_
      | with_reducible refine xr4 ?_
      | with_reducible refine xr6 ?_
      | with_reducible refine mr1 ?_
      | with_reducible refine mr2 ?_
      | with_reducible refine mr3 ?_
      | with_reducible refine mr4 ?_
      | with_reducible refine mr6 ?_
      | with_reducible refine xf1 ?_
      | with_reducible refine xf2 ?_
      | with_reducible refine xf3 ?_
      | with_reducible refine xf6 ?_
      | with_reducible refine mf1 ?_
      | with_reducible refine mf2 ?_
      | with_reducible refine mf3 ?_
      | with_reducible refine mf6 ?_
      | with_reducible exact isB0
      | with_reducible exact isB1
      | with_reducible refine And.intro ?_ ?_
      | (with_reducible refine fun (hz : (_ : Int) < _) => ?_) <;> ((try simp (discharger := first | decide | omega) only [ms_eq, ms_nk, ms_ni, w32_id, w64_id, Int.toNat_natCast, not_true_eq_false, not_false_eq_true, q0, q6, q53] at hz) ; (try (exfalso; omega)))
      | (with_reducible refine fun (hz : (_ : Int) ≤ _) => ?_) <;> ((try simp (discharger := first | decide | omega) only [ms_eq, ms_nk, ms_ni, w32_id, w64_id, Int.toNat_natCast, not_true_eq_false, not_false_eq_true, q0, q6, q53] at hz) ; (try (exfalso; omega)))
      | (with_reducible refine fun (hz : (_ : Int) = _) => ?_) <;> ((try simp (discharger := first | decide | omega) only [ms_eq, ms_nk, ms_ni, w32_id, w64_id, Int.toNat_natCast, not_true_eq_false, not_false_eq_true, q0, q6, q53] at hz) ; (try (exfalso; omega)))
      | (with_reducible refine fun (hz : ¬ (_ : Int) = _) => ?_) <;> ((try simp (discharger := first | decide | omega) only [ms_eq, ms_nk, ms_ni, w32_id, w64_id, Int.toNat_natCast, not_true_eq_false, not_false_eq_true, q0, q6, q53] at hz) ; (try (exfalso; omega)))
      | (with_reducible refine fun (hz : _ ∨ _) => ?_) <;> ((try simp (discharger := first | decide | omega) only [ms_eq, ms_nk, ms_ni, w32_id, w64_id, Int.toNat_natCast, not_true_eq_false, not_false_eq_true, q0, q6, q53] at hz) ; (try (exfalso; omega)))
      | omega
      | (simp (discharger := first | decide | omega) only [ms_eq, ms_nk, ms_ni, w32_id, w64_id, Int.toNat_natCast, not_true_eq_false, not_false_eq_true, q0, q6, q53] ; omega)
    refine sp_M_leave hR.1 hE hl hsl (fun r2 σ2 hF2 hw2 _ hr2 => ⟨fun h2 => ?_, fun h2 => ?_⟩)
    · rcases hr2 with hr2 | hr2
      · omega
      · exact absurd (hr2.2 t ht) hnz
    · exact sp_M_leaves55 hR.1 (hF2.eqv hE) htr (hB.bd (by omega)) hw2 hg (PQ.eqv hR rfl (hF2.eqv hE))
theorem sp_B_least {d : Nat} {A σ : Mem} {Q : Int → Mem → Prop} {ms : Nat → Nat → Int} (hR : SR 7 ms A) (hE : Eqv A σ) (ho : 1 ≤ A 7 1) (hQ : ∀ r, (r < 0 ↔ ∃ t, t < tN A ∧ σ 36 t < 0) → Q r σ) : wp (d + 1) m_B_least [.inr (.inr 35)] σ Q := by
  have h4 := tN4 hR
  have e0 : σ 7 1 = ((tN A : Nat) : Int) := by rw [hE 7 1 rfl]; exact tNe hR
  have hT : 1 ≤ tN A := by show 1 ≤ (A 7 1).toNat; omega
  refine e_B_least ?_
  have key := upto (n := tN A - 1) (P := fun t => ∀ r, (r < 0 ↔ ∃ t2, t2 < t + 1 ∧ σ 36 t2 < 0) → K_B_least_9 d Q r ((t + 1 : Nat) : Int) σ) (fun r hr => ?_) (fun t ht ih r hr => ?_)
  · refine key (σ 36 0) ⟨fun h => ⟨0, by omega, h⟩, fun ⟨t2, h2, h3⟩ => ?_⟩
    have : t2 = 0 := by omega
    subst this
    exact h3
  · rw [show tN A - 1 + 1 = tN A by omega] at hr ⊢
    exact e_B_least_9 ⟨fun h => by omega, fun _ => hQ r hr⟩
  · have e1 : w32 (((t + 1 : Nat) : Int) + 1) = ((t + 1 + 1 : Nat) : Int) := w32_eq (by omega) (by omega)
    refine e_B_least_9 ⟨fun _ => ?_, fun h => by omega⟩
    rw [e1, Int.toNat_natCast]
    refine ⟨⟨by omega, by omega⟩, ih _ ⟨fun h => ?_, fun ⟨t2, h2, h3⟩ => ?_⟩⟩
    · by_cases e : r < 0
      · obtain ⟨t2, h2, h3⟩ := hr.mp e
        exact ⟨t2, by omega, h3⟩
      · exact ⟨t + 1, by omega, by omega⟩
    · by_cases e : t2 = t + 1
      · subst e; omega
      · have := hr.mpr ⟨t2, by omega, h3⟩
        omega
theorem sp_B_greatest {d : Nat} {A σ : Mem} {Q : Int → Mem → Prop} {ms : Nat → Nat → Int} (hR : SR 7 ms A) (hE : Eqv A σ) (ho : 1 ≤ A 7 1) (hQ : ∀ r, (9999 < r ↔ ∃ t, t < tN A ∧ 9999 < σ 36 t) → Q r σ) : wp (d + 1) m_B_greatest [.inr (.inr 35)] σ Q := by
  have h4 := tN4 hR
  have e0 : σ 7 1 = ((tN A : Nat) : Int) := by rw [hE 7 1 rfl]; exact tNe hR
  have hT : 1 ≤ tN A := by show 1 ≤ (A 7 1).toNat; omega
  refine e_B_greatest ?_
  have key := upto (n := tN A - 1) (P := fun t => ∀ r, (9999 < r ↔ ∃ t2, t2 < t + 1 ∧ 9999 < σ 36 t2) → K_B_greatest_9 d Q r ((t + 1 : Nat) : Int) σ) (fun r hr => ?_) (fun t ht ih r hr => ?_)
  · refine key (σ 36 0) ⟨fun h => ⟨0, by omega, h⟩, fun ⟨t2, h2, h3⟩ => ?_⟩
    have : t2 = 0 := by omega
    subst this
    exact h3
  · rw [show tN A - 1 + 1 = tN A by omega] at hr ⊢
    exact e_B_greatest_9 ⟨fun h => by omega, fun _ => hQ r hr⟩
  · have e1 : w32 (((t + 1 : Nat) : Int) + 1) = ((t + 1 + 1 : Nat) : Int) := w32_eq (by omega) (by omega)
    refine e_B_greatest_9 ⟨fun _ => ?_, fun h => by omega⟩
    rw [e1, Int.toNat_natCast]
    refine ⟨⟨by omega, by omega⟩, ih _ ⟨fun h => ?_, fun ⟨t2, h2, h3⟩ => ?_⟩⟩
    · by_cases e : 9999 < r
      · obtain ⟨t2, h2, h3⟩ := hr.mp e
        exact ⟨t2, by omega, h3⟩
      · exact ⟨t + 1, by omega, by omega⟩
    · by_cases e : t2 = t + 1
      · subst e; omega
      · have := hr.mpr ⟨t2, by omega, h3⟩
        omega
/-- a told thought's weights -/
def th4 (a b c d : Int) (t : Nat) : Int := match t with
  | 0 => a
  | 1 => b
  | 2 => c
  | _ => d
theorem th_ex {P : Int → Prop} {a b c d : Int} {T : Nat} (hT : 1 ≤ T ∧ T ≤ 4) : (∃ t, t < T ∧ P (th4 a b c d t)) ↔ P a ∨ (1 < T ∧ P b) ∨ (2 < T ∧ P c) ∨ (3 < T ∧ P d) := by
  constructor
  · rintro ⟨t, ht, h⟩
    match t, ht, h with
    | 0, _, h => exact Or.inl h
    | 1, ht, h => exact Or.inr (Or.inl ⟨ht, h⟩)
    | 2, ht, h => exact Or.inr (Or.inr (Or.inl ⟨ht, h⟩))
    | 3, ht, h => exact Or.inr (Or.inr (Or.inr ⟨ht, h⟩))
    | t + 4, ht, _ => omega
  · rintro (h | ⟨h1, h⟩ | ⟨h1, h⟩ | ⟨h1, h⟩)
    · exact ⟨0, by omega, h⟩
    · exact ⟨1, h1, h⟩
    · exact ⟨2, h1, h⟩
    · exact ⟨3, h1, h⟩
theorem done_m {A σ : Mem} (hR : RR A) (q0 : σ 49 0 = A 49 0) {a1 a2 a3 a4 : Int} {d : Nat} {Q : Int → Mem → Prop} {T : Nat} (hT : T = tN A) (hop : 1 ≤ A 7 1)
    (h3 : a1 = 0 ∧ (1 < T → a2 = 0) ∧ (2 < T → a3 = 0) ∧ (3 < T → a4 = 0) → ∀ σ1, MF σ σ1 → Q (-3) (mset σ1 64 3 (w32 (σ1 64 3 + 1))))
    (h4 : ¬ (a1 = 0 ∧ (1 < T → a2 = 0) ∧ (2 < T → a3 = 0) ∧ (3 < T → a4 = 0)) → (a1 < 0 ∨ (1 < T ∧ a2 < 0) ∨ (2 < T ∧ a3 < 0) ∨ (3 < T ∧ a4 < 0)) → ∀ σ1, MF σ σ1 → Q (-4) (mset σ1 64 4 (w32 (σ1 64 4 + 1))))
    (h6 : ¬ (a1 < 0 ∨ (1 < T ∧ a2 < 0) ∨ (2 < T ∧ a3 < 0) ∨ (3 < T ∧ a4 < 0)) → (9999 < a1 ∨ (1 < T ∧ 9999 < a2) ∨ (2 < T ∧ 9999 < a3) ∨ (3 < T ∧ 9999 < a4)) → ∀ σ1, MF σ σ1 → Q (-6) (mset σ1 64 6 (w32 (σ1 64 6 + 1))))
    (hk : ¬ (a1 = 0 ∧ (1 < T → a2 = 0) ∧ (2 < T → a3 = 0) ∧ (3 < T → a4 = 0)) → ¬ (a1 < 0 ∨ (1 < T ∧ a2 < 0) ∨ (2 < T ∧ a3 < 0) ∨ (3 < T ∧ a4 < 0)) → ¬ (9999 < a1 ∨ (1 < T ∧ 9999 < a2) ∨ (2 < T ∧ 9999 < a3) ∨ (3 < T ∧ 9999 < a4)) → ∀ σ1, MF σ σ1 → (∀ t, t < T → σ1 67 t = th4 a1 a2 a3 a4 t) → wp (d + 3) m_M_doneBy [.inr (.inr 49), .inl 0] σ1 Q) : wp (d + 4) m_M_done [.inr (.inr 49), .inl a1, .inl a2, .inl a3, .inl a4] σ Q := by
  have sc := hR.sc
  have hTe := tNe hR.1
  rw [← hT] at hTe
  have hm : ∀ x y z w : Int, (0 < T → x = a1) → (1 < T → y = a2) → (2 < T → z = a3) → (3 < T → w = a4) → ∀ t, t < T → mset (mset (mset (mset σ 67 0 x) 67 1 y) 67 2 z) 67 3 w 67 t = th4 a1 a2 a3 a4 t := by
    intro x y z w hx hy hz hw t ht
    match t, ht with
    | 0, ht => rw [← hx (by omega)]; rfl
    | 1, ht => rw [← hy (by omega)]; rfl
    | 2, ht => rw [← hz (by omega)]; rfl
    | 3, ht => rw [← hw (by omega)]; rfl
    | t + 4, ht => omega
  have t1 : (1 : Int).toNat = 1 := rfl
  have t2 : (2 : Int).toNat = 2 := rfl
  have t3 : (3 : Int).toNat = 3 := rfl
  have hT4 : T = 1 ∨ T = 2 ∨ T = 3 ∨ T = 4 := by omega
  rcases hT4 with rfl | rfl | rfl | rfl
  all_goals
    repeat' first
      | with_reducible refine e_M_done ?_
      | with_reducible refine e_M_done_41 ?_
      | with_reducible refine e_M_done_61 ?_
      | with_reducible refine e_M_done_82 ?_
      | with_reducible refine e_M_done_134 ?_
      | with_reducible refine e_M_done_178 ?_
      | with_reducible refine e_M_done_237 ?_
      | with_reducible refine xr1 ?_
      | with_reducible refine xr2 ?_
      | with_reducible refine xr3 ?_
      | with_reducible refine xr4 ?_
      | with_reducible refine xr6 ?_
      | with_reducible refine mr1 ?_
      | with_reducible refine mr2 ?_
      | with_reducible refine mr3 ?_
      | with_reducible refine mr4 ?_
      | with_reducible refine mr6 ?_
      | with_reducible refine xf1 ?_
      | with_reducible refine xf2 ?_
      | with_reducible refine xf3 ?_
      | with_reducible refine xf6 ?_
      | with_reducible refine mf1 ?_
      | with_reducible refine mf2 ?_
      | with_reducible refine mf3 ?_
      | with_reducible refine mf6 ?_
      | with_reducible exact isB0
      | with_reducible exact isB1
      | with_reducible refine And.intro ?_ ?_
      | (with_reducible refine fun (hz : (_ : Int) < _) => ?_) <;> ((try simp (discharger := first | decide | omega) only [ms_eq, ms_nk, ms_ni, w32_id, w64_id, Int.toNat_natCast, not_true_eq_false, not_false_eq_true, q0, t1, t2, t3] at hz) ; (try (exfalso; omega)))
      | (with_reducible refine fun (hz : (_ : Int) ≤ _) => ?_) <;> ((try simp (discharger := first | decide | omega) only [ms_eq, ms_nk, ms_ni, w32_id, w64_id, Int.toNat_natCast, not_true_eq_false, not_false_eq_true, q0, t1, t2, t3] at hz) ; (try (exfalso; omega)))
      | (with_reducible refine fun (hz : (_ : Int) = _) => ?_) <;> ((try simp (discharger := first | decide | omega) only [ms_eq, ms_nk, ms_ni, w32_id, w64_id, Int.toNat_natCast, not_true_eq_false, not_false_eq_true, q0, t1, t2, t3] at hz) ; (try (exfalso; omega)))
      | (with_reducible refine fun (hz : ¬ (_ : Int) = _) => ?_) <;> ((try simp (discharger := first | decide | omega) only [ms_eq, ms_nk, ms_ni, w32_id, w64_id, Int.toNat_natCast, not_true_eq_false, not_false_eq_true, q0, t1, t2, t3] at hz) ; (try (exfalso; omega)))
      | (with_reducible refine fun (hz : _ ∨ _) => ?_) <;> ((try simp (discharger := first | decide | omega) only [ms_eq, ms_nk, ms_ni, w32_id, w64_id, Int.toNat_natCast, not_true_eq_false, not_false_eq_true, q0, t1, t2, t3] at hz) ; (try (exfalso; omega)))
      | omega
      | (simp (discharger := first | decide | omega) only [ms_eq, ms_nk, ms_ni, w32_id, w64_id, Int.toNat_natCast, not_true_eq_false, not_false_eq_true, q0, t1, t2, t3] ; omega)
    all_goals first
      | exact h3 (by omega) _ (((MF.rfl.set).set).set).set
      | exact h4 (by omega) (by omega) _ (((MF.rfl.set).set).set).set
      | exact h6 (by omega) (by omega) _ (((MF.rfl.set).set).set).set
      | exact hk (by omega) (by omega) (by omega) _ (((MF.rfl.set).set).set).set (hm _ _ _ _ (by omega) (by omega) (by omega) (by omega))
theorem pr_done {A : Mem} (hR : RR A) {a1 : Int} (i1 : InI a1) {a2 : Int} (i2 : InI a2) {a3 : Int} (i3 : InI a3) {a4 : Int} (i4 : InI a4) : wp 40 m_X_done [.inr (.inr 0), .inl a1, .inl a2, .inl a3, .inl a4] A (fun r σ1 => wp 40 m_M_done [.inr (.inr 49), .inl a1, .inl a2, .inl a3, .inl a4] σ1 (fun r2 σ2 => PQ r r2 σ2)) := by
  have sc := hR.sc
  unfold InI at i1 i2 i3 i4
  have hTe := tNe hR.1
  have hT4 := tN4 hR.1
  repeat' first
    | with_reducible refine e_X_done ?_
    | with_reducible refine xr1 ?_
    | with_reducible refine xr2 ?_
    | with_reducible refine xr3 ?_
    | with_reducible refine xr4 ?_
    | with_reducible refine xr6 ?_
    | with_reducible refine mr1 ?_
    | with_reducible refine mr2 ?_
    | with_reducible refine mr3 ?_
    | with_reducible refine mr4 ?_
    | with_reducible refine mr6 ?_
    | with_reducible refine xf1 ?_
    | with_reducible refine xf2 ?_
    | with_reducible refine xf3 ?_
    | with_reducible refine xf6 ?_
    | with_reducible refine mf1 ?_
    | with_reducible refine mf2 ?_
    | with_reducible refine mf3 ?_
    | with_reducible refine mf6 ?_
    | with_reducible exact isB0
    | with_reducible exact isB1
    | with_reducible refine And.intro ?_ ?_
    | (with_reducible refine fun (hz : (_ : Int) < _) => ?_) <;> ((try simp (discharger := first | decide | omega) only [ms_eq, ms_nk, ms_ni, w32_id, w64_id, Int.toNat_natCast, not_true_eq_false, not_false_eq_true] at hz) ; (try (exfalso; omega)))
    | (with_reducible refine fun (hz : (_ : Int) ≤ _) => ?_) <;> ((try simp (discharger := first | decide | omega) only [ms_eq, ms_nk, ms_ni, w32_id, w64_id, Int.toNat_natCast, not_true_eq_false, not_false_eq_true] at hz) ; (try (exfalso; omega)))
    | (with_reducible refine fun (hz : (_ : Int) = _) => ?_) <;> ((try simp (discharger := first | decide | omega) only [ms_eq, ms_nk, ms_ni, w32_id, w64_id, Int.toNat_natCast, not_true_eq_false, not_false_eq_true] at hz) ; (try (exfalso; omega)))
    | (with_reducible refine fun (hz : ¬ (_ : Int) = _) => ?_) <;> ((try simp (discharger := first | decide | omega) only [ms_eq, ms_nk, ms_ni, w32_id, w64_id, Int.toNat_natCast, not_true_eq_false, not_false_eq_true] at hz) ; (try (exfalso; omega)))
    | (with_reducible refine fun (hz : _ ∨ _) => ?_) <;> ((try simp (discharger := first | decide | omega) only [ms_eq, ms_nk, ms_ni, w32_id, w64_id, Int.toNat_natCast, not_true_eq_false, not_false_eq_true] at hz) ; (try (exfalso; omega)))
    | omega
    | (simp (discharger := first | decide | omega) only [ms_eq, ms_nk, ms_ni, w32_id, w64_id, Int.toNat_natCast, not_true_eq_false, not_false_eq_true] ; omega)
  all_goals first
    | (repeat' first
      | with_reducible refine e_M_done ?_
      | with_reducible refine xr1 ?_
      | with_reducible refine xr2 ?_
      | with_reducible refine xr3 ?_
      | with_reducible refine xr4 ?_
      | with_reducible refine xr6 ?_
      | with_reducible refine mr1 ?_
      | with_reducible refine mr2 ?_
      | with_reducible refine mr3 ?_
      | with_reducible refine mr4 ?_
      | with_reducible refine mr6 ?_
      | with_reducible refine xf1 ?_
      | with_reducible refine xf2 ?_
      | with_reducible refine xf3 ?_
      | with_reducible refine xf6 ?_
      | with_reducible refine mf1 ?_
      | with_reducible refine mf2 ?_
      | with_reducible refine mf3 ?_
      | with_reducible refine mf6 ?_
      | with_reducible exact isB0
      | with_reducible exact isB1
      | with_reducible refine And.intro ?_ ?_
      | (with_reducible refine fun (hz : (_ : Int) < _) => ?_) <;> ((try simp (discharger := first | decide | omega) only [ms_eq, ms_nk, ms_ni, w32_id, w64_id, Int.toNat_natCast, not_true_eq_false, not_false_eq_true] at hz) ; (try (exfalso; omega)))
      | (with_reducible refine fun (hz : (_ : Int) ≤ _) => ?_) <;> ((try simp (discharger := first | decide | omega) only [ms_eq, ms_nk, ms_ni, w32_id, w64_id, Int.toNat_natCast, not_true_eq_false, not_false_eq_true] at hz) ; (try (exfalso; omega)))
      | (with_reducible refine fun (hz : (_ : Int) = _) => ?_) <;> ((try simp (discharger := first | decide | omega) only [ms_eq, ms_nk, ms_ni, w32_id, w64_id, Int.toNat_natCast, not_true_eq_false, not_false_eq_true] at hz) ; (try (exfalso; omega)))
      | (with_reducible refine fun (hz : ¬ (_ : Int) = _) => ?_) <;> ((try simp (discharger := first | decide | omega) only [ms_eq, ms_nk, ms_ni, w32_id, w64_id, Int.toNat_natCast, not_true_eq_false, not_false_eq_true] at hz) ; (try (exfalso; omega)))
      | (with_reducible refine fun (hz : _ ∨ _) => ?_) <;> ((try simp (discharger := first | decide | omega) only [ms_eq, ms_nk, ms_ni, w32_id, w64_id, Int.toNat_natCast, not_true_eq_false, not_false_eq_true] at hz) ; (try (exfalso; omega)))
      | omega
      | (simp (discharger := first | decide | omega) only [ms_eq, ms_nk, ms_ni, w32_id, w64_id, Int.toNat_natCast, not_true_eq_false, not_false_eq_true] ; omega)
       all_goals first
         | exact PQ.rf0 hR (by decide)
         | skip
       done)
    | skip
  refine e_B_lay ?_
  have ho : 1 ≤ A 7 2 := by omega
  have hT1 : 1 ≤ tN A ∧ tN A ≤ 4 := by omega
  generalize hσ : mset (mset (mset (mset A 36 0 a1) 36 1 a2) 36 2 a3) 36 3 a4 = σ
  have hF : ∀ k i, k ≠ 36 → σ k i = A k i := fun k i hk => by rw [← hσ]; simp only [ms_nk hk]
  have hE : Eqv A σ := fun k i hl => hF k i (live_x (o := 36) hl rfl)
  have hw : ∀ t, t < tN A → σ 36 (4 * 0 + t) = th4 a1 a2 a3 a4 t := fun t ht => by
    rw [← hσ, show 4 * 0 + t = t by omega]
    match t, ht with
    | 0, _ => rfl
    | 1, _ => rfl
    | 2, _ => rfl
    | 3, _ => rfl
    | t + 4, ht => omega
  have hw0 : ∀ t, t < tN A → σ 36 t = th4 a1 a2 a3 a4 t := fun t ht => by have := hw t ht; rw [show 4 * 0 + t = t by omega] at this; exact this
  have fin : ∀ (k : Nat) (r : Int), k < 7 → ∀ σ1, MF (mset σ 48 k (w32 (σ 48 k + 1))) σ1 → PQ r r (mset σ1 64 k (w32 (σ1 64 k + 1))) := fun k r hk σ1 hF1 => by
    refine PQ.rf hR hk (fun c i hl => ?_)
    have n67 := live_x (o := 67) hl rfl
    have n36 := live_x (o := 36) hl rfl
    have e1 : σ1 64 k = A 64 k := by rw [hF1 64 k (by decide), ms_nk (by decide), hF 64 k (by decide)]
    have e2 : σ 48 k = A 48 k := hF 48 k (by decide)
    rw [e1]
    by_cases e : c = 64 ∧ i = k
    · rw [e.1, e.2, ms_eq, ms_eq]
    · rw [ms_ne (by omega), ms_ne (o := 64) (by omega), hF1 c i n67, e2]
      by_cases e3 : c = 48 ∧ i = k
      · rw [e3.1, e3.2, ms_eq, ms_eq]
      · rw [ms_ne (by omega), ms_ne (by omega)]
        exact hF c i n36
  have z0 : (¬ ∃ t, t < tN A ∧ ¬ th4 a1 a2 a3 a4 t = 0) ↔ (a1 = 0 ∧ (1 < tN A → a2 = 0) ∧ (2 < tN A → a3 = 0) ∧ (3 < tN A → a4 = 0)) := by
    rw [th_ex (P := fun x => ¬ x = 0) hT1]
    omega
  have z1 := th_ex (P := fun x => x < 0) (a := a1) (b := a2) (c := a3) (d := a4) hT1
  have z2 := th_ex (P := fun x => 9999 < x) (a := a1) (b := a2) (c := a3) (d := a4) hT1
  refine sp_B_any (lv := 0) hR.1 hE (by omega) hw (fun hnz => ⟨fun h => by omega, fun _ => ?_⟩) (fun hz => ⟨fun _ => xr3 ?_, fun h => absurd rfl h⟩)
  · refine sp_B_least hR.1 hE (by omega) (fun r hr => ?_)
    have hr2 : r < 0 ↔ ∃ t, t < tN A ∧ th4 a1 a2 a3 a4 t < 0 := by
      rw [hr]
      exact ⟨fun ⟨t, h1, h2⟩ => ⟨t, h1, by rw [← hw0 t h1]; exact h2⟩, fun ⟨t, h1, h2⟩ => ⟨t, h1, by rw [hw0 t h1]; exact h2⟩⟩
    rw [z1] at hr2
    have hnz2 : ¬ (a1 = 0 ∧ (1 < tN A → a2 = 0) ∧ (2 < tN A → a3 = 0) ∧ (3 < tN A → a4 = 0)) := fun z => (z0.mpr z) hnz
    refine ⟨fun h => xr4 ?_, fun h => sp_B_greatest hR.1 hE (by omega) (fun r2 hg => ?_)⟩
    · refine done_m hR (by rw [ms_nk (by decide), hF 49 0 (by decide)]) rfl (by omega) (fun h => absurd h hnz2) (fun _ _ σ1 hF1 => fin 4 (-4) (by decide) σ1 hF1) (fun h2 => absurd (hr2.mp h) h2) (fun _ h2 => absurd (hr2.mp h) h2)
    · have hg2 : 9999 < r2 ↔ ∃ t, t < tN A ∧ 9999 < th4 a1 a2 a3 a4 t := by
        rw [hg]
        exact ⟨fun ⟨t, h1, h2⟩ => ⟨t, h1, by rw [← hw0 t h1]; exact h2⟩, fun ⟨t, h1, h2⟩ => ⟨t, h1, by rw [hw0 t h1]; exact h2⟩⟩
      rw [z2] at hg2
      have hnn : ¬ (a1 < 0 ∨ (1 < tN A ∧ a2 < 0) ∨ (2 < tN A ∧ a3 < 0) ∨ (3 < tN A ∧ a4 < 0)) := fun z => by have := hr2.mpr z; omega
      refine ⟨fun h6 => xr6 ?_, fun h6 => ?_⟩
      · exact done_m hR (by rw [ms_nk (by decide), hF 49 0 (by decide)]) rfl (by omega) (fun h => absurd h hnz2) (fun _ h => absurd h hnn) (fun _ _ σ1 hF1 => fin 6 (-6) (by decide) σ1 hF1) (fun _ _ h2 => absurd (hg2.mp h6) h2)
      · have hn6 : ¬ (9999 < a1 ∨ (1 < tN A ∧ 9999 < a2) ∨ (2 < tN A ∧ 9999 < a3) ∨ (3 < tN A ∧ 9999 < a4)) := fun z => by have := hg2.mpr z; omega
        have hb : bdW A (th4 a1 a2 a3 a4) := fun t ht => by
          match t, ht with
          | 0, _ => show -1000000000 ≤ a1 ∧ a1 ≤ 1000000000; omega
          | 1, ht => show -1000000000 ≤ a2 ∧ a2 ≤ 1000000000; omega
          | 2, ht => show -1000000000 ≤ a3 ∧ a3 ≤ 1000000000; omega
          | 3, ht => show -1000000000 ≤ a4 ∧ a4 ≤ 1000000000; omega
          | t + 4, ht => omega
        refine sp_B_choose (lv := 0) hR.1 hE ho (by decide) (Or.inl rfl) hb hw ?_
        refine done_m hR (hF 49 0 (by decide)) rfl (by omega) (fun h => absurd h hnz2) (fun _ h => absurd h hnn) (fun _ h => absurd h hn6) (fun _ _ _ σ1 hF1 hw1 => ?_)
        have hE1 := hF1.eqv hE
        exact sp_M_doneBy (j := 10) hR.1 hE1 ho (Or.inl ⟨rfl, rfl⟩) hb hw1 (PQ.eqv hR rfl hE1)
  · have hz2 := z0.mp (fun ⟨t, h1, h2⟩ => h2 (hz t h1))
    refine done_m hR (by rw [ms_nk (by decide), hF 49 0 (by decide)]) rfl (by omega) (fun _ σ1 hF1 => fin 3 (-3) (by decide) σ1 hF1) (fun h => absurd hz2 h) (fun _ h => ?_) (fun h => absurd hz2 h)
    exfalso
    omega
