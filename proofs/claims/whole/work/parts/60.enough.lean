-- PURE, 31: enough, the reference and the pair
theorem sp_M_enough60 {d : Nat} {A σ : Mem} {Q : Int → Mem → Prop} (hR : RR A) (ho : 1 ≤ A 7 2) (h6 : 1 ≤ A 7 6) (hE : Eqv A σ) {p q : Int} (hp : -9999 ≤ p ∧ p ≤ 9999) (hq : 1 ≤ q ∧ q ≤ 9999) (hQ : ∀ e σ1, HF σ σ1 → esS A p q (2 ^ tsN A) e → Q e σ1) : K_M_enough_60 (d + 4) Q p q (-9) 0 σ := by
  have hs := shlT hR
  have h6b := tot_bd hR.1
  have hU : 0 < A 7 6 * 216000 := by omega
  have s9 : ∀ σ1, HF σ σ1 → shlI 1 (σ1 49 9) = ((2 ^ tsN A : Nat) : Int) := fun σ1 hF => by rw [hF.eqv hE 49 9 rfl]; exact hs.2.1
  refine upto (n := 2 ^ tsN A) (P := fun n => ∀ e σ1, HF σ σ1 → esS A p q n e → K_M_enough_60 (d + 4) Q p q e ((n : Nat) : Int) σ1) (fun e σ1 hF he => ?_) (fun n hn ih e σ1 hF he => ?_) (-9) σ HF.id rfl
  · exact e_M_enough_60 ⟨fun h => by rw [s9 σ1 hF] at h; omega, fun _ => hQ e σ1 hF he⟩
  · have e1 : w32 ((n : Int) + 1) = ((n + 1 : Nat) : Int) := w32_eq (by omega) (by omega)
    have hlt := esS_lt he
    refine e_M_enough_60 ⟨fun _ => ?_, fun h => by rw [s9 σ1 hF] at h; omega⟩
    rw [e1]
    refine sp_M_ones (by omega) ⟨fun h => ih e σ1 hF ⟨e, he, Or.inr ⟨rfl, fun z => by have := z.1; omega⟩⟩, fun h => ?_⟩
    have hpn : pc n ≤ 3 := by omega
    refine sp_M_findSet (less := false) hR ho h6 (hF.eqv hE) (Or.inl ⟨rfl, rfl⟩) (by omega) hpn (fun σ2 hF2 hV2 hb2 ha2 => ?_)
    have hF12 := hF.trans hF2
    have hE2 := hF12.eqv hE
    have hb0 := hV2.1
    have m1 := mul_bd ha2 (y := q) (Y := 9999) ⟨by omega, hq.2⟩
    have m2 := mul_bd (x := p) (X := 9999) hp (y := σ2 49 51) (Y := 85536000) ⟨by omega, hb2⟩
    rw [w64_id (x := σ2 49 50 * q) (by omega) (by omega), w64_id (x := p * σ2 49 51) (by omega) (by omega)]
    have hok : (p * σ2 49 51 ≤ σ2 49 50 * q ↔ okS A p q n) := by
      have e2 := hV2.2
      unfold vS at e2
      rw [if_neg (by decide), Int.sub_zero] at e2
      unfold okS
      generalize brg A 10 11 (lsK A n (tsN A)) = V at *
      generalize σ2 49 50 = a at *
      generalize σ2 49 51 = b at *
      generalize A 7 6 * 216000 = U at *
      have e3 : (a * q) * U = (V * q) * b := by grind
      have e4 : (p * b) * U = (p * U) * b := by grind
      constructor
      · intro z
        have z2 := Int.mul_le_mul_of_nonneg_right z (Int.le_of_lt hU)
        rw [e3, e4] at z2
        exact Int.le_of_mul_le_mul_right z2 hb0
      · intro z
        have z2 := Int.mul_le_mul_of_nonneg_right z (Int.le_of_lt hb0)
        rw [← e3, ← e4] at z2
        exact Int.le_of_mul_le_mul_right z2 hU
    have keep : ∀ σ3, HF σ σ3 → ¬ (pc n ≤ 3 ∧ (e = -9 ∨ (¬ e = -9 ∧ chp A n e.toNat)) ∧ okS A p q n) → K_M_enough_60 (d + 4) Q p q e ((n + 1 : Nat) : Int) σ3 := fun σ3 hF3 hh => ih e σ3 hF3 ⟨e, he, Or.inr ⟨rfl, hh⟩⟩
    have take : ∀ σ3, HF σ σ3 → (e = -9 ∨ (¬ e = -9 ∧ chp A n e.toNat)) → okS A p q n → K_M_enough_60 (d + 4) Q p q (n : Int) ((n + 1 : Nat) : Int) σ3 := fun σ3 hF3 h1 h2 => ih n σ3 hF3 ⟨e, he, Or.inl ⟨rfl, hpn, h1, h2⟩⟩
    by_cases he9 : e = -9
    · refine ⟨fun h1 => ⟨fun _ => keep σ2 hF12 (fun z => by have := hok.mpr z.2.2; omega), fun h => by omega⟩, fun h1 => ⟨fun _ => take σ2 hF12 (Or.inl he9) (hok.mp h1), fun h => by omega⟩⟩
    · obtain ⟨b, rfl⟩ : ∃ b : Nat, e = (b : Int) := ⟨e.toNat, by omega⟩
      rw [Int.toNat_natCast] at keep take
      refine ⟨fun h1 => ⟨fun h => by omega, fun _ => ?_⟩, fun h1 => ⟨fun h => by omega, fun _ => ?_⟩⟩
      · have k := keep σ2 hF12 (fun z => by have := hok.mpr z.2.2; omega)
        refine sp_M_costOf hR hE2 (by omega) (sp_M_costOf hR hE2 (by omega) ⟨fun _ => k, fun _ => sp_M_costOf hR hE2 (by omega) (sp_M_costOf hR hE2 (by omega) ⟨fun _ => sp_M_ones (by omega) (sp_M_ones (by omega) ⟨fun _ => k, fun _ => k⟩), fun _ => k⟩)⟩)
      · have nk : ¬ chp A n b → K_M_enough_60 (d + 4) Q p q (b : Int) ((n + 1 : Nat) : Int) σ2 := fun hc => keep σ2 hF12 (fun z => by
          rcases z.2.1 with z1 | z1
          · exact he9 z1
          · exact hc z1.2)
        have tk : chp A n b → K_M_enough_60 (d + 4) Q p q (n : Int) ((n + 1 : Nat) : Int) σ2 := fun hc => take σ2 hF12 (Or.inr ⟨he9, hc⟩) (hok.mp h1)
        refine sp_M_costOf hR hE2 (by omega) (sp_M_costOf hR hE2 (by omega) ⟨fun h2 => tk (Or.inl h2), fun h2 => sp_M_costOf hR hE2 (by omega) (sp_M_costOf hR hE2 (by omega) ⟨fun h3 => sp_M_ones (by omega) (sp_M_ones (by omega) ⟨fun h4 => tk (Or.inr ⟨h3, by omega⟩), fun h4 => nk ?_⟩), fun h3 => nk ?_⟩)⟩)
        · rintro (z | z) <;> omega
        · rintro (z | z) <;> omega
theorem pr_enough {A : Mem} (hR : RR A) {a1 : Int} (i1 : InI a1) {a2 : Int} (i2 : InI a2) : wp 40 m_X_enough [.inr (.inr 0), .inl a1, .inl a2] A (fun r σ1 => wp 40 m_M_enough [.inr (.inr 49), .inl a1, .inl a2] σ1 (fun r2 σ2 => PQ r r2 σ2)) := by
  have sc := hR.sc
  unfold InI at i1 i2
  repeat' first
    | with_reducible refine e_X_enough ?_
    | with_reducible refine xr1 ?_
    | with_reducible refine xr2 ?_
    | with_reducible refine xr3 ?_
    | with_reducible refine xr4 ?_
    | with_reducible refine xr6 ?_
    | with_reducible refine mr1 ?_
    | with_reducible refine mr2 ?_
    | with_reducible refine mr3 ?_
    | with_reducible refine mr4 ?_
    | with_reducible refine mr6 ?_
    | with_reducible refine xf1 ?_
    | with_reducible refine xf2 ?_
    | with_reducible refine xf3 ?_
    | with_reducible refine xf6 ?_
    | with_reducible refine mf1 ?_
    | with_reducible refine mf2 ?_
    | with_reducible refine mf3 ?_
    | with_reducible refine mf6 ?_
    | with_reducible exact isB0
    | with_reducible exact isB1
    | with_reducible refine And.intro ?_ ?_
    | (with_reducible refine fun (hz : (_ : Int) < _) => ?_) <;> ((try simp (discharger := first | decide | omega) only [ms_eq, ms_nk, ms_ni, w32_id, w64_id, Int.toNat_natCast, not_true_eq_false, not_false_eq_true] at hz) ; (try (exfalso; omega)))
    | (with_reducible refine fun (hz : (_ : Int) ≤ _) => ?_) <;> ((try simp (discharger := first | decide | omega) only [ms_eq, ms_nk, ms_ni, w32_id, w64_id, Int.toNat_natCast, not_true_eq_false, not_false_eq_true] at hz) ; (try (exfalso; omega)))
    | (with_reducible refine fun (hz : (_ : Int) = _) => ?_) <;> ((try simp (discharger := first | decide | omega) only [ms_eq, ms_nk, ms_ni, w32_id, w64_id, Int.toNat_natCast, not_true_eq_false, not_false_eq_true] at hz) ; (try (exfalso; omega)))
    | (with_reducible refine fun (hz : ¬ (_ : Int) = _) => ?_) <;> ((try simp (discharger := first | decide | omega) only [ms_eq, ms_nk, ms_ni, w32_id, w64_id, Int.toNat_natCast, not_true_eq_false, not_false_eq_true] at hz) ; (try (exfalso; omega)))
    | (with_reducible refine fun (hz : _ ∨ _) => ?_) <;> ((try simp (discharger := first | decide | omega) only [ms_eq, ms_nk, ms_ni, w32_id, w64_id, Int.toNat_natCast, not_true_eq_false, not_false_eq_true] at hz) ; (try (exfalso; omega)))
    | omega
    | (simp (discharger := first | decide | omega) only [ms_eq, ms_nk, ms_ni, w32_id, w64_id, Int.toNat_natCast, not_true_eq_false, not_false_eq_true] ; omega)
  all_goals first
    | (repeat' first
      | with_reducible refine e_M_enough ?_
      | with_reducible refine xr1 ?_
      | with_reducible refine xr2 ?_
      | with_reducible refine xr3 ?_
      | with_reducible refine xr4 ?_
      | with_reducible refine xr6 ?_
      | with_reducible refine mr1 ?_
      | with_reducible refine mr2 ?_
      | with_reducible refine mr3 ?_
      | with_reducible refine mr4 ?_
      | with_reducible refine mr6 ?_
      | with_reducible refine xf1 ?_
      | with_reducible refine xf2 ?_
      | with_reducible refine xf3 ?_
      | with_reducible refine xf6 ?_
      | with_reducible refine mf1 ?_
      | with_reducible refine mf2 ?_
      | with_reducible refine mf3 ?_
      | with_reducible refine mf6 ?_
      | with_reducible exact isB0
      | with_reducible exact isB1
      | with_reducible refine And.intro ?_ ?_
      | (with_reducible refine fun (hz : (_ : Int) < _) => ?_) <;> ((try simp (discharger := first | decide | omega) only [ms_eq, ms_nk, ms_ni, w32_id, w64_id, Int.toNat_natCast, not_true_eq_false, not_false_eq_true] at hz) ; (try (exfalso; omega)))
      | (with_reducible refine fun (hz : (_ : Int) ≤ _) => ?_) <;> ((try simp (discharger := first | decide | omega) only [ms_eq, ms_nk, ms_ni, w32_id, w64_id, Int.toNat_natCast, not_true_eq_false, not_false_eq_true] at hz) ; (try (exfalso; omega)))
      | (with_reducible refine fun (hz : (_ : Int) = _) => ?_) <;> ((try simp (discharger := first | decide | omega) only [ms_eq, ms_nk, ms_ni, w32_id, w64_id, Int.toNat_natCast, not_true_eq_false, not_false_eq_true] at hz) ; (try (exfalso; omega)))
      | (with_reducible refine fun (hz : ¬ (_ : Int) = _) => ?_) <;> ((try simp (discharger := first | decide | omega) only [ms_eq, ms_nk, ms_ni, w32_id, w64_id, Int.toNat_natCast, not_true_eq_false, not_false_eq_true] at hz) ; (try (exfalso; omega)))
      | (with_reducible refine fun (hz : _ ∨ _) => ?_) <;> ((try simp (discharger := first | decide | omega) only [ms_eq, ms_nk, ms_ni, w32_id, w64_id, Int.toNat_natCast, not_true_eq_false, not_false_eq_true] at hz) ; (try (exfalso; omega)))
      | omega
      | (simp (discharger := first | decide | omega) only [ms_eq, ms_nk, ms_ni, w32_id, w64_id, Int.toNat_natCast, not_true_eq_false, not_false_eq_true] ; omega)
       all_goals first
         | exact PQ.rf0 hR (by decide)
         | skip
       done)
    | skip
  have ho : 1 ≤ A 7 2 := by omega
  have h6 := tot_pos hR.1 (by omega)
  refine sp_K_cheapest hR ho h6 Eqv.rfl (by omega) (by omega) (fun e σ1 hF he => ?_)
  have hE := hF.eqv Eqv.rfl
  have q0 := hE 49 0 rfl
  refine e_M_enough ⟨fun h => by omega, fun _ => ⟨fun h => by omega, fun _ => ⟨fun h => by omega, fun _ => ⟨fun h => by omega, fun _ => ⟨fun h => by omega, fun _ => ?_⟩⟩⟩⟩⟩
  exact sp_M_enough60 hR ho h6 hE (by omega) (by omega) (fun e2 σ2 hF2 he2 => PQ.eqv hR (esS_uniq he he2) (hF2.eqv hE))
