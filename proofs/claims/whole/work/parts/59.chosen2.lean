-- PURE, 30: chosen, enough
/-- of the sets below n + 1 the one that is chosen -/
def bsS (A : Mem) : Nat → Nat
  | 0 => 0
  | n + 1 => if pc (n + 1) ≤ 3 ∧ (vS A true (bsS A n) < vS A true (n + 1) ∨ (vS A true (n + 1) = vS A true (bsS A n) ∧ pc (n + 1) < pc (bsS A n))) then n + 1 else bsS A n
theorem bsS_le {A : Mem} : ∀ {n : Nat}, bsS A n ≤ n ∧ pc (bsS A n) ≤ 3
  | 0 => ⟨Nat.le_refl _, (by decide : pc 0 ≤ 3)⟩
  | n + 1 => by
    have ih := bsS_le (A := A) (n := n)
    unfold bsS
    split
    · rename_i h; exact ⟨Nat.le_refl _, h.1⟩
    · exact ⟨Nat.le_succ_of_le ih.1, ih.2⟩
theorem sp_K_dearest {d : Nat} {A σ : Mem} {Q : Int → Mem → Prop} (hR : RR A) (ho : 1 ≤ A 7 2) (h6 : 1 ≤ A 7 6) (hE : Eqv A σ) (hQ : ∀ σ1, XF σ σ1 → Q ((bsS A (2 ^ tsN A - 1) : Nat) : Int) σ1) : wp (d + 9) m_K_dearest [.inr (.inr 45)] σ Q := by
  have hs := shlT hR
  have h6b := tot_bd hR.1
  have c0 : csK A 0 (tsN A) = 0 := by
    have : ∀ k, csK A 0 k = 0 := by
      intro k
      induction k with
      | zero => rfl
      | succ k ih => show csK A 0 k + (if Nat.testBit 0 k then A 16 k else 0) = 0; rw [ih, Nat.zero_testBit]; rfl
    exact this _
  have v0 : vS A true 0 = brg A 10 11 (lsK A 0 (tsN A)) := by
    unfold vS
    rw [if_pos rfl, c0, Int.zero_mul, Int.sub_zero]
  refine e_K_dearest (sp_K_bringsOf (x := 0) hR ho hE (by omega) (by decide) (fun σ1 hF => ?_))
  rw [← v0]
  refine upto (n := 2 ^ tsN A - 1) (P := fun n => ∀ σ1, XF σ σ1 → K_K_dearest_11 (d + 8) Q ((bsS A n : Nat) : Int) (vS A true (bsS A n)) ((n + 1 : Nat) : Int) σ1) (fun σ1 hF => ?_) (fun n hn ih σ1 hF => ?_) σ1 hF
  · refine e_K_dearest_11 ⟨fun h => by rw [hF.eqv hE 7 13 rfl, hs.1] at h; omega, fun _ => hQ σ1 hF⟩
  · have e1 : w32 (((n + 1 : Nat) : Int) + 1) = ((n + 1 + 1 : Nat) : Int) := w32_eq (by omega) (by omega)
    have hb := bsS_le (A := A) (n := n)
    have eb : bsS A (n + 1) = if pc (n + 1) ≤ 3 ∧ (vS A true (bsS A n) < vS A true (n + 1) ∨ (vS A true (n + 1) = vS A true (bsS A n) ∧ pc (n + 1) < pc (bsS A n))) then n + 1 else bsS A n := rfl
    refine e_K_dearest_11 ⟨fun _ => ?_, fun h => by rw [hF.eqv hE 7 13 rfl, hs.1] at h; omega⟩
    rw [e1]
    refine sp_bitCount (by omega) ⟨fun h => ?_, fun h => ?_⟩
    · have := ih σ1 hF
      rw [eb, if_neg (by omega)] at this
      exact this
    · have hp : pc (n + 1) ≤ 3 := by omega
      have vb := vS_bd hR ho h6 (less := true) (x := n + 1) (by omega) hp
      have vb2 := vS_bd hR ho h6 (less := true) (x := bsS A n) (by omega) hb.2
      refine sp_K_bringsOf hR ho (hF.eqv hE) (by omega) hp (fun σ2 hF2 => ?_)
      have hE2 := (hF.trans hF2).eqv hE
      refine sp_K_costOf hR hE2 (by omega) (sp_B_unit hR.1 hE2 (sp_bitCount (by omega) (sp_bitCount (by omega) ?_)))
      rw [w64_id (x := csK A (n + 1) (tsN A) * (A 7 6 * 216000)) (by omega) (by omega), w64_id (x := brg A 10 11 (lsK A (n + 1) (tsN A)) - csK A (n + 1) (tsN A) * (A 7 6 * 216000)) (by omega) (by omega)]
      have ev : brg A 10 11 (lsK A (n + 1) (tsN A)) - csK A (n + 1) (tsN A) * (A 7 6 * 216000) = vS A true (n + 1) := by unfold vS; rw [if_pos rfl]
      rw [ev]
      have yes : (vS A true (bsS A n) < vS A true (n + 1) ∨ (vS A true (n + 1) = vS A true (bsS A n) ∧ pc (n + 1) < pc (bsS A n))) → K_K_dearest_11 (d + 8) Q ((n + 1 : Nat) : Int) (vS A true (n + 1)) ((n + 1 + 1 : Nat) : Int) σ2 := fun hh => by
        have := ih σ2 (hF.trans hF2)
        rw [eb, if_pos ⟨hp, hh⟩] at this
        exact this
      have no : ¬ (vS A true (bsS A n) < vS A true (n + 1) ∨ (vS A true (n + 1) = vS A true (bsS A n) ∧ pc (n + 1) < pc (bsS A n))) → K_K_dearest_11 (d + 8) Q ((bsS A n : Nat) : Int) (vS A true (bsS A n)) ((n + 1 + 1 : Nat) : Int) σ2 := fun hh => by
        have := ih σ2 (hF.trans hF2)
        rw [eb, if_neg (fun z => hh z.2)] at this
        exact this
      exact ⟨fun h1 => ⟨fun h2 => yes (Or.inl h2), fun h2 => ⟨fun h3 => yes (Or.inr ⟨h3, by omega⟩), fun h3 => no (by omega)⟩⟩, fun h1 => ⟨fun h2 => yes (Or.inl h2), fun h2 => ⟨fun h3 => no (by omega), fun h3 => no (by omega)⟩⟩⟩
theorem mul_w64 {a b : Int} (ha : -33872256000 ≤ a ∧ a ≤ 33872256000) (hb : 0 < b ∧ b ≤ 85536000) : w64 (a * b) = a * b := by
  have := mul_bd (x := a) (y := b) (X := 33872256000) (Y := 85536000) ha ⟨by omega, hb.2⟩
  exact w64_id (by omega) (by omega)
theorem sp_M_chosen24 {d : Nat} {A σ : Mem} {Q : Int → Mem → Prop} (hR : RR A) (ho : 1 ≤ A 7 2) (h6 : 1 ≤ A 7 6) (hE : Eqv A σ) (hQ : ∀ σ1, HF σ σ1 → Q ((bsS A (2 ^ tsN A - 1) : Nat) : Int) σ1) : K_M_chosen_24 (d + 4) Q (-1) 0 1 0 σ := by
  have hs := shlT hR
  have h6b := tot_bd hR.1
  have hU : 0 < A 7 6 * 216000 := by omega
  have s9 : ∀ σ1, HF σ σ1 → shlI 1 (σ1 49 9) = ((2 ^ tsN A : Nat) : Int) := fun σ1 hF => by rw [hF.eqv hE 49 9 rfl]; exact hs.2.1
  have main : ∀ σ1 a b, HF σ σ1 → isV a b (vS A true 0) (A 7 6 * 216000) → b ≤ 85536000 → (-33872256000 ≤ a ∧ a ≤ 33872256000) → K_M_chosen_24 (d + 4) Q 0 a b ((0 + 1 : Nat) : Int) σ1 := by
    refine upto (n := 2 ^ tsN A - 1) (P := fun n => ∀ σ1 a b, HF σ σ1 → isV a b (vS A true (bsS A n)) (A 7 6 * 216000) → b ≤ 85536000 → (-33872256000 ≤ a ∧ a ≤ 33872256000) → K_M_chosen_24 (d + 4) Q ((bsS A n : Nat) : Int) a b ((n + 1 : Nat) : Int) σ1) (fun σ1 a b hF hV hb ha => ?_) (fun n hn ih σ1 a b hF hV hb ha => ?_)
    · refine e_M_chosen_24 ⟨fun h => by rw [s9 σ1 hF] at h; omega, fun _ => hQ σ1 hF⟩
    · have e1 : w32 (((n + 1 : Nat) : Int) + 1) = ((n + 1 + 1 : Nat) : Int) := w32_eq (by omega) (by omega)
      have hbs := bsS_le (A := A) (n := n)
      have eb : bsS A (n + 1) = if pc (n + 1) ≤ 3 ∧ (vS A true (bsS A n) < vS A true (n + 1) ∨ (vS A true (n + 1) = vS A true (bsS A n) ∧ pc (n + 1) < pc (bsS A n))) then n + 1 else bsS A n := rfl
      refine e_M_chosen_24 ⟨fun _ => ?_, fun h => by rw [s9 σ1 hF] at h; omega⟩
      rw [e1]
      refine sp_M_ones (by omega) ⟨fun h => ?_, fun h => ?_⟩
      · have := ih σ1 a b hF
        rw [eb, if_neg (by omega)] at this
        exact this hV hb ha
      · have hp : pc (n + 1) ≤ 3 := by omega
        refine sp_M_findSet (less := true) hR ho h6 (hF.eqv hE) (Or.inr ⟨by decide, rfl⟩) (by omega) hp (fun σ2 hF2 hV2 hb2 ha2 => ⟨fun h => by omega, fun _ => ?_⟩)
        have lt := isV_lt hU hV hV2
        have eq := isV_eq hU hV hV2
        rw [mul_w64 ha ⟨hV2.1, hb2⟩, mul_w64 ha2 ⟨hV.1, hb⟩, lt, eq]
        have yes : (vS A true (bsS A n) < vS A true (n + 1) ∨ (vS A true (n + 1) = vS A true (bsS A n) ∧ pc (n + 1) < pc (bsS A n))) → K_M_chosen_24 (d + 4) Q ((n + 1 : Nat) : Int) (σ2 49 50) (σ2 49 51) ((n + 1 + 1 : Nat) : Int) σ2 := fun hh => by
          have := ih σ2 (σ2 49 50) (σ2 49 51) (hF.trans hF2)
          rw [eb, if_pos ⟨hp, hh⟩] at this
          exact this hV2 hb2 ha2
        have no : ¬ (vS A true (bsS A n) < vS A true (n + 1) ∨ (vS A true (n + 1) = vS A true (bsS A n) ∧ pc (n + 1) < pc (bsS A n))) → K_M_chosen_24 (d + 4) Q ((bsS A n : Nat) : Int) a b ((n + 1 + 1 : Nat) : Int) σ2 := fun hh => by
          have := ih σ2 a b (hF.trans hF2)
          rw [eb, if_neg (fun z => hh z.2)] at this
          exact this hV hb ha
        refine ⟨fun h1 => yes (Or.inl h1), fun h1 => ?_⟩
        have h1n : ¬ vS A true (bsS A n) < vS A true (n + 1) := fun z => by have := lt.mpr z; omega
        exact ⟨fun h2 => sp_M_ones (by omega) (sp_M_ones (by omega) ⟨fun h3 => yes (Or.inr ⟨h2, by omega⟩), fun h3 => no (by omega)⟩), fun h2 => no (by omega)⟩
  refine e_M_chosen_24 ⟨fun _ => ?_, fun h => by rw [s9 σ HF.id] at h; omega⟩
  refine sp_M_ones (x := 0) (by decide) ⟨fun h => absurd h (by decide), fun _ => ?_⟩
  refine sp_M_findSet (x := 0) (less := true) hR ho h6 hE (Or.inr ⟨by decide, rfl⟩) (by omega) (by decide) (fun σ2 hF2 hV2 hb2 ha2 => ⟨fun _ => ?_, fun h => by omega⟩)
  have e1 : w32 ((0 : Int) + 1) = ((0 + 1 : Nat) : Int) := w32_eq (by omega) (by omega)
  rw [e1]
  exact main σ2 _ _ hF2 hV2 hb2 ha2
theorem pr_chosen {A : Mem} (hR : RR A) : wp 40 m_X_chosen [.inr (.inr 0)] A (fun r σ1 => wp 40 m_M_chosen [.inr (.inr 49)] σ1 (fun r2 σ2 => PQ r r2 σ2)) := by
  have sc := hR.sc
  repeat' first
    | with_reducible refine e_X_chosen ?_
    | with_reducible refine xr1 ?_
    | with_reducible refine xr2 ?_
    | with_reducible refine xr3 ?_
    | with_reducible refine xr4 ?_
    | with_reducible refine xr6 ?_
    | with_reducible refine mr1 ?_
    | with_reducible refine mr2 ?_
    | with_reducible refine mr3 ?_
    | with_reducible refine mr4 ?_
    | with_reducible refine mr6 ?_
    | with_reducible refine xf1 ?_
    | with_reducible refine xf2 ?_
    | with_reducible refine xf3 ?_
    | with_reducible refine xf6 ?_
    | with_reducible refine mf1 ?_
    | with_reducible refine mf2 ?_
    | with_reducible refine mf3 ?_
    | with_reducible refine mf6 ?_
    | with_reducible exact isB0
    | with_reducible exact isB1
    | with_reducible refine And.intro ?_ ?_
    | (with_reducible refine fun (hz : (_ : Int) < _) => ?_) <;> ((try simp (discharger := first | decide | omega) only [ms_eq, ms_nk, ms_ni, w32_id, w64_id, Int.toNat_natCast, not_true_eq_false, not_false_eq_true] at hz) ; (try (exfalso; omega)))
    | (with_reducible refine fun (hz : (_ : Int) ≤ _) => ?_) <;> ((try simp (discharger := first | decide | omega) only [ms_eq, ms_nk, ms_ni, w32_id, w64_id, Int.toNat_natCast, not_true_eq_false, not_false_eq_true] at hz) ; (try (exfalso; omega)))
    | (with_reducible refine fun (hz : (_ : Int) = _) => ?_) <;> ((try simp (discharger := first | decide | omega) only [ms_eq, ms_nk, ms_ni, w32_id, w64_id, Int.toNat_natCast, not_true_eq_false, not_false_eq_true] at hz) ; (try (exfalso; omega)))
    | (with_reducible refine fun (hz : ¬ (_ : Int) = _) => ?_) <;> ((try simp (discharger := first | decide | omega) only [ms_eq, ms_nk, ms_ni, w32_id, w64_id, Int.toNat_natCast, not_true_eq_false, not_false_eq_true] at hz) ; (try (exfalso; omega)))
    | (with_reducible refine fun (hz : _ ∨ _) => ?_) <;> ((try simp (discharger := first | decide | omega) only [ms_eq, ms_nk, ms_ni, w32_id, w64_id, Int.toNat_natCast, not_true_eq_false, not_false_eq_true] at hz) ; (try (exfalso; omega)))
    | omega
    | (simp (discharger := first | decide | omega) only [ms_eq, ms_nk, ms_ni, w32_id, w64_id, Int.toNat_natCast, not_true_eq_false, not_false_eq_true] ; omega)
  all_goals first
    | (repeat' first
      | with_reducible refine e_M_chosen ?_
      | with_reducible refine xr1 ?_
      | with_reducible refine xr2 ?_
      | with_reducible refine xr3 ?_
      | with_reducible refine xr4 ?_
      | with_reducible refine xr6 ?_
      | with_reducible refine mr1 ?_
      | with_reducible refine mr2 ?_
      | with_reducible refine mr3 ?_
      | with_reducible refine mr4 ?_
      | with_reducible refine mr6 ?_
      | with_reducible refine xf1 ?_
      | with_reducible refine xf2 ?_
      | with_reducible refine xf3 ?_
      | with_reducible refine xf6 ?_
      | with_reducible refine mf1 ?_
      | with_reducible refine mf2 ?_
      | with_reducible refine mf3 ?_
      | with_reducible refine mf6 ?_
      | with_reducible exact isB0
      | with_reducible exact isB1
      | with_reducible refine And.intro ?_ ?_
      | (with_reducible refine fun (hz : (_ : Int) < _) => ?_) <;> ((try simp (discharger := first | decide | omega) only [ms_eq, ms_nk, ms_ni, w32_id, w64_id, Int.toNat_natCast, not_true_eq_false, not_false_eq_true] at hz) ; (try (exfalso; omega)))
      | (with_reducible refine fun (hz : (_ : Int) ≤ _) => ?_) <;> ((try simp (discharger := first | decide | omega) only [ms_eq, ms_nk, ms_ni, w32_id, w64_id, Int.toNat_natCast, not_true_eq_false, not_false_eq_true] at hz) ; (try (exfalso; omega)))
      | (with_reducible refine fun (hz : (_ : Int) = _) => ?_) <;> ((try simp (discharger := first | decide | omega) only [ms_eq, ms_nk, ms_ni, w32_id, w64_id, Int.toNat_natCast, not_true_eq_false, not_false_eq_true] at hz) ; (try (exfalso; omega)))
      | (with_reducible refine fun (hz : ¬ (_ : Int) = _) => ?_) <;> ((try simp (discharger := first | decide | omega) only [ms_eq, ms_nk, ms_ni, w32_id, w64_id, Int.toNat_natCast, not_true_eq_false, not_false_eq_true] at hz) ; (try (exfalso; omega)))
      | (with_reducible refine fun (hz : _ ∨ _) => ?_) <;> ((try simp (discharger := first | decide | omega) only [ms_eq, ms_nk, ms_ni, w32_id, w64_id, Int.toNat_natCast, not_true_eq_false, not_false_eq_true] at hz) ; (try (exfalso; omega)))
      | omega
      | (simp (discharger := first | decide | omega) only [ms_eq, ms_nk, ms_ni, w32_id, w64_id, Int.toNat_natCast, not_true_eq_false, not_false_eq_true] ; omega)
       all_goals first
         | exact PQ.rf0 hR (by decide)
         | skip
       done)
    | skip
  have ho : 1 ≤ A 7 2 := by omega
  have h6 := tot_pos hR.1 (by omega)
  refine sp_K_dearest hR ho h6 Eqv.rfl (fun σ1 hF => ?_)
  have hE := hF.eqv Eqv.rfl
  have q0 := hE 49 0 rfl
  refine e_M_chosen ⟨fun h => by omega, fun _ => ?_⟩
  exact sp_M_chosen24 hR ho h6 hE (fun σ2 hF2 => PQ.eqv hR rfl (hF2.eqv hE))
/-- set n costs less than set b, or the same with fewer tests -/
def chp (A : Mem) (n b : Nat) : Prop := csK A n (tsN A) < csK A b (tsN A) ∨ (csK A n (tsN A) = csK A b (tsN A) ∧ pc n < pc b)
/-- what set n brings is above by below, or more -/
def okS (A : Mem) (p q : Int) (n : Nat) : Prop := p * (A 7 6 * 216000) ≤ brg A 10 11 (lsK A n (tsN A)) * q
/-- e is the set that is enough among those below n (-9: none) -/
def esS (A : Mem) (p q : Int) : Nat → Int → Prop
  | 0, e => e = -9
  | n + 1, e => ∃ e0, esS A p q n e0 ∧ ((e = (n : Int) ∧ pc n ≤ 3 ∧ (e0 = -9 ∨ (¬ e0 = -9 ∧ chp A n e0.toNat)) ∧ okS A p q n) ∨ (e = e0 ∧ ¬ (pc n ≤ 3 ∧ (e0 = -9 ∨ (¬ e0 = -9 ∧ chp A n e0.toNat)) ∧ okS A p q n)))
theorem esS_lt {A : Mem} {p q : Int} : ∀ {n : Nat} {e : Int}, esS A p q n e → e = -9 ∨ (0 ≤ e ∧ e < (n : Int) ∧ pc e.toNat ≤ 3)
  | 0, _, h => Or.inl h
  | n + 1, e, ⟨e0, h0, h⟩ => by
    have ih := esS_lt h0
    rcases h with ⟨h1, h2, _⟩ | ⟨h1, _⟩
    · refine Or.inr ⟨by omega, by omega, ?_⟩
      rw [h1, Int.toNat_natCast]
      exact h2
    · rcases ih with h3 | h3
      · exact Or.inl (by omega)
      · refine Or.inr ⟨by omega, by omega, ?_⟩
        rw [h1]; exact h3.2.2
theorem esS_uniq {A : Mem} {p q : Int} : ∀ {n : Nat} {e f : Int}, esS A p q n e → esS A p q n f → e = f
  | 0, _, _, h1, h2 => h1.trans h2.symm
  | n + 1, e, f, ⟨e0, h0, h⟩, ⟨f0, g0, g⟩ => by
    have := esS_uniq h0 g0
    subst this
    rcases h with ⟨h1, h2⟩ | ⟨h1, h2⟩ <;> rcases g with ⟨g1, g2⟩ | ⟨g1, g2⟩
    · rw [h1, g1]
    · exact absurd h2 g2
    · exact absurd g2 h2
    · rw [h1, g1]
theorem sp_K_isCheaper {d : Nat} {A σ : Mem} {Q : Int → Mem → Prop} (hR : RR A) (ho : 1 ≤ A 7 2) (h6 : 1 ≤ A 7 6) (hE : Eqv A σ) {x b : Nat} (hx : x < 2 ^ tsN A) (hb : b < 2 ^ tsN A) (hpx : pc x ≤ 3) (hpb : pc b ≤ 3) (h1 : chp A x b → Q 1 σ) (h0 : ¬ chp A x b → Q 0 σ) : wp (d + 2) m_K_isCheaper [.inr (.inr 45), .inl (x : Int), .inl (b : Int)] σ Q := by
  have hs := shlT hR
  have v1 := vS_bd hR ho h6 (less := true) hx hpx
  have v2 := vS_bd hR ho h6 (less := true) hb hpb
  refine e_K_isCheaper (sp_K_costOf hR hE (by omega) (sp_K_costOf hR hE (by omega) ?_))
  rw [w32_id (by omega) (by omega)]
  refine ⟨fun h => h1 (Or.inl (by omega)), fun h => ⟨fun h2 => sp_bitCount (by omega) (sp_bitCount (by omega) ⟨fun h3 => h1 (Or.inr ⟨by omega, by omega⟩), fun h3 => h0 ?_⟩), fun h2 => h0 ?_⟩⟩
  · rintro (z | z) <;> omega
  · rintro (z | z) <;> omega
theorem brq {A : Mem} (hR : RR A) (ho : 1 ≤ A 7 2) (h6 : 1 ≤ A 7 6) {x : Nat} (hx : x < 2 ^ tsN A) (hpx : pc x ≤ 3) {p q : Int} (hp : -9999 ≤ p ∧ p ≤ 9999) (hq : 1 ≤ q ∧ q ≤ 9999) : w64 (brg A 10 11 (lsK A x (tsN A)) * q) = brg A 10 11 (lsK A x (tsN A)) * q ∧ w64 (p * (A 7 6 * 216000)) = p * (A 7 6 * 216000) := by
  have v1 := vS_bd hR ho h6 (less := true) hx hpx
  have h6b := tot_bd hR.1
  have m1 := mul_bd v1.2.2.1 (y := q) (Y := 9999) ⟨by omega, hq.2⟩
  have m2 := mul_bd (x := p) (X := 9999) hp (y := A 7 6 * 216000) (Y := 85536000) ⟨by omega, by omega⟩
  exact ⟨w64_id (by omega) (by omega), w64_id (by omega) (by omega)⟩
theorem sp_K_cheapest {d : Nat} {A σ : Mem} {Q : Int → Mem → Prop} (hR : RR A) (ho : 1 ≤ A 7 2) (h6 : 1 ≤ A 7 6) (hE : Eqv A σ) {p q : Int} (hp : -9999 ≤ p ∧ p ≤ 9999) (hq : 1 ≤ q ∧ q ≤ 9999) (hQ : ∀ e σ1, XF σ σ1 → esS A p q (2 ^ tsN A) e → Q e σ1) : wp (d + 9) m_K_cheapest [.inr (.inr 45), .inr (.inl p), .inr (.inl q)] σ Q := by
  have hs := shlT hR
  refine e_K_cheapest ?_
  refine upto (n := 2 ^ tsN A) (P := fun n => ∀ e σ1, XF σ σ1 → esS A p q n e → K_K_cheapest_7 (d + 8) Q p q e ((n : Nat) : Int) σ1) (fun e σ1 hF he => ?_) (fun n hn ih e σ1 hF he => ?_) (-9) σ XF.id rfl
  · exact e_K_cheapest_7 ⟨fun h => by rw [hF.eqv hE 7 13 rfl, hs.1] at h; omega, fun _ => hQ e σ1 hF he⟩
  · have e1 : w32 ((n : Int) + 1) = ((n + 1 : Nat) : Int) := w32_eq (by omega) (by omega)
    have hlt := esS_lt he
    refine e_K_cheapest_7 ⟨fun _ => ?_, fun h => by rw [hF.eqv hE 7 13 rfl, hs.1] at h; omega⟩
    rw [e1]
    refine sp_bitCount (by omega) ⟨fun h => ih e σ1 hF ⟨e, he, Or.inr ⟨rfl, fun z => by have := z.1; omega⟩⟩, fun h => ?_⟩
    have hpn : pc n ≤ 3 := by omega
    have wq := brq hR ho h6 (x := n) (by omega) hpn hp hq
    have weigh : ∀ σ2, XF σ σ2 → (e = -9 ∨ (¬ e = -9 ∧ chp A n e.toNat)) → wp (d + 8) m_K_bringsOf [.inr (.inr 45), .inl (n : Int)] σ2 (fun r3 s4 => wp (d + 8) m_B_unit [.inr (.inr 35)] s4 (fun r5 s6 => ((w64 (r3 * q)) < (w64 (p * r5)) → K_K_cheapest_7 (d + 8) Q p q e ((n + 1 : Nat) : Int) s6) ∧ ((w64 (p * r5)) ≤ (w64 (r3 * q)) → K_K_cheapest_7 (d + 8) Q p q (n : Int) ((n + 1 : Nat) : Int) s6))) := fun σ2 hF2 hc =>
      sp_K_bringsOf hR ho (hF2.eqv hE) (by omega) hpn (fun σ3 hF3 => sp_B_unit hR.1 ((hF2.trans hF3).eqv hE) (by
        rw [wq.1, wq.2]
        refine ⟨fun h5 => ih e σ3 (hF2.trans hF3) ⟨e, he, Or.inr ⟨rfl, fun z => ?_⟩⟩, fun h5 => ih (n : Int) σ3 (hF2.trans hF3) ⟨e, he, Or.inl ⟨rfl, hpn, hc, h5⟩⟩⟩
        have := z.2.2
        unfold okS at this
        omega))
    refine ⟨fun h9 => weigh σ1 hF (Or.inl h9), fun h9 => ?_⟩
    obtain ⟨b, hb⟩ : ∃ b : Nat, e = (b : Int) := ⟨e.toNat, by omega⟩
    rcases hlt with h8 | h8
    · exact absurd h8 h9
    · have hb3 : pc b ≤ 3 := by have := h8.2.2; rw [hb, Int.toNat_natCast] at this; exact this
      have ebn : e.toNat = b := by omega
      rw [hb]
      refine sp_K_isCheaper hR ho h6 (hF.eqv hE) (by omega) (by omega) hpn hb3 (fun hc => ⟨fun h => by omega, fun _ => ?_⟩) (fun hc => ⟨fun _ => ?_, fun h => absurd rfl h⟩)
      · have := weigh σ1 hF (Or.inr ⟨h9, by rw [ebn]; exact hc⟩)
        rw [hb] at this
        exact this
      · have := ih e σ1 hF ⟨e, he, Or.inr ⟨rfl, fun z => ?_⟩⟩
        · rw [hb] at this; exact this
        · rcases z.2.1 with z1 | z1
          · exact h9 z1
          · have z2 := z1.2
            rw [ebn] at z2
            exact hc z2
