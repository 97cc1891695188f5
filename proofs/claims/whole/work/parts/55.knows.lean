-- PURE, 26: knows
theorem sp_B_attend2 {d : Nat} {σ : Mem} {Q : Int → Mem → Prop} {l k : Nat} (hQ : ∀ σ1, XF σ σ1 → chainR σ1 [l, k] → Q 0 σ1) (hc : chainR σ [l]) : wp (d + 1) m_B_attend [.inr (.inr 35), .inl (k : Int), .inl 0] σ Q :=
  sp_B_attend (l := k) hc (by simp) (fun σ1 h1 h2 _ _ => hQ σ1 h1 h2)
theorem gath_bd3 {ms : Nat → Nat → Int} {A : Mem} (h : SR 7 ms A) (ho : 1 ≤ A 7 2) {j p : Nat} (hp : isPay p) {ls : List Nat} (hl : lksOK A ls) (hn : ls.length ≤ 3) : -100000000000000 ≤ gath A j p ls (fun t => A 9 t) ∧ gath A j p ls (fun t => A 9 t) ≤ 100000000000000 := by
  have h1 := gath_bd h ho hp (j := j) hl (show 0 + ls.length ≤ 3 by omega) (wB.pr h)
  have h2 := p6 hn
  omega
theorem fr_gen {a b g u part : Int} {n : Nat} (hn : n ≤ 3) (hu : 1 ≤ u) (ha : a = g * 60 ^ (3 - n)) (hb : b = u * 60 ^ n) : frP a (u * 216000) part = frP g b part := by
  have p3 := p60 hn
  have e : (60 : Int) ^ (3 - n) * 60 ^ n = 216000 := by rw [← Int.pow_add, show 3 - n + n = 3 by omega]; rfl
  refine frP_eq (by omega) (by rw [hb]; exact Int.mul_pos (by omega) (by omega)) ?_
  rw [ha, hb, ← e]
  grind
theorem pr_knows {A : Mem} (hR : RR A) {a1 : Int} (i1 : InI a1) {a2 : Int} (i2 : InI a2) {a3 : Int} (i3 : InI a3) {a4 : Int} (i4 : InI a4) : wp 40 m_X_knows [.inr (.inr 0), .inl a1, .inl a2, .inl a3, .inl a4] A (fun r σ1 => wp 40 m_M_knows [.inr (.inr 49), .inl a1, .inl a2, .inl a3, .inl a4] σ1 (fun r2 σ2 => PQ r r2 σ2)) := by
  have sc := hR.sc
  unfold InI at i1 i2 i3 i4
  repeat' first
    | with_reducible refine e_X_knows ?_
    | with_reducible refine e_X_isPart ?_
    | with_reducible refine e_S_hasLook ?_
    | with_reducible refine xr1 ?_
    | with_reducible refine xr2 ?_
    | with_reducible refine xr3 ?_
    | with_reducible refine xr4 ?_
    | with_reducible refine xr6 ?_
    | with_reducible refine mr1 ?_
    | with_reducible refine mr2 ?_
    | with_reducible refine mr3 ?_
    | with_reducible refine mr4 ?_
    | with_reducible refine mr6 ?_
    | with_reducible refine xf1 ?_
    | with_reducible refine xf2 ?_
    | with_reducible refine xf3 ?_
    | with_reducible refine xf6 ?_
    | with_reducible refine mf1 ?_
    | with_reducible refine mf2 ?_
    | with_reducible refine mf3 ?_
    | with_reducible refine mf6 ?_
    | with_reducible exact isB0
    | with_reducible exact isB1
    | with_reducible refine And.intro ?_ ?_
    | (with_reducible refine fun (hz : (_ : Int) < _) => ?_) <;> ((try simp (discharger := first | decide | omega) only [ms_eq, ms_nk, ms_ni, w32_id, w64_id, Int.toNat_natCast, not_true_eq_false, not_false_eq_true] at hz) ; (try (exfalso; omega)))
    | (with_reducible refine fun (hz : (_ : Int) ≤ _) => ?_) <;> ((try simp (discharger := first | decide | omega) only [ms_eq, ms_nk, ms_ni, w32_id, w64_id, Int.toNat_natCast, not_true_eq_false, not_false_eq_true] at hz) ; (try (exfalso; omega)))
    | (with_reducible refine fun (hz : (_ : Int) = _) => ?_) <;> ((try simp (discharger := first | decide | omega) only [ms_eq, ms_nk, ms_ni, w32_id, w64_id, Int.toNat_natCast, not_true_eq_false, not_false_eq_true] at hz) ; (try (exfalso; omega)))
    | (with_reducible refine fun (hz : ¬ (_ : Int) = _) => ?_) <;> ((try simp (discharger := first | decide | omega) only [ms_eq, ms_nk, ms_ni, w32_id, w64_id, Int.toNat_natCast, not_true_eq_false, not_false_eq_true] at hz) ; (try (exfalso; omega)))
    | (with_reducible refine fun (hz : _ ∨ _) => ?_) <;> ((try simp (discharger := first | decide | omega) only [ms_eq, ms_nk, ms_ni, w32_id, w64_id, Int.toNat_natCast, not_true_eq_false, not_false_eq_true] at hz) ; (try (exfalso; omega)))
    | omega
    | (simp (discharger := first | decide | omega) only [ms_eq, ms_nk, ms_ni, w32_id, w64_id, Int.toNat_natCast, not_true_eq_false, not_false_eq_true] ; omega)
  all_goals first
    | (repeat' first
      | with_reducible refine e_M_knows ?_
      | with_reducible refine e_M_isPart ?_
      | with_reducible refine e_M_isLook ?_
      | with_reducible refine e_M_in ?_
      | with_reducible refine xr1 ?_
      | with_reducible refine xr2 ?_
      | with_reducible refine xr3 ?_
      | with_reducible refine xr4 ?_
      | with_reducible refine xr6 ?_
      | with_reducible refine mr1 ?_
      | with_reducible refine mr2 ?_
      | with_reducible refine mr3 ?_
      | with_reducible refine mr4 ?_
      | with_reducible refine mr6 ?_
      | with_reducible refine xf1 ?_
      | with_reducible refine xf2 ?_
      | with_reducible refine xf3 ?_
      | with_reducible refine xf6 ?_
      | with_reducible refine mf1 ?_
      | with_reducible refine mf2 ?_
      | with_reducible refine mf3 ?_
      | with_reducible refine mf6 ?_
      | with_reducible exact isB0
      | with_reducible exact isB1
      | with_reducible refine And.intro ?_ ?_
      | (with_reducible refine fun (hz : (_ : Int) < _) => ?_) <;> ((try simp (discharger := first | decide | omega) only [ms_eq, ms_nk, ms_ni, w32_id, w64_id, Int.toNat_natCast, not_true_eq_false, not_false_eq_true] at hz) ; (try (exfalso; omega)))
      | (with_reducible refine fun (hz : (_ : Int) ≤ _) => ?_) <;> ((try simp (discharger := first | decide | omega) only [ms_eq, ms_nk, ms_ni, w32_id, w64_id, Int.toNat_natCast, not_true_eq_false, not_false_eq_true] at hz) ; (try (exfalso; omega)))
      | (with_reducible refine fun (hz : (_ : Int) = _) => ?_) <;> ((try simp (discharger := first | decide | omega) only [ms_eq, ms_nk, ms_ni, w32_id, w64_id, Int.toNat_natCast, not_true_eq_false, not_false_eq_true] at hz) ; (try (exfalso; omega)))
      | (with_reducible refine fun (hz : ¬ (_ : Int) = _) => ?_) <;> ((try simp (discharger := first | decide | omega) only [ms_eq, ms_nk, ms_ni, w32_id, w64_id, Int.toNat_natCast, not_true_eq_false, not_false_eq_true] at hz) ; (try (exfalso; omega)))
      | (with_reducible refine fun (hz : _ ∨ _) => ?_) <;> ((try simp (discharger := first | decide | omega) only [ms_eq, ms_nk, ms_ni, w32_id, w64_id, Int.toNat_natCast, not_true_eq_false, not_false_eq_true] at hz) ; (try (exfalso; omega)))
      | omega
      | (simp (discharger := first | decide | omega) only [ms_eq, ms_nk, ms_ni, w32_id, w64_id, Int.toNat_natCast, not_true_eq_false, not_false_eq_true] ; omega)
       all_goals first
         | exact PQ.rf0 hR (by decide)
         | skip
       done)
    | skip
  all_goals
    obtain ⟨l, rfl⟩ : ∃ k : Nat, a1 = (k : Int) := ⟨a1.toNat, by omega⟩
    obtain ⟨k, rfl⟩ : ∃ k : Nat, a2 = (k : Int) := ⟨a2.toNat, by omega⟩
    have hll : (l : Int) < A 7 10 := by omega
    have hkk : (k : Int) < A 7 10 := by omega
    have h6 := tot_pos hR.1 (by omega)
    have h6b := tot_bd hR.1
    have hp3 : a4 = 0 ∨ a4 = 1 := by omega
    have ho : 1 ≤ A 7 2 := by omega
    have hlk : lksOK A [l, k] := fun x hx => by
      simp at hx
      rcases hx with rfl | rfl
      · exact hll
      · exact hkk
    have fin : ∀ p : Nat, ∀ σ, (a3 = 0 ∧ p = 11 ∨ ¬ a3 = 0 ∧ p = 10) → XF A σ → chainR σ [l, k] → wp 39 m_B_brings [.inr (.inr 35), .inr (.inr 10), .inr (.inr p)] σ (fun r21 s22 => wp 39 m_B_unit [.inr (.inr 35)] s22 (fun r23 s24 => wp 39 m_X_tell [.inr (.inl r21), .inr (.inl r23), .inl a4] s24 (fun r25 s26 => wp 40 m_M_knows [.inr (.inr 49), .inl (l : Int), .inl (k : Int), .inl a3, .inl a4] s26 (fun r2 σ2 => PQ r25 r2 σ2)))) := by
      intro p σ hp hF hc
      have hE := hF.eqv Eqv.rfl
      have hip : isPay p := by rcases hp with h | h <;> rw [h.2] <;> simp [isPay]
      refine sp_B_brings hR.1 hE ho (Or.inl rfl) hip hlk (by simp) hc (fun σ2 hB => ?_)
      have hE2 := hB.eqv hE
      have bb := brg_bd hR.1 ho hip (j := 10) hlk (by simp)
      have b1 := gath_bd3 hR.1 ho (j := 10) hip hlk (by simp)
      refine sp_B_unit hR.1 hE2 (sp_X_tell (by omega) (by omega) ?_)
      have key : frP (brg A 10 p [l, k]) (A 7 6 * 216000) a4 = frP (gath A 10 p [l, k] (fun t => A 9 t)) (3600 * A 7 6) a4 := fr_gen (n := 2) (by omega) h6 rfl (by rw [Int.mul_comm]; rfl)
      rw [key]
      have q0 := hE2 49 0 rfl
      have q6 := hE2 49 6 rfl
      have hE3 : Eqv A (mset (mset (mset σ2 49 48 2) 76 0 (l : Int)) 76 1 (k : Int)) := ((hE2.set (by rfl)).set (by rfl)).set (by rfl)
      have e3 : w64 (3600 * A 7 6) = 3600 * A 7 6 := w64_id (by omega) (by omega)
      have hh : heardR (mset (mset (mset σ2 49 48 2) 76 0 (l : Int)) 76 1 (k : Int)) (fun i => if i = 0 then l else k) 2 := fun i hi => by
        match i, hi with
        | 0, _ => rfl
        | 1, _ => rfl
      have hok : hOK A (fun i => if i = 0 then l else k) 2 := fun i hi => by
        match i, hi with
        | 0, _ => exact hll
        | 1, _ => exact hkk
      have go : ∀ wi : Nat, wi ≤ 2 → p = 10 + wi → wp 39 m_M_gotTogether [.inr (.inr 49), .inl (wi : Int)] (mset (mset (mset σ2 49 48 2) 76 0 (l : Int)) 76 1 (k : Int)) (fun r9 s10 => wp 39 m_M_allBefore [.inr (.inr 49)] s10 (fun r11 s12 => wp 39 m_M_fraction [.inr (.inl r9), .inr (.inl (w64 (3600 * r11))), .inl a4] s12 (fun r13 s14 => PQ (frP (gath A 10 p [l, k] (fun t => A 9 t)) (3600 * A 7 6) a4) r13 s14))) := fun wi hwi hpw =>
        sp_M_gotTogether (n := 2) hR ho hE3 rfl hwi hpw (by omega) hok hh rfl (fun σ3 hF3 => sp_M_allBefore hR.1 (hF3.eqv hE3) (by
          rw [e3]
          exact sp_M_fr hp3 (by have : gath A 10 p (hl (fun i => if i = 0 then l else k) 2) (fun t => A 9 t) = gath A 10 p [l, k] (fun t => A 9 t) := rfl
                                rw [this]; omega) (by omega) (PQ.eqv hR rfl (hF3.eqv hE3))))
      repeat' first
        | with_reducible refine e_M_knows ?_
        | with_reducible refine e_M_isPart ?_
        | with_reducible refine e_M_isLook ?_
        | with_reducible refine e_M_in ?_
        | with_reducible refine xr1 ?_
        | with_reducible refine xr2 ?_
        | with_reducible refine xr3 ?_
        | with_reducible refine xr4 ?_
        | with_reducible refine xr6 ?_
        | with_reducible refine mr1 ?_
        | with_reducible refine mr2 ?_
        | with_reducible refine mr3 ?_
        | with_reducible refine mr4 ?_
        | with_reducible refine mr6 ?_
        | with_reducible refine xf1 ?_
        | with_reducible refine xf2 ?_
        | with_reducible refine xf3 ?_
        | with_reducible refine xf6 ?_
        | with_reducible refine mf1 ?_
        | with_reducible refine mf2 ?_
        | with_reducible refine mf3 ?_
        | with_reducible refine mf6 ?_
        | with_reducible exact isB0
        | with_reducible exact isB1
        | with_reducible refine And.intro ?_ ?_
        | (with_reducible refine fun (hz : (_ : Int) < _) => ?_) <;> ((try simp (discharger := first | decide | omega) only [ms_eq, ms_nk, ms_ni, w32_id, w64_id, Int.toNat_natCast, not_true_eq_false, not_false_eq_true, q0, q6] at hz) ; (try (exfalso; omega)))
        | (with_reducible refine fun (hz : (_ : Int) ≤ _) => ?_) <;> ((try simp (discharger := first | decide | omega) only [ms_eq, ms_nk, ms_ni, w32_id, w64_id, Int.toNat_natCast, not_true_eq_false, not_false_eq_true, q0, q6] at hz) ; (try (exfalso; omega)))
        | (with_reducible refine fun (hz : (_ : Int) = _) => ?_) <;> ((try simp (discharger := first | decide | omega) only [ms_eq, ms_nk, ms_ni, w32_id, w64_id, Int.toNat_natCast, not_true_eq_false, not_false_eq_true, q0, q6] at hz) ; (try (exfalso; omega)))
        | (with_reducible refine fun (hz : ¬ (_ : Int) = _) => ?_) <;> ((try simp (discharger := first | decide | omega) only [ms_eq, ms_nk, ms_ni, w32_id, w64_id, Int.toNat_natCast, not_true_eq_false, not_false_eq_true, q0, q6] at hz) ; (try (exfalso; omega)))
        | (with_reducible refine fun (hz : _ ∨ _) => ?_) <;> ((try simp (discharger := first | decide | omega) only [ms_eq, ms_nk, ms_ni, w32_id, w64_id, Int.toNat_natCast, not_true_eq_false, not_false_eq_true, q0, q6] at hz) ; (try (exfalso; omega)))
        | omega
        | (simp (discharger := first | decide | omega) only [ms_eq, ms_nk, ms_ni, w32_id, w64_id, Int.toNat_natCast, not_true_eq_false, not_false_eq_true, q0, q6] ; omega)
      · exact go 1 (by omega) (by omega)
      · exact go 0 (by omega) (by omega)
    refine sp_B_attendOnly (fun σ1 h1 h2 => sp_B_attend2 (l := l) (fun σ2 h3 h4 => e_S_pay ⟨fun h => ?_, fun h => ?_⟩) h2)
    · exact fin 11 σ2 (Or.inl ⟨h, rfl⟩) (h1.trans h3) h4
    · exact fin 10 σ2 (Or.inr ⟨h, rfl⟩) (h1.trans h3) h4
