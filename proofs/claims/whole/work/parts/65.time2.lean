-- PURE, 36: time
theorem time_x {A σ : Mem} (hR : RR A) (ho : 1 ≤ A 7 2) (h6 : 1 ≤ A 7 6) {h : Nat → Nat} {c : Nat → Int} {n : Nat} {part : Int} (hk : hOK A h n) (hc : costOK c n) (hn : n ≤ 3) (hE : Eqv A σ) (hch : chH σ h c n) {K : Int → Mem → Prop} (hK : ∀ σ1, Eqv A σ1 → K (frP (tv A h c n 0 (fun t => A 9 t)) (A 7 6 * 60 ^ n) part) σ1) : wp 39 m_B_bestRule [.inr (.inr 35)] σ (fun r9 s10 => wp 39 m_B_unit [.inr (.inr 35)] s10 (fun r11 s12 => wp 39 m_X_tell [.inr (.inl r9), .inr (.inl r11), .inl part] s12 (fun r s => K r s))) := by
  have h6b := tot_bd hR.1
  refine e_B_bestRule (sp_B_layBefore hR.1 hE (fun σ1 hF hl => ?_))
  refine sp_B_stopOrGo hR ho hk hc hn n 0 38 (fun t => A 9 t) σ1 _ (by omega) (by omega) (hF.eqv hE) (wB.pr hR.1) (fun t ht => by rw [show 4 * 0 + t = t by omega]; exact hl t ht) ⟨by rw [hF.1 35 4 (by decide)]; exact hch.1, fun i hi => by rw [hF.1 37 i (by decide), hF.1 38 i (by decide)]; exact hch.2 i hi⟩ (fun σ2 hF2 => ?_)
  have hE2 := hF2.eqv (hF.eqv hE)
  have tb := tv_bd hR ho hk hc hn (m := n) (k := 0) (w := fun t => A 9 t) (by omega) (wB.pr hR.1)
  have sb := sc_bd (Nat.le_refl n) hn tb
  refine sp_B_unit hR.1 hE2 (sp_X_tell (by omega) (by omega) ?_)
  rw [fr_gen hn h6 rfl rfl]
  exact hK σ2 hE2
theorem time_m {A σ : Mem} (hR : RR A) (ho : 1 ≤ A 7 2) (h6 : 1 ≤ A 7 6) {tt : Nat → Nat} {n : Nat} {part r : Int} (hp : part = 0 ∨ part = 1) (ht : ∀ i, i < n → tt i < tsN A) (hn : 1 ≤ n ∧ n ≤ 3) (hE : Eqv A σ) (h48 : σ 49 48 = (n : Int)) (h76 : heardR σ (fun i => (A 15 (tt i)).toNat) n) {a1 a2 a3 : Int} (e1 : a1 = ((tt 0 : Nat) : Int)) (e2 : 1 < n → a2 = ((tt 1 : Nat) : Int)) (e3 : 2 < n → a3 = ((tt 2 : Nat) : Int)) (hr : r = frP (tv A (fun i => (A 15 (tt i)).toNat) (fun i => A 16 (tt i)) n 0 (fun t => A 9 t)) (A 7 6 * 60 ^ n) part) : K_M_time_191 39 (fun r2 σ2 => PQ r r2 σ2) a1 a2 a3 part (n : Int) σ := by
  have hT := tsE hR
  have hk : hOK A (fun i => (A 15 (tt i)).toNat) n := fun i hi => by
    have := tsR hR (ht i hi)
    show (((A 15 (tt i)).toNat : Nat) : Int) < A 7 10
    omega
  have hc : costOK (fun i => A 16 (tt i)) n := fun i hi => by
    have := tsR hR (ht i hi)
    exact this.2.2.2.2
  have h6b := tot_bd hR.1
  have tb := tv_bd hR ho hk hc hn.2 (m := n) (k := 0) (w := fun t => A 9 t) (by omega) (wB.pr hR.1)
  have ub := u_bd hR hn.2 h6
  -- the end
  have fin : ∀ τ, TF σ τ → τ 78 0 = tv A (fun i => (A 15 (tt i)).toNat) (fun i => A 16 (tt i)) n 0 (fun t => A 9 t) → K_M_time_191 39 (fun r2 σ2 => PQ r r2 σ2) a1 a2 a3 part (((0 : Nat) : Int) - 1) τ := fun τ hF h0 => by
    refine e_M_time_191 ⟨fun _ => ?_, fun h => by omega⟩
    have e48 : τ 49 48 = (n : Int) := by rw [hF 49 48 (by decide) (by decide) (by decide)]; exact h48
    rw [e48, h0]
    refine sp_M_power hn.2 (sp_M_allBefore hR.1 (hF.eqv hE) ?_)
    rw [Int.mul_comm (60 ^ n) (A 7 6), w64_id (x := A 7 6 * 60 ^ n) (by omega) (by omega)]
    have p3 := p60 hn.2
    have b2 : ((n : Int) + 1) * 1000000000000 * 60 ^ n ≤ 4 * 1000000000000 * 216000 := Int.mul_le_mul (by omega) p3.1 (by omega) (by omega)
    refine sp_M_fr hp (by omega) (by omega) ?_
    rw [hr]
    exact PQ.eqv hR rfl (hF.eqv hE)
  -- down the levels
  have down : ∀ k, k ≤ n → ∀ τ, TF σ τ → (k < n → ∀ v, v < wyN A (fun i => (A 15 (tt i)).toNat) (k + 1) → τ 78 v = vW A (fun i => (A 15 (tt i)).toNat) (fun i => A 16 (tt i)) n (k + 1) v) → K_M_time_191 39 (fun r2 σ2 => PQ r r2 σ2) a1 a2 a3 part (k : Int) τ := by
    intro k
    induction k with
    | zero => ?_
    | succ k ih => ?_
    all_goals
      intro hkn τ hF hl
      have e48 : τ 49 48 = (n : Int) := by rw [hF 49 48 (by decide) (by decide) (by decide)]; exact h48
      have cost : ∀ i, i < n → τ 56 (tt i) = A 16 (tt i) := fun i hi => ((hF.eqv hE) 56 _ rfl).trans (tsR hR (ht i hi)).2.2.2.1
    · have t0 := ht 0 (by omega)
      refine e_M_time_191 ⟨fun h => by omega, fun _ => ⟨fun _ => ⟨⟨by omega, by omega⟩, ?_⟩, fun h => absurd rfl h⟩⟩
      rw [e1, Int.toNat_natCast, cost 0 (by omega)]
      refine time_lvl (n := n) (d := 36) (k := 0) hR ho hk hc hn.2 hE h48 h76 (by omega) ⟨fun _ => rfl, fun h => by omega⟩ (fun τ2 hF2 hv => ?_) hF hl
      rw [← e1]
      refine fin τ2 hF2 ?_
      have := hv 0 (Nat.lt_add_one 0)
      unfold vW at this
      rw [Nat.sub_zero] at this
      exact this
    · have nxt : ∀ y0 : Int, ((k + 1 < n → y0 = A 16 (tt (k + 1))) ∧ (k + 1 = n → y0 = 0)) → K_M_time_257 39 (fun r2 σ2 => PQ r r2 σ2) a1 a2 a3 part ((k + 1 : Nat) : Int) y0 τ := fun y0 hy => by
        refine time_lvl (n := n) (d := 36) (k := k + 1) hR ho hk hc hn.2 hE h48 h76 hkn hy (fun τ2 hF2 hv => ?_) hF hl
        rw [show ((k + 1 : Nat) : Int) - 1 = (k : Int) by omega]
        exact ih (by omega) τ2 hF2 (fun _ => hv)
      refine e_M_time_191 ⟨fun h => by omega, fun _ => ⟨fun h => by omega, fun _ => ⟨fun h1 => ⟨fun h2 => ?_, fun h2 => ?_⟩, fun h1 => ?_⟩⟩⟩
      · rw [e48] at h2
        have t1 := ht 1 (by omega)
        have hk1 : k = 0 := by omega
        subst hk1
        rw [e2 (by omega), Int.toNat_natCast, cost 1 (by omega)]
        refine ⟨⟨by omega, by omega⟩, ?_⟩
        rw [← e2 (by omega)]
        exact nxt _ ⟨fun _ => rfl, fun h => by omega⟩
      · rw [e48] at h2
        refine e_M_time_233 ⟨fun h => by omega, fun _ => e_M_time_256 (nxt 0 ⟨fun h => by omega, fun _ => rfl⟩)⟩
      · refine e_M_time_233 ⟨fun h3 => ⟨fun h4 => ?_, fun h4 => e_M_time_256 (nxt 0 ⟨fun h => by rw [e48] at h4; omega, fun _ => rfl⟩)⟩, fun h3 => e_M_time_256 (nxt 0 ⟨fun h => by omega, fun _ => rfl⟩)⟩
        rw [e48] at h4
        have t2 := ht 2 (by omega)
        have hk1 : k = 1 := by omega
        subst hk1
        rw [e3 (by omega), Int.toNat_natCast, cost 2 (by omega)]
        refine ⟨⟨by omega, by omega⟩, ?_⟩
        rw [← e3 (by omega)]
        exact nxt _ ⟨fun _ => rfl, fun h => by omega⟩
  exact down n (Nat.le_refl _) σ TF.id (fun h => by omega)
/-- from the reference's answer that they are tests in an order -/
theorem time_m2 {A σ : Mem} (hR : RR A) (ho : 1 ≤ A 7 2) (h6 : 1 ≤ A 7 6) {tt : Nat → Nat} {n : Nat} {part r : Int} (hp : part = 0 ∨ part = 1) (ht : ∀ i, i < n → tt i < tsN A) (hn : 1 ≤ n ∧ n ≤ 3) (hE : Eqv A σ) {a1 a2 a3 : Int} (e1 : a1 = ((tt 0 : Nat) : Int)) (e2 : 1 < n → a2 = ((tt 1 : Nat) : Int)) (e3 : 2 < n → a3 = ((tt 2 : Nat) : Int)) (hr : r = frP (tv A (fun i => (A 15 (tt i)).toNat) (fun i => A 16 (tt i)) n 0 (fun t => A 9 t)) (A 7 6 * 60 ^ n) part) : K_M_time_122 39 (fun r2 σ2 => PQ r r2 σ2) a1 a2 a3 part (n : Int) σ := by
  have hT := tsE hR
  have lk : ∀ i, i < n → σ 55 (tt i) = (((A 15 (tt i)).toNat : Nat) : Int) := fun i hi => by
    have := tsR hR (ht i hi)
    rw [hE 55 _ rfl]
    omega
  have t0 := ht 0 (by omega)
  have l0 := lk 0 (by omega)
  have c1 : (1 : Int).toNat = 1 := rfl
  have c2 : (2 : Int).toNat = 2 := rfl
  -- the last step
  have last : ∀ y1 y2 : Int, (1 < n → y1 = (((A 15 (tt 1)).toNat : Nat) : Int)) → (2 < n → y2 = (((A 15 (tt 2)).toNat : Nat) : Int)) → K_M_time_191 39 (fun r2 σ2 => PQ r r2 σ2) a1 a2 a3 part (n : Int) (mset (mset (mset (mset σ 49 48 (n : Int)) 76 0 (((A 15 (tt 0)).toNat : Nat) : Int)) 76 1 y1) 76 2 y2) := fun y1 y2 h1 h2 => by
    refine time_m hR ho h6 hp ht hn ((((hE.set rfl).set rfl).set rfl).set rfl) ?_ (fun i hi => ?_) e1 e2 e3 hr
    · simp (discharger := decide) only [ms_nk, ms_eq]
    · match i, hi with
      | 0, _ => simp (discharger := decide) only [ms_ni, ms_eq]
      | 1, hi => simp (discharger := decide) only [ms_ni, ms_eq]; exact h1 hi
      | 2, hi => simp (discharger := decide) only [ms_ni, ms_eq]; exact h2 hi
      | i + 3, hi => omega
  refine e_M_time_122 ?_
  rw [e1]
  simp (discharger := first | decide | omega) only [ms_nk, ms_ni, ms_eq, Int.toNat_natCast, l0]
  rw [← e1]
  have third : ∀ y1 : Int, (1 < n → y1 = (((A 15 (tt 1)).toNat : Nat) : Int)) → K_M_time_160 39 (fun r2 σ2 => PQ r r2 σ2) a1 a2 a3 part 1 y1 (mset (mset σ 49 48 (n : Int)) 76 0 (((A 15 (tt 0)).toNat : Nat) : Int)) := fun y1 h1 => by
    refine e_M_time_160 ⟨⟨by decide, by decide⟩, ?_⟩
    rw [c1]
    simp (discharger := first | decide | omega) only [ms_nk, ms_ni, ms_eq]
    refine ⟨fun h2 => ?_, fun h2 => e_M_time_184 ⟨⟨by decide, by decide⟩, ?_⟩⟩
    · have t2 := ht 2 (by omega)
      have l2 := lk 2 (by omega)
      rw [e3 (by omega), Int.toNat_natCast, l2]
      refine ⟨⟨by omega, by omega⟩, e_M_time_184 ⟨⟨by decide, by decide⟩, ?_⟩⟩
      rw [c2]
      simp (discharger := first | decide | omega) only [ms_nk, ms_ni, ms_eq]
      rw [← e3 (by omega)]
      exact last _ _ h1 (fun _ => rfl)
    · rw [c2]
      simp (discharger := first | decide | omega) only [ms_nk, ms_ni, ms_eq]
      exact last _ _ h1 (fun h => by omega)
  refine ⟨⟨by omega, by omega⟩, fun h => ?_, fun h => third 0 (fun h => by omega)⟩
  have t1 := ht 1 (by omega)
  have l1 := lk 1 (by omega)
  rw [e2 (by omega), Int.toNat_natCast, l1]
  refine ⟨⟨by omega, by omega⟩, ?_⟩
  rw [← e2 (by omega)]
  exact third _ (fun _ => rfl)
