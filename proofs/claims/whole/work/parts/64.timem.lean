-- PURE, 35: days, by the reference; time
theorem fm_mul {A : Mem} {h : Nat → Nat} {u : Nat → Int} : ∀ {n v : Nat} {w : Nat → Int} {t : Nat}, fm A h n v (fun t => w t * u t) t = fm A h n v w t * u t
  | 0, _, _, _ => rfl
  | n + 1, v, w, t => by
    show fm A h n (v / sg A (h n)) (fun t => w t * u t * pt A (h n) t (v % sg A (h n))) t = fm A h n (v / sg A (h n)) (fun t => w t * pt A (h n) t (v % sg A (h n))) t * u t
    have e : (fun t => w t * u t * pt A (h n) t (v % sg A (h n))) = (fun t => (w t * pt A (h n) t (v % sg A (h n))) * u t) := by
      funext t
      rw [Int.mul_assoc, Int.mul_comm (u t), ← Int.mul_assoc]
    rw [e, fm_mul]
theorem fm_next {A : Mem} {h : Nat → Nat} {k v s : Nat} {w : Nat → Int} {t : Nat} (hs : s < sg A (h k)) : fm A h (k + 1) (v * sg A (h k) + s) w t = fm A h k v w t * pt A (h k) t s := by
  show fm A h k ((v * sg A (h k) + s) / sg A (h k)) (fun t => w t * pt A (h k) t ((v * sg A (h k) + s) % sg A (h k))) t = _
  rw [Nat.mul_comm v, Nat.mul_add_div (by omega), Nat.mul_add_mod, Nat.div_eq_of_lt hs, Nat.mod_eq_of_lt hs, Nat.add_zero, fm_mul]
def TF (σ σ1 : Mem) : Prop := ∀ k i, k ≠ 67 → k ≠ 78 → k ≠ 79 → σ1 k i = σ k i
theorem TF.id {σ : Mem} : TF σ σ := fun _ _ _ _ _ => rfl
theorem TF.trans {σ σ1 σ2 : Mem} (h1 : TF σ σ1) (h2 : TF σ1 σ2) : TF σ σ2 := fun k i a b c => (h2 k i a b c).trans (h1 k i a b c)
theorem MF.tf {σ σ1 : Mem} (h : MF σ σ1) : TF σ σ1 := fun k i a _ _ => h k i a
theorem TF.eqv {A σ σ1 : Mem} (h : TF σ σ1) (hE : Eqv A σ) : Eqv A σ1 := fun k i hl => by
  rw [h k i (live_x (o := 67) hl rfl) (live_x (o := 78) hl rfl) (live_x (o := 79) hl rfl)]
  exact hE k i hl
abbrev vW (A : Mem) (h : Nat → Nat) (c : Nat → Int) (n k v : Nat) : Int := tv A h c (n - k) k (fm A h k v (fun t => A 9 t))
set_option maxHeartbeats 1000000 in
theorem time_lvl {A σ : Mem} (hR : RR A) (ho : 1 ≤ A 7 2) {h : Nat → Nat} {c : Nat → Int} {n : Nat} (hk : hOK A h n) (hc : costOK c n) (hn : n ≤ 3) (hE : Eqv A σ) (h48 : σ 49 48 = (n : Int)) (h76 : heardR σ h n) {d : Nat} {Q : Int → Mem → Prop} {x1 x2 x3 x4 y0 : Int} {k : Nat} (hkn : k ≤ n) (hy : (k < n → y0 = c k) ∧ (k = n → y0 = 0))
    (hcont : ∀ τ, TF σ τ → (∀ v, v < wyN A h k → τ 78 v = vW A h c n k v) → K_M_time_191 (d + 3) Q x1 x2 x3 x4 ((k : Int) - 1) τ)
    {σ0 : Mem} (hF0 : TF σ σ0) (hlat : k < n → ∀ v, v < wyN A h (k + 1) → σ0 78 v = vW A h c n (k + 1) v) : K_M_time_257 (d + 3) Q x1 x2 x3 x4 (k : Int) y0 σ0 := by
  have hk0 : hOK A h k := fun i hi => hk i (by omega)
  have hh0 : ∀ τ, TF σ τ → heardR τ h k := fun τ hF i hi => by rw [hF 76 i (by decide) (by decide) (by decide)]; exact h76 i (by omega)
  have g48 : ∀ τ, TF σ τ → τ 49 48 = (n : Int) := fun τ hF => by rw [hF 49 48 (by decide) (by decide) (by decide)]; exact h48
  have w216 := wy216 hR (n := k) (by omega) hk0
  have hLk := hR.1.lk
  obtain ⟨X, hX⟩ : ∃ X : Nat, X = if k < n then sg A (h k) else 0 := ⟨_, rfl⟩
  -- copying back
  have copy : ∀ τ, TF σ τ → (∀ v, v < wyN A h k → τ 79 v = vW A h c n k v) → (∀ v, v < 0 → τ 78 v = vW A h c n k v) → K_M_time_443 (d + 3) Q x1 x2 x3 x4 (k : Int) ((0 : Nat) : Int) τ := by
    refine upto (n := wyN A h k) (P := fun v => ∀ τ, TF σ τ → (∀ v, v < wyN A h k → τ 79 v = vW A h c n k v) → (∀ v2, v2 < v → τ 78 v2 = vW A h c n k v2) → K_M_time_443 (d + 3) Q x1 x2 x3 x4 (k : Int) ((v : Nat) : Int) τ) (fun τ hF h1 h2 => ?_) (fun v hv ih τ hF h1 h2 => ?_)
    · refine e_M_time_443 (sp_M_waysOf hR (hF.eqv hE) (by omega) hk0 (hh0 τ hF) ⟨fun h => by omega, fun _ => ?_⟩)
      have e1 : w32 ((k : Int) + -1) = (k : Int) - 1 := by
        rw [show (k : Int) + -1 = (k : Int) - 1 by omega]; exact w32_id (by omega) (by omega)
      rw [e1]
      exact hcont τ hF h2
    · have e1 : w32 ((v : Int) + 1) = ((v + 1 : Nat) : Int) := w32_eq (by omega) (by omega)
      refine e_M_time_443 (sp_M_waysOf hR (hF.eqv hE) (by omega) hk0 (hh0 τ hF) ⟨fun _ => ?_, fun h => by omega⟩)
      rw [e1, Int.toNat_natCast]
      refine ⟨⟨by omega, by omega⟩, ⟨by omega, by omega⟩, ih _ (fun a i b1 b2 b3 => ?_) (fun v2 hv2 => ?_) (fun v2 hv2 => ?_)⟩
      · rw [ms_nk b2]; exact hF a i b1 b2 b3
      · rw [ms_nk (by decide)]; exact h1 v2 hv2
      · by_cases e : v2 = v
        · subst e; rw [ms_eq]; exact h1 v2 hv
        · rw [ms_ni e]; exact h2 v2 (by omega)
  -- all ways of this level
  have ways : ∀ τ, TF σ τ → (k < n → ∀ v, v < wyN A h (k + 1) → τ 78 v = vW A h c n (k + 1) v) → (∀ v, v < 0 → τ 79 v = vW A h c n k v) → K_M_time_289 (d + 3) Q x1 x2 x3 x4 (k : Int) y0 (X : Int) ((0 : Nat) : Int) τ := by
    refine upto (n := wyN A h k) (P := fun v => ∀ τ, TF σ τ → (k < n → ∀ v, v < wyN A h (k + 1) → τ 78 v = vW A h c n (k + 1) v) → (∀ v2, v2 < v → τ 79 v2 = vW A h c n k v2) → K_M_time_289 (d + 3) Q x1 x2 x3 x4 (k : Int) y0 (X : Int) ((v : Nat) : Int) τ) (fun τ hF hl h1 => ?_) (fun v hv ih τ hF hl h1 => ?_)
    · exact e_M_time_289 (sp_M_waysOf hR (hF.eqv hE) (by omega) hk0 (hh0 τ hF) ⟨fun h => by omega, fun _ => copy τ hF h1 (fun v h => absurd h (by omega))⟩)
    · have e1 : w32 ((v : Int) + 1) = ((v + 1 : Nat) : Int) := w32_eq (by omega) (by omega)
      have e2 : w32 ((n : Int) - (k : Int)) = ((n - k : Nat) : Int) := w32_eq (by omega) (by omega)
      obtain ⟨W, hW⟩ : ∃ W, W = fm A h k v (fun t => A 9 t) := ⟨_, rfl⟩
      have hB : wB A k W := by
        rw [hW]
        have := fm_B hR (v := v) hk0 (wB.pr hR.1)
        rw [Nat.zero_add] at this
        exact this
      have gE := gath_bd hR.1 ho (j := 10) (p := 11) (Or.inr (Or.inl rfl)) (ls := []) (n := k) (w := W) none_lk (by simp; omega) hB
      simp only [List.length_nil, Int.pow_zero, Int.mul_one] at gE
      have p1 := p60 (n := n - k) (by omega)
      have qE := mul_bd gE (y := 60 ^ (n - k)) (Y := 216000) ⟨by omega, p1.1⟩
      have hM := sumW_bd hR.1 (hB.bd (by omega)) (Nat.le_refl (tN A))
      have hyb : 0 ≤ y0 ∧ y0 ≤ 99 := by
        by_cases e : k < n
        · have := hc k e
          rw [hy.1 e]; exact this
        · rw [hy.2 (by omega)]; decide
      have cM := mul_bd (x := -y0) (X := 99) ⟨by omega, by omega⟩ hM
      have cM2 := mul_bd (x := -y0 * sumN (tN A) W) (X := 99 * 4000000000) cM (y := 60 ^ (n - k)) (Y := 216000) ⟨by omega, p1.1⟩
      have fin : ∀ τ2, TF σ τ2 → (∀ a i, a ≠ 67 → τ2 a i = τ a i) → K_M_time_433 (d + 3) Q x1 x2 x3 x4 (k : Int) y0 (X : Int) (v : Int) (v : Int) (vW A h c n k v) τ2 := fun τ2 hF2 h67 => by
        refine e_M_time_433 ⟨⟨by omega, by omega⟩, ?_⟩
        rw [e1, Int.toNat_natCast]
        refine ih _ (fun a i b1 b2 b3 => ?_) (fun hkn v2 hv2 => ?_) (fun v2 hv2 => ?_)
        · rw [ms_nk b3]; exact hF2 a i b1 b2 b3
        · rw [ms_nk (by decide), h67 78 v2 (by decide)]; exact hl hkn v2 hv2
        · by_cases e : v2 = v
          · subst e; exact ms_eq
          · rw [ms_ni e, h67 79 v2 (by decide)]; exact h1 v2 (by omega)
      have go : ∀ τ2, TF σ τ2 → (∀ a i, a ≠ 67 → τ2 a i = τ a i) → K_M_time_367 (d + 3) Q x1 x2 x3 x4 (k : Int) y0 (X : Int) (v : Int) (gath A 10 11 [] W * 60 ^ (n - k)) (-y0 * sumN (tN A) W * 60 ^ (n - k)) τ2 := fun τ2 hF2 h67 => by
        refine e_M_time_367 ?_
        by_cases e : k < n
        · have hXs : X = sg A (h k) := by rw [hX, if_pos e]
          have hS := sgI hR (hk k e)
          have hup := mul_up (k := sg A (h k)) hv
          have w2 := wy216 hR (n := k + 1) (by omega) (fun i hi => hk i (by omega))
          have w2e : wyN A h (k + 1) = wyN A h k * sg A (h k) := rfl
          obtain ⟨m, hm⟩ : ∃ m, n - k = m + 1 := ⟨n - k - 1, by omega⟩
          have hm2 : n - (k + 1) = m := by omega
          have lat : ∀ s, s < sg A (h k) → τ2 78 (v * sg A (h k) + s) = tv A h c m (k + 1) (fun t => W t * pt A (h k) t s) := fun s hs => by
            rw [h67 78 _ (by decide), hl e _ (by omega)]
            unfold vW
            rw [hm2, hW]
            exact tv_congr (fun t _ => fm_next hs)
          have tb : ∀ s, s < sg A (h k) → -864000000000000000 ≤ tv A h c m (k + 1) (fun t => W t * pt A (h k) t s) ∧ tv A h c m (k + 1) (fun t => W t * pt A (h k) t s) ≤ 864000000000000000 := fun s hs => by
            have b := tv_bd hR ho hk hc hn (m := m) (k := k + 1) (w := fun t => W t * pt A (h k) t s) (by omega) (hB.st hR.1 (hk k e) (by omega))
            have p3 := p60 (n := m) (by omega)
            have b2 : ((m : Int) + 1) * 1000000000000 * 60 ^ m ≤ 4 * 1000000000000 * 216000 := Int.mul_le_mul (by omega) p3.1 (by omega) (by omega)
            omega
          have sb : ∀ j, j ≤ sg A (h k) → -6000000000000000000 ≤ sumN j (fun s => tv A h c m (k + 1) (fun t => W t * pt A (h k) t s)) ∧ sumN j (fun s => tv A h c m (k + 1) (fun t => W t * pt A (h k) t s)) ≤ 6000000000000000000 := fun j hj => by
            have := sumN_bd (n := j) (f := fun s => tv A h c m (k + 1) (fun t => W t * pt A (h k) t s)) (B := 864000000000000000) (fun s hs => tb s (by omega))
            have e : (j : Int) * 864000000000000000 ≤ 6 * 864000000000000000 := by omega
            omega
          have val : vW A h c n k v = max (gath A 10 11 [] W * 60 ^ (n - k)) (-y0 * sumN (tN A) W * 60 ^ (n - k) + sumN (sg A (h k)) (fun s => tv A h c m (k + 1) (fun t => W t * pt A (h k) t s))) := by
            unfold vW
            rw [hm, ← hW, hy.1 e]
            rfl
          have loop := upto (n := sg A (h k)) (P := fun s => K_M_time_372 (d + 3) Q x1 x2 x3 x4 (k : Int) y0 (X : Int) (v : Int) (gath A 10 11 [] W * 60 ^ (n - k)) (-y0 * sumN (tN A) W * 60 ^ (n - k) + sumN s (fun s => tv A h c m (k + 1) (fun t => W t * pt A (h k) t s))) ((s : Nat) : Int) τ2) ?_ (fun s hs ih2 => ?_)
          · have e0 : sumN 0 (fun s => tv A h c m (k + 1) (fun t => W t * pt A (h k) t s)) = 0 := rfl
            rw [e0, Int.add_zero] at loop
            exact loop
          · refine e_M_time_372 ⟨fun h => by omega, fun _ => ⟨fun _ => ⟨fun h5 => ?_, fun h5 => e_M_time_431 ?_⟩, fun h => by rw [g48 τ2 hF2] at h; omega⟩⟩
            · have := fin τ2 hF2 h67
              rw [val, Int.max_eq_right (by omega)] at this
              exact this
            · have := fin τ2 hF2 h67
              rw [val, Int.max_eq_left (by omega)] at this
              exact this
          · have e5 : w32 ((s : Int) + 1) = ((s + 1 : Nat) : Int) := w32_eq (by omega) (by omega)
            have e6 : w32 ((v : Int) * (X : Int)) = ((v * sg A (h k) : Nat) : Int) := by rw [hXs, ← Int.natCast_mul]; exact w32_eq rfl (by omega)
            have e7 : w32 (((v * sg A (h k) : Nat) : Int) + (s : Int)) = ((v * sg A (h k) + s : Nat) : Int) := w32_eq (by omega) (by omega)
            have b1 := tb s hs
            have b2 := sb s (by omega)
            have b3 : sumN (s + 1) (fun s => tv A h c m (k + 1) (fun t => W t * pt A (h k) t s)) = sumN s (fun s => tv A h c m (k + 1) (fun t => W t * pt A (h k) t s)) + tv A h c m (k + 1) (fun t => W t * pt A (h k) t s) := rfl
            refine e_M_time_372 ⟨fun _ => ⟨?_, ?_⟩, fun h => by omega⟩
            · rw [e6, e7]; omega
            · rw [e5, e6, e7, Int.toNat_natCast, lat s hs, w64_id (by omega) (by omega), Int.add_assoc]
              rw [b3] at ih2
              exact ih2
        · have hkn2 : k = n := by omega
          have hX0 : X = 0 := by rw [hX, if_neg e]
          have val : vW A h c n k v = gath A 10 11 [] W * 60 ^ (n - k) := by
            unfold vW
            rw [show n - k = 0 by omega, ← hW, Int.pow_zero, Int.mul_one]
            rfl
          refine e_M_time_372 ⟨fun h => by omega, fun _ => ⟨fun h => by rw [g48 τ2 hF2] at h; omega, fun _ => e_M_time_431 ?_⟩⟩
          rw [← val]
          exact fin τ2 hF2 h67
      refine e_M_time_289 (sp_M_waysOf hR (hF.eqv hE) (by omega) hk0 (hh0 τ hF) ⟨fun _ => ?_, fun h => by omega⟩)
      rw [g48 τ hF, e2]
      refine sp_M_power (by omega) (sp_M_hearWay hR (hF.eqv hE) (by omega) (by omega) hk0 (hh0 τ hF) (fun r τ2 hF2 hw hr => ⟨fun h0 => ?_, fun h0 => ?_⟩))
      · have hz : ∀ t, t < tN A → W t = 0 := by
          rcases hr with h2 | h2
          · omega
          · rw [hW]; exact h2.2
        refine e_M_time_344 ⟨fun _ => ?_, fun h => absurd h0 h⟩
        have := go τ2 (hF.trans hF2.tf) hF2
        rw [gath_0 hz, sumN_z hz, Int.mul_zero, Int.zero_mul] at this
        exact this
      · have hE2 := (hF.trans hF2.tf).eqv hE
        rw [← hW] at hw
        refine sp_M_Ex (wi := 1) (p := 11) hR.1 hE2 ho rfl (by omega) rfl (hB.bd (by omega)) hw ?_
        rw [w64_id (x := gath A 10 11 [] W * 60 ^ (n - k)) (by omega) (by omega)]
        refine e_M_time_344 ⟨fun h => absurd h h0, fun _ => sp_M_allMass hR.1 hE2 (hB.bd (by omega)) hw ?_⟩
        rw [w32_id (x := -y0) (by omega) (by omega), w64_id (x := -y0 * sumN (tN A) W) (by omega) (by omega), w64_id (x := -y0 * sumN (tN A) W * 60 ^ (n - k)) (by omega) (by omega)]
        exact go τ2 (hF.trans hF2.tf) hF2
  have start := ways σ0 hF0 hlat (fun v h => absurd h (by omega))
  refine e_M_time_257 ⟨fun hq => ?_, fun hq => ?_⟩
  · rw [g48 σ0 hF0] at hq
    have hl := hk k (by omega)
    have hS := sgI hR hl
    have e76 : σ0 76 k = ((h k : Nat) : Int) := by rw [hF0 76 k (by decide) (by decide) (by decide)]; exact h76 k (by omega)
    have e53 : σ0 53 (h k) = ((sg A (h k) : Nat) : Int) := ((hF0.eqv hE) 53 _ rfl).trans hS.2.2.2
    rw [Int.toNat_natCast, e76, Int.toNat_natCast, e53]
    refine ⟨⟨by omega, by omega⟩, ⟨by omega, by omega⟩, e_M_time_284 ?_⟩
    rw [hX, if_pos (by omega)] at start
    exact start
  · rw [g48 σ0 hF0] at hq
    refine e_M_time_284 ?_
    rw [hX, if_neg (by omega)] at start
    exact start
