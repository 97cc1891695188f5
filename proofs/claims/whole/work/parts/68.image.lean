-- PURE, 39: image, on
def CP (S D : Nat) (σ σ1 : Mem) : Prop := (∀ k i, ¬ (D ≤ k ∧ k ≤ D + 11) → σ1 k i = σ k i) ∧ (σ1 D 0 = σ S 0 ∧ σ1 D 1 = σ S 1 ∧ σ1 D 2 = σ S 2 ∧ σ1 D 3 = σ S 3 ∧ σ1 D 6 = σ S 6 ∧ σ1 D 10 = σ S 10 ∧ σ1 D 13 = σ S 13 ∧ σ1 D 16 = σ S 16) ∧ (∀ i, i < 4 → σ1 (D + 1) i = σ (S + 1) i) ∧ (∀ i, i < 4 → σ1 (D + 2) i = σ (S + 2) i) ∧ (∀ i, i < 24 → σ1 (D + 3) i = σ (S + 3) i) ∧ (∀ i, i < 24 → σ1 (D + 4) i = σ (S + 4) i) ∧ (∀ i, i < 24 → σ1 (D + 5) i = σ (S + 5) i) ∧ (∀ i, i < 12 → σ1 (D + 6) i = σ (S + 6) i) ∧ (∀ i, i < 288 → σ1 (D + 7) i = σ (S + 7) i) ∧ (∀ i, i < 6 → σ1 (D + 8) i = σ (S + 8) i) ∧ (∀ i, i < 6 → σ1 (D + 9) i = σ (S + 9) i) ∧ (∀ i, i < 16 → σ1 (D + 10) i = σ (S + 10) i) ∧ (∀ i, i < 4 → σ1 (D + 11) i = σ (S + 11) i)
theorem mc_ne {τ : Mem} {so sp d dp n k j : Nat} (hk : k ≠ d) : mcpy τ so sp d dp n k j = τ k j := if_neg (fun z => hk z.1)
theorem mc_in {τ : Mem} {so d n j : Nat} (hj : j < n) : mcpy τ so 0 d 0 n d j = τ so j := by
  have : mcpy τ so 0 d 0 n d j = τ so (0 + (j - 0)) := if_pos ⟨rfl, by omega, by omega⟩
  rw [this, Nat.zero_add, Nat.sub_zero]
theorem sp_S_copyA {d : Nat} {σ : Mem} {Q : Int → Mem → Prop} (hb : isB (σ 7 0)) (hQ : ∀ σ1, CP 7 19 σ σ1 → Q 0 σ1) : wp (d + 1) m_S_copyFrom [.inr (.inr 19), .inr (.inr 7)] σ Q := by
  refine e_S_copyFromA ?_
  first
    | refine hQ _ ⟨fun k i hk => ?_, ⟨?_, ?_, ?_, ?_, ?_, ?_, ?_, ?_⟩, fun i hi => ?_, fun i hi => ?_, fun i hi => ?_, fun i hi => ?_, fun i hi => ?_, fun i hi => ?_, fun i hi => ?_, fun i hi => ?_, fun i hi => ?_, fun i hi => ?_, fun i hi => ?_⟩
    | refine ⟨hb, hQ _ ⟨fun k i hk => ?_, ⟨?_, ?_, ?_, ?_, ?_, ?_, ?_, ?_⟩, fun i hi => ?_, fun i hi => ?_, fun i hi => ?_, fun i hi => ?_, fun i hi => ?_, fun i hi => ?_, fun i hi => ?_, fun i hi => ?_, fun i hi => ?_, fun i hi => ?_, fun i hi => ?_⟩⟩
  · simp (discharger := omega) only [mc_ne, ms_nk]
  · simp (discharger := decide) only [mc_ne, ms_nk, ms_ni, ms_eq]
  · simp (discharger := decide) only [mc_ne, ms_nk, ms_ni, ms_eq]
  · simp (discharger := decide) only [mc_ne, ms_nk, ms_ni, ms_eq]
  · simp (discharger := decide) only [mc_ne, ms_nk, ms_ni, ms_eq]
  · simp (discharger := decide) only [mc_ne, ms_nk, ms_ni, ms_eq]
  · simp (discharger := decide) only [mc_ne, ms_nk, ms_ni, ms_eq]
  · simp (discharger := decide) only [mc_ne, ms_nk, ms_ni, ms_eq]
  · simp (discharger := decide) only [mc_ne, ms_nk, ms_ni, ms_eq]
  · simp (discharger := first | decide | omega) only [mc_ne, mc_in, ms_nk]
  · simp (discharger := first | decide | omega) only [mc_ne, mc_in, ms_nk]
  · simp (discharger := first | decide | omega) only [mc_ne, mc_in, ms_nk]
  · simp (discharger := first | decide | omega) only [mc_ne, mc_in, ms_nk]
  · simp (discharger := first | decide | omega) only [mc_ne, mc_in, ms_nk]
  · simp (discharger := first | decide | omega) only [mc_ne, mc_in, ms_nk]
  · simp (discharger := first | decide | omega) only [mc_ne, mc_in, ms_nk]
  · simp (discharger := first | decide | omega) only [mc_ne, mc_in, ms_nk]
  · simp (discharger := first | decide | omega) only [mc_ne, mc_in, ms_nk]
  · simp (discharger := first | decide | omega) only [mc_ne, mc_in, ms_nk]
  · simp (discharger := first | decide | omega) only [mc_ne, mc_in, ms_nk]
theorem sp_S_copyB {d : Nat} {σ : Mem} {Q : Int → Mem → Prop} (hb : isB (σ 19 0)) (hQ : ∀ σ1, CP 19 7 σ σ1 → Q 0 σ1) : wp (d + 1) m_S_copyFrom [.inr (.inr 7), .inr (.inr 19)] σ Q := by
  refine e_S_copyFromB ?_
  first
    | refine hQ _ ⟨fun k i hk => ?_, ⟨?_, ?_, ?_, ?_, ?_, ?_, ?_, ?_⟩, fun i hi => ?_, fun i hi => ?_, fun i hi => ?_, fun i hi => ?_, fun i hi => ?_, fun i hi => ?_, fun i hi => ?_, fun i hi => ?_, fun i hi => ?_, fun i hi => ?_, fun i hi => ?_⟩
    | refine ⟨hb, hQ _ ⟨fun k i hk => ?_, ⟨?_, ?_, ?_, ?_, ?_, ?_, ?_, ?_⟩, fun i hi => ?_, fun i hi => ?_, fun i hi => ?_, fun i hi => ?_, fun i hi => ?_, fun i hi => ?_, fun i hi => ?_, fun i hi => ?_, fun i hi => ?_, fun i hi => ?_, fun i hi => ?_⟩⟩
  · simp (discharger := omega) only [mc_ne, ms_nk]
  · simp (discharger := decide) only [mc_ne, ms_nk, ms_ni, ms_eq]
  · simp (discharger := decide) only [mc_ne, ms_nk, ms_ni, ms_eq]
  · simp (discharger := decide) only [mc_ne, ms_nk, ms_ni, ms_eq]
  · simp (discharger := decide) only [mc_ne, ms_nk, ms_ni, ms_eq]
  · simp (discharger := decide) only [mc_ne, ms_nk, ms_ni, ms_eq]
  · simp (discharger := decide) only [mc_ne, ms_nk, ms_ni, ms_eq]
  · simp (discharger := decide) only [mc_ne, ms_nk, ms_ni, ms_eq]
  · simp (discharger := decide) only [mc_ne, ms_nk, ms_ni, ms_eq]
  · simp (discharger := first | decide | omega) only [mc_ne, mc_in, ms_nk]
  · simp (discharger := first | decide | omega) only [mc_ne, mc_in, ms_nk]
  · simp (discharger := first | decide | omega) only [mc_ne, mc_in, ms_nk]
  · simp (discharger := first | decide | omega) only [mc_ne, mc_in, ms_nk]
  · simp (discharger := first | decide | omega) only [mc_ne, mc_in, ms_nk]
  · simp (discharger := first | decide | omega) only [mc_ne, mc_in, ms_nk]
  · simp (discharger := first | decide | omega) only [mc_ne, mc_in, ms_nk]
  · simp (discharger := first | decide | omega) only [mc_ne, mc_in, ms_nk]
  · simp (discharger := first | decide | omega) only [mc_ne, mc_in, ms_nk]
  · simp (discharger := first | decide | omega) only [mc_ne, mc_in, ms_nk]
  · simp (discharger := first | decide | omega) only [mc_ne, mc_in, ms_nk]
theorem SR.move {S D : Nat} {ms ms2 : Nat → Nat → Int} {σ σ1 : Mem} (h : SR S ms σ) (c : CP S D σ σ1) (hm : ∀ f i, inR f i → ms2 f i = ms f i) : SR D ms2 σ1 := by
  obtain ⟨-, ⟨c0, c1, c2, c3, c6, c10, c13, c16⟩, a1, a2, a3, a4, a5, a6, a7, a8, a9, a10, a11⟩ := c
  have hb := h.2.1
  have m0 : ∀ i, i < 6 → ms2 0 i = ms 0 i := fun i hi => hm 0 i (Or.inl ⟨rfl, hi⟩)
  refine ⟨⟨?_, ?_, ?_, ?_, ?_, ?_⟩, ?_, ?_, fun t ht => ?_, ?_, fun a t ha ht => ?_, fun l hl => ?_, fun l t s hl ht hs => ?_, fun l t hl ht => ?_, fun i hi => ?_, fun i hi => ?_⟩
  · rw [m0 0 (by omega), c1]; exact h.1.1
  · rw [m0 1 (by omega), c2]; exact h.1.2.1
  · rw [m0 2 (by omega), c3]; exact h.1.2.2.1
  · rw [m0 3 (by omega), c10]; exact h.1.2.2.2.1
  · rw [m0 4 (by omega), c13]; exact h.1.2.2.2.2.1
  · rw [m0 5 (by omega), c16]; exact h.1.2.2.2.2.2
  · rw [c1, c2, c3, c10, c13, c16]; exact hb
  · rw [c0, c1, c2]; exact h.2.2.1
  · rw [c1] at ht
    rw [hm 1 t (Or.inr (Or.inl ⟨Or.inl rfl, by omega⟩)), hm 2 t (Or.inr (Or.inl ⟨Or.inr rfl, by omega⟩)), a1 t (by omega), a2 t (by omega)]
    exact h.2.2.2.1 t ht
  · rw [c6, c1, h.2.2.2.2.1]
    exact sumN_congr (fun t ht => (a2 t (by omega)).symm)
  · rw [c2] at ha
    rw [c1] at ht
    rw [hm 3 (4 * a + t) (Or.inr (Or.inr (Or.inl ⟨rfl, by omega⟩))), hm 3 (24 + 4 * a + t) (Or.inr (Or.inr (Or.inl ⟨rfl, by omega⟩))), hm 3 (48 + 4 * a + t) (Or.inr (Or.inr (Or.inl ⟨rfl, by omega⟩))), a3 _ (by omega), a4 _ (by omega), a5 _ (by omega)]
    exact h.2.2.2.2.2.1 a t ha ht
  · rw [c10] at hl
    rw [hm 4 l (Or.inr (Or.inr (Or.inr (Or.inl ⟨rfl, by omega⟩)))), a6 l (by omega)]
    exact h.2.2.2.2.2.2.1 l hl
  · rw [c10] at hl
    rw [c1] at ht
    rw [a6 l (by omega)] at hs
    have := h.2.2.2.2.2.2.1 l hl
    rw [hm 5 _ (Or.inr (Or.inr (Or.inr (Or.inr (Or.inl ⟨rfl, by omega⟩))))), a7 _ (by omega)]
    exact h.2.2.2.2.2.2.2.1 l t s hl ht hs
  · rw [c10] at hl
    rw [c1] at ht
    have := h.2.2.2.2.2.2.1 l hl
    rw [a6 l (by omega), ← h.2.2.2.2.2.2.2.2.1 l t hl ht]
    exact sumN_congr (fun s hs => a7 _ (by omega))
  · rw [c13] at hi
    rw [hm 6 i (Or.inr (Or.inr (Or.inr (Or.inr (Or.inr (Or.inl ⟨Or.inl rfl, by omega⟩)))))), hm 7 i (Or.inr (Or.inr (Or.inr (Or.inr (Or.inr (Or.inl ⟨Or.inr rfl, by omega⟩)))))), a8 i (by omega), a9 i (by omega), c10]
    exact h.2.2.2.2.2.2.2.2.2.1 i hi
  · rw [c16] at hi
    obtain ⟨g1, g2, g3, g, g4, g5, g6⟩ := h.2.2.2.2.2.2.2.2.2.2 i hi
    rw [hm 8 i (Or.inr (Or.inr (Or.inr (Or.inr (Or.inr (Or.inr (Or.inl ⟨rfl, by omega⟩))))))), a11 i (by omega)]
    refine ⟨g1, g2, g3, g, g4, fun t ht => ?_, ?_⟩
    · rw [hm 9 (4 * i + t) (Or.inr (Or.inr (Or.inr (Or.inr (Or.inr (Or.inr (Or.inr ⟨rfl, by omega⟩))))))), a10 _ (by omega), c1]
      exact g5 t ht
    · rw [sumN_congr (g := fun t => σ (S + 10) (4 * i + t)) (fun t ht => a10 _ (by omega))]
      exact g6
def liveP (k i : Nat) : Bool := match k with
  | 31 => Nat.beq i 0
  | 49 => Nat.beq i 19
  | 7 => true
  | 15 => true
  | k => (Nat.ble 32 k && Nat.ble k 34) || (Nat.ble 61 k && Nat.ble k 63)
theorem PastR_msk {A : Mem} : PastR (mskB liveP A) ↔ PastR A := Iff.rfl
theorem SR19_msk {ms : Nat → Nat → Int} {A : Mem} : SR 19 ms (mskB (fun k _ => Nat.ble 19 k && Nat.ble k 30) A) ↔ SR 19 ms A := Iff.rfl
theorem SR7_msk {ms : Nat → Nat → Int} {A : Mem} : SR 7 ms (mskB (fun k _ => Nat.ble 7 k && Nat.ble k 18) A) ↔ SR 7 ms A := Iff.rfl
def RT (A : Mem) : Prop := (A 0 2 = A 49 16 ∧ 0 ≤ A 0 2 ∧ A 0 2 ≤ 24 ∧ ∀ j : Nat, (j : Int) < A 0 2 → A 6 j = A 59 j ∧ 0 ≤ A 6 j ∧ A 6 j ≤ 60) ∧
  (A 1 1 = A 49 18 ∧ 0 ≤ A 1 1 ∧ A 1 1 ≤ 90 ∧ ∀ j : Nat, (j : Int) < A 1 1 → A 2 j = A 60 j ∧ 0 ≤ A 2 j ∧ A 2 j ≤ 255) ∧ ∀ j : Nat, j < 7 → A 48 j = A 64 j
def liveT (k i : Nat) : Bool := match k with
  | 0 => Nat.beq i 2
  | 1 => Nat.beq i 1
  | 2 => true
  | 6 => true
  | 48 => true
  | 49 => Nat.beq i 16 || Nat.beq i 18
  | 59 => true
  | 60 => true
  | 64 => true
  | _ => false
theorem RT_msk {A : Mem} : RT (mskB liveT A) ↔ RT A := Iff.rfl
theorem RT.eqv {A B : Mem} (h : RT A) (e : ∀ k i, liveT k i = true → B k i = A k i) : RT B := RT_msk.mp (by rw [mskB_eq e]; exact RT_msk.mpr h)
theorem PastR.eqv {A B : Mem} (h : PastR A) (e : ∀ k i, liveP k i = true → B k i = A k i) : PastR B := PastR_msk.mp (by rw [mskB_eq e]; exact PastR_msk.mpr h)
theorem SR.eqv7 {A B : Mem} (h : SR 7 (mLive A) A) (e : ∀ k i, liveS k i = true → B k i = A k i) : SR 7 (mLive B) B := SR_mskS.mp (by rw [mskB_eq e]; exact SR_mskS.mpr h)
theorem SR.c19 {ms : Nat → Nat → Int} {A B : Mem} (h : SR 19 ms A) (e : ∀ k i, 19 ≤ k ∧ k ≤ 30 → B k i = A k i) : SR 19 ms B := SR19_msk.mp (by
  rw [mskB_eq (fun k i hl => e k i (by simp only [Bool.and_eq_true] at hl; exact ⟨Nat.le_of_ble_eq_true hl.1, Nat.le_of_ble_eq_true hl.2⟩))]
  exact SR19_msk.mpr h)
theorem SR.c7 {ms : Nat → Nat → Int} {A B : Mem} (h : SR 7 ms A) (e : ∀ k i, 7 ≤ k ∧ k ≤ 18 → B k i = A k i) : SR 7 ms B := SR7_msk.mp (by
  rw [mskB_eq (fun k i hl => e k i (by simp only [Bool.and_eq_true] at hl; exact ⟨Nat.le_of_ble_eq_true hl.1, Nat.le_of_ble_eq_true hl.2⟩))]
  exact SR7_msk.mpr h)
theorem SR.ms {b : Nat} {ms ms2 : Nat → Nat → Int} {A : Mem} (h : SR b ms A) (e : ms2 = ms) : SR b ms2 A := by rw [e]; exact h
theorem live_ok {f : Nat → Nat → Bool} {k i : Nat} {l : List (Nat × Nat)} (h : f k i = true) (hl : ∀ x ∈ l, f x.1 x.2 = false) : ∀ x ∈ l, ¬ (k = x.1 ∧ i = x.2) := fun x hx z => by
  have := hl x hx
  rw [← z.1, ← z.2, h] at this
  cases this
theorem pr_image {A : Mem} (hR : RR A) : wp 40 m_X_image [.inr (.inr 0)] A (fun r σ1 => wp 40 m_M_image [.inr (.inr 49)] σ1 (fun r2 σ2 => PQ r r2 σ2)) := by
  have sc := hR.sc
  refine e_X_image ⟨fun h => ?_, fun h => ?_⟩
  · repeat' first
    | with_reducible refine e_M_image ?_
    | with_reducible refine xr1 ?_
    | with_reducible refine xr2 ?_
    | with_reducible refine xr3 ?_
    | with_reducible refine xr4 ?_
    | with_reducible refine xr6 ?_
    | with_reducible refine mr1 ?_
    | with_reducible refine mr2 ?_
    | with_reducible refine mr3 ?_
    | with_reducible refine mr4 ?_
    | with_reducible refine mr6 ?_
    | with_reducible refine xf1 ?_
    | with_reducible refine xf2 ?_
    | with_reducible refine xf3 ?_
    | with_reducible refine xf6 ?_
    | with_reducible refine mf1 ?_
    | with_reducible refine mf2 ?_
    | with_reducible refine mf3 ?_
    | with_reducible refine mf6 ?_
    | with_reducible exact isB0
    | with_reducible exact isB1
    | with_reducible refine And.intro ?_ ?_
    | (with_reducible refine fun (hz : (_ : Int) < _) => ?_) <;> ((try simp (discharger := first | decide | omega) only [ms_eq, ms_nk, ms_ni, w32_id, w64_id, Int.toNat_natCast, not_true_eq_false, not_false_eq_true] at hz) ; (try (exfalso; omega)))
    | (with_reducible refine fun (hz : (_ : Int) ≤ _) => ?_) <;> ((try simp (discharger := first | decide | omega) only [ms_eq, ms_nk, ms_ni, w32_id, w64_id, Int.toNat_natCast, not_true_eq_false, not_false_eq_true] at hz) ; (try (exfalso; omega)))
    | (with_reducible refine fun (hz : (_ : Int) = _) => ?_) <;> ((try simp (discharger := first | decide | omega) only [ms_eq, ms_nk, ms_ni, w32_id, w64_id, Int.toNat_natCast, not_true_eq_false, not_false_eq_true] at hz) ; (try (exfalso; omega)))
    | (with_reducible refine fun (hz : ¬ (_ : Int) = _) => ?_) <;> ((try simp (discharger := first | decide | omega) only [ms_eq, ms_nk, ms_ni, w32_id, w64_id, Int.toNat_natCast, not_true_eq_false, not_false_eq_true] at hz) ; (try (exfalso; omega)))
    | (with_reducible refine fun (hz : _ ∨ _) => ?_) <;> ((try simp (discharger := first | decide | omega) only [ms_eq, ms_nk, ms_ni, w32_id, w64_id, Int.toNat_natCast, not_true_eq_false, not_false_eq_true] at hz) ; (try (exfalso; omega)))
    | omega
    | (simp (discharger := first | decide | omega) only [ms_eq, ms_nk, ms_ni, w32_id, w64_id, Int.toNat_natCast, not_true_eq_false, not_false_eq_true] ; omega)
    exact PQ.rf0 hR (by decide)
  · refine sp_S_copyA (by rcases sc.2.2.1 with z | z <;> unfold isB <;> omega) (fun σ1 hc => ?_)
    have k1 := hc.1
    have q0 : σ1 49 0 = A 49 0 := k1 49 0 (by omega)
    refine e_M_image ⟨fun h => by omega, fun _ => ?_⟩
    refine sp_M_moveAll (tk := true) (by rw [ms_eq]; rfl) (fun B hI => ?_)
    have kB : ∀ k i, k ≠ 80 → ¬ (k = 49 ∧ (i = 55 ∨ i = 57 ∨ i = 58)) → B k i = σ1 k i := fun k i h1 h2 => by rw [hI.2.2.2.1 rfl k i h1 (by omega), ms_ne (by omega), ms_ne (by omega)]
    have k2 : ∀ k i, k ≠ 80 ∧ ¬ (k = 49 ∧ (i = 55 ∨ i = 57 ∨ i = 58)) ∧ ¬ (19 ≤ k ∧ k ≤ 30) → B k i = A k i := fun k i h => by rw [kB k i h.1 h.2.1, k1 k i (by omega)]
    have e55 : B 49 55 = 1 := by rw [hI.2.2.2.1 rfl 49 55 (by decide) (by omega), ms_ni (by decide), ms_eq]
    have eL : ∀ f i, mLive B f i = mLive A f i := fun f i => by
      unfold mLive
      split
      · split <;> exact k2 _ _ (by omega)
      all_goals exact k2 _ _ (by omega)
    have h19 : SR 19 (mImg B) σ1 := hR.1.move hc (fun f i hf => by rw [mImg_eq hI hf]; exact eL f i)
    refine ⟨?_, hR.1.eqv7 (fun k i hl => ?_), Or.inr ⟨?_, e55, h19.c19 (fun k i hk => kB k i (by omega) (by omega))⟩, hR.2.2.1.eqv (fun k i hl => ?_), RT.eqv (A := A) hR.2.2.2 (fun k i hl => ?_)⟩
    · rw [k1 7 10 (by omega), k2 49 6 (by omega)]; omega
    · have l := live_ok (l := [(49, 55), (49, 57), (49, 58)]) hl (by decide)
      simp only [List.mem_cons, List.not_mem_nil, or_false, forall_eq_or_imp, forall_eq] at l
      have n80 := live_x (o := 80) hl rfl
      have nn : ¬ (19 ≤ k ∧ k ≤ 30) := fun z => by
        have e9 : liveS k i = ((Nat.ble 7 k && Nat.ble k 18) || (Nat.ble 50 k && Nat.ble k 58)) := by
          unfold liveS
          split
          · omega
          · rfl
        rw [e9] at hl
        simp only [Bool.or_eq_true, Bool.and_eq_true] at hl
        rcases hl with hl | hl
        · have := Nat.le_of_ble_eq_true hl.2; omega
        · have := Nat.le_of_ble_eq_true hl.1; omega
      exact k2 k i (by omega)
    · rw [kB 19 0 (by omega) (by omega), hc.2.1.1]; omega
    · have l := live_ok (l := [(49, 55), (49, 57), (49, 58)]) hl (by decide)
      simp only [List.mem_cons, List.not_mem_nil, or_false, forall_eq_or_imp, forall_eq] at l
      have n80 := live_x (o := 80) hl rfl
      have nn : ¬ (19 ≤ k ∧ k ≤ 30) := fun z => by
        have e9 : liveP k i = ((Nat.ble 32 k && Nat.ble k 34) || (Nat.ble 61 k && Nat.ble k 63)) := by
          unfold liveP
          split <;> first | omega | rfl
        rw [e9] at hl
        simp only [Bool.or_eq_true, Bool.and_eq_true] at hl
        rcases hl with hl | hl
        · have := Nat.le_of_ble_eq_true hl.1; omega
        · have := Nat.le_of_ble_eq_true hl.1; omega
      exact k2 k i (by omega)
    · have l := live_ok (l := [(49, 55), (49, 57), (49, 58)]) hl (by decide)
      simp only [List.mem_cons, List.not_mem_nil, or_false, forall_eq_or_imp, forall_eq] at l
      have n80 := live_x (o := 80) hl rfl
      have nn : ¬ (19 ≤ k ∧ k ≤ 30) := fun z => by
        have e9 : liveT k i = false := by
          unfold liveT
          split <;> first | omega | rfl
        rw [e9] at hl
        cases hl
      exact k2 k i (by omega)
theorem pr_on {A : Mem} (hR : RR A) : wp 40 m_X_on [.inr (.inr 0)] A (fun r σ1 => wp 40 m_M_on [.inr (.inr 49)] σ1 (fun r2 σ2 => PQ r r2 σ2)) := by
  have sc := hR.sc
  have hImg := hR.2.1
  by_cases h0 : A 19 0 = 0
  · have h55 : A 49 55 = 0 := by
      rcases hImg with z | z
      · exact z.2
      · have := z.1; omega
    repeat' first
      | with_reducible refine e_X_on ?_
      | with_reducible refine e_M_on ?_
      | with_reducible refine xr1 ?_
      | with_reducible refine xr2 ?_
      | with_reducible refine xr3 ?_
      | with_reducible refine xr4 ?_
      | with_reducible refine xr6 ?_
      | with_reducible refine mr1 ?_
      | with_reducible refine mr2 ?_
      | with_reducible refine mr3 ?_
      | with_reducible refine mr4 ?_
      | with_reducible refine mr6 ?_
      | with_reducible refine xf1 ?_
      | with_reducible refine xf2 ?_
      | with_reducible refine xf3 ?_
      | with_reducible refine xf6 ?_
      | with_reducible refine mf1 ?_
      | with_reducible refine mf2 ?_
      | with_reducible refine mf3 ?_
      | with_reducible refine mf6 ?_
      | with_reducible exact isB0
      | with_reducible exact isB1
      | with_reducible refine And.intro ?_ ?_
      | (with_reducible refine fun (hz : (_ : Int) < _) => ?_) <;> ((try simp (discharger := first | decide | omega) only [ms_eq, ms_nk, ms_ni, w32_id, w64_id, Int.toNat_natCast, not_true_eq_false, not_false_eq_true] at hz) ; (try (exfalso; omega)))
      | (with_reducible refine fun (hz : (_ : Int) ≤ _) => ?_) <;> ((try simp (discharger := first | decide | omega) only [ms_eq, ms_nk, ms_ni, w32_id, w64_id, Int.toNat_natCast, not_true_eq_false, not_false_eq_true] at hz) ; (try (exfalso; omega)))
      | (with_reducible refine fun (hz : (_ : Int) = _) => ?_) <;> ((try simp (discharger := first | decide | omega) only [ms_eq, ms_nk, ms_ni, w32_id, w64_id, Int.toNat_natCast, not_true_eq_false, not_false_eq_true] at hz) ; (try (exfalso; omega)))
      | (with_reducible refine fun (hz : ¬ (_ : Int) = _) => ?_) <;> ((try simp (discharger := first | decide | omega) only [ms_eq, ms_nk, ms_ni, w32_id, w64_id, Int.toNat_natCast, not_true_eq_false, not_false_eq_true] at hz) ; (try (exfalso; omega)))
      | (with_reducible refine fun (hz : _ ∨ _) => ?_) <;> ((try simp (discharger := first | decide | omega) only [ms_eq, ms_nk, ms_ni, w32_id, w64_id, Int.toNat_natCast, not_true_eq_false, not_false_eq_true] at hz) ; (try (exfalso; omega)))
      | omega
      | (simp (discharger := first | decide | omega) only [ms_eq, ms_nk, ms_ni, w32_id, w64_id, Int.toNat_natCast, not_true_eq_false, not_false_eq_true] ; omega)
    all_goals exact PQ.rf0 hR (by decide)
  · obtain ⟨i1, i2, i3⟩ : A 19 0 = 1 ∧ A 49 55 = 1 ∧ SR 19 (mImg A) A := by
      rcases hImg with z | z
      · exact absurd z.1 h0
      · exact z
    refine e_X_on ⟨fun h => absurd h h0, fun _ => sp_S_copyB (Or.inr i1) (fun σ1 hc => ?_)⟩
    have k1 := hc.1
    have q55 : mset σ1 31 0 0 49 55 = 1 := by rw [ms_nk (by decide), k1 49 55 (by omega)]; exact i2
    refine e_M_on ⟨fun h => by omega, fun _ => ?_⟩
    refine sp_M_moveAll (tk := false) (by rw [ms_eq]; rfl) (fun B hI => ?_)
    have kB : ∀ k i, k ≠ 80 → ¬ (50 ≤ k ∧ k ≤ 58) → ¬ (k = 49 ∧ (i = 0 ∨ i = 1 ∨ i = 5 ∨ i = 6 ∨ i = 9 ∨ i = 12 ∨ i = 57 ∨ i = 58)) → ¬ (k = 31 ∧ i = 0) → B k i = σ1 k i := fun k i h1 h2 h3 h4 => by rw [hI.2.2.2.2.2 k i h1 h2 (by omega), ms_ne (by omega), ms_ne (by omega)]
    have e80 : ∀ i, B 80 i = A 80 i := fun i => by rw [hI.2.2.2.2.1 rfl i, ms_nk (by decide), ms_nk (by decide), k1 80 i (by omega)]
    have eI : ∀ f i, mImg B f i = mImg A f i := fun f i => by
      unfold mImg
      split <;> exact e80 _
    obtain ⟨C, hC⟩ : ∃ C, C = mset B 49 19 0 := ⟨_, rfl⟩
    have cB : ∀ k i, ¬ (k = 49 ∧ i = 19) → C k i = B k i := fun k i h => by rw [hC]; exact ms_ne (by omega)
    have eLC : mLive C = mLive B := by
      funext f i
      unfold mLive
      split
      · split <;> exact cB _ _ (by omega)
      all_goals exact cB _ _ (by omega)
    have eIC : mImg C = mImg A := by
      funext f i
      rw [← eI f i]
      unfold mImg
      split <;> exact cB _ _ (by omega)
    have k2 : ∀ k i, k ≠ 80 ∧ ¬ (50 ≤ k ∧ k ≤ 58) ∧ ¬ (k = 49 ∧ (i = 0 ∨ i = 1 ∨ i = 5 ∨ i = 6 ∨ i = 9 ∨ i = 12 ∨ i = 57 ∨ i = 58)) ∧ ¬ (k = 31 ∧ i = 0) ∧ ¬ (k = 49 ∧ i = 19) ∧ ¬ (7 ≤ k ∧ k ≤ 18) → C k i = A k i := fun k i h => by rw [cB k i (by omega), kB k i (by omega) (by omega) (by omega) (by omega), k1 k i (by omega)]
    have h7 : SR 7 (mLive B) σ1 := i3.move hc (fun f i hf => by rw [← mImg_eq hI hf]; exact eI f i)
    have h7C : SR 7 (mLive C) C := (h7.c7 (fun k i hk => by rw [cB k i (by omega)]; exact kB k i (by omega) (by omega) (by omega) (by omega))).ms eLC
    have c31 : C 31 0 = 0 := by rw [cB 31 0 (by omega), hI.2.2.2.2.2 31 0 (by decide) (by omega) (by omega), ms_nk (by decide), ms_eq]
    have c49 : C 49 19 = 0 := by rw [hC, ms_eq]
    rw [← hC]
    refine ⟨?_, h7C, Or.inr ⟨?_, ?_, ?_⟩, ⟨by rw [c31, c49], by omega, by omega, fun j hj => by omega, ?_⟩, RT.eqv (A := A) hR.2.2.2 (fun k i hl => ?_)⟩
    · have e1 : mLive C 0 3 = C 7 10 := h7C.1.2.2.2.1
      have e2 : C 49 6 = C 7 10 := e1
      rw [e2, cB 7 10 (by omega), ms_nk (by decide)]
      exact (kB 7 10 (by omega) (by omega) (by omega) (by omega)).symm
    · rw [k2 19 0 (by omega)]; exact i1
    · rw [k2 49 55 (by omega)]; exact i2
    · exact (i3.c19 (fun k i hk => k2 k i (by omega))).ms eIC
    · rw [c31]
      exact ⟨h7C.2.1.2.2.2.2.2.1, h7C.2.1.2.2.2.2.2.2.2.1, fun i hi => (h7C.2.2.2.2.2.2.2.2.2.1 i hi).2.2.1⟩
    · have l := live_ok (l := [(49, 0), (49, 1), (49, 5), (49, 6), (49, 9), (49, 12), (49, 57), (49, 58), (31, 0), (49, 19)]) hl (by decide)
      simp only [List.mem_cons, List.not_mem_nil, or_false, forall_eq_or_imp, forall_eq] at l
      have n80 := live_x (o := 80) hl rfl
      have nn : ¬ (50 ≤ k ∧ k ≤ 58) ∧ ¬ (7 ≤ k ∧ k ≤ 18) := by
        constructor
        all_goals
          intro z
          have e9 : liveT k i = false := by
            unfold liveT
            split <;> first | omega | rfl
          rw [e9] at hl
          cases hl
      exact k2 k i (by omega)
