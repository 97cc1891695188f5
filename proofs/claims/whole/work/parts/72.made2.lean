-- PURE, 43: made, chance
theorem b396 {k : Nat} (h : k ≤ 4) : (396 : Int) ^ k ≤ 24591257856 ∧ (1 : Int) ≤ 396 ^ k := by
  match k, h with
  | 0, _ => decide
  | 1, _ => decide
  | 2, _ => decide
  | 3, _ => decide
  | 4, _ => decide
theorem fac_bd {x y X Y : Int} (hx : 0 ≤ x ∧ x ≤ X) (hy : 0 ≤ y ∧ y ≤ Y) : 0 ≤ x * y ∧ x * y ≤ X * Y := ⟨Int.mul_nonneg hx.1 hy.1, Int.mul_le_mul hx.2 hy.2 hy.1 (by omega)⟩
theorem sp_S_comesBack {d : Nat} {A σ : Mem} {Q : Int → Mem → Prop} (hR : RQ A) (hE : Eqv A σ) {t : Nat} (ht : t < tN A) (h1 : sumC A t = dueC A t → Q 1 σ) (h0 : ¬ sumC A t = dueC A t → Q 0 σ) : wp (d + 2) m_S_comesBack [.inr (.inr 7), .inl (t : Int)] σ Q := by
  have hT := thE hR
  have h4 := tN4 hR.1
  have h6 := tot_bd hR.1
  have e16 : σ 7 16 = ((thN A : Nat) : Int) := by rw [hE 7 16 rfl]; exact hT.1
  have hp := hR.1.pr (lt_tN ht)
  have hs := shS_bd hR (Nat.le_refl (thN A))
  have b0 := fac_bd (x := A 9 t) (X := 99) ⟨by omega, by omega⟩ hs
  have tb : ∀ i, i < thN A → 0 ≤ totC A i ∧ totC A i ≤ 396 := fun i hi => by have := (tot_b hR hi).1; omega
  have bP : ∀ k, k ≤ thN A → 0 ≤ A 9 t * shS A * prN (totC A) k ∧ A 9 t * shS A * prN (totC A) k ≤ 1000000000000000 := fun k hk => by
    have pb := prN_bd (f := totC A) (B := 396) (by decide) (k := k) (fun i hi => tb i (by omega))
    have p4 := b396 (k := k) (by omega)
    have := fac_bd b0 ⟨pb.1, Int.le_trans pb.2 p4.1⟩
    unfold shS
    omega
  have bO : ∀ i k, i < thN A → k ≤ thN A → 0 ≤ A 7 6 * A 18 i * A 17 (4 * i + t) * prX (totC A) i k ∧ A 7 6 * A 18 i * A 17 (4 * i + t) * prX (totC A) i k ≤ 100000000000000000 := fun i k hi hk => by
    obtain ⟨-, s1, s2, g, hg, h, -⟩ := thR hR hi
    have w := h t (by omega)
    have pb := prX_bd (f := totC A) (B := 396) (x := i) (by decide) (k := k) (fun i hi => tb i (by omega))
    have p4 := b396 (k := k) (by omega)
    have q1 := fac_bd h6 (y := A 18 i) (Y := 99) ⟨by omega, s2⟩
    have q2 := fac_bd q1 (y := A 17 (4 * i + t)) (Y := 99) ⟨w.2.1, w.2.2.1⟩
    have := fac_bd q2 ⟨pb.1, Int.le_trans pb.2 p4.1⟩
    omega
  have bS : ∀ k, k ≤ thN A → 0 ≤ sumN k (fun i => A 7 6 * A 18 i * A 17 (4 * i + t) * prX (totC A) i (thN A)) ∧ sumN k (fun i => A 7 6 * A 18 i * A 17 (4 * i + t) * prX (totC A) i (thN A)) ≤ 400000000000000000 := fun k hk => by
    have b := sumN_bd (n := k) (f := fun i => A 7 6 * A 18 i * A 17 (4 * i + t) * prX (totC A) i (thN A)) (B := 100000000000000000) (fun i hi => by have := bO i (thN A) (by omega) (Nat.le_refl _); constructor <;> omega)
    have c := sumN_nn (n := k) (f := fun i => A 7 6 * A 18 i * A 17 (4 * i + t) * prX (totC A) i (thN A)) (fun i hi => (bO i (thN A) (by omega) (Nat.le_refl _)).1)
    have e : (k : Int) * 100000000000000000 ≤ 400000000000000000 := by omega
    omega
  refine e_S_comesBack ⟨⟨by omega, by omega⟩, sp_S_allShares hR hE ?_⟩
  rw [Int.toNat_natCast, hE 9 t rfl]
  have b00 : w64 (A 9 t * shS A) = A 9 t * shS A := w64_id (by unfold shS; omega) (by unfold shS; omega)
  rw [b00]
  have key := upto (n := thN A) (P := fun i => K_S_comesBack_18 (d + 1) Q (t : Int) (A 9 t * shS A * prN (totC A) i) (sumN i (fun i => A 7 6 * A 18 i * A 17 (4 * i + t) * prX (totC A) i (thN A))) ((i : Nat) : Int) σ) ?_ (fun i hi ih => ?_)
  · have e0 : prN (totC A) 0 = 1 := rfl
    rw [e0, Int.mul_one] at key
    exact key
  · exact e_S_comesBack_18 ⟨fun h => by omega, fun _ => ⟨h1, h0⟩⟩
  · have e1 : w32 ((i : Int) + 1) = ((i + 1 : Nat) : Int) := w32_eq (by omega) (by omega)
    have e4 : w32 ((i : Int) * 4) = ((4 * i : Nat) : Int) := w32_eq (by omega) (by omega)
    have e5 : w32 (((4 * i : Nat) : Int) + (t : Int)) = ((4 * i + t : Nat) : Int) := w32_eq (by omega) (by omega)
    have q1 := bP (i + 1) (by omega)
    have eP : prN (totC A) (i + 1) = prN (totC A) i * totC A i := rfl
    rw [eP, ← Int.mul_assoc] at q1
    have q2 := bO i 0 hi (by omega)
    have eX : prX (totC A) i 0 = 1 := rfl
    rw [eX, Int.mul_one] at q2
    obtain ⟨-, s1, s2, g, hg, h, -⟩ := thR hR hi
    have q3 := fac_bd h6 (y := A 18 i) (Y := 99) ⟨by omega, s2⟩
    refine e_S_comesBack_18 ⟨fun _ => sp_S_thoughtTotal hR hE hi ⟨⟨by omega, by omega⟩, ?_⟩, fun h => by omega⟩
    rw [e4, e5, Int.toNat_natCast, Int.toNat_natCast, hE 7 6 rfl, hE 18 i rfl, hE 17 _ rfl, w64_id (x := A 7 6 * A 18 i) (by omega) (by omega), w64_id (x := A 7 6 * A 18 i * A 17 (4 * i + t)) (by omega) (by omega), w64_id (x := A 9 t * shS A * prN (totC A) i * totC A i) (by omega) (by omega)]
    refine ⟨⟨by omega, by omega⟩, ?_⟩
    have inner := upto (n := thN A) (P := fun o => K_S_comesBack_67 (d + 1) Q (t : Int) (A 9 t * shS A * prN (totC A) i * totC A i) (sumN i (fun i => A 7 6 * A 18 i * A 17 (4 * i + t) * prX (totC A) i (thN A))) (i : Int) (A 7 6 * A 18 i * A 17 (4 * i + t) * prX (totC A) i o) ((o : Nat) : Int) σ) ?_ (fun o ho ih2 => ?_)
    · rw [eX, Int.mul_one] at inner
      exact inner
    · have q4 : 0 ≤ sumN i (fun i => A 7 6 * A 18 i * A 17 (4 * i + t) * prX (totC A) i (thN A)) + A 7 6 * A 18 i * A 17 (4 * i + t) * prX (totC A) i (thN A) ∧ sumN i (fun i => A 7 6 * A 18 i * A 17 (4 * i + t) * prX (totC A) i (thN A)) + A 7 6 * A 18 i * A 17 (4 * i + t) * prX (totC A) i (thN A) ≤ 400000000000000000 := bS (i + 1) (by omega)
      refine e_S_comesBack_67 ⟨fun h => by omega, fun _ => ?_⟩
      rw [e1, w64_id (by omega) (by omega)]
      rw [eP, ← Int.mul_assoc] at ih
      exact ih
    · have e6 : w32 ((o : Int) + 1) = ((o + 1 : Nat) : Int) := w32_eq (by omega) (by omega)
      have eo : prX (totC A) i (o + 1) = if o = i then prX (totC A) i o else prX (totC A) i o * totC A o := rfl
      have q5 := bO i (o + 1) hi (by omega)
      refine e_S_comesBack_67 ⟨fun _ => ?_, fun h => by omega⟩
      rw [e6]
      refine ⟨fun h5 => ?_, fun h5 => sp_S_thoughtTotal hR hE ho ?_⟩
      · rw [eo, if_pos (by omega)] at ih2
        exact ih2
      · rw [eo, if_neg (by omega), ← Int.mul_assoc] at ih2 q5
        rw [w64_id (by omega) (by omega)]
        exact ih2
/-- only limbs have changed -/
def LL (σ σ1 : Mem) : Prop := ∀ k i, k ≠ 68 → k ≠ 70 → σ1 k i = σ k i
theorem LL.id {σ : Mem} : LL σ σ := fun _ _ _ _ => rfl
theorem LL.trans {σ σ1 σ2 : Mem} (h1 : LL σ σ1) (h2 : LL σ1 σ2) : LL σ σ2 := fun k i a b => (h2 k i a b).trans (h1 k i a b)
theorem LF.ll7 {σ σ1 : Mem} (h : LF 70 σ σ1) : LL σ σ1 := fun k i _ b => h k i b
theorem LF.ll6 {σ σ1 : Mem} (h : LF 68 σ σ1) : LL σ σ1 := fun k i a _ => h k i a
theorem LL.eqv {A σ σ1 : Mem} (h : LL σ σ1) (hE : Eqv A σ) : Eqv A σ1 := fun k i hl => by
  rw [h k i (live_x (o := 68) hl rfl) (live_x (o := 70) hl rfl)]
  exact hE k i hl
theorem sp_M_isLeft {d : Nat} {A σ : Mem} {Q : Int → Mem → Prop} (hR : RQ A) (hE : Eqv A σ) {t : Nat} (ht : t < tN A) (hQ : ∀ r σ1, LL σ σ1 → ((r = 1 ∧ sumM A t = dueM A t) ∨ (r = 0 ∧ ¬ sumM A t = dueM A t)) → Q r σ1) : wp (d + 2) m_M_isLeft [.inr (.inr 49), .inl (t : Int)] σ Q := by
  have hT := thE hR
  have h4 := tN4 hR.1
  have h6 := tot_bd hR.1
  have hp := hR.1.pr (lt_tN ht)
  have hs := shS_bd hR (Nat.le_refl (thN A))
  have tb : ∀ i, i < thN A → 0 ≤ totM A i ∧ totM A i ≤ 396 := fun i hi => (tot_b hR hi).2
  have s12 : ∀ τ, LL σ τ → τ 49 12 = ((thN A : Nat) : Int) := fun τ hF => by rw [hF.eqv hE 49 12 rfl]; exact hT.2.2
  have b0 := fac_bd hs (y := A 9 t) (Y := 99) ⟨by omega, by omega⟩
  have bP : ∀ k, k ≤ thN A → 0 ≤ shS A * A 9 t * prN (totM A) k ∧ shS A * A 9 t * prN (totM A) k ≤ 1000000000000000 := fun k hk => by
    have pb := prN_bd (f := totM A) (B := 396) (by decide) (k := k) (fun i hi => tb i (by omega))
    have p4 := b396 (k := k) (by omega)
    have := fac_bd b0 ⟨pb.1, Int.le_trans pb.2 p4.1⟩
    unfold shS
    omega
  have bO : ∀ i k, i < thN A → k ≤ thN A → 0 ≤ A 18 i * A 57 (4 * i + t) * A 7 6 * prX (totM A) i k ∧ A 18 i * A 57 (4 * i + t) * A 7 6 * prX (totM A) i k ≤ 100000000000000000 := fun i k hi hk => by
    obtain ⟨-, s1, s2, -⟩ := thR hR hi
    have w := th57 hR hi (t := t) (by omega)
    have pb := prX_bd (f := totM A) (B := 396) (x := i) (by decide) (k := k) (fun i hi => tb i (by omega))
    have p4 := b396 (k := k) (by omega)
    have q1 := fac_bd (x := A 18 i) (X := 99) ⟨by omega, s2⟩ w
    have q2 := fac_bd q1 h6
    have := fac_bd q2 ⟨pb.1, Int.le_trans pb.2 p4.1⟩
    omega
  have bS : ∀ k, k ≤ thN A → 0 ≤ sumN k (fun i => A 18 i * A 57 (4 * i + t) * A 7 6 * prX (totM A) i (thN A)) ∧ sumN k (fun i => A 18 i * A 57 (4 * i + t) * A 7 6 * prX (totM A) i (thN A)) ≤ 400000000000000000 := fun k hk => by
    have b := sumN_bd (n := k) (f := fun i => A 18 i * A 57 (4 * i + t) * A 7 6 * prX (totM A) i (thN A)) (B := 100000000000000000) (fun i hi => by have := bO i (thN A) (by omega) (Nat.le_refl _); constructor <;> omega)
    have c := sumN_nn (n := k) (f := fun i => A 18 i * A 57 (4 * i + t) * A 7 6 * prX (totM A) i (thN A)) (fun i hi => (bO i (thN A) (by omega) (Nat.le_refl _)).1)
    have e : (k : Int) * 100000000000000000 ≤ 400000000000000000 := by omega
    omega
  refine e_M_isLeft (sp_M_allBefore hR.1 hE ?_)
  rw [w32_id (x := A 7 6) (by omega) (by omega)]
  -- the comparison of limbs
  have cmp : ∀ τ, LL σ τ → lim τ 68 (sumM A t) → lim τ 70 (dueM A t) → K_M_isLeft_162 (d + 1) Q 1 0 τ := fun τ hF l1 l2 => by
    have no : ∀ k : Nat, k ≤ 12 → ¬ sumM A t = dueM A t → K_M_isLeft_162 (d + 1) Q 0 ((k : Nat) : Int) τ := fun k hk hne => by
      refine (fun (P : ∀ m k : Nat, k + m = 12 → K_M_isLeft_162 (d + 1) Q 0 ((k : Nat) : Int) τ) => P (12 - k) k (by omega)) ?_
      intro m
      induction m with
      | zero => intro k hk; exact e_M_isLeft_162 ⟨fun h => by omega, fun _ => ⟨isB0, hQ 0 τ hF (Or.inr ⟨rfl, hne⟩)⟩⟩
      | succ m ih =>
        intro k hk
        have e1 : w32 ((k : Int) + 1) = ((k + 1 : Nat) : Int) := w32_eq (by omega) (by omega)
        refine e_M_isLeft_162 ⟨fun _ => ⟨fun _ => ?_, fun h => absurd rfl h⟩, fun h => by omega⟩
        rw [e1]
        exact ih (k + 1) (by omega)
    refine upto (n := 12) (P := fun k => (∀ j, j < k → τ 70 j = τ 68 j) → K_M_isLeft_162 (d + 1) Q 1 ((k : Nat) : Int) τ) (fun hj => ?_) (fun k hk ih hj => ?_) (fun j h => absurd h (by omega))
    · refine e_M_isLeft_162 ⟨fun h => by omega, fun _ => ⟨isB1, hQ 1 τ hF (Or.inl ⟨rfl, ?_⟩)⟩⟩
      rw [← l1.2, ← l2.2]
      exact dg_congr (fun j hjj => (hj j hjj).symm)
    · have e1 : w32 ((k : Int) + 1) = ((k + 1 : Nat) : Int) := w32_eq (by omega) (by omega)
      refine e_M_isLeft_162 ⟨fun _ => ⟨fun h => by omega, fun _ => ⟨⟨by omega, by omega⟩, ⟨by omega, by omega⟩, ?_⟩⟩, fun h => by omega⟩
      rw [e1, Int.toNat_natCast]
      refine ⟨fun h => ih (fun j hjj => ?_), fun h => no (k + 1) (by omega) (fun z => h ?_)⟩
      · by_cases e : j = k
        · subst e; exact h
        · exact hj j (by omega)
      · exact dg_inj l2.1 l1.1 (by rw [l2.2, l1.2, z]) k hk
  -- what is due
  have due : ∀ τ, LL σ τ → lim τ 68 (sumM A t) → lim τ 70 (shS A * A 9 t) → K_M_isLeft_134 (d + 1) Q 0 τ := fun τ hF l1 l2 => by
    have key := upto (n := thN A) (P := fun k => ∀ τ, LL σ τ → lim τ 68 (sumM A t) → lim τ 70 (shS A * A 9 t * prN (totM A) k) → K_M_isLeft_134 (d + 1) Q ((k : Nat) : Int) τ) (fun τ hF l1 l2 => ?_) (fun k hk ih τ hF l1 l2 => ?_)
    · exact key τ hF l1 (by have e0 : prN (totM A) 0 = 1 := rfl
                            rw [e0, Int.mul_one]; exact l2)
    · exact e_M_isLeft_134 ⟨fun h => by rw [s12 τ hF] at h; omega, fun _ => cmp τ hF l1 l2⟩
    · have e1 : w32 ((k : Int) + 1) = ((k + 1 : Nat) : Int) := w32_eq (by omega) (by omega)
      have eP : prN (totM A) (k + 1) = prN (totM A) k * totM A k := rfl
      have b := bP (k + 1) (by omega)
      rw [eP, ← Int.mul_assoc] at b ih
      have tk := tb k hk
      refine e_M_isLeft_134 ⟨fun _ => sp_M_allOf hR (hF.eqv hE) hk (sp_M_times (by omega) l2 (by omega) (fun τ2 hF2 l3 => ?_)), fun h => by rw [s12 τ hF] at h; omega⟩
      rw [e1]
      exact ih τ2 (hF.trans hF2.ll7) (hF2.keep (by decide) l1) l3
  -- all thoughts
  have thoughts : ∀ τ, LL σ τ → lim τ 68 0 → K_M_isLeft_29 (d + 1) Q (t : Int) (A 7 6) 0 τ := fun τ hF l1 => by
    refine upto (n := thN A) (P := fun i => ∀ τ, LL σ τ → lim τ 68 (sumN i (fun i => A 18 i * A 57 (4 * i + t) * A 7 6 * prX (totM A) i (thN A))) → K_M_isLeft_29 (d + 1) Q (t : Int) (A 7 6) ((i : Nat) : Int) τ) (fun τ hF l1 => ?_) (fun i hi ih τ hF l1 => ?_) τ hF l1
    · refine e_M_isLeft_29 ⟨fun h => by rw [s12 τ hF] at h; omega, fun _ => ?_⟩
      refine sp_M_allShares hR (hF.eqv hE) (sp_M_begin (by unfold shS; omega) (fun τ2 hF2 l2 => ⟨⟨by omega, by omega⟩, ?_⟩))
      have e51 : τ2 51 t = A 9 t := ((hF.trans hF2.ll7).eqv hE 51 t rfl).trans hp.1
      rw [Int.toNat_natCast, e51]
      refine sp_M_times (by omega) l2 (by unfold shS; omega) (fun τ3 hF3 l3 => ?_)
      exact due τ3 ((hF.trans hF2.ll7).trans hF3.ll7) (hF3.keep (by decide) (hF2.keep (by decide) l1)) l3
    · have e1 : w32 ((i : Int) + 1) = ((i + 1 : Nat) : Int) := w32_eq (by omega) (by omega)
      have e4 : w32 (4 * (i : Int)) = ((4 * i : Nat) : Int) := w32_eq (by omega) (by omega)
      have e5 : w32 (((4 * i : Nat) : Int) + (t : Int)) = ((4 * i + t : Nat) : Int) := w32_eq (by omega) (by omega)
      obtain ⟨s0, s1, s2, -⟩ := thR hR hi
      have w := th57 hR hi (t := t) (by omega)
      have q1 := fac_bd (x := A 18 i) (X := 99) ⟨by omega, s2⟩ w
      have q2 := fac_bd q1 h6
      have e58 : τ 58 i = A 18 i := (hF.eqv hE 58 i rfl).trans s0
      refine e_M_isLeft_29 ⟨fun _ => ⟨⟨by omega, by omega⟩, ?_⟩, fun h => by rw [s12 τ hF] at h; omega⟩
      rw [Int.toNat_natCast, e58]
      refine sp_M_begin (by omega) (fun τ2 hF2 l2 => ?_)
      rw [e4, e5, Int.toNat_natCast, (hF.trans hF2.ll7).eqv hE 57 _ rfl]
      refine ⟨⟨by omega, by omega⟩, sp_M_times (by omega) l2 (by omega) (fun τ3 hF3 l3 => sp_M_times (by omega) l3 (by omega) (fun τ4 hF4 l4 => ?_))⟩
      have hF24 := ((hF.trans hF2.ll7).trans hF3.ll7).trans hF4.ll7
      have l14 := hF4.keep (by decide) (hF3.keep (by decide) (hF2.keep (by decide) l1))
      have key := upto (n := thN A) (P := fun o => ∀ τ, LL σ τ → lim τ 68 (sumN i (fun i => A 18 i * A 57 (4 * i + t) * A 7 6 * prX (totM A) i (thN A))) → lim τ 70 (A 18 i * A 57 (4 * i + t) * A 7 6 * prX (totM A) i o) → K_M_isLeft_69 (d + 1) Q (t : Int) (A 7 6) (i : Int) ((o : Nat) : Int) τ) (fun τ hF l1 l2 => ?_) (fun o ho ih2 τ hF l1 l2 => ?_)
      · exact key τ4 hF24 l14 (by have e0 : prX (totM A) i 0 = 1 := rfl
                                  rw [e0, Int.mul_one]; exact l4)
      · have b := bS (i + 1) (by omega)
        have eS : sumN (i + 1) (fun i => A 18 i * A 57 (4 * i + t) * A 7 6 * prX (totM A) i (thN A)) = sumN i (fun i => A 18 i * A 57 (4 * i + t) * A 7 6 * prX (totM A) i (thN A)) + A 18 i * A 57 (4 * i + t) * A 7 6 * prX (totM A) i (thN A) := rfl
        rw [eS] at b ih
        refine e_M_isLeft_69 ⟨fun h => by rw [s12 τ hF] at h; omega, fun _ => sp_M_addLimbs l1 l2 (by omega) (fun τ2 hF2 l3 => ?_)⟩
        rw [e1]
        exact ih τ2 (hF.trans hF2.ll6) l3
      · have e6 : w32 ((o : Int) + 1) = ((o + 1 : Nat) : Int) := w32_eq (by omega) (by omega)
        have eo : prX (totM A) i (o + 1) = if o = i then prX (totM A) i o else prX (totM A) i o * totM A o := rfl
        have q5 := bO i (o + 1) hi (by omega)
        have q6 := bO i o hi (by omega)
        refine e_M_isLeft_69 ⟨fun _ => ?_, fun h => by rw [s12 τ hF] at h; omega⟩
        rw [e6]
        refine ⟨fun h5 => ?_, fun h5 => ?_⟩
        · rw [eo, if_pos (by omega)] at ih2
          refine sp_M_times (v := 1) (by decide) l2 (by omega) (fun τ2 hF2 l3 => ih2 τ2 (hF.trans hF2.ll7) (hF2.keep (by decide) l1) ?_)
          rw [Int.mul_one] at l3
          exact l3
        · rw [eo, if_neg (by omega), ← Int.mul_assoc] at ih2 q5
          have tk := tb o ho
          refine sp_M_allOf hR (hF.eqv hE) ho (sp_M_times (by omega) l2 (by omega) (fun τ2 hF2 l3 => ih2 τ2 (hF.trans hF2.ll7) (hF2.keep (by decide) l1) l3))
  refine upto (n := 12) (P := fun k => ∀ τ, LL σ τ → (∀ j, j < k → τ 68 j = 0) → K_M_isLeft_8 (d + 1) Q (t : Int) (A 7 6) ((k : Nat) : Int) τ) (fun τ hF hz => ?_) (fun k hk ih τ hF hz => ?_) σ LL.id (fun j h => absurd h (by omega))
  · refine e_M_isLeft_8 ⟨fun h => by omega, fun _ => thoughts τ hF ⟨fun j hj => by rw [hz j hj]; decide, ?_⟩⟩
    rw [dg_congr (g := fun _ => 0) hz]
    decide
  · have e1 : w32 ((k : Int) + 1) = ((k + 1 : Nat) : Int) := w32_eq (by omega) (by omega)
    refine e_M_isLeft_8 ⟨fun _ => ⟨⟨by omega, by omega⟩, ?_⟩, fun h => by omega⟩
    rw [e1, Int.toNat_natCast]
    refine ih _ (fun a i b1 b2 => by rw [ms_nk b1]; exact hF a i b1 b2) (fun j hj => ?_)
    by_cases e : j = k
    · subst e; exact ms_eq
    · rw [ms_ni e]; exact hz j (by omega)
/-- r is the first truth of which it is otherwise, or -9 -/
def fo (A : Mem) (r : Int) : Prop := (r = -9 ∧ ∀ t, t < tN A → sumM A t = dueM A t) ∨ ∃ t, t < tN A ∧ r = (t : Int) ∧ ¬ sumM A t = dueM A t ∧ ∀ t2, t2 < t → sumM A t2 = dueM A t2
theorem fo_uniq {A : Mem} {r s : Int} (h1 : fo A r) (h2 : fo A s) : r = s := by
  rcases h1 with ⟨a1, a2⟩ | ⟨t, a1, a2, a3, a4⟩ <;> rcases h2 with ⟨b1, b2⟩ | ⟨u, b1, b2, b3, b4⟩
  · rw [a1, b1]
  · exact absurd (a2 u b1) b3
  · exact absurd (b2 t a1) a3
  · rcases Nat.lt_trichotomy t u with z | z | z
    · exact absurd (b4 t z) a3
    · rw [a2, b2, z]
    · exact absurd (a4 u z) b3
theorem sp_S_firstOff {d : Nat} {A σ : Mem} {Q : Int → Mem → Prop} (hR : RQ A) (hE : Eqv A σ) (hQ : ∀ r, fo A r → Q r σ) : wp (d + 3) m_S_firstOff [.inr (.inr 7)] σ Q := by
  have e1 : σ 7 1 = ((tN A : Nat) : Int) := by rw [hE 7 1 rfl]; exact tNe hR.1
  have h4 := tN4 hR.1
  refine e_S_firstOff ?_
  refine upto (n := tN A) (P := fun t => (∀ t2, t2 < t → sumM A t2 = dueM A t2) → K_S_firstOff_2 (d + 2) Q ((t : Nat) : Int) σ) (fun h => ?_) (fun t ht ih h => ?_) (fun t2 h => absurd h (by omega))
  · exact e_S_firstOff_2 ⟨fun h => by omega, fun _ => hQ _ (Or.inl ⟨rfl, h⟩)⟩
  · have e2 : w32 ((t : Int) + 1) = ((t + 1 : Nat) : Int) := w32_eq (by omega) (by omega)
    refine e_S_firstOff_2 ⟨fun _ => sp_S_comesBack hR hE ht (fun hc => ⟨fun h => by omega, fun _ => ?_⟩) (fun hc => ⟨fun _ => hQ _ (Or.inr ⟨t, ht, rfl, fun z => hc ((made_iff hR ht).mpr z), h⟩), fun h => absurd rfl h⟩), fun h => by omega⟩
    rw [e2]
    refine ih (fun t2 h2 => ?_)
    by_cases e : t2 = t
    · subst e; exact (made_iff hR ht).mp hc
    · exact h t2 (by omega)
theorem sp_M_firstOther {d : Nat} {A σ : Mem} {Q : Int → Mem → Prop} (hR : RQ A) (hE : Eqv A σ) (hQ : ∀ r σ1, LL σ σ1 → fo A r → Q r σ1) : wp (d + 3) m_M_firstOther [.inr (.inr 49)] σ Q := by
  have h4 := tN4 hR.1
  refine e_M_firstOther ?_
  refine upto (n := tN A) (P := fun t => ∀ τ, LL σ τ → (∀ t2, t2 < t → sumM A t2 = dueM A t2) → K_M_firstOther_2 (d + 2) Q ((t : Nat) : Int) τ) (fun τ hF h => ?_) (fun t ht ih τ hF h => ?_) σ LL.id (fun t2 h => absurd h (by omega))
  · exact e_M_firstOther_2 ⟨fun h => by rw [m490 hR.1 (hF.eqv hE)] at h; omega, fun _ => hQ _ τ hF (Or.inl ⟨rfl, h⟩)⟩
  · have e2 : w32 ((t : Int) + 1) = ((t + 1 : Nat) : Int) := w32_eq (by omega) (by omega)
    refine e_M_firstOther_2 ⟨fun _ => sp_M_isLeft hR (hF.eqv hE) ht (fun r τ2 hF2 hr => ⟨fun h0 => ?_, fun h0 => ?_⟩), fun h => by rw [m490 hR.1 (hF.eqv hE)] at h; omega⟩
    · refine hQ _ τ2 (hF.trans hF2) (Or.inr ⟨t, ht, rfl, ?_, h⟩)
      rcases hr with z | z
      · omega
      · exact z.2
    · rw [e2]
      refine ih τ2 (hF.trans hF2) (fun t2 h2 => ?_)
      by_cases e : t2 = t
      · subst e
        rcases hr with z | z
        · exact z.2
        · exact absurd z.1 h0
      · exact h t2 (by omega)
theorem pr_made {A : Mem} (hR : RR A) : wp 40 m_X_made [.inr (.inr 0)] A (fun r σ1 => wp 40 m_M_made [.inr (.inr 49)] σ1 (fun r2 σ2 => PQ r r2 σ2)) := by
  have sc := hR.sc
  repeat' first
    | with_reducible refine e_X_made ?_
    | with_reducible refine xr1 ?_
    | with_reducible refine xr2 ?_
    | with_reducible refine xr3 ?_
    | with_reducible refine xr4 ?_
    | with_reducible refine xr6 ?_
    | with_reducible refine mr1 ?_
    | with_reducible refine mr2 ?_
    | with_reducible refine mr3 ?_
    | with_reducible refine mr4 ?_
    | with_reducible refine mr6 ?_
    | with_reducible refine xf1 ?_
    | with_reducible refine xf2 ?_
    | with_reducible refine xf3 ?_
    | with_reducible refine xf6 ?_
    | with_reducible refine mf1 ?_
    | with_reducible refine mf2 ?_
    | with_reducible refine mf3 ?_
    | with_reducible refine mf6 ?_
    | with_reducible exact isB0
    | with_reducible exact isB1
    | with_reducible refine And.intro ?_ ?_
    | (with_reducible refine fun (hz : (_ : Int) < _) => ?_) <;> ((try simp (discharger := first | decide | omega) only [ms_eq, ms_nk, ms_ni, w32_id, w64_id, Int.toNat_natCast, not_true_eq_false, not_false_eq_true] at hz) ; (try (exfalso; omega)))
    | (with_reducible refine fun (hz : (_ : Int) ≤ _) => ?_) <;> ((try simp (discharger := first | decide | omega) only [ms_eq, ms_nk, ms_ni, w32_id, w64_id, Int.toNat_natCast, not_true_eq_false, not_false_eq_true] at hz) ; (try (exfalso; omega)))
    | (with_reducible refine fun (hz : (_ : Int) = _) => ?_) <;> ((try simp (discharger := first | decide | omega) only [ms_eq, ms_nk, ms_ni, w32_id, w64_id, Int.toNat_natCast, not_true_eq_false, not_false_eq_true] at hz) ; (try (exfalso; omega)))
    | (with_reducible refine fun (hz : ¬ (_ : Int) = _) => ?_) <;> ((try simp (discharger := first | decide | omega) only [ms_eq, ms_nk, ms_ni, w32_id, w64_id, Int.toNat_natCast, not_true_eq_false, not_false_eq_true] at hz) ; (try (exfalso; omega)))
    | (with_reducible refine fun (hz : _ ∨ _) => ?_) <;> ((try simp (discharger := first | decide | omega) only [ms_eq, ms_nk, ms_ni, w32_id, w64_id, Int.toNat_natCast, not_true_eq_false, not_false_eq_true] at hz) ; (try (exfalso; omega)))
    | omega
    | (simp (discharger := first | decide | omega) only [ms_eq, ms_nk, ms_ni, w32_id, w64_id, Int.toNat_natCast, not_true_eq_false, not_false_eq_true] ; omega)
  all_goals first
    | (repeat' first
      | with_reducible refine e_M_made ?_
      | with_reducible refine xr1 ?_
      | with_reducible refine xr2 ?_
      | with_reducible refine xr3 ?_
      | with_reducible refine xr4 ?_
      | with_reducible refine xr6 ?_
      | with_reducible refine mr1 ?_
      | with_reducible refine mr2 ?_
      | with_reducible refine mr3 ?_
      | with_reducible refine mr4 ?_
      | with_reducible refine mr6 ?_
      | with_reducible refine xf1 ?_
      | with_reducible refine xf2 ?_
      | with_reducible refine xf3 ?_
      | with_reducible refine xf6 ?_
      | with_reducible refine mf1 ?_
      | with_reducible refine mf2 ?_
      | with_reducible refine mf3 ?_
      | with_reducible refine mf6 ?_
      | with_reducible exact isB0
      | with_reducible exact isB1
      | with_reducible refine And.intro ?_ ?_
      | (with_reducible refine fun (hz : (_ : Int) < _) => ?_) <;> ((try simp (discharger := first | decide | omega) only [ms_eq, ms_nk, ms_ni, w32_id, w64_id, Int.toNat_natCast, not_true_eq_false, not_false_eq_true] at hz) ; (try (exfalso; omega)))
      | (with_reducible refine fun (hz : (_ : Int) ≤ _) => ?_) <;> ((try simp (discharger := first | decide | omega) only [ms_eq, ms_nk, ms_ni, w32_id, w64_id, Int.toNat_natCast, not_true_eq_false, not_false_eq_true] at hz) ; (try (exfalso; omega)))
      | (with_reducible refine fun (hz : (_ : Int) = _) => ?_) <;> ((try simp (discharger := first | decide | omega) only [ms_eq, ms_nk, ms_ni, w32_id, w64_id, Int.toNat_natCast, not_true_eq_false, not_false_eq_true] at hz) ; (try (exfalso; omega)))
      | (with_reducible refine fun (hz : ¬ (_ : Int) = _) => ?_) <;> ((try simp (discharger := first | decide | omega) only [ms_eq, ms_nk, ms_ni, w32_id, w64_id, Int.toNat_natCast, not_true_eq_false, not_false_eq_true] at hz) ; (try (exfalso; omega)))
      | (with_reducible refine fun (hz : _ ∨ _) => ?_) <;> ((try simp (discharger := first | decide | omega) only [ms_eq, ms_nk, ms_ni, w32_id, w64_id, Int.toNat_natCast, not_true_eq_false, not_false_eq_true] at hz) ; (try (exfalso; omega)))
      | omega
      | (simp (discharger := first | decide | omega) only [ms_eq, ms_nk, ms_ni, w32_id, w64_id, Int.toNat_natCast, not_true_eq_false, not_false_eq_true] ; omega)
       all_goals first
         | exact PQ.rf0 hR (by decide)
         | skip
       done)
    | skip
  refine sp_S_firstOff ⟨hR.1, trivial⟩ Eqv.rfl (fun r hr => ?_)
  refine e_M_made ⟨fun h => by omega, fun _ => ⟨fun h => by omega, fun _ => sp_M_firstOther ⟨hR.1, trivial⟩ Eqv.rfl (fun r2 σ2 hF hr2 => PQ.eqv hR (fo_uniq hr hr2) (hF.eqv Eqv.rfl))⟩⟩
theorem pr_chance {A : Mem} (hR : RR A) {a1 : Int} (i1 : InI a1) {a2 : Int} (i2 : InI a2) {a3 : Int} (i3 : InI a3) : wp 40 m_X_chance [.inr (.inr 0), .inl a1, .inl a2, .inl a3] A (fun r σ1 => wp 40 m_M_chance [.inr (.inr 49), .inl a1, .inl a2, .inl a3] σ1 (fun r2 σ2 => PQ r r2 σ2)) := by
  have sc := hR.sc
  unfold InI at i1 i2 i3
  have hT := thE ⟨hR.1, trivial⟩
  repeat' first
    | with_reducible refine e_X_chance ?_
    | with_reducible refine e_X_isPart ?_
    | with_reducible refine xr1 ?_
    | with_reducible refine xr2 ?_
    | with_reducible refine xr3 ?_
    | with_reducible refine xr4 ?_
    | with_reducible refine xr6 ?_
    | with_reducible refine mr1 ?_
    | with_reducible refine mr2 ?_
    | with_reducible refine mr3 ?_
    | with_reducible refine mr4 ?_
    | with_reducible refine mr6 ?_
    | with_reducible refine xf1 ?_
    | with_reducible refine xf2 ?_
    | with_reducible refine xf3 ?_
    | with_reducible refine xf6 ?_
    | with_reducible refine mf1 ?_
    | with_reducible refine mf2 ?_
    | with_reducible refine mf3 ?_
    | with_reducible refine mf6 ?_
    | with_reducible exact isB0
    | with_reducible exact isB1
    | with_reducible refine And.intro ?_ ?_
    | (with_reducible refine fun (hz : (_ : Int) < _) => ?_) <;> ((try simp (discharger := first | decide | omega) only [ms_eq, ms_nk, ms_ni, w32_id, w64_id, Int.toNat_natCast, not_true_eq_false, not_false_eq_true] at hz) ; (try (exfalso; omega)))
    | (with_reducible refine fun (hz : (_ : Int) ≤ _) => ?_) <;> ((try simp (discharger := first | decide | omega) only [ms_eq, ms_nk, ms_ni, w32_id, w64_id, Int.toNat_natCast, not_true_eq_false, not_false_eq_true] at hz) ; (try (exfalso; omega)))
    | (with_reducible refine fun (hz : (_ : Int) = _) => ?_) <;> ((try simp (discharger := first | decide | omega) only [ms_eq, ms_nk, ms_ni, w32_id, w64_id, Int.toNat_natCast, not_true_eq_false, not_false_eq_true] at hz) ; (try (exfalso; omega)))
    | (with_reducible refine fun (hz : ¬ (_ : Int) = _) => ?_) <;> ((try simp (discharger := first | decide | omega) only [ms_eq, ms_nk, ms_ni, w32_id, w64_id, Int.toNat_natCast, not_true_eq_false, not_false_eq_true] at hz) ; (try (exfalso; omega)))
    | (with_reducible refine fun (hz : _ ∨ _) => ?_) <;> ((try simp (discharger := first | decide | omega) only [ms_eq, ms_nk, ms_ni, w32_id, w64_id, Int.toNat_natCast, not_true_eq_false, not_false_eq_true] at hz) ; (try (exfalso; omega)))
    | omega
    | (simp (discharger := first | decide | omega) only [ms_eq, ms_nk, ms_ni, w32_id, w64_id, Int.toNat_natCast, not_true_eq_false, not_false_eq_true] ; omega)
  all_goals first
    | (repeat' first
      | with_reducible refine e_M_chance ?_
      | with_reducible refine e_M_isPart ?_
      | with_reducible refine e_M_in ?_
      | with_reducible refine xr1 ?_
      | with_reducible refine xr2 ?_
      | with_reducible refine xr3 ?_
      | with_reducible refine xr4 ?_
      | with_reducible refine xr6 ?_
      | with_reducible refine mr1 ?_
      | with_reducible refine mr2 ?_
      | with_reducible refine mr3 ?_
      | with_reducible refine mr4 ?_
      | with_reducible refine mr6 ?_
      | with_reducible refine xf1 ?_
      | with_reducible refine xf2 ?_
      | with_reducible refine xf3 ?_
      | with_reducible refine xf6 ?_
      | with_reducible refine mf1 ?_
      | with_reducible refine mf2 ?_
      | with_reducible refine mf3 ?_
      | with_reducible refine mf6 ?_
      | with_reducible exact isB0
      | with_reducible exact isB1
      | with_reducible refine And.intro ?_ ?_
      | (with_reducible refine fun (hz : (_ : Int) < _) => ?_) <;> ((try simp (discharger := first | decide | omega) only [ms_eq, ms_nk, ms_ni, w32_id, w64_id, Int.toNat_natCast, not_true_eq_false, not_false_eq_true] at hz) ; (try (exfalso; omega)))
      | (with_reducible refine fun (hz : (_ : Int) ≤ _) => ?_) <;> ((try simp (discharger := first | decide | omega) only [ms_eq, ms_nk, ms_ni, w32_id, w64_id, Int.toNat_natCast, not_true_eq_false, not_false_eq_true] at hz) ; (try (exfalso; omega)))
      | (with_reducible refine fun (hz : (_ : Int) = _) => ?_) <;> ((try simp (discharger := first | decide | omega) only [ms_eq, ms_nk, ms_ni, w32_id, w64_id, Int.toNat_natCast, not_true_eq_false, not_false_eq_true] at hz) ; (try (exfalso; omega)))
      | (with_reducible refine fun (hz : ¬ (_ : Int) = _) => ?_) <;> ((try simp (discharger := first | decide | omega) only [ms_eq, ms_nk, ms_ni, w32_id, w64_id, Int.toNat_natCast, not_true_eq_false, not_false_eq_true] at hz) ; (try (exfalso; omega)))
      | (with_reducible refine fun (hz : _ ∨ _) => ?_) <;> ((try simp (discharger := first | decide | omega) only [ms_eq, ms_nk, ms_ni, w32_id, w64_id, Int.toNat_natCast, not_true_eq_false, not_false_eq_true] at hz) ; (try (exfalso; omega)))
      | omega
      | (simp (discharger := first | decide | omega) only [ms_eq, ms_nk, ms_ni, w32_id, w64_id, Int.toNat_natCast, not_true_eq_false, not_false_eq_true] ; omega)
       all_goals first
         | exact PQ.rf0 hR (by decide)
         | skip
       done)
    | skip
  all_goals
    refine sp_S_firstOff ⟨hR.1, trivial⟩ Eqv.rfl (fun r hr => ?_)
    have hp3 : a3 = 0 ∨ a3 = 1 := by omega
    by_cases hr9 : r = -9
    · by_cases hv : (0 ≤ a1 ∧ a1 < A 7 16) ∧ 0 ≤ a2 ∧ a2 < A 7 1
      · obtain ⟨i, rfl⟩ : ∃ k : Nat, a1 = (k : Int) := ⟨a1.toNat, by omega⟩
        obtain ⟨t, rfl⟩ : ∃ k : Nat, a2 = (k : Int) := ⟨a2.toNat, by omega⟩
        have hi : i < thN A := by omega
        have htt : t < tN A := tN_lt (by omega)
        have h4 := tN4 hR.1
        have h6 := tot_bd hR.1
        have h6p := tot_pos hR.1 (by omega)
        have hp := hR.1.pr (lt_tN htt)
        have hs := shS_bd ⟨hR.1, trivial⟩ (Nat.le_refl (thN A))
        have tb := tot_b ⟨hR.1, trivial⟩ hi
        obtain ⟨s0, s1, s2, g, hg, h, h9⟩ := thR ⟨hR.1, trivial⟩ hi
        have w := h t (by omega)
        have w5 := th57 ⟨hR.1, trivial⟩ hi (t := t) (by omega)
        have hsp : 1 ≤ shS A := by
          have : A 18 i ≤ sumN (thN A) (fun i => A 18 i) := sumN_le (f := fun i => A 18 i) (fun j hj => by have := (thR ⟨hR.1, trivial⟩ hj).2.1; omega) hi
          unfold shS
          omega
        have hs396 : shS A ≤ 396 := hs.2
        have tc : totC A i = g * totM A i := by
          unfold totC totM
          rw [← sumN_mul]
          exact sumN_congr (fun t ht => (h t ht).1)
        have tmp : 1 ≤ totM A i := by
          refine Classical.byContradiction (fun z => ?_)
          have z0 : totM A i = 0 := by omega
          rw [z0, Int.mul_zero] at tc
          omega
        have f1 := fac_bd h6 (y := A 18 i) (Y := 99) ⟨by omega, s2⟩
        have f2 := fac_bd f1 (y := A 17 (4 * i + t)) (Y := 99) ⟨w.2.1, w.2.2.1⟩
        have f3 := fac_bd (x := A 9 t) (X := 99) ⟨by omega, by omega⟩ (y := shS A) (Y := 396) ⟨by omega, hs396⟩
        have f4 := fac_bd f3 (y := totC A i) (Y := 396) ⟨by omega, tb.1.2⟩
        have m1 := fac_bd (x := A 18 i) (X := 99) ⟨by omega, s2⟩ w5
        have m2 := fac_bd m1 h6
        have m3 := fac_bd tb.2 (y := shS A) (Y := 396) ⟨by omega, hs396⟩
        have m4 := fac_bd m3 (y := A 9 t) (Y := 99) ⟨by omega, by omega⟩
        have p1 : 0 < A 9 t * shS A * totC A i := Int.mul_pos (Int.mul_pos (by omega) (by omega)) (by omega)
        have p2 : 0 < totM A i * shS A * A 9 t := Int.mul_pos (Int.mul_pos (by omega) (by omega)) (by omega)
        refine ⟨fun _ => ⟨fun h => by omega, fun _ => ⟨fun _ => ?_, fun h => by omega⟩⟩, fun h => absurd hr9 h⟩
        refine e_S_hasTruth ⟨fun h => by omega, fun _ => ⟨fun _ => ⟨fun h => by omega, fun _ => ?_⟩, fun h => by omega⟩⟩
        have e4 : w32 ((i : Int) * 4) = ((4 * i : Nat) : Int) := w32_eq (by omega) (by omega)
        have e5 : w32 (((4 * i : Nat) : Int) + (t : Int)) = ((4 * i + t : Nat) : Int) := w32_eq (by omega) (by omega)
        have e6 : w32 (4 * (i : Int)) = ((4 * i : Nat) : Int) := w32_eq (by omega) (by omega)
        rw [e4, e5, Int.toNat_natCast, Int.toNat_natCast, Int.toNat_natCast, w64_id (x := A 7 6 * A 18 i) (by omega) (by omega), w64_id (x := A 7 6 * A 18 i * A 17 (4 * i + t)) (by omega) (by omega)]
        refine ⟨⟨by omega, by omega⟩, ⟨by omega, by omega⟩, ⟨by omega, by omega⟩, sp_S_allShares ⟨hR.1, trivial⟩ Eqv.rfl (sp_S_thoughtTotal ⟨hR.1, trivial⟩ Eqv.rfl hi ?_)⟩
        rw [w64_id (x := A 9 t * shS A) (by omega) (by omega), w64_id (x := A 9 t * shS A * totC A i) (by omega) (by omega)]
        refine sp_X_tell (by omega) (by omega) ?_
        have q16 := hT.2.2
        refine e_M_chance (e_M_isPart (e_M_in ⟨fun h => by omega, fun _ => ⟨fun h => by omega, fun _ => ⟨isB1, fun h => by omega, fun _ => ⟨fun h => by omega, fun _ => ⟨fun h => by omega, fun _ => ?_⟩⟩⟩⟩⟩))
        refine sp_M_firstOther ⟨hR.1, trivial⟩ Eqv.rfl (fun r2 τ hF hr2 => ⟨fun _ => ?_, fun h => absurd ((fo_uniq hr hr2).symm.trans hr9) h⟩)
        have hE := hF.eqv Eqv.rfl
        have q0 := hE 49 0 rfl
        have q12 := hE 49 12 rfl
        refine e_M_in ⟨fun h => by omega, fun _ => ⟨fun h => ?_, fun _ => ⟨fun h => by omega, fun _ => ?_⟩⟩⟩
        · rw [q12, w32_id (by omega) (by omega)] at h; omega
        refine e_M_isTruth (e_M_in ⟨fun h => by omega, fun _ => ⟨fun h => ?_, fun _ => ⟨isB1, fun h => by omega, fun _ => ?_⟩⟩⟩)
        · rw [q0, w32_id (by omega) (by omega)] at h; omega
        rw [e6, e5, Int.toNat_natCast, Int.toNat_natCast, Int.toNat_natCast, hE 58 i rfl, hE 57 _ rfl, s0]
        refine ⟨⟨by omega, by omega⟩, ⟨by omega, by omega⟩, sp_M_allBefore hR.1 hE (sp_M_allOf ⟨hR.1, trivial⟩ hE hi (sp_M_allShares ⟨hR.1, trivial⟩ hE ⟨⟨by omega, by omega⟩, ?_⟩))⟩
        have e51 : τ 51 t = A 9 t := (hE 51 t rfl).trans hp.1
        rw [e51, w64_id (x := A 18 i * A 57 (4 * i + t)) (by omega) (by omega), w64_id (x := A 18 i * A 57 (4 * i + t) * A 7 6) (by omega) (by omega), w64_id (x := totM A i * shS A) (by omega) (by omega), w64_id (x := totM A i * shS A * A 9 t) (by omega) (by omega)]
        refine sp_M_fr hp3 (by omega) (by omega) (PQ.eqv hR ?_ hE)
        refine frP_eq p1 p2 ?_
        rw [w.1, tc]
        grind
      · have ref : wp 40 m_M_chance [.inr (.inr 49), .inl a1, .inl a2, .inl a3] (mset A 48 1 (w32 (A 48 1 + 1))) (fun r2 σ2 => PQ (far 1) r2 σ2) := by
          obtain ⟨S, hS⟩ : ∃ S, S = mset A 48 1 (w32 (A 48 1 + 1)) := ⟨_, rfl⟩
          have hSR : SR 7 (mLive S) S := by rw [hS]; exact hR.1
          have qS : ∀ k i, k ≠ 48 → S k i = A k i := fun k i hk => by rw [hS]; exact ms_nk hk
          rw [← hS]
          refine e_M_chance (e_M_isPart (e_M_in ⟨fun h => by omega, fun _ => ⟨fun h => by omega, fun _ => ⟨isB1, fun h => by omega, fun _ => ⟨fun h => by rw [qS 49 0 (by decide)] at h; omega, fun _ => ⟨fun h => by rw [qS 49 12 (by decide)] at h; omega, fun _ => ?_⟩⟩⟩⟩⟩))
          refine sp_M_firstOther ⟨hSR, trivial⟩ Eqv.rfl (fun r2 τ hF hr2 => ?_)
          have hfo : fo A r2 := by rw [hS] at hr2; exact hr2
          have hE := hF.eqv (A := S) Eqv.rfl
          have q0 : τ 49 0 = A 49 0 := (hE 49 0 rfl).trans (qS 49 0 (by decide))
          have q12 : τ 49 12 = A 49 12 := (hE 49 12 rfl).trans (qS 49 12 (by decide))
          have fin : PQ (far 1) (far 1) (mset τ 64 1 (w32 (τ 64 1 + 1))) := by
            have e64 : τ 64 1 = A 64 1 := (hE 64 1 rfl).trans (qS 64 1 (by decide))
            refine PQ.rf hR (k := 1) (by decide) (fun c i hl => ?_)
            rw [e64]
            by_cases e : c = 64 ∧ i = 1
            · rw [e.1, e.2, ms_eq, ms_eq]
            · rw [ms_ne (by omega), ms_ne (o := 64) (by omega), hE c i hl, hS]
          refine ⟨fun _ => ?_, fun h => absurd ((fo_uniq hr hfo).symm.trans hr9) h⟩
          repeat' first
            | with_reducible refine e_M_in ?_
            | with_reducible refine e_M_isTruth ?_
            | with_reducible refine xr1 ?_
            | with_reducible refine xr2 ?_
            | with_reducible refine xr3 ?_
            | with_reducible refine xr4 ?_
            | with_reducible refine xr6 ?_
            | with_reducible refine mr1 ?_
            | with_reducible refine mr2 ?_
            | with_reducible refine mr3 ?_
            | with_reducible refine mr4 ?_
            | with_reducible refine mr6 ?_
            | with_reducible refine xf1 ?_
            | with_reducible refine xf2 ?_
            | with_reducible refine xf3 ?_
            | with_reducible refine xf6 ?_
            | with_reducible refine mf1 ?_
            | with_reducible refine mf2 ?_
            | with_reducible refine mf3 ?_
            | with_reducible refine mf6 ?_
            | with_reducible exact isB0
            | with_reducible exact isB1
            | with_reducible refine And.intro ?_ ?_
            | (with_reducible refine fun (hz : (_ : Int) < _) => ?_) <;> ((try simp (discharger := first | decide | omega) only [ms_eq, ms_nk, ms_ni, w32_id, w64_id, Int.toNat_natCast, not_true_eq_false, not_false_eq_true, q0, q12] at hz) ; (try (exfalso; omega)))
            | (with_reducible refine fun (hz : (_ : Int) ≤ _) => ?_) <;> ((try simp (discharger := first | decide | omega) only [ms_eq, ms_nk, ms_ni, w32_id, w64_id, Int.toNat_natCast, not_true_eq_false, not_false_eq_true, q0, q12] at hz) ; (try (exfalso; omega)))
            | (with_reducible refine fun (hz : (_ : Int) = _) => ?_) <;> ((try simp (discharger := first | decide | omega) only [ms_eq, ms_nk, ms_ni, w32_id, w64_id, Int.toNat_natCast, not_true_eq_false, not_false_eq_true, q0, q12] at hz) ; (try (exfalso; omega)))
            | (with_reducible refine fun (hz : ¬ (_ : Int) = _) => ?_) <;> ((try simp (discharger := first | decide | omega) only [ms_eq, ms_nk, ms_ni, w32_id, w64_id, Int.toNat_natCast, not_true_eq_false, not_false_eq_true, q0, q12] at hz) ; (try (exfalso; omega)))
            | (with_reducible refine fun (hz : _ ∨ _) => ?_) <;> ((try simp (discharger := first | decide | omega) only [ms_eq, ms_nk, ms_ni, w32_id, w64_id, Int.toNat_natCast, not_true_eq_false, not_false_eq_true, q0, q12] at hz) ; (try (exfalso; omega)))
            | omega
            | (simp (discharger := first | decide | omega) only [ms_eq, ms_nk, ms_ni, w32_id, w64_id, Int.toNat_natCast, not_true_eq_false, not_false_eq_true, q0, q12] ; omega)
          all_goals exact fin
        refine ⟨fun _ => ⟨fun h => xf1 ref, fun h => ⟨fun h2 => e_S_hasTruth ⟨fun h3 => ⟨fun _ => xf1 ref, fun h => absurd rfl h⟩, fun h3 => ⟨fun h4 => by omega, fun h4 => ⟨fun _ => xf1 ref, fun h => absurd rfl h⟩⟩⟩, fun h2 => xf1 ref⟩⟩, fun h => absurd hr9 h⟩
    · refine ⟨fun h => absurd h hr9, fun _ => xf3 ?_⟩
      obtain ⟨S, hS⟩ : ∃ S, S = mset A 48 3 (w32 (A 48 3 + 1)) := ⟨_, rfl⟩
      have hSR : SR 7 (mLive S) S := by rw [hS]; exact hR.1
      have qS : ∀ k i, k ≠ 48 → S k i = A k i := fun k i hk => by rw [hS]; exact ms_nk hk
      rw [← hS]
      refine e_M_chance (e_M_isPart (e_M_in ⟨fun h => by omega, fun _ => ⟨fun h => by omega, fun _ => ⟨isB1, fun h => by omega, fun _ => ⟨fun h => by rw [qS 49 0 (by decide)] at h; omega, fun _ => ⟨fun h => by rw [qS 49 12 (by decide)] at h; omega, fun _ => ?_⟩⟩⟩⟩⟩))
      refine sp_M_firstOther ⟨hSR, trivial⟩ Eqv.rfl (fun r2 τ hF hr2 => ?_)
      have hfo : fo A r2 := by rw [hS] at hr2; exact hr2
      have hE := hF.eqv (A := S) Eqv.rfl
      refine ⟨fun h => absurd ((fo_uniq hr hfo).trans h) hr9, fun _ => mf3 ?_⟩
      have e64 : τ 64 3 = A 64 3 := (hE 64 3 rfl).trans (qS 64 3 (by decide))
      refine PQ.rf hR (k := 3) (by decide) (fun c i hl => ?_)
      rw [e64]
      by_cases e : c = 64 ∧ i = 3
      · rw [e.1, e.2, ms_eq, ms_eq]
      · rw [ms_ne (by omega), ms_ne (o := 64) (by omega), hE c i hl, hS]
