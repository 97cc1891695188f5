-- prove
def prc (a b : Nat → Int) (N M : Int) (i : Nat) : Int := N * (b i - a i) + M * a i
theorem prc_bd {A : Mem} {a b h : Nat → Int} {E i : Nat} {N M : Int} (P : PT A a b h E) (hi : i ≤ E) (hN : -1000000000000 ≤ N ∧ N ≤ 1000000000000) (hM : -1000000000000 ≤ M ∧ M ≤ 1000000000000) : w64 (w64 (N * w64 (b i - a i)) + w64 (M * a i)) = prc a b N M i ∧ (-792000000000000 ≤ prc a b N M i ∧ prc a b N M i ≤ 792000000000000) := by
  have b1 := P.2.1 i hi
  have m1 := mul_bd (x := N) (y := b i - a i) (X := 1000000000000) (Y := 396) hN ⟨by omega, by omega⟩
  have m2 := mul_bd (x := M) (y := a i) (X := 1000000000000) (Y := 396) hM ⟨by omega, by omega⟩
  unfold prc
  rw [w64_id (x := b i - a i) (by omega) (by omega), w64_id (x := N * (b i - a i)) (by omega) (by omega), w64_id (x := M * a i) (by omega) (by omega)]
  exact ⟨w64_id (by omega) (by omega), by omega, by omega⟩
def lowP (a b h : Nat → Int) (N M B : Int) (i : Nat) : Prop := prc a b N M i < h i * B
theorem lowP_sc {A : Mem} {a b h a2 b2 h2 : Nat → Int} {E i : Nat} {N M B : Int} (P : PT A a b h E) (P2 : PT A a2 b2 h2 E) (s : SCL a b h a2 b2 h2 E) (hi : i ≤ E) (c : lowP a b h N M B i) : lowP a2 b2 h2 N M B i := by
  have b1 := P.2.1 i hi
  have b3 := P2.2.1 i hi
  have e1 := (s i hi).1
  have e2 := (s i hi).2
  unfold lowP at c ⊢
  have x1 : prc a b N M i * b2 i = prc a2 b2 N M i * b i := by
    unfold prc
    have y1 : (N * (b i - a i) + M * a i) * b2 i = N * (b i * b2 i - a i * b2 i) + M * (a i * b2 i) := by grind
    rw [y1, e1]
    grind
  have x2 : h i * B * b2 i = h2 i * B * b i := by
    have y1 : h i * B * b2 i = (h i * b2 i) * B := by grind
    rw [y1, e2]
    grind
  have x3 := Int.mul_lt_mul_of_pos_right c (show 0 < b2 i by omega)
  rw [x1, x2] at x3
  exact Int.lt_of_mul_lt_mul_right x3 (by omega)
theorem sp_L_judgePrices {d : Nat} {A σ : Mem} {Q : Int → Mem → Prop} {E : Nat} {N M B : Int} (P : PT A (σ 42) (σ 43) (σ 44) E) (h8 : σ 39 8 = (E : Int)) (hN : -1000000000000 ≤ N ∧ N ≤ 1000000000000) (hM : -1000000000000 ≤ M ∧ M ≤ 1000000000000) (hB : 1 ≤ B ∧ B ≤ 10000000000) (hT1 : -12295628928 ≤ σ 39 11 ∧ σ 39 11 ≤ 12295628928) (hT2 : 0 < σ 39 12 ∧ σ 39 12 ≤ 62099136)
    (hL : ∀ i, i ≤ E → lowP (σ 42) (σ 43) (σ 44) N M B i → (∀ j, j < i → ¬ lowP (σ 42) (σ 43) (σ 44) N M B j) → (i = E → Q 100 σ) ∧ (¬ i = E → Q (i : Int) σ))
    (hN2 : (∀ j, j ≤ E → ¬ lowP (σ 42) (σ 43) (σ 44) N M B j) → ((frP (prc (σ 42) (σ 43) N M E) (B * σ 43 E) 0 = frP (σ 39 11) (σ 39 12) 0 ∧ frP (prc (σ 42) (σ 43) N M E) (B * σ 43 E) 1 = frP (σ 39 11) (σ 39 12) 1) → Q (-9) σ) ∧ (¬ (frP (prc (σ 42) (σ 43) N M E) (B * σ 43 E) 0 = frP (σ 39 11) (σ 39 12) 0 ∧ frP (prc (σ 42) (σ 43) N M E) (B * σ 43 E) 1 = frP (σ 39 11) (σ 39 12) 1) → Q 101 σ)) : wp (d + 3) m_L_judgePrices [.inr (.inr 39), .inr (.inl N), .inr (.inl M), .inr (.inl B)] σ Q := by
  have hE := P.1
  have price : ∀ (i : Nat) (K : Int → Mem → Prop), i ≤ E → K (prc (σ 42) (σ 43) N M i) σ → wp (d + 2) m_L_priceAbove [.inr (.inr 39), .inl (i : Int), .inr (.inl N), .inr (.inl M)] σ K := fun i K hi hK => by
    refine e_L_priceAbove ?_
    rw [Int.toNat_natCast, (prc_bd P hi hN hM).1]
    exact ⟨⟨by omega, by omega⟩, ⟨by omega, by omega⟩, ⟨by omega, by omega⟩, hK⟩
  refine e_L_judgePrices ?_
  refine upto (n := E + 1) (P := fun i => (∀ j, j < i → ¬ lowP (σ 42) (σ 43) (σ 44) N M B j) → K_L_judgePrices_3 (d + 2) Q N M B ((i : Nat) : Int) σ) (fun hv => e_L_judgePrices_3 ⟨fun _ => ?_, fun h => by omega⟩) (fun i hi ih hv => e_L_judgePrices_3 ⟨fun h => by omega, fun _ => ?_⟩) (fun j hj => absurd hj (by omega))
  · rw [h8]
    have z := hN2 (fun j hj => hv j (by omega))
    have pb := (prc_bd P (Nat.le_refl E) hN hM).2
    have be := P.2.1 E (Nat.le_refl E)
    have m1 := mul_bd (x := B) (y := σ 43 E) (X := 10000000000) (Y := 396) ⟨by omega, by omega⟩ ⟨by omega, by omega⟩
    have m2 := Int.mul_pos (show 0 < B by omega) (show 0 < σ 43 E by omega)
    refine price E _ (Nat.le_refl E) ?_
    rw [h8, Int.toNat_natCast, w64_id (x := B * σ 43 E) (by omega) (by omega)]
    refine ⟨⟨by omega, by omega⟩, ?_⟩
    refine sp_X_tell ⟨by omega, by omega⟩ ⟨by omega, by omega⟩ (sp_X_tell ⟨by omega, by omega⟩ ⟨by omega, by omega⟩ ⟨fun q0 => ?_, fun q0 => z.2 (fun w => q0 w.1)⟩)
    exact sp_X_tell ⟨by omega, by omega⟩ ⟨by omega, by omega⟩ (sp_X_tell ⟨by omega, by omega⟩ ⟨by omega, by omega⟩ ⟨fun q1 => z.1 ⟨q0, q1⟩, fun q1 => z.2 (fun w => q1 w.2)⟩)
  · have ei : w32 ((i : Int) + 1) = ((i + 1 : Nat) : Int) := w32_eq (by omega) (by omega)
    have hb := P.2.2.2.1 i (by omega)
    have m1 := mul_bd (x := σ 44 i) (y := B) (Y := 10000000000) hb ⟨by omega, by omega⟩
    refine price i _ (by omega) ?_
    rw [Int.toNat_natCast, w64_id (x := σ 44 i * B) (by omega) (by omega), ei, h8]
    refine ⟨⟨by omega, by omega⟩, fun q => ?_, fun q => ih (fun j hj => ?_)⟩
    · have z := hL i (by omega) q hv
      exact ⟨fun w => z.1 (by omega), fun w => z.2 (by omega)⟩
    · by_cases e : j = i
      · subst e; unfold lowP; omega
      · exact hv j (by omega)
theorem sp_M_proveLoop {d : Nat} {A σ : Mem} {Q : Int → Mem → Prop} {E : Nat} {x1 x2 x3 x4 : Int} (P : PT A (σ 71) (σ 72) (σ 75) E) (h35 : σ 49 35 = (E : Int)) (b1 : -9999999 ≤ x1 ∧ x1 ≤ 9999999) (b2 : 1 ≤ x2 ∧ x2 ≤ 99999) (b3 : -9999999 ≤ x3 ∧ x3 ≤ 9999999) (b4 : 1 ≤ x4 ∧ x4 ≤ 99999) (hT1 : -12295628928 ≤ σ 49 46 ∧ σ 49 46 ≤ 12295628928) (hT2 : 0 < σ 49 47 ∧ σ 49 47 ≤ 62099136)
    (hL : ∀ i, i ≤ E → lowP (σ 71) (σ 72) (σ 75) (x1 * x4) (x3 * x2) (x2 * x4) i → (∀ j, j < i → ¬ lowP (σ 71) (σ 72) (σ 75) (x1 * x4) (x3 * x2) (x2 * x4) j) → (i = E → Q 100 σ) ∧ (¬ i = E → Q (i : Int) σ))
    (hN2 : (∀ j, j ≤ E → ¬ lowP (σ 71) (σ 72) (σ 75) (x1 * x4) (x3 * x2) (x2 * x4) j) → ((frP (prc (σ 71) (σ 72) (x1 * x4) (x3 * x2) E) (x2 * x4 * σ 72 E) 0 = frP (σ 49 46) (σ 49 47) 0 ∧ frP (prc (σ 71) (σ 72) (x1 * x4) (x3 * x2) E) (x2 * x4 * σ 72 E) 1 = frP (σ 49 46) (σ 49 47) 1) → Q (-9) σ) ∧ (¬ (frP (prc (σ 71) (σ 72) (x1 * x4) (x3 * x2) E) (x2 * x4 * σ 72 E) 0 = frP (σ 49 46) (σ 49 47) 0 ∧ frP (prc (σ 71) (σ 72) (x1 * x4) (x3 * x2) E) (x2 * x4 * σ 72 E) 1 = frP (σ 49 46) (σ 49 47) 1) → Q 101 σ)) : K_M_prove_90 (d + 2) Q x1 x2 x3 x4 0 σ := by
  have hE := P.1
  have n1 := mul_bd (x := x1) (y := x4) (X := 9999999) (Y := 99999) b1 ⟨by omega, by omega⟩
  have n2 := mul_bd (x := x3) (y := x2) (X := 9999999) (Y := 99999) b3 ⟨by omega, by omega⟩
  have n3 := mul_bd (x := x2) (y := x4) (X := 99999) (Y := 99999) ⟨by omega, by omega⟩ ⟨by omega, by omega⟩
  have n4 := Int.mul_pos (show 0 < x2 by omega) (show 0 < x4 by omega)
  have w1 : w64 (x1 * x4) = x1 * x4 := w64_id (by omega) (by omega)
  have w2 : w64 (x3 * x2) = x3 * x2 := w64_id (by omega) (by omega)
  have w3 : w64 (x2 * x4) = x2 * x4 := w64_id (by omega) (by omega)
  refine upto (n := E + 1) (P := fun i => (∀ j, j < i → ¬ lowP (σ 71) (σ 72) (σ 75) (x1 * x4) (x3 * x2) (x2 * x4) j) → K_M_prove_90 (d + 2) Q x1 x2 x3 x4 ((i : Nat) : Int) σ) (fun hv => e_M_prove_90 ⟨fun _ => ?_, fun h => by omega⟩) (fun i hi ih hv => e_M_prove_90 ⟨fun h => by omega, fun _ => ?_⟩) (fun j hj => absurd hj (by omega))
  · have z := hN2 (fun j hj => hv j (by omega))
    have pb := prc_bd (N := x1 * x4) (M := x3 * x2) P (Nat.le_refl E) ⟨by omega, by omega⟩ ⟨by omega, by omega⟩
    have be := P.2.1 E (Nat.le_refl E)
    have m1 := mul_bd (x := x2 * x4) (y := σ 72 E) (X := 10000000000) (Y := 396) ⟨by omega, by omega⟩ ⟨by omega, by omega⟩
    have m2 := Int.mul_pos n4 (show 0 < σ 72 E by omega)
    rw [h35, Int.toNat_natCast, w1, w2, w3, pb.1, w64_id (x := x2 * x4 * σ 72 E) (by omega) (by omega)]
    have pb2 := pb.2
    refine ⟨⟨by omega, by omega⟩, ⟨by omega, by omega⟩, ⟨by omega, by omega⟩, ⟨by omega, by omega⟩, ?_⟩
    refine sp_M_fr (Or.inl rfl) ⟨by omega, by omega⟩ ⟨by omega, by omega⟩ (sp_M_fr (Or.inl rfl) ⟨by omega, by omega⟩ ⟨by omega, by omega⟩ ⟨fun q0 => ?_, fun q0 => z.2 (fun w => q0 w.1)⟩)
    exact sp_M_fr (Or.inr rfl) ⟨by omega, by omega⟩ ⟨by omega, by omega⟩ (sp_M_fr (Or.inr rfl) ⟨by omega, by omega⟩ ⟨by omega, by omega⟩ ⟨fun q1 => z.1 ⟨q0, q1⟩, fun q1 => z.2 (fun w => q1 w.2)⟩)
  · have ei : w32 ((i : Int) + 1) = ((i + 1 : Nat) : Int) := w32_eq (by omega) (by omega)
    have hb := P.2.2.2.1 i (by omega)
    have pb := prc_bd (N := x1 * x4) (M := x3 * x2) (i := i) P (by omega) ⟨by omega, by omega⟩ ⟨by omega, by omega⟩
    have m1 := mul_bd (x := σ 75 i) (y := x2) (Y := 99999) hb ⟨by omega, by omega⟩
    have m2 := mul_bd (x := σ 75 i * x2) (y := x4) (X := 39204 * 99999) (Y := 99999) ⟨by omega, by omega⟩ ⟨by omega, by omega⟩
    rw [Int.toNat_natCast, w1, w2, pb.1, w64_id (x := σ 75 i * x2) (by omega) (by omega), w64_id (x := σ 75 i * x2 * x4) (by omega) (by omega), Int.mul_assoc, ei, h35]
    refine ⟨⟨by omega, by omega⟩, ⟨by omega, by omega⟩, ⟨by omega, by omega⟩, ⟨by omega, by omega⟩, fun q => ?_, fun q => ih (fun j hj => ?_)⟩
    · have z := hL i (by omega) q hv
      exact ⟨fun w => z.1 (by omega), fun w => z.2 (by omega)⟩
    · by_cases e : j = i
      · subst e; unfold lowP; omega
      · exact hv j (by omega)
theorem pr_prove {A : Mem} (hR : RR A) {a1 : Int} (i1 : InI a1) {a2 : Int} (i2 : InI a2) {a3 : Int} (i3 : InI a3) {a4 : Int} (i4 : InI a4) : wp 40 m_X_prove [.inr (.inr 0), .inl a1, .inl a2, .inl a3, .inl a4] A (fun r σ1 => wp 40 m_M_prove [.inr (.inr 49), .inl a1, .inl a2, .inl a3, .inl a4] σ1 (fun r2 σ2 => PQ r r2 σ2)) := by
  have sc := hR.sc
  by_cases h2 : A 7 1 = 2
  · by_cases hb : (-9999999 ≤ a1 ∧ a1 ≤ 9999999) ∧ (1 ≤ a2 ∧ a2 ≤ 99999) ∧ (-9999999 ≤ a3 ∧ a3 ≤ 9999999) ∧ (1 ≤ a4 ∧ a4 ≤ 99999)
    · obtain ⟨b1, b2, b3, b4⟩ := hb
      have h3 := hR.two h2
      have n1 := mul_bd (x := a1) (y := a4) (X := 9999999) (Y := 99999) b1 ⟨by omega, by omega⟩
      have n2 := mul_bd (x := a3) (y := a2) (X := 9999999) (Y := 99999) b3 ⟨by omega, by omega⟩
      have n3 := mul_bd (x := a2) (y := a4) (X := 99999) (Y := 99999) ⟨by omega, by omega⟩ ⟨by omega, by omega⟩
      have n4 := Int.mul_pos (show 0 < a2 by omega) (show 0 < a4 by omega)
      refine e_X_prove (sp_S_hasTwo1 h3.1 h2 ⟨fun h => absurd h (by decide), fun _ => ⟨fun h => by omega, fun _ => ⟨fun h => by omega, fun _ => ⟨fun h => by omega, fun _ => ⟨fun h => by omega, fun _ => ?_⟩⟩⟩⟩⟩)
      refine sp_L_survey (d := 34) hR.1 h2 h3.2.1 Eqv.rfl (fun σ1 E g1 g2 g3 g4 => ?_)
      have e1 := SF.eqv Eqv.rfl g1
      have P := g4.pt hR.1 h2 h3.2.1 g3
      refine sp_L_climb (d := 35) P g2 (fun σ2 g5 => ?_)
      obtain ⟨f2, L, R, eL, eR, hB⟩ := g5
      have e2 := GFx.eqv e1 f2
      have ar := f2.arr
      have bd := hB.bd P
      have e8 : σ2 39 8 = (E : Int) := by rw [f2 39 8 (by omega)]; exact g2
      have P' : PT A (σ2 42) (σ2 43) (σ2 44) E := by rw [ar.1, ar.2.1, ar.2.2]; exact P
      rw [w64_id (x := a1 * a4) (by omega) (by omega), w64_id (x := a3 * a2) (by omega) (by omega), w64_id (x := a2 * a4) (by omega) (by omega)]
      have ref : ∀ K : Int → Prop, (∀ (a b h : Nat → Int) (S1 S2 : Int), PT A a b h E → SCL (σ1 42) (σ1 43) (σ1 44) a b h E → (a E = A 9 1 ∧ b E = A 7 6) → 0 < S2 → σ2 39 11 * S2 = S1 * σ2 39 12 → (∀ i, i ≤ E → lowP a b h (a1 * a4) (a3 * a2) (a2 * a4) i → (∀ j, j < i → ¬ lowP a b h (a1 * a4) (a3 * a2) (a2 * a4) j) → (i = E → K 100) ∧ (¬ i = E → K (i : Int))) ∧ ((∀ j, j ≤ E → ¬ lowP a b h (a1 * a4) (a3 * a2) (a2 * a4) j) → ((frP (prc a b (a1 * a4) (a3 * a2) E) (a2 * a4 * b E) 0 = frP S1 S2 0 ∧ frP (prc a b (a1 * a4) (a3 * a2) E) (a2 * a4 * b E) 1 = frP S1 S2 1) → K (-9)) ∧ (¬ (frP (prc a b (a1 * a4) (a3 * a2) E) (a2 * a4 * b E) 0 = frP S1 S2 0 ∧ frP (prc a b (a1 * a4) (a3 * a2) E) (a2 * a4 * b E) 1 = frP S1 S2 1) → K 101))) → wp 40 m_M_prove [.inr (.inr 49), .inl a1, .inl a2, .inl a3, .inl a4] σ2 (fun r2 s2 => K r2 ∧ RR s2) := fun K hK => by
        refine e_M_prove ⟨fun _ => ⟨fun h => by omega, fun _ => ⟨fun h => by omega, fun _ => ⟨fun h => by omega, fun _ => ⟨fun h => by omega, fun _ => ⟨fun h => by omega, fun _ => ⟨fun h => by omega, fun _ => ⟨fun h => by omega, fun _ => ⟨fun h => by omega, fun _ => ?_⟩⟩⟩⟩⟩⟩⟩⟩, fun h => absurd ((e2 49 0 rfl).trans h3.2.2) h⟩
        refine sp_M_findBest (d := 33) hR.1 h2 h3.2.1 e2 (fun σ3 F L2 R2 k1 k2 k3 k4 k5 k6 k7 k8 k9 k10 => ?_)
        have sl := g4.scl h2 k4 P k5
        obtain ⟨rfl, sl⟩ := sl
        have e3 := hR.eqv (BF2.eqv e2 k1)
        have res := hK (σ3 71) (σ3 72) (σ3 75) (σ3 49 46) (σ3 49 47) k5 sl ⟨k4.2.1.1, k4.2.1.2⟩ k10.2.1 (best_eq h2 P hB (k10.sc P k5 sl)).2.2
        refine sp_M_proveLoop (d := 37) k5 k2 b1 b2 b3 b4 k8 ⟨k10.2.1, k9⟩ (fun i hi hl hj => ?_) (fun hj => ?_)
        · exact ⟨fun h => ⟨(res.1 i hi hl hj).1 h, e3⟩, fun h => ⟨(res.1 i hi hl hj).2 h, e3⟩⟩
        · exact ⟨fun h => ⟨(res.2 hj).1 h, e3⟩, fun h => ⟨(res.2 hj).2 h, e3⟩⟩
      refine sp_L_judgePrices (d := 36) P' e8 ⟨by omega, by omega⟩ ⟨by omega, by omega⟩ ⟨by omega, by omega⟩ bd.2.1 bd.2.2 (fun i hi hl hj => ?_) (fun hj => ?_)
      · rw [ar.1, ar.2.1, ar.2.2] at hl
        have hj2 : ∀ j, j < i → ¬ lowP (σ1 42) (σ1 43) (σ1 44) (a1 * a4) (a3 * a2) (a2 * a4) j := fun j hjj => by
          have := hj j hjj
          rw [ar.1, ar.2.1, ar.2.2] at this
          exact this
        have same : ∀ K : Int → Prop, ((i = E → K 100) ∧ (¬ i = E → K (i : Int))) → wp 40 m_M_prove [.inr (.inr 49), .inl a1, .inl a2, .inl a3, .inl a4] σ2 (fun r2 s2 => K r2 ∧ RR s2) := fun K hK => ref K (fun a b h S1 S2 P2 sl hbE s2p eqs => ⟨fun i2 hi2 hl2 hj3 => by
          have e : i2 = i := by
            rcases Nat.lt_trichotomy i2 i with w | w | w
            · exact absurd (lowP_sc P2 P sl.symm hi2 hl2) (hj2 i2 w)
            · exact w
            · exact absurd (lowP_sc P P2 sl hi hl) (hj3 i w)
          rw [e]; exact hK, fun hj3 => absurd (lowP_sc P P2 sl hi hl) (hj3 i hi)⟩)
        exact ⟨fun h => same (fun r2 => (100 : Int) = r2) ⟨fun _ => rfl, fun z => absurd h z⟩, fun h => same (fun r2 => (i : Int) = r2) ⟨fun z => absurd z h, fun _ => rfl⟩⟩
      · have hj2 : ∀ j, j ≤ E → ¬ lowP (σ1 42) (σ1 43) (σ1 44) (a1 * a4) (a3 * a2) (a2 * a4) j := fun j hjj => by
          have := hj j hjj
          rw [ar.1, ar.2.1, ar.2.2] at this
          exact this
        rw [ar.1, ar.2.1]
        have aE := g4.2.1
        have same : ∀ K : Int → Prop, ((frP (prc (σ1 42) (σ1 43) (a1 * a4) (a3 * a2) E) (a2 * a4 * σ1 43 E) 0 = frP (σ2 39 11) (σ2 39 12) 0 ∧ frP (prc (σ1 42) (σ1 43) (a1 * a4) (a3 * a2) E) (a2 * a4 * σ1 43 E) 1 = frP (σ2 39 11) (σ2 39 12) 1) → K (-9)) → (¬ (frP (prc (σ1 42) (σ1 43) (a1 * a4) (a3 * a2) E) (a2 * a4 * σ1 43 E) 0 = frP (σ2 39 11) (σ2 39 12) 0 ∧ frP (prc (σ1 42) (σ1 43) (a1 * a4) (a3 * a2) E) (a2 * a4 * σ1 43 E) 1 = frP (σ2 39 11) (σ2 39 12) 1) → K 101) → wp 40 m_M_prove [.inr (.inr 49), .inl a1, .inl a2, .inl a3, .inl a4] σ2 (fun r2 s2 => K r2 ∧ RR s2) := fun K hK1 hK2 => ref K (fun a b h S1 S2 P2 sl hbE s2p eqs => ⟨fun i2 hi2 hl2 hj3 => absurd (lowP_sc P2 P sl.symm hi2 hl2) (hj2 i2 hi2), fun hj3 => by
          have ep : prc a b (a1 * a4) (a3 * a2) E = prc (σ1 42) (σ1 43) (a1 * a4) (a3 * a2) E := by unfold prc; rw [hbE.1, hbE.2, aE.1, aE.2]
          have eb : b E = σ1 43 E := by rw [hbE.2, aE.2]
          rw [ep, eb, ← frP_eq (part := 0) bd.2.2.1 s2p eqs, ← frP_eq (part := 1) bd.2.2.1 s2p eqs]
          exact ⟨hK1, hK2⟩⟩)
        exact ⟨fun h => same (fun r2 => (-9 : Int) = r2) (fun _ => rfl) (fun z => absurd h z), fun h => same (fun r2 => (101 : Int) = r2) (fun z => absurd z h) (fun _ => rfl)⟩
    · repeat' first
      | with_reducible refine e_X_prove ?_
      | with_reducible refine e_S_hasTwo ?_
      | with_reducible refine e_M_prove ?_
      | with_reducible refine xr1 ?_
      | with_reducible refine xr2 ?_
      | with_reducible refine xr3 ?_
      | with_reducible refine xr4 ?_
      | with_reducible refine xr6 ?_
      | with_reducible refine mr1 ?_
      | with_reducible refine mr2 ?_
      | with_reducible refine mr3 ?_
      | with_reducible refine mr4 ?_
      | with_reducible refine mr6 ?_
      | with_reducible refine xf1 ?_
      | with_reducible refine xf2 ?_
      | with_reducible refine xf3 ?_
      | with_reducible refine xf6 ?_
      | with_reducible refine mf1 ?_
      | with_reducible refine mf2 ?_
      | with_reducible refine mf3 ?_
      | with_reducible refine mf6 ?_
      | with_reducible exact isB0
      | with_reducible exact isB1
      | with_reducible refine And.intro ?_ ?_
      | (with_reducible refine fun (hz : (_ : Int) < _) => ?_) <;> ((try simp (discharger := first | decide | omega) only [ms_eq, ms_nk, ms_ni, w32_id, w64_id, Int.toNat_natCast, not_true_eq_false, not_false_eq_true] at hz) ; (try (exfalso; omega)))
      | (with_reducible refine fun (hz : (_ : Int) ≤ _) => ?_) <;> ((try simp (discharger := first | decide | omega) only [ms_eq, ms_nk, ms_ni, w32_id, w64_id, Int.toNat_natCast, not_true_eq_false, not_false_eq_true] at hz) ; (try (exfalso; omega)))
      | (with_reducible refine fun (hz : (_ : Int) = _) => ?_) <;> ((try simp (discharger := first | decide | omega) only [ms_eq, ms_nk, ms_ni, w32_id, w64_id, Int.toNat_natCast, not_true_eq_false, not_false_eq_true] at hz) ; (try (exfalso; omega)))
      | (with_reducible refine fun (hz : ¬ (_ : Int) = _) => ?_) <;> ((try simp (discharger := first | decide | omega) only [ms_eq, ms_nk, ms_ni, w32_id, w64_id, Int.toNat_natCast, not_true_eq_false, not_false_eq_true] at hz) ; (try (exfalso; omega)))
      | (with_reducible refine fun (hz : _ ∨ _) => ?_) <;> ((try simp (discharger := first | decide | omega) only [ms_eq, ms_nk, ms_ni, w32_id, w64_id, Int.toNat_natCast, not_true_eq_false, not_false_eq_true] at hz) ; (try (exfalso; omega)))
      | omega
      | (simp (discharger := first | decide | omega) only [ms_eq, ms_nk, ms_ni, w32_id, w64_id, Int.toNat_natCast, not_true_eq_false, not_false_eq_true] ; omega)
      all_goals exact PQ.rf0 hR (by decide)
  · repeat' first
    | with_reducible refine e_X_prove ?_
    | with_reducible refine e_S_hasTwo ?_
    | with_reducible refine e_M_prove ?_
    | with_reducible refine xr1 ?_
    | with_reducible refine xr2 ?_
    | with_reducible refine xr3 ?_
    | with_reducible refine xr4 ?_
    | with_reducible refine xr6 ?_
    | with_reducible refine mr1 ?_
    | with_reducible refine mr2 ?_
    | with_reducible refine mr3 ?_
    | with_reducible refine mr4 ?_
    | with_reducible refine mr6 ?_
    | with_reducible refine xf1 ?_
    | with_reducible refine xf2 ?_
    | with_reducible refine xf3 ?_
    | with_reducible refine xf6 ?_
    | with_reducible refine mf1 ?_
    | with_reducible refine mf2 ?_
    | with_reducible refine mf3 ?_
    | with_reducible refine mf6 ?_
    | with_reducible exact isB0
    | with_reducible exact isB1
    | with_reducible refine And.intro ?_ ?_
    | (with_reducible refine fun (hz : (_ : Int) < _) => ?_) <;> ((try simp (discharger := first | decide | omega) only [ms_eq, ms_nk, ms_ni, w32_id, w64_id, Int.toNat_natCast, not_true_eq_false, not_false_eq_true] at hz) ; (try (exfalso; omega)))
    | (with_reducible refine fun (hz : (_ : Int) ≤ _) => ?_) <;> ((try simp (discharger := first | decide | omega) only [ms_eq, ms_nk, ms_ni, w32_id, w64_id, Int.toNat_natCast, not_true_eq_false, not_false_eq_true] at hz) ; (try (exfalso; omega)))
    | (with_reducible refine fun (hz : (_ : Int) = _) => ?_) <;> ((try simp (discharger := first | decide | omega) only [ms_eq, ms_nk, ms_ni, w32_id, w64_id, Int.toNat_natCast, not_true_eq_false, not_false_eq_true] at hz) ; (try (exfalso; omega)))
    | (with_reducible refine fun (hz : ¬ (_ : Int) = _) => ?_) <;> ((try simp (discharger := first | decide | omega) only [ms_eq, ms_nk, ms_ni, w32_id, w64_id, Int.toNat_natCast, not_true_eq_false, not_false_eq_true] at hz) ; (try (exfalso; omega)))
    | (with_reducible refine fun (hz : _ ∨ _) => ?_) <;> ((try simp (discharger := first | decide | omega) only [ms_eq, ms_nk, ms_ni, w32_id, w64_id, Int.toNat_natCast, not_true_eq_false, not_false_eq_true] at hz) ; (try (exfalso; omega)))
    | omega
    | (simp (discharger := first | decide | omega) only [ms_eq, ms_nk, ms_ni, w32_id, w64_id, Int.toNat_natCast, not_true_eq_false, not_false_eq_true] ; omega)
    all_goals exact PQ.rf0 hR (by decide)
