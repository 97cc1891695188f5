-- corners
def corP (a b h : Nat → Int) (E i : Nat) : Prop := ∀ l r, l < i → i < r → r < E → bA a b h l r i * b i < h i * bB a b l r i
theorem od_pos {A : Mem} {a b h : Nat → Int} {E l r : Nat} (P : PT A a b h E) (h1 : l < r) (h2 : r < E) : 0 < od a b r l := by
  have := P.2.2.2.2.1 l r h1 h2
  unfold od
  omega
theorem bB_pos {A : Mem} {a b h : Nat → Int} {E l r m : Nat} (P : PT A a b h E) (h1 : l < r) (h2 : r < E) (hm : m ≤ E) : 0 < bB a b l r m := by
  have bm := P.2.1 m hm
  exact Int.mul_pos (by omega) (od_pos P h1 h2)
theorem corP_sc {A : Mem} {a b h a2 b2 h2 : Nat → Int} {E i : Nat} (P : PT A a b h E) (P2 : PT A a2 b2 h2 E) (s : SCL a b h a2 b2 h2 E) (hi : i < E) (c : corP a b h E i) : corP a2 b2 h2 E i := fun l r h1 h3 h4 => by
  have bl := P.2.1 l (by omega)
  have br := P.2.1 r (by omega)
  have bi := P.2.1 i (by omega)
  have cl := P2.2.1 l (by omega)
  have cr := P2.2.1 r (by omega)
  have ci := P2.2.1 i (by omega)
  have e := cr_eq (pos3 (show 0 < b l by omega) (show 0 < b r by omega) (show 0 < b i by omega)) (pos3 (show 0 < b2 l by omega) (show 0 < b2 r by omega) (show 0 < b2 i by omega)) (bA_sc s (l := l) (r := r) (m := i) (by omega) (by omega) (by omega)) (bB_sc s (l := l) (r := r) (m := i) (by omega) (by omega))
  have x1 := bB_pos P (l := l) (r := r) (m := i) (by omega) h4 (by omega)
  have x2 := bB_pos P2 (l := l) (r := r) (m := i) (by omega) h4 (by omega)
  have k := c l r h1 h3 h4
  have k2 : bA a2 b2 h2 l r i * b i < h i * bB a2 b2 l r i := fr_le_lt x2 x1 (by omega) (Int.le_of_eq e.symm) k
  exact fr_lt_le x2 (by omega) (by omega) k2 (Int.le_of_eq (s i (by omega)).2)
theorem SCL.symm {a b h a2 b2 h2 : Nat → Int} {E : Nat} (s : SCL a b h a2 b2 h2 E) : SCL a2 b2 h2 a b h E := fun i hi => ⟨(s i hi).1.symm, (s i hi).2.symm⟩
theorem co_bd {A : Mem} {a b h : Nat → Int} {E l r i : Nat} (P : PT A a b h E) (hl : l ≤ E) (hr : r ≤ E) (hi : i ≤ E) : w64 (bA a b h l r i * b i) = bA a b h l r i * b i ∧ w64 (h i * bB a b l r i) = h i * bB a b l r i := by
  have bi := P.2.1 i hi
  have m1 := mul_bd (bA_bd P hl hr hi) (y := b i) (Y := 396) ⟨by omega, by omega⟩
  have m2 := mul_bd (P.2.2.2.1 i hi) (bB_bd P hl hr hi)
  exact ⟨w64_id (by omega) (by omega), w64_id (by omega) (by omega)⟩
theorem sp_L_isCorner {d : Nat} {A σ : Mem} {Q : Int → Mem → Prop} {E i : Nat} (P : PT A (σ 42) (σ 43) (σ 44) E) (h8 : σ 39 8 = (E : Int)) (hi : i < E) (h1 : corP (σ 42) (σ 43) (σ 44) E i → Q 1 σ) (h0 : ¬ corP (σ 42) (σ 43) (σ 44) E i → Q 0 σ) : wp (d + 3) m_L_isCorner [.inr (.inr 39), .inl (i : Int)] σ Q := by
  have hE := P.1
  refine e_L_isCorner ?_
  refine upto (n := i) (P := fun l => (∀ l2 r2, l2 < l → i < r2 → r2 < E → bA (σ 42) (σ 43) (σ 44) l2 r2 i * σ 43 i < σ 44 i * bB (σ 42) (σ 43) l2 r2 i) → K_L_isCorner_2 (d + 2) Q (i : Int) ((l : Nat) : Int) σ) (fun hv => e_L_isCorner_2 ⟨fun h => by omega, fun _ => h1 hv⟩) (fun l hl ih hv => e_L_isCorner_2 ⟨fun _ => ?_, fun h => by omega⟩) (fun l2 r2 h => absurd h (by omega))
  have ei : w32 ((i : Int) + 1) = ((i + 1 : Nat) : Int) := w32_eq (by omega) (by omega)
  have el : w32 ((l : Int) + 1) = ((l + 1 : Nat) : Int) := w32_eq (by omega) (by omega)
  rw [ei]
  have inner : ∀ m r : Nat, r + m = E → i < r → (∀ r2, i < r2 → r2 < r → bA (σ 42) (σ 43) (σ 44) l r2 i * σ 43 i < σ 44 i * bB (σ 42) (σ 43) l r2 i) → K_L_isCorner_11 (d + 2) Q (i : Int) (l : Int) ((r : Nat) : Int) σ := by
    intro m
    induction m with
    | zero =>
      intro r hr hir hv2
      refine e_L_isCorner_11 ⟨fun h => by omega, fun _ => ?_⟩
      rw [el]
      refine ih (fun l2 r2 g1 g2 g3 => ?_)
      by_cases z : l2 = l
      · subst z; exact hv2 r2 g2 (by omega)
      · exact hv l2 r2 (by omega) g2 g3
    | succ m ih2 =>
      intro r hr hir hv2
      have er : w32 ((r : Int) + 1) = ((r + 1 : Nat) : Int) := w32_eq (by omega) (by omega)
      have cb := co_bd P (l := l) (r := r) (i := i) (by omega) (by omega) (by omega)
      refine e_L_isCorner_11 ⟨fun _ => sp_L_bridgeAbove P (by omega) (by omega) (by omega) ⟨⟨by omega, by omega⟩, ⟨by omega, by omega⟩, sp_L_bridgeBelow P (by omega) (by omega) (by omega) ?_⟩, fun h => by omega⟩
      rw [Int.toNat_natCast, cb.1, cb.2, er]
      refine ⟨fun h => ih2 (r + 1) (by omega) (by omega) (fun r2 g1 g2 => ?_), fun h => h0 (fun c => ?_)⟩
      · by_cases z : r2 = r
        · subst z; exact h
        · exact hv2 r2 g1 (by omega)
      · have := c l r hl hir (by omega)
        omega
  exact inner (E - (i + 1)) (i + 1) (by omega) (by omega) (fun r2 g1 g2 => by omega)
noncomputable def corB (a b h : Nat → Int) (E i : Nat) : Bool := @decide (corP a b h E i) (Classical.propDecidable _)
theorem corB_t {a b h : Nat → Int} {E i : Nat} (c : corP a b h E i) : corB a b h E i = true := by unfold corB; exact @decide_eq_true _ (Classical.propDecidable _) c
theorem corB_f {a b h : Nat → Int} {E i : Nat} (c : ¬ corP a b h E i) : corB a b h E i = false := by unfold corB; exact @decide_eq_false _ (Classical.propDecidable _) c
def cbI (p : Nat → Bool) : Nat → Int
  | 0 => 0
  | k + 1 => match p k with
    | true => orI (cbI p k) (shlI 1 (k : Int))
    | false => cbI p k
theorem cbI_t {p : Nat → Bool} {k : Nat} (h : p k = true) : cbI p (k + 1) = orI (cbI p k) (shlI 1 (k : Int)) := by
  show (match p k with
    | true => orI (cbI p k) (shlI 1 (k : Int))
    | false => cbI p k) = _
  rw [h]
theorem cbI_f {p : Nat → Bool} {k : Nat} (h : p k = false) : cbI p (k + 1) = cbI p k := by
  show (match p k with
    | true => orI (cbI p k) (shlI 1 (k : Int))
    | false => cbI p k) = _
  rw [h]
theorem orI_rc {x y z : Int} : orI (orI x y) z = orI (orI x z) y := by
  unfold orI
  rw [Int32.ofInt_toInt, Int32.ofInt_toInt, Int32.or_assoc, Int32.or_assoc, Int32.or_comm (Int32.ofInt y)]
theorem orI_0 {x y : Int} : orI (orI x y) 0 = orI x y := by
  unfold orI
  rw [Int32.ofInt_toInt]
  have e : Int32.ofInt 0 = 0 := rfl
  rw [e, Int32.or_zero]
theorem sp_L_cornerBits {d : Nat} {A σ : Mem} {Q : Int → Mem → Prop} {E : Nat} (P : PT A (σ 42) (σ 43) (σ 44) E) (h8 : σ 39 8 = (E : Int)) (hQ : Q (cbI (corB (σ 42) (σ 43) (σ 44) E) E) σ) : wp (d + 4) m_L_cornerBits [.inr (.inr 39)] σ Q := by
  have hE := P.1
  refine e_L_cornerBits ?_
  refine upto (n := E) (P := fun i => K_L_cornerBits_4 (d + 3) Q (cbI (corB (σ 42) (σ 43) (σ 44) E) i) ((i : Nat) : Int) σ) (e_L_cornerBits_4 ⟨fun h => by omega, fun _ => hQ⟩) (fun i hi ih => e_L_cornerBits_4 ⟨fun _ => ?_, fun h => by omega⟩)
  have ei : w32 ((i : Int) + 1) = ((i + 1 : Nat) : Int) := w32_eq (by omega) (by omega)
  rw [ei]
  refine sp_L_isCorner P h8 hi (fun c => ⟨fun h => absurd h (by decide), fun _ => ?_⟩) (fun c => ⟨fun _ => ?_, fun h => absurd rfl h⟩)
  · rw [cbI_t (corB_t c)] at ih; exact ih
  · rw [cbI_f (corB_f c)] at ih; exact ih
theorem HHf.arr {σ τ : Mem} (h : HHf σ τ) : τ 71 = σ 71 ∧ τ 72 = σ 72 ∧ τ 75 = σ 75 := ⟨funext (fun i => h 71 i (by omega)), funext (fun i => h 72 i (by omega)), funext (fun i => h 75 i (by omega))⟩
theorem HHf.eqv {A σ τ : Mem} (hE : Eqv A σ) (h : HHf σ τ) : Eqv A τ := fun k i hl => by
  have l := live_ok (l := [(49, 42), (49, 43)]) hl (by decide)
  simp only [List.mem_cons, List.not_mem_nil, or_false, forall_eq_or_imp, forall_eq] at l
  rw [h k i (by omega)]
  exact hE k i hl
theorem sp_M_cornerLoop {d : Nat} {A σ : Mem} {Q : Int → Mem → Prop} {E : Nat} {x : Int} (P : PT A (σ 71) (σ 72) (σ 75) E) (h35 : σ 49 35 = (E : Int)) (hx : x = orI (cbI (corB (σ 71) (σ 72) (σ 75) E) 1) (shlI 1 ((E - 1 : Nat) : Int))) (hQ : ∀ σ1, HHf σ σ1 → Q (orI (cbI (corB (σ 71) (σ 72) (σ 75) E) (E - 1)) (shlI 1 ((E - 1 : Nat) : Int))) σ1) : K_M_corners_32 (d + 2) Q x 1 σ := by
  have hE := P.1
  have main : ∀ k m : Nat, m + k = E - 1 → 1 ≤ m → ∀ τ, HHf σ τ → K_M_corners_32 (d + 2) Q (orI (cbI (corB (σ 71) (σ 72) (σ 75) E) m) (shlI 1 ((E - 1 : Nat) : Int))) ((m : Nat) : Int) τ := by
    intro k
    induction k with
    | zero =>
      intro m hm hm1 τ F
      have e35 : τ 49 35 = (E : Int) := by rw [F 49 35 (by omega)]; exact h35
      have e1 : w32 (τ 49 35 - 1) = ((E - 1 : Nat) : Int) := by rw [e35]; exact w32_eq (by omega) (by omega)
      refine e_M_corners_32 ⟨fun h => by omega, fun _ => ?_⟩
      have : m = E - 1 := by omega
      subst this
      exact hQ τ F
    | succ k ih =>
      intro m hm hm1 τ F
      have e35 : τ 49 35 = (E : Int) := by rw [F 49 35 (by omega)]; exact h35
      have e1 : w32 (τ 49 35 - 1) = ((E - 1 : Nat) : Int) := by rw [e35]; exact w32_eq (by omega) (by omega)
      have em : w32 ((m : Int) + 1) = ((m + 1 : Nat) : Int) := w32_eq (by omega) (by omega)
      refine e_M_corners_32 ⟨fun _ => ?_, fun h => by omega⟩
      have endm : ∀ (y : Int) (τ : Mem), HHf σ τ → ((y = 1 ∧ corP (σ 71) (σ 72) (σ 75) E m) ∨ (y = 0 ∧ ¬ corP (σ 71) (σ 72) (σ 75) E m)) → K_M_corners_47 (d + 2) Q (orI (cbI (corB (σ 71) (σ 72) (σ 75) E) m) (shlI 1 ((E - 1 : Nat) : Int))) (m : Int) y ((m : Nat) : Int) τ := fun y τ F hy => by
        have z := ih (m + 1) (by omega) (by omega) τ F
        refine e_M_corners_47 ⟨fun h => by omega, fun _ => ⟨fun h => ?_, fun h => ?_⟩⟩
        · rw [em, orI_0]
          rcases hy with hy | hy
          · omega
          · rw [cbI_f (corB_f hy.2)] at z; exact z
        · rw [em, orI_rc]
          rcases hy with hy | hy
          · rw [cbI_t (corB_t hy.2)] at z; exact z
          · omega
      have stt47 : ∀ j l : Nat, l + j = m → ∀ (y : Int) (τ : Mem), HHf σ τ → ((y = 1 ∧ ∀ l2 r2, l2 < l → m < r2 → r2 < E → bA (σ 71) (σ 72) (σ 75) l2 r2 m * σ 72 m < σ 75 m * bB (σ 71) (σ 72) l2 r2 m) ∨ (y = 0 ∧ ¬ corP (σ 71) (σ 72) (σ 75) E m)) → K_M_corners_47 (d + 2) Q (orI (cbI (corB (σ 71) (σ 72) (σ 75) E) m) (shlI 1 ((E - 1 : Nat) : Int))) (m : Int) y ((l : Nat) : Int) τ := by
        intro j
        induction j with
        | zero =>
          intro l hl y τ F hy
          have : l = m := by omega
          subst this
          exact endm y τ F hy
        | succ j ih2 =>
          intro l hl y τ F hy
          have el : w32 ((l : Int) + 1) = ((l + 1 : Nat) : Int) := w32_eq (by omega) (by omega)
          refine e_M_corners_47 ⟨fun _ => ?_, fun h => by omega⟩
          rw [em]
          have inner : ∀ g r : Nat, r + g = E → m < r → ∀ (y : Int) (τ : Mem), HHf σ τ → ((y = 1 ∧ (∀ l2 r2, l2 < l → m < r2 → r2 < E → bA (σ 71) (σ 72) (σ 75) l2 r2 m * σ 72 m < σ 75 m * bB (σ 71) (σ 72) l2 r2 m) ∧ ∀ r2, m < r2 → r2 < r → bA (σ 71) (σ 72) (σ 75) l r2 m * σ 72 m < σ 75 m * bB (σ 71) (σ 72) l r2 m) ∨ (y = 0 ∧ ¬ corP (σ 71) (σ 72) (σ 75) E m)) → K_M_corners_58 (d + 2) Q (orI (cbI (corB (σ 71) (σ 72) (σ 75) E) m) (shlI 1 ((E - 1 : Nat) : Int))) (m : Int) y (l : Int) ((r : Nat) : Int) τ := by
            intro g
            induction g with
            | zero =>
              intro r hr hmr y τ F hy
              have e35 : τ 49 35 = (E : Int) := by rw [F 49 35 (by omega)]; exact h35
              refine e_M_corners_58 ⟨fun h => by omega, fun _ => ?_⟩
              rw [el]
              refine ih2 (l + 1) (by omega) y τ F ?_
              rcases hy with ⟨hy, v1, v2⟩ | hy
              · refine Or.inl ⟨hy, fun l2 r2 g1 g2 g3 => ?_⟩
                by_cases z : l2 = l
                · subst z; exact v2 r2 g2 (by omega)
                · exact v1 l2 r2 (by omega) g2 g3
              · exact Or.inr hy
            | succ g ih3 =>
              intro r hr hmr y τ F hy
              have e35 : τ 49 35 = (E : Int) := by rw [F 49 35 (by omega)]; exact h35
              have er : w32 ((r : Int) + 1) = ((r + 1 : Nat) : Int) := w32_eq (by omega) (by omega)
              refine e_M_corners_58 ⟨fun _ => ⟨fun h => ?_, fun h => ?_⟩, fun h => by omega⟩
              · rw [el]
                refine ih2 (l + 1) (by omega) y τ F ?_
                rcases hy with hy | hy
                · omega
                · exact Or.inr hy
              · rcases hy with ⟨hy, v1, v2⟩ | hy
                · have ar := F.arr
                  have P' : PT A (τ 71) (τ 72) (τ 75) E := by rw [ar.1, ar.2.1, ar.2.2]; exact P
                  have x1 := bB_pos P (l := l) (r := r) (m := m) (by omega) (by omega) (by omega)
                  refine sp_M_findHeight P' (by omega) (by omega) (by omega) (by omega) (by rw [ar.1, ar.2.1]; exact x1) (fun s f c1 c2 c3 => ?_)
                  rw [ar.1, ar.2.1, ar.2.2] at c3
                  have G : HHf σ s := fun k i hk => by rw [f k i hk]; exact F k i hk
                  have br := G.arr
                  have bm := P.2.1 m (by omega)
                  have hm2 := P.2.2.2.1 m (by omega)
                  have m1 := mul_bd (x := s 49 42) (y := σ 72 m) (Y := 396) c1 ⟨by omega, by omega⟩
                  have m2 := mul_bd (x := σ 75 m) (y := s 49 43) (Y := 62099136) hm2 ⟨by omega, by omega⟩
                  rw [Int.toNat_natCast, br.2.1, br.2.2, w64_id (x := s 49 42 * σ 72 m) (by omega) (by omega), w64_id (x := σ 75 m * s 49 43) (by omega) (by omega), er]
                  refine ⟨⟨by omega, by omega⟩, ⟨by omega, by omega⟩, fun h => ih3 (r + 1) (by omega) (by omega) 1 s G (Or.inl ⟨rfl, v1, fun r2 g1 g2 => ?_⟩), fun h => ih3 (r + 1) (by omega) (by omega) 0 s G (Or.inr ⟨rfl, fun c => ?_⟩)⟩
                  · by_cases z : r2 = r
                    · subst z
                      exact fr_le_lt x1 c2.1 (by omega) (Int.le_of_eq c3.symm) h
                    · exact v2 r2 g1 (by omega)
                  · have k1 := c l r (by omega) hmr (by omega)
                    have k2 : s 49 42 * σ 72 m < σ 75 m * s 49 43 := fr_le_lt c2.1 x1 (by omega) (Int.le_of_eq c3) k1
                    omega
                · omega
          refine inner (E - (m + 1)) (m + 1) (by omega) (by omega) y τ F ?_
          rcases hy with ⟨hy, v1⟩ | hy
          · exact Or.inl ⟨hy, v1, fun r2 g1 g2 => by omega⟩
          · exact Or.inr hy
      exact stt47 m 0 (by omega) 1 τ F (Or.inl ⟨rfl, fun l2 r2 h => absurd h (by omega)⟩)
  rw [hx]
  exact main (E - 1 - 1) 1 (by omega) (Nat.le_refl 1) σ (fun _ _ _ => rfl)
theorem corB_sc {A : Mem} {a b h a2 b2 h2 : Nat → Int} {E i : Nat} (P : PT A a b h E) (P2 : PT A a2 b2 h2 E) (s : SCL a b h a2 b2 h2 E) (hi : i < E) : corB a b h E i = corB a2 b2 h2 E i := by
  by_cases c : corP a b h E i
  · rw [corB_t c, corB_t (corP_sc P P2 s hi c)]
  · rw [corB_f c, corB_f (fun z => c (corP_sc P2 P s.symm hi z))]
theorem cbI_congr {p q : Nat → Bool} : ∀ {n : Nat}, (∀ i, i < n → p i = q i) → cbI p n = cbI q n
  | 0, _ => rfl
  | n + 1, h => by
    have ih := cbI_congr (n := n) (fun i hi => h i (by omega))
    have e := h n (by omega)
    cases hc : p n with
    | true => rw [cbI_t hc, cbI_t (by rw [← e]; exact hc), ih]
    | false => rw [cbI_f hc, cbI_f (by rw [← e]; exact hc), ih]
theorem or01 : orI 0 (shlI 1 ((0 : Nat) : Int)) = 1 := by decide +kernel
theorem pr_corners {A : Mem} (hR : RR A) : wp 40 m_X_corners [.inr (.inr 0)] A (fun r σ1 => wp 40 m_M_corners [.inr (.inr 49)] σ1 (fun r2 σ2 => PQ r r2 σ2)) := by
  have sc := hR.sc
  by_cases h2 : A 7 1 = 2
  · have h3 := hR.two h2
    refine e_X_corners (sp_S_hasTwo1 h3.1 h2 ⟨fun h => absurd h (by decide), fun _ => ?_⟩)
    refine sp_L_survey (d := 34) hR.1 h2 h3.2.1 Eqv.rfl (fun σ1 E g1 g2 g3 g4 => ?_)
    have e1 := SF.eqv Eqv.rfl g1
    have P := g4.pt hR.1 h2 h3.2.1 g3
    refine sp_L_cornerBits (d := 35) P g2 ?_
    refine e_M_corners ⟨fun _ => ?_, fun h => absurd ((e1 49 0 rfl).trans h3.2.2) h⟩
    refine sp_M_findBest (d := 33) hR.1 h2 h3.2.1 e1 (fun σ3 F L2 R2 k1 k2 k3 k4 k5 k6 k7 k8 k9 k10 => ?_)
    have sl := g4.scl h2 k4 P k5
    obtain ⟨rfl, sl⟩ := sl
    have e3 := BF2.eqv e1 k1
    have hE2 := P.1.1
    have c0 : corB (σ3 71) (σ3 72) (σ3 75) E 0 = true := corB_t (fun l r h => absurd h (by omega))
    have cl : corB (σ3 71) (σ3 72) (σ3 75) E (E - 1) = true := corB_t (fun l r h1 h4 h5 => by omega)
    have f1 : cbI (corB (σ3 71) (σ3 72) (σ3 75) E) 1 = 1 := (cbI_t c0).trans or01
    have fE : cbI (corB (σ1 42) (σ1 43) (σ1 44) E) E = orI (cbI (corB (σ3 71) (σ3 72) (σ3 75) E) (E - 1)) (shlI 1 ((E - 1 : Nat) : Int)) := by
      rw [cbI_congr (fun i hi => corB_sc P k5 sl hi)]
      have z := cbI_t cl
      rw [show E - 1 + 1 = E by omega] at z
      exact z
    rw [k2, show w32 ((E : Int) - 1) = ((E - 1 : Nat) : Int) from w32_eq (by omega) (by omega)]
    refine sp_M_cornerLoop (d := 37) k5 k2 (by rw [f1]) (fun σ4 f4 => ?_)
    exact PQ.eqv hR fE (HHf.eqv e3 f4)
  · repeat' first
    | with_reducible refine e_X_corners ?_
    | with_reducible refine e_S_hasTwo ?_
    | with_reducible refine e_M_corners ?_
    | with_reducible refine xr1 ?_
    | with_reducible refine xr2 ?_
    | with_reducible refine xr3 ?_
    | with_reducible refine xr4 ?_
    | with_reducible refine xr6 ?_
    | with_reducible refine mr1 ?_
    | with_reducible refine mr2 ?_
    | with_reducible refine mr3 ?_
    | with_reducible refine mr4 ?_
    | with_reducible refine mr6 ?_
    | with_reducible refine xf1 ?_
    | with_reducible refine xf2 ?_
    | with_reducible refine xf3 ?_
    | with_reducible refine xf6 ?_
    | with_reducible refine mf1 ?_
    | with_reducible refine mf2 ?_
    | with_reducible refine mf3 ?_
    | with_reducible refine mf6 ?_
    | with_reducible exact isB0
    | with_reducible exact isB1
    | with_reducible refine And.intro ?_ ?_
    | (with_reducible refine fun (hz : (_ : Int) < _) => ?_) <;> ((try simp (discharger := first | decide | omega) only [ms_eq, ms_nk, ms_ni, w32_id, w64_id, Int.toNat_natCast, not_true_eq_false, not_false_eq_true] at hz) ; (try (exfalso; omega)))
    | (with_reducible refine fun (hz : (_ : Int) ≤ _) => ?_) <;> ((try simp (discharger := first | decide | omega) only [ms_eq, ms_nk, ms_ni, w32_id, w64_id, Int.toNat_natCast, not_true_eq_false, not_false_eq_true] at hz) ; (try (exfalso; omega)))
    | (with_reducible refine fun (hz : (_ : Int) = _) => ?_) <;> ((try simp (discharger := first | decide | omega) only [ms_eq, ms_nk, ms_ni, w32_id, w64_id, Int.toNat_natCast, not_true_eq_false, not_false_eq_true] at hz) ; (try (exfalso; omega)))
    | (with_reducible refine fun (hz : ¬ (_ : Int) = _) => ?_) <;> ((try simp (discharger := first | decide | omega) only [ms_eq, ms_nk, ms_ni, w32_id, w64_id, Int.toNat_natCast, not_true_eq_false, not_false_eq_true] at hz) ; (try (exfalso; omega)))
    | (with_reducible refine fun (hz : _ ∨ _) => ?_) <;> ((try simp (discharger := first | decide | omega) only [ms_eq, ms_nk, ms_ni, w32_id, w64_id, Int.toNat_natCast, not_true_eq_false, not_false_eq_true] at hz) ; (try (exfalso; omega)))
    | omega
    | (simp (discharger := first | decide | omega) only [ms_eq, ms_nk, ms_ni, w32_id, w64_id, Int.toNat_natCast, not_true_eq_false, not_false_eq_true] ; omega)
    all_goals exact PQ.rf0 hR (by decide)
