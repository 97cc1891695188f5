-- edges, edge, value
def liveL (k _ : Nat) : Bool := Nat.beq k 7 || Nat.beq k 10 || Nat.beq k 11
theorem ES_msk {A : Mem} {a b : Nat → Int} {E : Nat} : ES (mskB liveL A) a b E ↔ ES A a b E := Iff.rfl
theorem ES.eqv {A B : Mem} {a b : Nat → Int} {E : Nat} (h : ES B a b E) (e : Eqv A B ∨ ∀ k i, liveL k i = true → B k i = A k i) : ES A a b E := by
  have e2 : ∀ k i, liveL k i = true → B k i = A k i := by
    rcases e with e | e
    · intro k i hk
      unfold liveL at hk
      simp only [Bool.or_eq_true] at hk
      rcases hk with (hk | hk) | hk
      · have := Nat.eq_of_beq_eq_true hk; subst this; exact e _ _ rfl
      · have := Nat.eq_of_beq_eq_true hk; subst this; exact e _ _ rfl
      · have := Nat.eq_of_beq_eq_true hk; subst this; exact e _ _ rfl
    · exact e
  exact ES_msk.mp (by rw [← mskB_eq e2]; exact ES_msk.mpr h)
theorem sp_X_isPart1 {d : Nat} {σ : Mem} {Q : Int → Mem → Prop} {p : Int} (hp : p = 0 ∨ p = 1) (hQ : Q 1 σ) : wp (d + 1) m_X_isPart [.inl p] σ Q := e_X_isPart ⟨fun _ => hQ, fun h => ⟨fun _ => hQ, fun h2 => by omega⟩⟩
theorem sp_M_isPart1 {d : Nat} {σ : Mem} {Q : Int → Mem → Prop} {p : Int} (hp : p = 0 ∨ p = 1) (hQ : Q 1 σ) : wp (d + 2) m_M_isPart [.inl p] σ Q := e_M_isPart (e_M_in ⟨fun h => by omega, fun _ => ⟨fun h => by omega, fun _ => ⟨isB1, hQ⟩⟩⟩)
theorem sp_S_hasTwo1 {d : Nat} {σ : Mem} {Q : Int → Mem → Prop} (h0 : ¬ σ 7 0 = 0) (h1 : σ 7 1 = 2) (hQ : Q 1 σ) : wp (d + 1) m_S_hasTwo [.inr (.inr 7)] σ Q := e_S_hasTwo ⟨fun h => absurd h h0, fun _ => ⟨fun _ => hQ, fun h => absurd h1 h⟩⟩
theorem RR.two {A : Mem} (hR : RR A) (h2 : A 7 1 = 2) : ¬ A 7 0 = 0 ∧ 1 ≤ A 7 2 ∧ A 49 0 = 2 := by
  have sc := hR.sc
  omega
theorem sp_X_lacksEdge1 {d : Nat} {A : Mem} {Q : Int → Mem → Prop} (hR : RR A) (h2 : A 7 1 = 2) {i p : Int} (hp : p = 0 ∨ p = 1) (hQ : ∀ σ1 E, SF A σ1 → σ1 39 8 = ((E : Nat) : Int) → E ≤ 32 → SV A (σ1 42) (σ1 43) (σ1 44) E → (0 ≤ i → i < (E : Int) → Q 0 σ1) ∧ (i < 0 ∨ (E : Int) ≤ i → Q 1 σ1)) : wp (d + 6) m_X_lacksEdge [.inr (.inr 0), .inl i, .inl p] A Q := by
  have h3 := hR.two h2
  refine e_X_lacksEdge (sp_X_isPart1 hp ⟨fun h => absurd h (by decide), fun _ => sp_S_hasTwo1 h3.1 h2 ⟨fun h => absurd h (by decide), fun _ => ?_⟩⟩)
  refine sp_L_survey hR.1 h2 h3.2.1 Eqv.rfl (fun σ1 E g1 g2 g3 g4 => ?_)
  have z := hQ σ1 E g1 g2 g3 g4
  refine e_L_hasEdge ⟨fun h => ⟨fun _ => z.2 (Or.inl h), fun h => absurd rfl h⟩, fun h => ⟨fun hh => ⟨fun h => absurd h (by decide), fun _ => ?_⟩, fun hh => ⟨fun _ => ?_, fun h => absurd rfl h⟩⟩⟩
  · rw [g2] at hh; exact z.1 h hh
  · rw [g2] at hh; exact z.2 (Or.inr hh)
theorem eqv_rf {A σ1 σ2 : Mem} {k : Nat} {x y : Int} (e1 : Eqv A σ1) (hx : x = w32 (σ1 48 k + 1)) (e2 : Eqv (mset σ1 48 k x) σ2) (hy : y = w32 (σ2 64 k + 1)) : Eqv (mset (mset A 48 k (w32 (A 48 k + 1))) 64 k (w32 (A 64 k + 1))) (mset σ2 64 k y) := fun c i hl => by
  by_cases z : c = 64 ∧ i = k
  · obtain ⟨rfl, rfl⟩ := z
    rw [ms_eq, ms_eq, hy, e2 64 i rfl, ms_nk (by decide), e1 64 i rfl]
  · rw [ms_ne (by omega), ms_ne (by omega), e2 c i hl]
    by_cases z2 : c = 48 ∧ i = k
    · obtain ⟨rfl, rfl⟩ := z2
      rw [ms_eq, ms_eq, hx, e1 48 i rfl]
    · rw [ms_ne (by omega), ms_ne (by omega), e1 c i hl]
theorem RR.sr48 {A σ1 : Mem} {k : Nat} {x : Int} (hR : RR A) (e : Eqv A σ1) : SR 7 (mLive (mset σ1 48 k x)) (mset σ1 48 k x) := (hR.eqv e).1.eqv7 (fun c i hl => ms_nk (live_x (o := 48) hl rfl))
theorem ES.eqv48 {A σ1 : Mem} {a b : Nat → Int} {E k : Nat} {x : Int} (e : Eqv A σ1) (h : ES (mset σ1 48 k x) a b E) : ES A a b E := h.eqv (Or.inr (fun c i hl => by
  rw [ms_nk (live_x (o := 48) hl rfl)]
  unfold liveL at hl
  simp only [Bool.or_eq_true] at hl
  rcases hl with (hk | hk) | hk
  · have := Nat.eq_of_beq_eq_true hk; subst this; exact e _ _ rfl
  · have := Nat.eq_of_beq_eq_true hk; subst this; exact e _ _ rfl
  · have := Nat.eq_of_beq_eq_true hk; subst this; exact e _ _ rfl))
theorem pr_edges {A : Mem} (hR : RR A) : wp 40 m_X_edges [.inr (.inr 0)] A (fun r σ1 => wp 40 m_M_edges [.inr (.inr 49)] σ1 (fun r2 σ2 => PQ r r2 σ2)) := by
  have sc := hR.sc
  by_cases h2 : A 7 1 = 2
  · have h3 := hR.two h2
    refine e_X_edges (sp_S_hasTwo1 h3.1 h2 ⟨fun h => absurd h (by decide), fun _ => ?_⟩)
    refine sp_L_survey (d := 34) hR.1 h2 h3.2.1 Eqv.rfl (fun σ1 E g1 g2 g3 g4 => ?_)
    have e1 := SF.eqv Eqv.rfl g1
    refine e_M_edges ⟨fun _ => ?_, fun h => absurd ((e1 49 0 rfl).trans h3.2.2) h⟩
    refine sp_M_findEdges (d := 34) hR.1 h2 h3.2.1 e1 (fun σ2 F k1 k2 k3 k4 k5 k6 => ?_)
    have u := g4.1.uniq k4
    exact PQ.eqv hR (by rw [g2, k2, u.1]) (EF.eqv e1 k1)
  · repeat' first
    | with_reducible refine e_X_edges ?_
    | with_reducible refine e_S_hasTwo ?_
    | with_reducible refine e_M_edges ?_
    | with_reducible refine xr1 ?_
    | with_reducible refine xr2 ?_
    | with_reducible refine xr3 ?_
    | with_reducible refine xr4 ?_
    | with_reducible refine xr6 ?_
    | with_reducible refine mr1 ?_
    | with_reducible refine mr2 ?_
    | with_reducible refine mr3 ?_
    | with_reducible refine mr4 ?_
    | with_reducible refine mr6 ?_
    | with_reducible refine xf1 ?_
    | with_reducible refine xf2 ?_
    | with_reducible refine xf3 ?_
    | with_reducible refine xf6 ?_
    | with_reducible refine mf1 ?_
    | with_reducible refine mf2 ?_
    | with_reducible refine mf3 ?_
    | with_reducible refine mf6 ?_
    | with_reducible exact isB0
    | with_reducible exact isB1
    | with_reducible refine And.intro ?_ ?_
    | (with_reducible refine fun (hz : (_ : Int) < _) => ?_) <;> ((try simp (discharger := first | decide | omega) only [ms_eq, ms_nk, ms_ni, w32_id, w64_id, Int.toNat_natCast, not_true_eq_false, not_false_eq_true] at hz) ; (try (exfalso; omega)))
    | (with_reducible refine fun (hz : (_ : Int) ≤ _) => ?_) <;> ((try simp (discharger := first | decide | omega) only [ms_eq, ms_nk, ms_ni, w32_id, w64_id, Int.toNat_natCast, not_true_eq_false, not_false_eq_true] at hz) ; (try (exfalso; omega)))
    | (with_reducible refine fun (hz : (_ : Int) = _) => ?_) <;> ((try simp (discharger := first | decide | omega) only [ms_eq, ms_nk, ms_ni, w32_id, w64_id, Int.toNat_natCast, not_true_eq_false, not_false_eq_true] at hz) ; (try (exfalso; omega)))
    | (with_reducible refine fun (hz : ¬ (_ : Int) = _) => ?_) <;> ((try simp (discharger := first | decide | omega) only [ms_eq, ms_nk, ms_ni, w32_id, w64_id, Int.toNat_natCast, not_true_eq_false, not_false_eq_true] at hz) ; (try (exfalso; omega)))
    | (with_reducible refine fun (hz : _ ∨ _) => ?_) <;> ((try simp (discharger := first | decide | omega) only [ms_eq, ms_nk, ms_ni, w32_id, w64_id, Int.toNat_natCast, not_true_eq_false, not_false_eq_true] at hz) ; (try (exfalso; omega)))
    | omega
    | (simp (discharger := first | decide | omega) only [ms_eq, ms_nk, ms_ni, w32_id, w64_id, Int.toNat_natCast, not_true_eq_false, not_false_eq_true] ; omega)
    all_goals exact PQ.rf0 hR (by decide)
theorem pr_edge {A : Mem} (hR : RR A) {a1 : Int} (i1 : InI a1) {a2 : Int} (i2 : InI a2) : wp 40 m_X_edge [.inr (.inr 0), .inl a1, .inl a2] A (fun r σ1 => wp 40 m_M_edge [.inr (.inr 49), .inl a1, .inl a2] σ1 (fun r2 σ2 => PQ r r2 σ2)) := by
  have sc := hR.sc
  by_cases hp : a2 = 0 ∨ a2 = 1
  · by_cases h2 : A 7 1 = 2
    · have h3 := hR.two h2
      refine e_X_edge (sp_X_lacksEdge1 (d := 33) hR h2 hp (fun σ1 E g1 g2 g3 g4 => ⟨fun p1 p2 => ⟨fun _ => ?_, fun h => absurd rfl h⟩, fun p1 => ⟨fun h => absurd h (by decide), fun _ => ?_⟩⟩))
      · have e1 := SF.eqv Eqv.rfl g1
        obtain ⟨i, rfl⟩ : ∃ i : Nat, a1 = (i : Int) := ⟨a1.toNat, by omega⟩
        rw [Int.toNat_natCast]
        have b1 := g4.1.2.2.2.1 i (by omega)
        refine ⟨⟨by omega, by omega⟩, ⟨by omega, by omega⟩, sp_X_tell (d := 37) ⟨by omega, by omega⟩ ⟨by omega, by omega⟩ ?_⟩
        refine e_M_edge (sp_M_isPart1 (d := 37) hp ⟨fun h => absurd h (by decide), fun _ => ⟨fun _ => ?_, fun h => absurd ((e1 49 0 rfl).trans h3.2.2) h⟩⟩)
        refine sp_M_findEdges (d := 34) hR.1 h2 h3.2.1 e1 (fun σ2 F k1 k2 k3 k4 k5 k6 => ?_)
        have u := g4.1.uniq k4
        have b2 := k4.2.2.2.1 i (by omega)
        rw [k2, show w32 ((F : Int) - 1) = ((F - 1 : Nat) : Int) from w32_eq (by omega) (by omega)]
        refine e_M_in ⟨fun h => by omega, fun _ => ⟨fun h => by omega, fun _ => ⟨fun h => absurd h (by decide), fun _ => ?_⟩⟩⟩
        rw [Int.toNat_natCast]
        refine ⟨⟨by omega, by omega⟩, ⟨by omega, by omega⟩, sp_M_fr (d := 37) hp ⟨by omega, by omega⟩ ⟨by omega, by omega⟩ ?_⟩
        exact PQ.eqv hR (frP_eq (by omega) (by omega) (u.2 i (by omega))) (EF.eqv e1 k1)
      · have e1 := SF.eqv Eqv.rfl g1
        refine xf1 (d := 37) ?_
        refine e_M_edge (sp_M_isPart1 (d := 37) hp ⟨fun h => absurd h (by decide), fun _ => ⟨fun _ => ?_, fun h => absurd ?_ h⟩⟩)
        · refine sp_M_findEdges (d := 34) (hR.sr48 e1) (by rw [ms_nk (by decide), e1 7 1 rfl]; exact h2) (by rw [ms_nk (by decide), e1 7 2 rfl]; exact h3.2.1) Eqv.rfl (fun σ2 F k1 k2 k3 k4 k5 k6 => ?_)
          have u := g4.1.uniq (k4.eqv48 e1)
          have hF := k4.1
          rw [k2, show w32 ((F : Int) - 1) = ((F - 1 : Nat) : Int) from w32_eq (by omega) (by omega)]
          refine e_M_in ⟨fun h => ⟨fun _ => ?_, fun h => absurd rfl h⟩, fun _ => ⟨fun h => ⟨fun _ => ?_, fun h => absurd rfl h⟩, fun h => by omega⟩⟩
          · exact mf1 (d := 37) (PQ.rf hR (k := 1) (by decide) (eqv_rf e1 rfl (EF.eqv Eqv.rfl k1) rfl))
          · exact mf1 (d := 37) (PQ.rf hR (k := 1) (by decide) (eqv_rf e1 rfl (EF.eqv Eqv.rfl k1) rfl))
        · rw [ms_nk (by decide), e1 49 0 rfl]; exact h3.2.2
    · repeat' first
      | with_reducible refine e_X_edge ?_
      | with_reducible refine e_X_lacksEdge ?_
      | with_reducible refine e_X_isPart ?_
      | with_reducible refine e_S_hasTwo ?_
      | with_reducible refine e_M_edge ?_
      | with_reducible refine e_M_isPart ?_
      | with_reducible refine e_M_in ?_
      | with_reducible refine xr1 ?_
      | with_reducible refine xr2 ?_
      | with_reducible refine xr3 ?_
      | with_reducible refine xr4 ?_
      | with_reducible refine xr6 ?_
      | with_reducible refine mr1 ?_
      | with_reducible refine mr2 ?_
      | with_reducible refine mr3 ?_
      | with_reducible refine mr4 ?_
      | with_reducible refine mr6 ?_
      | with_reducible refine xf1 ?_
      | with_reducible refine xf2 ?_
      | with_reducible refine xf3 ?_
      | with_reducible refine xf6 ?_
      | with_reducible refine mf1 ?_
      | with_reducible refine mf2 ?_
      | with_reducible refine mf3 ?_
      | with_reducible refine mf6 ?_
      | with_reducible exact isB0
      | with_reducible exact isB1
      | with_reducible refine And.intro ?_ ?_
      | (with_reducible refine fun (hz : (_ : Int) < _) => ?_) <;> ((try simp (discharger := first | decide | omega) only [ms_eq, ms_nk, ms_ni, w32_id, w64_id, Int.toNat_natCast, not_true_eq_false, not_false_eq_true] at hz) ; (try (exfalso; omega)))
      | (with_reducible refine fun (hz : (_ : Int) ≤ _) => ?_) <;> ((try simp (discharger := first | decide | omega) only [ms_eq, ms_nk, ms_ni, w32_id, w64_id, Int.toNat_natCast, not_true_eq_false, not_false_eq_true] at hz) ; (try (exfalso; omega)))
      | (with_reducible refine fun (hz : (_ : Int) = _) => ?_) <;> ((try simp (discharger := first | decide | omega) only [ms_eq, ms_nk, ms_ni, w32_id, w64_id, Int.toNat_natCast, not_true_eq_false, not_false_eq_true] at hz) ; (try (exfalso; omega)))
      | (with_reducible refine fun (hz : ¬ (_ : Int) = _) => ?_) <;> ((try simp (discharger := first | decide | omega) only [ms_eq, ms_nk, ms_ni, w32_id, w64_id, Int.toNat_natCast, not_true_eq_false, not_false_eq_true] at hz) ; (try (exfalso; omega)))
      | (with_reducible refine fun (hz : _ ∨ _) => ?_) <;> ((try simp (discharger := first | decide | omega) only [ms_eq, ms_nk, ms_ni, w32_id, w64_id, Int.toNat_natCast, not_true_eq_false, not_false_eq_true] at hz) ; (try (exfalso; omega)))
      | omega
      | (simp (discharger := first | decide | omega) only [ms_eq, ms_nk, ms_ni, w32_id, w64_id, Int.toNat_natCast, not_true_eq_false, not_false_eq_true] ; omega)
      all_goals exact PQ.rf0 hR (by decide)
  · repeat' first
    | with_reducible refine e_X_edge ?_
    | with_reducible refine e_X_lacksEdge ?_
    | with_reducible refine e_X_isPart ?_
    | with_reducible refine e_M_edge ?_
    | with_reducible refine e_M_isPart ?_
    | with_reducible refine e_M_in ?_
    | with_reducible refine xr1 ?_
    | with_reducible refine xr2 ?_
    | with_reducible refine xr3 ?_
    | with_reducible refine xr4 ?_
    | with_reducible refine xr6 ?_
    | with_reducible refine mr1 ?_
    | with_reducible refine mr2 ?_
    | with_reducible refine mr3 ?_
    | with_reducible refine mr4 ?_
    | with_reducible refine mr6 ?_
    | with_reducible refine xf1 ?_
    | with_reducible refine xf2 ?_
    | with_reducible refine xf3 ?_
    | with_reducible refine xf6 ?_
    | with_reducible refine mf1 ?_
    | with_reducible refine mf2 ?_
    | with_reducible refine mf3 ?_
    | with_reducible refine mf6 ?_
    | with_reducible exact isB0
    | with_reducible exact isB1
    | with_reducible refine And.intro ?_ ?_
    | (with_reducible refine fun (hz : (_ : Int) < _) => ?_) <;> ((try simp (discharger := first | decide | omega) only [ms_eq, ms_nk, ms_ni, w32_id, w64_id, Int.toNat_natCast, not_true_eq_false, not_false_eq_true] at hz) ; (try (exfalso; omega)))
    | (with_reducible refine fun (hz : (_ : Int) ≤ _) => ?_) <;> ((try simp (discharger := first | decide | omega) only [ms_eq, ms_nk, ms_ni, w32_id, w64_id, Int.toNat_natCast, not_true_eq_false, not_false_eq_true] at hz) ; (try (exfalso; omega)))
    | (with_reducible refine fun (hz : (_ : Int) = _) => ?_) <;> ((try simp (discharger := first | decide | omega) only [ms_eq, ms_nk, ms_ni, w32_id, w64_id, Int.toNat_natCast, not_true_eq_false, not_false_eq_true] at hz) ; (try (exfalso; omega)))
    | (with_reducible refine fun (hz : ¬ (_ : Int) = _) => ?_) <;> ((try simp (discharger := first | decide | omega) only [ms_eq, ms_nk, ms_ni, w32_id, w64_id, Int.toNat_natCast, not_true_eq_false, not_false_eq_true] at hz) ; (try (exfalso; omega)))
    | (with_reducible refine fun (hz : _ ∨ _) => ?_) <;> ((try simp (discharger := first | decide | omega) only [ms_eq, ms_nk, ms_ni, w32_id, w64_id, Int.toNat_natCast, not_true_eq_false, not_false_eq_true] at hz) ; (try (exfalso; omega)))
    | omega
    | (simp (discharger := first | decide | omega) only [ms_eq, ms_nk, ms_ni, w32_id, w64_id, Int.toNat_natCast, not_true_eq_false, not_false_eq_true] ; omega)
    all_goals exact PQ.rf0 hR (by decide)
theorem pr_value {A : Mem} (hR : RR A) {a1 : Int} (i1 : InI a1) {a2 : Int} (i2 : InI a2) : wp 40 m_X_value [.inr (.inr 0), .inl a1, .inl a2] A (fun r σ1 => wp 40 m_M_value [.inr (.inr 49), .inl a1, .inl a2] σ1 (fun r2 σ2 => PQ r r2 σ2)) := by
  have sc := hR.sc
  by_cases hp : a2 = 0 ∨ a2 = 1
  · by_cases h2 : A 7 1 = 2
    · have h3 := hR.two h2
      have bf := hR.1.bef h2
      refine e_X_value ⟨fun hm => ?_, fun hm => ?_⟩
      · subst hm
        refine sp_X_lacksEdge1 (d := 33) hR h2 hp (fun σ1 E g1 g2 g3 g4 => ⟨fun p1 p2 => ⟨fun _ => ⟨fun _ => ?_, fun h => absurd rfl h⟩, fun h => absurd rfl h⟩, fun p1 => ?_⟩)
        · have e1 := SF.eqv Eqv.rfl g1
          have hh := g4.2.2 E (Nat.le_refl E)
          have hbb := hX_bd hR.1 h2 h3.2.1 (p := A 9 1) (q := A 7 6) ⟨by omega, by omega⟩
          rw [g2, Int.toNat_natCast, hh, g4.2.1.1, g4.2.1.2]
          refine ⟨⟨by omega, by omega⟩, ⟨by omega, by omega⟩, sp_X_tell (d := 37) ⟨by omega, by omega⟩ ⟨by omega, by omega⟩ ?_⟩
          refine e_M_value (sp_M_isPart1 (d := 37) hp ⟨fun h => absurd h (by decide), fun _ => ⟨fun _ => ?_, fun h => absurd ((e1 49 0 rfl).trans h3.2.2) h⟩⟩)
          refine sp_M_findEdges (d := 34) hR.1 h2 h3.2.1 e1 (fun σ2 F k1 k2 k3 k4 k5 k6 => ?_)
          have e2 := EF.eqv e1 k1
          have hF := k4.1
          rw [k2, show w32 ((F : Int) - 1) = ((F - 1 : Nat) : Int) from w32_eq (by omega) (by omega)]
          refine e_M_in ⟨fun h => by omega, fun _ => ⟨fun h => by omega, fun _ => ⟨fun h => absurd h (by decide), fun _ => ⟨fun _ => ?_, fun h => absurd h (by decide)⟩⟩⟩⟩
          rw [k2, Int.toNat_natCast]
          refine sp_M_valueOf (d := 35) hR.1 h2 h3.2.1 e2 (by omega) (by rw [k5, k6]; omega) (fun σ3 f3 => ⟨⟨by omega, by omega⟩, ?_⟩)
          rw [f3 72 F (by decide), k5, k6]
          refine sp_M_fr (d := 37) hp ⟨by omega, by omega⟩ ⟨by omega, by omega⟩ ?_
          exact PQ.eqv hR rfl (f3.eqv e2)
        · exfalso
          have := g4.1.1
          omega
      · refine sp_X_lacksEdge1 (d := 33) hR h2 hp (fun σ1 E g1 g2 g3 g4 => ⟨fun p1 p2 => ⟨fun _ => ⟨fun h => absurd h hm, fun _ => ?_⟩, fun h => absurd rfl h⟩, fun p1 => ⟨fun h => absurd h (by decide), fun _ => ?_⟩⟩)
        · have e1 := SF.eqv Eqv.rfl g1
          obtain ⟨i, rfl⟩ : ∃ i : Nat, a1 = (i : Int) := ⟨a1.toNat, by omega⟩
          have b1 := g4.1.2.2.2.1 i (by omega)
          have hh := g4.2.2 i (by omega)
          have hbb := hX_bd hR.1 h2 h3.2.1 (p := σ1 42 i) (q := σ1 43 i) ⟨by omega, by omega⟩
          rw [Int.toNat_natCast, hh]
          refine ⟨⟨by omega, by omega⟩, ⟨by omega, by omega⟩, sp_X_tell (d := 37) ⟨by omega, by omega⟩ ⟨by omega, by omega⟩ ?_⟩
          refine e_M_value (sp_M_isPart1 (d := 37) hp ⟨fun h => absurd h (by decide), fun _ => ⟨fun _ => ?_, fun h => absurd ((e1 49 0 rfl).trans h3.2.2) h⟩⟩)
          refine sp_M_findEdges (d := 34) hR.1 h2 h3.2.1 e1 (fun σ2 F k1 k2 k3 k4 k5 k6 => ?_)
          have e2 := EF.eqv e1 k1
          have u := g4.1.uniq k4
          have b2 := k4.2.2.2.1 i (by omega)
          rw [k2, show w32 ((F : Int) - 1) = ((F - 1 : Nat) : Int) from w32_eq (by omega) (by omega)]
          refine e_M_in ⟨fun h => by omega, fun _ => ⟨fun h => by omega, fun _ => ⟨fun h => absurd h (by decide), fun _ => ⟨fun h => by omega, fun _ => ?_⟩⟩⟩⟩
          refine sp_M_valueOf (d := 35) hR.1 h2 h3.2.1 e2 (by omega) ⟨b2.1, b2.2.1, b2.2.2.2⟩ (fun σ3 f3 => ⟨⟨by omega, by omega⟩, ?_⟩)
          rw [Int.toNat_natCast, f3 72 i (by decide)]
          have hb2 := hX_bd hR.1 h2 h3.2.1 (p := σ2 71 i) (q := σ2 72 i) ⟨by omega, by omega⟩
          refine sp_M_fr (d := 37) hp ⟨by omega, by omega⟩ ⟨by omega, by omega⟩ ?_
          exact PQ.eqv hR (frP_eq (by omega) (by omega) (hX_eq h2 (by omega) (by omega) (u.2 i (by omega)))) (f3.eqv e2)
        · have e1 := SF.eqv Eqv.rfl g1
          refine xf1 (d := 37) ?_
          refine e_M_value (sp_M_isPart1 (d := 37) hp ⟨fun h => absurd h (by decide), fun _ => ⟨fun _ => ?_, fun h => absurd ?_ h⟩⟩)
          · refine sp_M_findEdges (d := 34) (hR.sr48 e1) (by rw [ms_nk (by decide), e1 7 1 rfl]; exact h2) (by rw [ms_nk (by decide), e1 7 2 rfl]; exact h3.2.1) Eqv.rfl (fun σ2 F k1 k2 k3 k4 k5 k6 => ?_)
            have u := g4.1.uniq (k4.eqv48 e1)
            have hF := k4.1
            rw [k2, show w32 ((F : Int) - 1) = ((F - 1 : Nat) : Int) from w32_eq (by omega) (by omega)]
            refine e_M_in ⟨fun h => ⟨fun _ => ?_, fun h => absurd rfl h⟩, fun _ => ⟨fun h => ⟨fun _ => ?_, fun h => absurd rfl h⟩, fun h => by omega⟩⟩
            · exact mf1 (d := 37) (PQ.rf hR (k := 1) (by decide) (eqv_rf e1 rfl (EF.eqv Eqv.rfl k1) rfl))
            · exact mf1 (d := 37) (PQ.rf hR (k := 1) (by decide) (eqv_rf e1 rfl (EF.eqv Eqv.rfl k1) rfl))
          · rw [ms_nk (by decide), e1 49 0 rfl]; exact h3.2.2
    · repeat' first
      | with_reducible refine e_X_value ?_
      | with_reducible refine e_X_lacksEdge ?_
      | with_reducible refine e_X_isPart ?_
      | with_reducible refine e_S_hasTwo ?_
      | with_reducible refine e_M_value ?_
      | with_reducible refine e_M_isPart ?_
      | with_reducible refine e_M_in ?_
      | with_reducible refine xr1 ?_
      | with_reducible refine xr2 ?_
      | with_reducible refine xr3 ?_
      | with_reducible refine xr4 ?_
      | with_reducible refine xr6 ?_
      | with_reducible refine mr1 ?_
      | with_reducible refine mr2 ?_
      | with_reducible refine mr3 ?_
      | with_reducible refine mr4 ?_
      | with_reducible refine mr6 ?_
      | with_reducible refine xf1 ?_
      | with_reducible refine xf2 ?_
      | with_reducible refine xf3 ?_
      | with_reducible refine xf6 ?_
      | with_reducible refine mf1 ?_
      | with_reducible refine mf2 ?_
      | with_reducible refine mf3 ?_
      | with_reducible refine mf6 ?_
      | with_reducible exact isB0
      | with_reducible exact isB1
      | with_reducible refine And.intro ?_ ?_
      | (with_reducible refine fun (hz : (_ : Int) < _) => ?_) <;> ((try simp (discharger := first | decide | omega) only [ms_eq, ms_nk, ms_ni, w32_id, w64_id, Int.toNat_natCast, not_true_eq_false, not_false_eq_true] at hz) ; (try (exfalso; omega)))
      | (with_reducible refine fun (hz : (_ : Int) ≤ _) => ?_) <;> ((try simp (discharger := first | decide | omega) only [ms_eq, ms_nk, ms_ni, w32_id, w64_id, Int.toNat_natCast, not_true_eq_false, not_false_eq_true] at hz) ; (try (exfalso; omega)))
      | (with_reducible refine fun (hz : (_ : Int) = _) => ?_) <;> ((try simp (discharger := first | decide | omega) only [ms_eq, ms_nk, ms_ni, w32_id, w64_id, Int.toNat_natCast, not_true_eq_false, not_false_eq_true] at hz) ; (try (exfalso; omega)))
      | (with_reducible refine fun (hz : ¬ (_ : Int) = _) => ?_) <;> ((try simp (discharger := first | decide | omega) only [ms_eq, ms_nk, ms_ni, w32_id, w64_id, Int.toNat_natCast, not_true_eq_false, not_false_eq_true] at hz) ; (try (exfalso; omega)))
      | (with_reducible refine fun (hz : _ ∨ _) => ?_) <;> ((try simp (discharger := first | decide | omega) only [ms_eq, ms_nk, ms_ni, w32_id, w64_id, Int.toNat_natCast, not_true_eq_false, not_false_eq_true] at hz) ; (try (exfalso; omega)))
      | omega
      | (simp (discharger := first | decide | omega) only [ms_eq, ms_nk, ms_ni, w32_id, w64_id, Int.toNat_natCast, not_true_eq_false, not_false_eq_true] ; omega)
      all_goals exact PQ.rf0 hR (by decide)
  · repeat' first
    | with_reducible refine e_X_value ?_
    | with_reducible refine e_X_lacksEdge ?_
    | with_reducible refine e_X_isPart ?_
    | with_reducible refine e_M_value ?_
    | with_reducible refine e_M_isPart ?_
    | with_reducible refine e_M_in ?_
    | with_reducible refine xr1 ?_
    | with_reducible refine xr2 ?_
    | with_reducible refine xr3 ?_
    | with_reducible refine xr4 ?_
    | with_reducible refine xr6 ?_
    | with_reducible refine mr1 ?_
    | with_reducible refine mr2 ?_
    | with_reducible refine mr3 ?_
    | with_reducible refine mr4 ?_
    | with_reducible refine mr6 ?_
    | with_reducible refine xf1 ?_
    | with_reducible refine xf2 ?_
    | with_reducible refine xf3 ?_
    | with_reducible refine xf6 ?_
    | with_reducible refine mf1 ?_
    | with_reducible refine mf2 ?_
    | with_reducible refine mf3 ?_
    | with_reducible refine mf6 ?_
    | with_reducible exact isB0
    | with_reducible exact isB1
    | with_reducible refine And.intro ?_ ?_
    | (with_reducible refine fun (hz : (_ : Int) < _) => ?_) <;> ((try simp (discharger := first | decide | omega) only [ms_eq, ms_nk, ms_ni, w32_id, w64_id, Int.toNat_natCast, not_true_eq_false, not_false_eq_true] at hz) ; (try (exfalso; omega)))
    | (with_reducible refine fun (hz : (_ : Int) ≤ _) => ?_) <;> ((try simp (discharger := first | decide | omega) only [ms_eq, ms_nk, ms_ni, w32_id, w64_id, Int.toNat_natCast, not_true_eq_false, not_false_eq_true] at hz) ; (try (exfalso; omega)))
    | (with_reducible refine fun (hz : (_ : Int) = _) => ?_) <;> ((try simp (discharger := first | decide | omega) only [ms_eq, ms_nk, ms_ni, w32_id, w64_id, Int.toNat_natCast, not_true_eq_false, not_false_eq_true] at hz) ; (try (exfalso; omega)))
    | (with_reducible refine fun (hz : ¬ (_ : Int) = _) => ?_) <;> ((try simp (discharger := first | decide | omega) only [ms_eq, ms_nk, ms_ni, w32_id, w64_id, Int.toNat_natCast, not_true_eq_false, not_false_eq_true] at hz) ; (try (exfalso; omega)))
    | (with_reducible refine fun (hz : _ ∨ _) => ?_) <;> ((try simp (discharger := first | decide | omega) only [ms_eq, ms_nk, ms_ni, w32_id, w64_id, Int.toNat_natCast, not_true_eq_false, not_false_eq_true] at hz) ; (try (exfalso; omega)))
    | omega
    | (simp (discharger := first | decide | omega) only [ms_eq, ms_nk, ms_ni, w32_id, w64_id, Int.toNat_natCast, not_true_eq_false, not_false_eq_true] ; omega)
    all_goals exact PQ.rf0 hR (by decide)
