-- PURE, 44: feed
def byt (x : Int) (i : Nat) : Int := andL (shrL x ((8 * i : Nat) : Int)) 255
theorem and255 (a : Int64) : 0 ≤ (a &&& (Int64.ofInt 255)).toInt ∧ (a &&& (Int64.ofInt 255)).toInt ≤ 255 := by
  have h1 : (a &&& (Int64.ofInt 255)).toBitVec.toNat ≤ 255 := by
    have e : (a &&& (Int64.ofInt 255)).toBitVec = a.toBitVec &&& 255#64 := rfl
    rw [e, BitVec.toNat_and]
    exact Nat.and_le_right
  have e2 : (a &&& (Int64.ofInt 255)).toInt = ((a &&& (Int64.ofInt 255)).toBitVec.toNat : Int) := by
    have e3 : (a &&& (Int64.ofInt 255)).toInt = (a &&& (Int64.ofInt 255)).toBitVec.toInt := rfl
    rw [e3, BitVec.toInt_eq_toNat_of_lt (by omega)]
  omega
theorem byt_bd {x : Int} {i : Nat} : 0 ≤ byt x i ∧ byt x i ≤ 255 := and255 _
theorem pr_feed {A : Mem} (hR : RR A) {a1 : Int} (i1 : InI a1) {a2 : Int}  : wp 40 m_X_feed [.inr (.inr 0), .inl a1, .inr (.inl a2)] A (fun r σ1 => wp 40 m_M_feed [.inr (.inr 49), .inl a1, .inr (.inl a2)] σ1 (fun r2 σ2 => PQ r r2 σ2)) := by
  have sc := hR.sc
  unfold InI at i1
  repeat' first
    | with_reducible refine e_X_feed ?_
    | with_reducible refine xr1 ?_
    | with_reducible refine xr2 ?_
    | with_reducible refine xr3 ?_
    | with_reducible refine xr4 ?_
    | with_reducible refine xr6 ?_
    | with_reducible refine mr1 ?_
    | with_reducible refine mr2 ?_
    | with_reducible refine mr3 ?_
    | with_reducible refine mr4 ?_
    | with_reducible refine mr6 ?_
    | with_reducible refine xf1 ?_
    | with_reducible refine xf2 ?_
    | with_reducible refine xf3 ?_
    | with_reducible refine xf6 ?_
    | with_reducible refine mf1 ?_
    | with_reducible refine mf2 ?_
    | with_reducible refine mf3 ?_
    | with_reducible refine mf6 ?_
    | with_reducible exact isB0
    | with_reducible exact isB1
    | with_reducible refine And.intro ?_ ?_
    | (with_reducible refine fun (hz : (_ : Int) < _) => ?_) <;> ((try simp (discharger := first | decide | omega) only [ms_eq, ms_nk, ms_ni, w32_id, w64_id, Int.toNat_natCast, not_true_eq_false, not_false_eq_true] at hz) ; (try (exfalso; omega)))
    | (with_reducible refine fun (hz : (_ : Int) ≤ _) => ?_) <;> ((try simp (discharger := first | decide | omega) only [ms_eq, ms_nk, ms_ni, w32_id, w64_id, Int.toNat_natCast, not_true_eq_false, not_false_eq_true] at hz) ; (try (exfalso; omega)))
    | (with_reducible refine fun (hz : (_ : Int) = _) => ?_) <;> ((try simp (discharger := first | decide | omega) only [ms_eq, ms_nk, ms_ni, w32_id, w64_id, Int.toNat_natCast, not_true_eq_false, not_false_eq_true] at hz) ; (try (exfalso; omega)))
    | (with_reducible refine fun (hz : ¬ (_ : Int) = _) => ?_) <;> ((try simp (discharger := first | decide | omega) only [ms_eq, ms_nk, ms_ni, w32_id, w64_id, Int.toNat_natCast, not_true_eq_false, not_false_eq_true] at hz) ; (try (exfalso; omega)))
    | (with_reducible refine fun (hz : _ ∨ _) => ?_) <;> ((try simp (discharger := first | decide | omega) only [ms_eq, ms_nk, ms_ni, w32_id, w64_id, Int.toNat_natCast, not_true_eq_false, not_false_eq_true] at hz) ; (try (exfalso; omega)))
    | omega
    | (simp (discharger := first | decide | omega) only [ms_eq, ms_nk, ms_ni, w32_id, w64_id, Int.toNat_natCast, not_true_eq_false, not_false_eq_true] ; omega)
  all_goals first
    | (repeat' first
      | with_reducible refine e_M_feed ?_
      | with_reducible refine xr1 ?_
      | with_reducible refine xr2 ?_
      | with_reducible refine xr3 ?_
      | with_reducible refine xr4 ?_
      | with_reducible refine xr6 ?_
      | with_reducible refine mr1 ?_
      | with_reducible refine mr2 ?_
      | with_reducible refine mr3 ?_
      | with_reducible refine mr4 ?_
      | with_reducible refine mr6 ?_
      | with_reducible refine xf1 ?_
      | with_reducible refine xf2 ?_
      | with_reducible refine xf3 ?_
      | with_reducible refine xf6 ?_
      | with_reducible refine mf1 ?_
      | with_reducible refine mf2 ?_
      | with_reducible refine mf3 ?_
      | with_reducible refine mf6 ?_
      | with_reducible exact isB0
      | with_reducible exact isB1
      | with_reducible refine And.intro ?_ ?_
      | (with_reducible refine fun (hz : (_ : Int) < _) => ?_) <;> ((try simp (discharger := first | decide | omega) only [ms_eq, ms_nk, ms_ni, w32_id, w64_id, Int.toNat_natCast, not_true_eq_false, not_false_eq_true] at hz) ; (try (exfalso; omega)))
      | (with_reducible refine fun (hz : (_ : Int) ≤ _) => ?_) <;> ((try simp (discharger := first | decide | omega) only [ms_eq, ms_nk, ms_ni, w32_id, w64_id, Int.toNat_natCast, not_true_eq_false, not_false_eq_true] at hz) ; (try (exfalso; omega)))
      | (with_reducible refine fun (hz : (_ : Int) = _) => ?_) <;> ((try simp (discharger := first | decide | omega) only [ms_eq, ms_nk, ms_ni, w32_id, w64_id, Int.toNat_natCast, not_true_eq_false, not_false_eq_true] at hz) ; (try (exfalso; omega)))
      | (with_reducible refine fun (hz : ¬ (_ : Int) = _) => ?_) <;> ((try simp (discharger := first | decide | omega) only [ms_eq, ms_nk, ms_ni, w32_id, w64_id, Int.toNat_natCast, not_true_eq_false, not_false_eq_true] at hz) ; (try (exfalso; omega)))
      | (with_reducible refine fun (hz : _ ∨ _) => ?_) <;> ((try simp (discharger := first | decide | omega) only [ms_eq, ms_nk, ms_ni, w32_id, w64_id, Int.toNat_natCast, not_true_eq_false, not_false_eq_true] at hz) ; (try (exfalso; omega)))
      | omega
      | (simp (discharger := first | decide | omega) only [ms_eq, ms_nk, ms_ni, w32_id, w64_id, Int.toNat_natCast, not_true_eq_false, not_false_eq_true] ; omega)
       all_goals first
         | exact PQ.rf0 hR (by decide)
         | skip
       done)
    | skip
  obtain ⟨n, rfl⟩ : ∃ n : Nat, a1 = (n : Int) := ⟨a1.toNat, by omega⟩
  obtain ⟨L, hL⟩ : ∃ L : Nat, A 1 1 = (L : Int) := ⟨(A 1 1).toNat, by omega⟩
  have hLn : L + n ≤ 90 := by omega
  have hL2 : A 49 18 = (L : Int) := by omega
  have wb : ∀ i : Nat, i < 9 → w32 (andL (shrL a2 (w32 (8 * (i : Int)))) 255) = byt a2 i := fun i hi => by
    have e : w32 (8 * (i : Int)) = ((8 * i : Nat) : Int) := w32_eq (by omega) (by omega)
    rw [e]
    have := byt_bd (x := a2) (i := i)
    exact w32_id (by unfold byt at this; omega) (by unfold byt at this; omega)
  have fX : ∀ σ, (∀ k i, k ≠ 2 → ¬ (k = 1 ∧ i = 1) → σ k i = A k i) → σ 1 1 = ((L + n : Nat) : Int) → (∀ j, j < L → σ 2 j = A 2 j) → (∀ j, j < n → σ 2 (L + j) = byt a2 j) → wp 40 m_M_feed [.inr (.inr 49), .inl (n : Int), .inr (.inl a2)] σ (fun r2 σ2 => PQ (σ 1 1) r2 σ2) := fun σ hF h11 hlo hhi => by
    have q18 : σ 49 18 = (L : Int) := by rw [hF 49 18 (by decide) (by omega)]; exact hL2
    refine e_M_feed ⟨fun h => by omega, fun _ => ⟨fun h => by omega, fun _ => ⟨fun h => ?_, fun _ => ?_⟩⟩⟩
    · rw [q18, w32_id (by omega) (by omega)] at h; omega
    refine upto (n := n) (P := fun i => ∀ τ, (∀ k j, k ≠ 60 → ¬ (k = 49 ∧ j = 18) → τ k j = σ k j) → τ 49 18 = ((L + i : Nat) : Int) → (∀ j, j < L → τ 60 j = A 60 j) → (∀ j, j < i → τ 60 (L + j) = byt a2 j) → K_M_feed_39 39 (fun r2 σ2 => PQ (σ 1 1) r2 σ2) (n : Int) a2 ((i : Nat) : Int) τ) (fun τ hT h18 t1 t2 => ?_) (fun i hi ih τ hT h18 t1 t2 => ?_) σ (fun _ _ _ _ => rfl) q18 (fun j hj => hF 60 j (by decide) (by omega)) (fun j h => absurd h (by omega))
    · refine e_M_feed_39 ⟨fun h => by omega, fun _ => ⟨by rw [h11, h18], ?_⟩⟩
      have kk : ∀ k i, k ≠ 2 → k ≠ 60 → ¬ (k = 1 ∧ i = 1) → ¬ (k = 49 ∧ i = 18) → τ k i = A k i := fun k i h1 h2 h3 h4 => by rw [hT k i h2 h4, hF k i h1 h3]
      have e11 : τ 1 1 = ((L + n : Nat) : Int) := by rw [hT 1 1 (by decide) (by omega)]; exact h11
      have hIm : RI A := hR.ri
      have hSR : SR 7 (mLive τ) τ := hR.1.eqv7 (fun k i hl => by
        have l := live_ok (l := [(1, 1), (49, 18)]) hl (by decide)
        simp only [List.mem_cons, List.not_mem_nil, or_false, forall_eq_or_imp, forall_eq] at l
        exact kk k i (live_x (o := 2) hl rfl) (live_x (o := 60) hl rfl) l.1 l.2)
      have hPast : PastR τ := hR.2.2.1.eqv (fun k i hl => by
        have l := live_ok (l := [(1, 1), (49, 18)]) hl (by decide)
        simp only [List.mem_cons, List.not_mem_nil, or_false, forall_eq_or_imp, forall_eq] at l
        exact kk k i (live_x (o := 2) hl rfl) (live_x (o := 60) hl rfl) l.1 l.2)
      have eI : mImg τ = mImg A := by
        funext f i
        unfold mImg
        split <;> exact kk _ _ (by decide) (by decide) (by omega) (by omega)
      refine ⟨hSR, ?_, hPast, ?_, ?_, fun j hj => ?_⟩
      · rcases hR.2.1 with z | z
        · exact Or.inl ⟨by rw [kk 19 0 (by decide) (by decide) (by omega) (by omega)]; exact z.1, by rw [kk 49 55 (by decide) (by decide) (by omega) (by omega)]; exact z.2⟩
        · exact Or.inr ⟨by rw [kk 19 0 (by decide) (by decide) (by omega) (by omega)]; exact z.1, by rw [kk 49 55 (by decide) (by decide) (by omega) (by omega)]; exact z.2.1, (z.2.2.c19 (fun k i hk => kk k i (by omega) (by omega) (by omega) (by omega))).ms eI⟩
      · rw [kk 0 2 (by decide) (by decide) (by omega) (by omega), kk 49 16 (by decide) (by decide) (by omega) (by omega)]
        refine ⟨hR.2.2.2.1.1, hR.2.2.2.1.2.1, hR.2.2.2.1.2.2.1, fun j hj => ?_⟩
        rw [kk 6 j (by decide) (by decide) (by omega) (by omega), kk 59 j (by decide) (by decide) (by omega) (by omega)]
        exact hR.2.2.2.1.2.2.2 j hj
      · rw [e11, h18]
        refine ⟨rfl, by omega, by omega, fun j hj => ?_⟩
        have h2 : τ 2 j = σ 2 j := hT 2 j (by decide) (by omega)
        by_cases e : j < L
        · rw [h2, hlo j e, t1 j e]
          exact hR.2.2.2.2.1.2.2.2 j (by omega)
        · have hb := byt_bd (x := a2) (i := j - L)
          have u1 := hhi (j - L) (by omega)
          have u2 := t2 (j - L) (by omega)
          rw [show L + (j - L) = j by omega] at u1 u2
          rw [h2, u1, u2]
          exact ⟨rfl, hb⟩
      · rw [kk 48 j (by decide) (by decide) (by omega) (by omega), kk 64 j (by decide) (by decide) (by omega) (by omega)]
        exact hR.2.2.2.2.2 j hj
    · have e1 : w32 ((i : Int) + 1) = ((i + 1 : Nat) : Int) := w32_eq (by omega) (by omega)
      refine e_M_feed_39 ⟨fun _ => ?_, fun h => by omega⟩
      rw [e1, wb i (by omega), h18, Int.toNat_natCast, ms_nk (by decide), h18, w32_eq (n := L + (i + 1)) (by omega) (by omega)]
      refine ⟨⟨by omega, by omega⟩, ih _ (fun k j h1 h2 => ?_) ms_eq (fun j hj => ?_) (fun j hj => ?_)⟩
      · rw [ms_ne (by omega), ms_nk h1]; exact hT k j h1 h2
      · rw [ms_nk (by decide), ms_ni (by omega)]; exact t1 j hj
      · rw [ms_nk (by decide)]
        by_cases e : j = i
        · subst e; exact ms_eq
        · rw [ms_ni (by omega)]; exact t2 j (by omega)
  refine e_T_append ?_
  refine upto (n := n) (P := fun i => ∀ σ, (∀ k j, k ≠ 2 → ¬ (k = 1 ∧ j = 1) → σ k j = A k j) → σ 1 1 = ((L + i : Nat) : Int) → (∀ j, j < L → σ 2 j = A 2 j) → (∀ j, j < i → σ 2 (L + j) = byt a2 j) → K_T_append_3 38 (fun r s => wp 40 m_M_feed [.inr (.inr 49), .inl (n : Int), .inr (.inl a2)] s (fun r2 σ2 => PQ (s 1 1) r2 σ2)) (n : Int) a2 ((i : Nat) : Int) σ) (fun σ hF h11 h1 h2 => ?_) (fun i hi ih σ hF h11 h1 h2 => ?_) A (fun _ _ _ _ => rfl) hL (fun _ _ => rfl) (fun j h => absurd h (by omega))
  · exact e_T_append_3 ⟨fun h => by omega, fun _ => fX σ hF h11 h1 h2⟩
  · have e1 : w32 ((i : Int) + 1) = ((i + 1 : Nat) : Int) := w32_eq (by omega) (by omega)
    refine e_T_append_3 ⟨fun _ => ⟨fun _ => ?_, fun h => by omega⟩, fun h => by omega⟩
    rw [e1, wb i (by omega), h11, Int.toNat_natCast, ms_nk (by decide), h11, w32_eq (n := L + (i + 1)) (by omega) (by omega)]
    refine ⟨⟨by omega, by omega⟩, ih _ (fun k j g1 g2 => ?_) ms_eq (fun j hj => ?_) (fun j hj => ?_)⟩
    · rw [ms_ne (by omega), ms_nk g1]; exact hF k j g1 g2
    · rw [ms_nk (by decide), ms_ni (by omega)]; exact h1 j hj
    · rw [ms_nk (by decide)]
      by_cases e : j = i
      · subst e; exact ms_eq
      · rw [ms_ni (by omega)]; exact h2 j (by omega)
