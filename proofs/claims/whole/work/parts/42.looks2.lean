-- PURE, 13: plain, look
theorem sumN_delta {c : Int} {t : Nat} : ∀ {n : Nat}, sumN n (fun s => if s = t then c else 0) = if t < n then c else 0
  | 0 => by simp [sumN]
  | n + 1 => by
    show sumN n (fun s => if s = t then c else 0) + (if n = t then c else 0) = _
    rw [sumN_delta]
    grind
theorem pr_plain {A : Mem} (hR : RR A) {a1 : Int} (i1 : InI a1) : wp 40 m_X_plain [.inr (.inr 0), .inl a1] A (fun r σ1 => wp 40 m_M_plain [.inr (.inr 49), .inl a1] σ1 (fun r2 σ2 => PQ r r2 σ2)) := by
  have sc := hR.sc
  have hT4 := tN4 hR.1
  unfold InI at i1
  have hTe : A 7 1 = ((tN A : Nat) : Int) := by show A 7 1 = ((A 7 1).toNat : Int); omega
  have main : ∀ w k : Nat, 0 ≤ a1 → a1 ≤ 1 → a1 = (w : Int) → (w = 0 ∧ k = 1 ∨ ¬ w = 0 ∧ k = tN A) → A 7 10 < 12 → ¬ A 7 0 = 0 → K_X_plain_68 39 (fun r σ1 => wp 40 m_M_plain [.inr (.inr 49), .inl a1] σ1 (fun r2 σ2 => PQ r r2 σ2)) (w : Int) (k : Int) 0 A := by
    intro w k h0 h1 ha hk hl hop
    obtain ⟨m, o, hm, ho⟩ := moEx (n := A 31 0) (by omega)
    obtain ⟨n, hn⟩ : ∃ n : Nat, A 7 10 = (n : Int) := ⟨(A 7 10).toNat, by omega⟩
    have hn12 : n < 12 := by omega
    refine upto (n := tN A) (P := fun t => ∀ σ g, WR 14 A σ n g → (∀ t2 s2, t2 < t → s2 < k → g t2 s2 = fPl w t2 s2) → K_X_plain_68 39 _ (w : Int) (k : Int) ((t : Nat) : Int) σ) (fun σ g hW hg => ?_) (fun t ht ih σ g hW hg => ?_) A _ WR.rfl (fun t2 s2 h => absurd h (by omega))
    · refine e_X_plain_68 ⟨fun h => by rw [hW.out (by decide)] at h; omega, fun _ => ?_⟩
      refine sp_X_keepLook0 (k := k) (f := fPl w) hT4 (by omega) hW hn hn12 hg hm ho (fun σ1 X hv => ?_)
      have x49 : ∀ i, σ1 49 i = A 49 i := fun i => X.1 49 i (by omega) (by omega) (by omega) (by omega) (by omega)
      repeat' first
        | with_reducible refine e_M_plain ?_
        | with_reducible refine e_M_in ?_
        | with_reducible refine xr1 ?_
        | with_reducible refine xr2 ?_
        | with_reducible refine xr3 ?_
        | with_reducible refine xr4 ?_
        | with_reducible refine xr6 ?_
        | with_reducible refine mr1 ?_
        | with_reducible refine mr2 ?_
        | with_reducible refine mr3 ?_
        | with_reducible refine mr4 ?_
        | with_reducible refine mr6 ?_
        | with_reducible refine xf1 ?_
        | with_reducible refine xf2 ?_
        | with_reducible refine xf3 ?_
        | with_reducible refine xf6 ?_
        | with_reducible refine mf1 ?_
        | with_reducible refine mf2 ?_
        | with_reducible refine mf3 ?_
        | with_reducible refine mf6 ?_
        | with_reducible exact isB0
        | with_reducible exact isB1
        | with_reducible refine And.intro ?_ ?_
        | (with_reducible refine fun (hz : (_ : Int) < _) => ?_) <;> ((try simp (discharger := first | decide | omega) only [ms_eq, ms_nk, ms_ni, w32_id, w64_id, Int.toNat_natCast, not_true_eq_false, not_false_eq_true, x49] at hz) ; (try (exfalso; omega)))
        | (with_reducible refine fun (hz : (_ : Int) ≤ _) => ?_) <;> ((try simp (discharger := first | decide | omega) only [ms_eq, ms_nk, ms_ni, w32_id, w64_id, Int.toNat_natCast, not_true_eq_false, not_false_eq_true, x49] at hz) ; (try (exfalso; omega)))
        | (with_reducible refine fun (hz : (_ : Int) = _) => ?_) <;> ((try simp (discharger := first | decide | omega) only [ms_eq, ms_nk, ms_ni, w32_id, w64_id, Int.toNat_natCast, not_true_eq_false, not_false_eq_true, x49] at hz) ; (try (exfalso; omega)))
        | (with_reducible refine fun (hz : ¬ (_ : Int) = _) => ?_) <;> ((try simp (discharger := first | decide | omega) only [ms_eq, ms_nk, ms_ni, w32_id, w64_id, Int.toNat_natCast, not_true_eq_false, not_false_eq_true, x49] at hz) ; (try (exfalso; omega)))
        | (with_reducible refine fun (hz : _ ∨ _) => ?_) <;> ((try simp (discharger := first | decide | omega) only [ms_eq, ms_nk, ms_ni, w32_id, w64_id, Int.toNat_natCast, not_true_eq_false, not_false_eq_true, x49] at hz) ; (try (exfalso; omega)))
        | omega
        | (simp (discharger := first | decide | omega) only [ms_eq, ms_nk, ms_ni, w32_id, w64_id, Int.toNat_natCast, not_true_eq_false, not_false_eq_true, x49] ; omega)
      refine sp_M_clear (n := n) (by rw [x49]; omega) hn12 (fun σ2 g2 hW2 hg2 => ?_)
      rw [ha]
      refine upto (n := tN A) (P := fun t => ∀ σ g, WR 54 σ1 σ n g → (∀ t2 s2, t2 < 4 → s2 < k → g t2 s2 = if t2 < t then fPl w t2 s2 else 0) → K_M_plain_53 39 _ (w : Int) ((t : Nat) : Int) σ) (fun σ g hW hg => ?_) (fun t ht ih σ g hW hg => ?_) σ2 g2 hW2 (fun t2 s2 h1 h2 => by rw [if_neg (by omega)]; exact hg2 t2 s2 h1 (by omega))
      · have fin : wp 39 m_M_newLook [.inr (.inr 49), .inl (k : Int)] σ (fun r2 σ2 => PQ (n : Int) r2 σ2) := by
          refine sp_M_newLook0 (k := k) (T := tN A) (f := fPl w) (m := m) (o := o) hT4 (by omega) hW (by rw [x49]; omega) hn12 (fun t2 s2 h1 h2 => by rw [hg t2 s2 (by omega) h2, if_pos h1]) (by rw [x49]; omega) ho (fun B M hv2 => ⟨rfl, ?_⟩)
          refine hR.addLook hn hn12 (by omega) hm ho X M (Or.inl ⟨hv, hv2⟩) (fun t2 s2 _ _ => ?_) (fun t2 ht2 => ?_)
          · unfold fPl
            split <;> omega
          · rcases hk with ⟨rfl, rfl⟩ | ⟨hw, rfl⟩
            · rfl
            · have : (fun s => fPl w t2 s) = (fun s => if s = t2 then (60 : Int) else 0) := by
                funext s
                unfold fPl
                simp [hw]
              rw [this, sumN_delta, if_pos ht2]
        refine e_M_plain_53 ⟨fun h => by rw [hW.out (by decide), x49] at h; omega, fun _ => ⟨fun h => ?_, fun h => ?_⟩⟩
        · have : k = 1 := by omega
          subst this
          exact fin
        · have : σ 49 0 = (k : Int) := by rw [hW.out (by decide), x49]; omega
          rw [this]
          exact fin
      · have e0 : σ 49 0 = A 7 1 := by rw [hW.out (by decide), x49]; omega
        have e6 : σ 49 6 = (n : Int) := by rw [hW.out (by decide), x49]; omega
        have e1 : w32 ((t : Int) + 1) = ((t + 1 : Nat) : Int) := w32_eq (by omega) (by omega)
        refine e_M_plain_53 ⟨fun _ => ?_, fun h => by rw [e0] at h; omega⟩
        rw [e6, e1]
        refine ⟨fun h => sp_M_place (s := 0) (by omega) (by omega) (by omega) ⟨⟨by omega, by omega⟩, ?_⟩, fun h => sp_M_place (by omega) (by omega) (by omega) ⟨⟨by omega, by omega⟩, ?_⟩⟩
        · rw [Int.toNat_natCast]
          refine ih _ _ (hW.set (by omega) (by omega)) (fun t2 s2 h1 h2 => ?_)
          have := hg t2 s2 h1 h2
          unfold updG fPl at *
          grind
        · rw [Int.toNat_natCast]
          refine ih _ _ (hW.set (by omega) (by omega)) (fun t2 s2 h1 h2 => ?_)
          have := hg t2 s2 h1 h2
          unfold updG fPl at *
          grind
    · have e0 : σ 7 1 = A 7 1 := hW.out (by decide)
      refine e_X_plain_68 ⟨fun _ => ?_, fun h => by rw [e0] at h; omega⟩
      refine upto (n := k) (P := fun s => ∀ σ g, WR 14 A σ n g → (∀ t2 s2, t2 < t → s2 < k → g t2 s2 = fPl w t2 s2) → (∀ s2, s2 < s → g t s2 = fPl w t s2) → K_X_plain_82 39 _ (w : Int) (k : Int) (t : Int) ((s : Nat) : Int) σ) (fun σ g hW hg hg2 => ?_) (fun s hs ih2 σ g hW hg hg2 => ?_) σ g hW hg (fun s2 h => absurd h (by omega))
      · refine e_X_plain_82 ⟨fun h => by omega, fun _ => ?_⟩
        have e1 : w32 ((t : Int) + 1) = ((t + 1 : Nat) : Int) := w32_eq (by omega) (by omega)
        rw [e1]
        refine ih _ _ hW (fun t2 s2 h1 h2 => ?_)
        by_cases e : t2 = t
        · subst e; exact hg2 s2 h2
        · exact hg t2 s2 (by omega) h2
      · have e1 : w32 ((s : Int) + 1) = ((s + 1 : Nat) : Int) := w32_eq (by omega) (by omega)
        refine e_X_plain_82 ⟨fun _ => ?_, fun h => by omega⟩
        rw [e1]
        refine ⟨fun h => sp_S_write hW hn hn12 (by omega) (by omega) (fun σ3 hW3 => ih2 _ _ hW3 (fun t2 s2 h1 h2 => ?_) (fun s2 h2 => ?_)), fun h => ⟨fun h3 => sp_S_write hW hn hn12 (by omega) (by omega) (fun σ3 hW3 => ih2 _ _ hW3 (fun t2 s2 h1 h2 => ?_) (fun s2 h2 => ?_)), fun h3 => sp_S_write hW hn hn12 (by omega) (by omega) (fun σ3 hW3 => ih2 _ _ hW3 (fun t2 s2 h1 h2 => ?_) (fun s2 h2 => ?_))⟩⟩
        all_goals first
          | (rw [updG_ne (by omega)]; exact hg t2 s2 h1 h2)
          | (have := hg2 s2; unfold updG fPl at *; grind)
  repeat' first
    | with_reducible refine e_X_plain ?_
    | with_reducible refine xr1 ?_
    | with_reducible refine xr2 ?_
    | with_reducible refine xr3 ?_
    | with_reducible refine xr4 ?_
    | with_reducible refine xr6 ?_
    | with_reducible refine mr1 ?_
    | with_reducible refine mr2 ?_
    | with_reducible refine mr3 ?_
    | with_reducible refine mr4 ?_
    | with_reducible refine mr6 ?_
    | with_reducible refine xf1 ?_
    | with_reducible refine xf2 ?_
    | with_reducible refine xf3 ?_
    | with_reducible refine xf6 ?_
    | with_reducible refine mf1 ?_
    | with_reducible refine mf2 ?_
    | with_reducible refine mf3 ?_
    | with_reducible refine mf6 ?_
    | with_reducible exact isB0
    | with_reducible exact isB1
    | with_reducible refine And.intro ?_ ?_
    | (with_reducible refine fun (hz : (_ : Int) < _) => ?_) <;> ((try simp (discharger := first | decide | omega) only [ms_eq, ms_nk, ms_ni, w32_id, w64_id, Int.toNat_natCast, not_true_eq_false, not_false_eq_true] at hz) ; (try (exfalso; omega)))
    | (with_reducible refine fun (hz : (_ : Int) ≤ _) => ?_) <;> ((try simp (discharger := first | decide | omega) only [ms_eq, ms_nk, ms_ni, w32_id, w64_id, Int.toNat_natCast, not_true_eq_false, not_false_eq_true] at hz) ; (try (exfalso; omega)))
    | (with_reducible refine fun (hz : (_ : Int) = _) => ?_) <;> ((try simp (discharger := first | decide | omega) only [ms_eq, ms_nk, ms_ni, w32_id, w64_id, Int.toNat_natCast, not_true_eq_false, not_false_eq_true] at hz) ; (try (exfalso; omega)))
    | (with_reducible refine fun (hz : ¬ (_ : Int) = _) => ?_) <;> ((try simp (discharger := first | decide | omega) only [ms_eq, ms_nk, ms_ni, w32_id, w64_id, Int.toNat_natCast, not_true_eq_false, not_false_eq_true] at hz) ; (try (exfalso; omega)))
    | (with_reducible refine fun (hz : _ ∨ _) => ?_) <;> ((try simp (discharger := first | decide | omega) only [ms_eq, ms_nk, ms_ni, w32_id, w64_id, Int.toNat_natCast, not_true_eq_false, not_false_eq_true] at hz) ; (try (exfalso; omega)))
    | omega
    | (simp (discharger := first | decide | omega) only [ms_eq, ms_nk, ms_ni, w32_id, w64_id, Int.toNat_natCast, not_true_eq_false, not_false_eq_true] ; omega)
  all_goals first
    | (repeat' first
      | with_reducible refine e_M_plain ?_
      | with_reducible refine e_M_in ?_
      | with_reducible refine xr1 ?_
      | with_reducible refine xr2 ?_
      | with_reducible refine xr3 ?_
      | with_reducible refine xr4 ?_
      | with_reducible refine xr6 ?_
      | with_reducible refine mr1 ?_
      | with_reducible refine mr2 ?_
      | with_reducible refine mr3 ?_
      | with_reducible refine mr4 ?_
      | with_reducible refine mr6 ?_
      | with_reducible refine xf1 ?_
      | with_reducible refine xf2 ?_
      | with_reducible refine xf3 ?_
      | with_reducible refine xf6 ?_
      | with_reducible refine mf1 ?_
      | with_reducible refine mf2 ?_
      | with_reducible refine mf3 ?_
      | with_reducible refine mf6 ?_
      | with_reducible exact isB0
      | with_reducible exact isB1
      | with_reducible refine And.intro ?_ ?_
      | (with_reducible refine fun (hz : (_ : Int) < _) => ?_) <;> ((try simp (discharger := first | decide | omega) only [ms_eq, ms_nk, ms_ni, w32_id, w64_id, Int.toNat_natCast, not_true_eq_false, not_false_eq_true] at hz) ; (try (exfalso; omega)))
      | (with_reducible refine fun (hz : (_ : Int) ≤ _) => ?_) <;> ((try simp (discharger := first | decide | omega) only [ms_eq, ms_nk, ms_ni, w32_id, w64_id, Int.toNat_natCast, not_true_eq_false, not_false_eq_true] at hz) ; (try (exfalso; omega)))
      | (with_reducible refine fun (hz : (_ : Int) = _) => ?_) <;> ((try simp (discharger := first | decide | omega) only [ms_eq, ms_nk, ms_ni, w32_id, w64_id, Int.toNat_natCast, not_true_eq_false, not_false_eq_true] at hz) ; (try (exfalso; omega)))
      | (with_reducible refine fun (hz : ¬ (_ : Int) = _) => ?_) <;> ((try simp (discharger := first | decide | omega) only [ms_eq, ms_nk, ms_ni, w32_id, w64_id, Int.toNat_natCast, not_true_eq_false, not_false_eq_true] at hz) ; (try (exfalso; omega)))
      | (with_reducible refine fun (hz : _ ∨ _) => ?_) <;> ((try simp (discharger := first | decide | omega) only [ms_eq, ms_nk, ms_ni, w32_id, w64_id, Int.toNat_natCast, not_true_eq_false, not_false_eq_true] at hz) ; (try (exfalso; omega)))
      | omega
      | (simp (discharger := first | decide | omega) only [ms_eq, ms_nk, ms_ni, w32_id, w64_id, Int.toNat_natCast, not_true_eq_false, not_false_eq_true] ; omega)
       all_goals first
         | exact PQ.rf0 hR (by decide)
         | skip
       done)
    | skip
  · have := main 0 1 (by omega) (by omega) (by omega) (Or.inl ⟨rfl, rfl⟩) (by omega) (by omega)
    rw [show a1 = ((0 : Nat) : Int) by omega] at this ⊢
    exact this
  · have := main 1 (tN A) (by omega) (by omega) (by omega) (Or.inr ⟨by omega, rfl⟩) (by omega) (by omega)
    rw [show a1 = ((1 : Nat) : Int) by omega] at this ⊢
    rw [hTe]
    exact this
/-- the row is a look of k signs -/
def rowOK (A : Mem) (k : Nat) : Prop := A 0 2 = ((k * tN A : Nat) : Int) ∧ ∀ t, t < tN A → sumN k (fun s => A 6 (t * k + s)) = 60
theorem mul_up {t T k : Nat} (h : t < T) : t * k + k ≤ T * k := by
  have : (t + 1) * k ≤ T * k := Nat.mul_le_mul_right k h
  rw [Nat.succ_mul] at this
  exact this
theorem sp_X_rowFits {d : Nat} {A : Mem} {Q : Int → Mem → Prop} (hR : RR A) {k : Nat} (hk : 1 ≤ k ∧ k ≤ 6) (h1 : rowOK A k → Q 1 A) (h0 : ¬ rowOK A k → Q 0 A) : wp (d + 1) m_X_rowFits [.inr (.inr 0), .inl (k : Int)] A Q := by
  have sc := hR.sc
  have hT4 := tN4 hR.1
  have hTe : A 7 1 = ((tN A : Nat) : Int) := by show A 7 1 = ((A 7 1).toNat : Int); omega
  have hb : k * tN A ≤ 24 := Nat.le_trans (Nat.mul_le_mul hk.2 hT4) (by decide)
  have e : w32 ((k : Int) * A 7 1) = ((k * tN A : Nat) : Int) := by
    rw [hTe, ← Int.natCast_mul]
    exact w32_eq rfl (by omega)
  refine e_X_rowFits ⟨fun h => ?_, fun h => h0 (fun z => h (by rw [e]; exact z.1))⟩
  rw [e] at h
  refine upto (n := tN A) (P := fun t => (∀ t2, t2 < t → sumN k (fun s => A 6 (t2 * k + s)) = 60) → K_X_rowFits_20 d Q (k : Int) ((t : Nat) : Int) A) (fun hs => ?_) (fun t ht ih hs => ?_) (fun t2 h2 => absurd h2 (by omega))
  · exact e_X_rowFits_20 ⟨fun h => by omega, fun _ => h1 ⟨h, hs⟩⟩
  · refine e_X_rowFits_20 ⟨fun _ => ?_, fun h => by omega⟩
    have hm := mul_up (k := k) ht
    rw [Nat.mul_comm (tN A) k] at hm
    have key := upto (n := k) (P := fun s => K_X_rowFits_36 d Q (k : Int) (t : Int) (sumN s (fun s => A 6 (t * k + s))) ((s : Nat) : Int) A) ?_ (fun s hs2 ih2 => ?_)
    · exact key
    · refine e_X_rowFits_36 ⟨fun h => by omega, fun _ => ⟨fun h60 => ?_, fun h60 => h0 (fun z => h60 (z.2 t ht))⟩⟩
      have e1 : w32 ((t : Int) + 1) = ((t + 1 : Nat) : Int) := w32_eq (by omega) (by omega)
      rw [e1]
      refine ih (fun t2 h2 => ?_)
      by_cases e2 : t2 = t
      · subst e2; exact h60
      · exact hs t2 (by omega)
    · refine e_X_rowFits_36 ⟨fun _ => ?_, fun h => by omega⟩
      have e2 : w32 ((t : Int) * (k : Int)) = ((t * k : Nat) : Int) := by rw [← Int.natCast_mul]; exact w32_eq rfl (by omega)
      have e3 : w32 (((t * k : Nat) : Int) + (s : Int)) = ((t * k + s : Nat) : Int) := w32_eq (by omega) (by omega)
      have e4 : w32 ((s : Int) + 1) = ((s + 1 : Nat) : Int) := w32_eq (by omega) (by omega)
      rw [e2, e3, e4, Int.toNat_natCast]
      have hb1 := sumN_bd (n := s) (f := fun s => A 6 (t * k + s)) (B := 60) (fun i hi => by
        have := hR.2.2.2.1.2.2.2 (t * k + i) (by omega)
        constructor <;> omega)
      have hb2 := hR.2.2.2.1.2.2.2 (t * k + s) (by omega)
      have hb3 : (s : Int) * 60 ≤ 360 := by omega
      rw [w32_id (by omega) (by omega)]
      exact ⟨⟨by omega, by omega⟩, ih2⟩
