-- PURE, 12: bar, plain
theorem tN4 {ms : Nat → Nat → Int} {A : Mem} (h : SR 7 ms A) : tN A ≤ 4 := by
  have := h.tr
  show (A 7 1).toNat ≤ 4
  omega
theorem WR.out {c : Nat} {A σ : Mem} {n : Nat} {g : Nat → Nat → Int} (h : WR c A σ n g) {k i : Nat} (hk : k ≠ c) : σ k i = A k i := h.1 k i (fun z => hk z.1)
/-- a loop over truths in which a place of each row is written -/
theorem updG_eq {g : Nat → Nat → Int} {t s : Nat} {v : Int} : updG g t s v t s = v := by simp [updG]
theorem updG_ne {g : Nat → Nat → Int} {t s t2 s2 : Nat} {v : Int} (h : ¬ (t2 = t ∧ s2 = s)) : updG g t s v t2 s2 = g t2 s2 := by simp only [updG]; rw [if_neg h]
def fBar (k t s : Nat) : Int := if s = 0 then (if t < k then 60 else 0) else (if t < k then 0 else 60)
def fPl (w t s : Nat) : Int := if w = 0 ∨ s = t then 60 else 0
theorem pr_bar {A : Mem} (hR : RR A) {a1 : Int} (i1 : InI a1) : wp 40 m_X_bar [.inr (.inr 0), .inl a1] A (fun r σ1 => wp 40 m_M_bar [.inr (.inr 49), .inl a1] σ1 (fun r2 σ2 => PQ r r2 σ2)) := by
  have sc := hR.sc
  have hT4 := tN4 hR.1
  unfold InI at i1
  repeat' first
    | with_reducible refine e_X_bar ?_
    | with_reducible refine xr1 ?_
    | with_reducible refine xr2 ?_
    | with_reducible refine xr3 ?_
    | with_reducible refine xr4 ?_
    | with_reducible refine xr6 ?_
    | with_reducible refine mr1 ?_
    | with_reducible refine mr2 ?_
    | with_reducible refine mr3 ?_
    | with_reducible refine mr4 ?_
    | with_reducible refine mr6 ?_
    | with_reducible refine xf1 ?_
    | with_reducible refine xf2 ?_
    | with_reducible refine xf3 ?_
    | with_reducible refine xf6 ?_
    | with_reducible refine mf1 ?_
    | with_reducible refine mf2 ?_
    | with_reducible refine mf3 ?_
    | with_reducible refine mf6 ?_
    | with_reducible exact isB0
    | with_reducible exact isB1
    | with_reducible refine And.intro ?_ ?_
    | (with_reducible refine fun (hz : (_ : Int) < _) => ?_) <;> ((try simp (discharger := first | decide | omega) only [ms_eq, ms_nk, ms_ni, w32_id, w64_id, Int.toNat_natCast, not_true_eq_false, not_false_eq_true] at hz) ; (try (exfalso; omega)))
    | (with_reducible refine fun (hz : (_ : Int) ≤ _) => ?_) <;> ((try simp (discharger := first | decide | omega) only [ms_eq, ms_nk, ms_ni, w32_id, w64_id, Int.toNat_natCast, not_true_eq_false, not_false_eq_true] at hz) ; (try (exfalso; omega)))
    | (with_reducible refine fun (hz : (_ : Int) = _) => ?_) <;> ((try simp (discharger := first | decide | omega) only [ms_eq, ms_nk, ms_ni, w32_id, w64_id, Int.toNat_natCast, not_true_eq_false, not_false_eq_true] at hz) ; (try (exfalso; omega)))
    | (with_reducible refine fun (hz : ¬ (_ : Int) = _) => ?_) <;> ((try simp (discharger := first | decide | omega) only [ms_eq, ms_nk, ms_ni, w32_id, w64_id, Int.toNat_natCast, not_true_eq_false, not_false_eq_true] at hz) ; (try (exfalso; omega)))
    | (with_reducible refine fun (hz : _ ∨ _) => ?_) <;> ((try simp (discharger := first | decide | omega) only [ms_eq, ms_nk, ms_ni, w32_id, w64_id, Int.toNat_natCast, not_true_eq_false, not_false_eq_true] at hz) ; (try (exfalso; omega)))
    | omega
    | (simp (discharger := first | decide | omega) only [ms_eq, ms_nk, ms_ni, w32_id, w64_id, Int.toNat_natCast, not_true_eq_false, not_false_eq_true] ; omega)
  all_goals first
    | (repeat' first
      | with_reducible refine e_M_bar ?_
      | with_reducible refine xr1 ?_
      | with_reducible refine xr2 ?_
      | with_reducible refine xr3 ?_
      | with_reducible refine xr4 ?_
      | with_reducible refine xr6 ?_
      | with_reducible refine mr1 ?_
      | with_reducible refine mr2 ?_
      | with_reducible refine mr3 ?_
      | with_reducible refine mr4 ?_
      | with_reducible refine mr6 ?_
      | with_reducible refine xf1 ?_
      | with_reducible refine xf2 ?_
      | with_reducible refine xf3 ?_
      | with_reducible refine xf6 ?_
      | with_reducible refine mf1 ?_
      | with_reducible refine mf2 ?_
      | with_reducible refine mf3 ?_
      | with_reducible refine mf6 ?_
      | with_reducible exact isB0
      | with_reducible exact isB1
      | with_reducible refine And.intro ?_ ?_
      | (with_reducible refine fun (hz : (_ : Int) < _) => ?_) <;> ((try simp (discharger := first | decide | omega) only [ms_eq, ms_nk, ms_ni, w32_id, w64_id, Int.toNat_natCast, not_true_eq_false, not_false_eq_true] at hz) ; (try (exfalso; omega)))
      | (with_reducible refine fun (hz : (_ : Int) ≤ _) => ?_) <;> ((try simp (discharger := first | decide | omega) only [ms_eq, ms_nk, ms_ni, w32_id, w64_id, Int.toNat_natCast, not_true_eq_false, not_false_eq_true] at hz) ; (try (exfalso; omega)))
      | (with_reducible refine fun (hz : (_ : Int) = _) => ?_) <;> ((try simp (discharger := first | decide | omega) only [ms_eq, ms_nk, ms_ni, w32_id, w64_id, Int.toNat_natCast, not_true_eq_false, not_false_eq_true] at hz) ; (try (exfalso; omega)))
      | (with_reducible refine fun (hz : ¬ (_ : Int) = _) => ?_) <;> ((try simp (discharger := first | decide | omega) only [ms_eq, ms_nk, ms_ni, w32_id, w64_id, Int.toNat_natCast, not_true_eq_false, not_false_eq_true] at hz) ; (try (exfalso; omega)))
      | (with_reducible refine fun (hz : _ ∨ _) => ?_) <;> ((try simp (discharger := first | decide | omega) only [ms_eq, ms_nk, ms_ni, w32_id, w64_id, Int.toNat_natCast, not_true_eq_false, not_false_eq_true] at hz) ; (try (exfalso; omega)))
      | omega
      | (simp (discharger := first | decide | omega) only [ms_eq, ms_nk, ms_ni, w32_id, w64_id, Int.toNat_natCast, not_true_eq_false, not_false_eq_true] ; omega)
       all_goals first
         | exact PQ.rf0 hR (by decide)
         | skip
       done)
    | skip
  obtain ⟨m, o, hm, ho⟩ := moEx (n := A 31 0) (by omega)
  obtain ⟨k, rfl⟩ : ∃ k : Nat, a1 = (k : Int) := ⟨a1.toNat, by omega⟩
  obtain ⟨n, hn⟩ : ∃ n : Nat, A 7 10 = (n : Int) := ⟨(A 7 10).toNat, by omega⟩
  have hn12 : n < 12 := by omega
  have hTe : A 7 1 = ((tN A : Nat) : Int) := by show A 7 1 = ((A 7 1).toNat : Int); omega
  refine upto (n := tN A) (P := fun t => ∀ σ g, WR 14 A σ n g → (∀ t2 s2, t2 < t → s2 < 2 → g t2 s2 = fBar k t2 s2) → K_X_bar_61 39 _ (k : Int) ((t : Nat) : Int) σ) (fun σ g hW hg => ?_) (fun t ht ih σ g hW hg => ?_) A _ WR.rfl (fun t2 s2 h => absurd h (by omega))
  · refine e_X_bar_61 ⟨fun h => by rw [hW.out (by decide)] at h; omega, fun _ => ?_⟩
    refine sp_X_keepLook0 (k := 2) (f := fBar k) hT4 (by omega) hW hn hn12 hg hm ho (fun σ1 X hv => ?_)
    have x49 : ∀ i, σ1 49 i = A 49 i := fun i => X.1 49 i (by omega) (by omega) (by omega) (by omega) (by omega)
    repeat' first
      | with_reducible refine e_M_bar ?_
      | with_reducible refine xr1 ?_
      | with_reducible refine xr2 ?_
      | with_reducible refine xr3 ?_
      | with_reducible refine xr4 ?_
      | with_reducible refine xr6 ?_
      | with_reducible refine mr1 ?_
      | with_reducible refine mr2 ?_
      | with_reducible refine mr3 ?_
      | with_reducible refine mr4 ?_
      | with_reducible refine mr6 ?_
      | with_reducible refine xf1 ?_
      | with_reducible refine xf2 ?_
      | with_reducible refine xf3 ?_
      | with_reducible refine xf6 ?_
      | with_reducible refine mf1 ?_
      | with_reducible refine mf2 ?_
      | with_reducible refine mf3 ?_
      | with_reducible refine mf6 ?_
      | with_reducible exact isB0
      | with_reducible exact isB1
      | with_reducible refine And.intro ?_ ?_
      | (with_reducible refine fun (hz : (_ : Int) < _) => ?_) <;> ((try simp (discharger := first | decide | omega) only [ms_eq, ms_nk, ms_ni, w32_id, w64_id, Int.toNat_natCast, not_true_eq_false, not_false_eq_true, x49] at hz) ; (try (exfalso; omega)))
      | (with_reducible refine fun (hz : (_ : Int) ≤ _) => ?_) <;> ((try simp (discharger := first | decide | omega) only [ms_eq, ms_nk, ms_ni, w32_id, w64_id, Int.toNat_natCast, not_true_eq_false, not_false_eq_true, x49] at hz) ; (try (exfalso; omega)))
      | (with_reducible refine fun (hz : (_ : Int) = _) => ?_) <;> ((try simp (discharger := first | decide | omega) only [ms_eq, ms_nk, ms_ni, w32_id, w64_id, Int.toNat_natCast, not_true_eq_false, not_false_eq_true, x49] at hz) ; (try (exfalso; omega)))
      | (with_reducible refine fun (hz : ¬ (_ : Int) = _) => ?_) <;> ((try simp (discharger := first | decide | omega) only [ms_eq, ms_nk, ms_ni, w32_id, w64_id, Int.toNat_natCast, not_true_eq_false, not_false_eq_true, x49] at hz) ; (try (exfalso; omega)))
      | (with_reducible refine fun (hz : _ ∨ _) => ?_) <;> ((try simp (discharger := first | decide | omega) only [ms_eq, ms_nk, ms_ni, w32_id, w64_id, Int.toNat_natCast, not_true_eq_false, not_false_eq_true, x49] at hz) ; (try (exfalso; omega)))
      | omega
      | (simp (discharger := first | decide | omega) only [ms_eq, ms_nk, ms_ni, w32_id, w64_id, Int.toNat_natCast, not_true_eq_false, not_false_eq_true, x49] ; omega)
    refine sp_M_clear (n := n) (by rw [x49]; omega) hn12 (fun σ2 g2 hW2 hg2 => ?_)
    refine upto (n := tN A) (P := fun t => ∀ σ g, WR 54 σ1 σ n g → (∀ t2 s2, t2 < 4 → s2 < 2 → g t2 s2 = if t2 < t then fBar k t2 s2 else 0) → K_M_bar_58 39 _ (k : Int) ((t : Nat) : Int) σ) (fun σ g hW hg => ?_) (fun t ht ih σ g hW hg => ?_) σ2 g2 hW2 (fun t2 s2 h1 h2 => by rw [if_neg (by omega)]; exact hg2 t2 s2 h1 (by omega))
    · refine e_M_bar_58 ⟨fun h => by rw [hW.out (by decide), x49] at h; omega, fun _ => ?_⟩
      refine sp_M_newLook0 (k := 2) (T := tN A) (f := fBar k) (m := m) (o := o) hT4 (by omega) hW (by rw [x49]; omega) hn12 (fun t2 s2 h1 h2 => by rw [hg t2 s2 (by omega) h2, if_pos h1]) (by rw [x49]; omega) ho (fun B M hv2 => ⟨rfl, ?_⟩)
      refine hR.addLook hn hn12 (by omega) hm ho X M (Or.inl ⟨hv, hv2⟩) (fun t2 s2 _ _ => ?_) (fun t2 _ => ?_)
      · unfold fBar
        split <;> split <;> omega
      · show 0 + fBar k t2 0 + fBar k t2 1 = 60
        unfold fBar
        by_cases h : t2 < k <;> simp [h]
    · have e0 : σ 49 0 = A 7 1 := by rw [hW.out (by decide), x49]; omega
      have e6 : σ 49 6 = (n : Int) := by rw [hW.out (by decide), x49]; omega
      have e1 : w32 ((t : Int) + 1) = ((t + 1 : Nat) : Int) := w32_eq (by omega) (by omega)
      refine e_M_bar_58 ⟨fun _ => ?_, fun h => by rw [e0] at h; omega⟩
      rw [e6, e1]
      refine ⟨fun h => sp_M_place (s := 0) (by omega) (by omega) (by omega) ⟨⟨by omega, by omega⟩, ?_⟩, fun h => sp_M_place (s := 1) (by omega) (by omega) (by omega) ⟨⟨by omega, by omega⟩, ?_⟩⟩
      · rw [Int.toNat_natCast]
        refine ih _ _ (hW.set (by omega) (by omega)) (fun t2 s2 h1 h2 => ?_)
        have := hg t2 s2 h1 h2
        unfold updG fBar at *
        grind
      · rw [Int.toNat_natCast]
        refine ih _ _ (hW.set (by omega) (by omega)) (fun t2 s2 h1 h2 => ?_)
        have := hg t2 s2 h1 h2
        unfold updG fBar at *
        grind
  · have e0 : σ 7 1 = A 7 1 := hW.out (by decide)
    have e1 : w32 ((t : Int) + 1) = ((t + 1 : Nat) : Int) := w32_eq (by omega) (by omega)
    refine e_X_bar_61 ⟨fun _ => ?_, fun h => by rw [e0] at h; omega⟩
    rw [e1]
    refine ⟨fun h => sp_S_write (s := 0) hW hn hn12 (by omega) (by omega) (fun σ3 hW3 => ⟨fun _ => sp_S_write (s := 1) hW3 hn hn12 (by omega) (by omega) (fun σ4 hW4 => ih _ _ hW4 (fun t2 s2 h1 h2 => ?_)), fun h => by omega⟩), fun h => sp_S_write (s := 0) hW hn hn12 (by omega) (by omega) (fun σ3 hW3 => ⟨fun h => by omega, fun _ => sp_S_write (s := 1) hW3 hn hn12 (by omega) (by omega) (fun σ4 hW4 => ih _ _ hW4 (fun t2 s2 h1 h2 => ?_))⟩)⟩
    · have := hg t2 s2
      unfold updG fBar at *
      grind
    · have := hg t2 s2
      unfold updG fBar at *
      grind
