-- PURE, 14: look
theorem sp_M_lk {d : Nat} {A σ : Mem} {Q : Int → Mem → Prop} (hR : RR A) (q0 : σ 49 0 = A 49 0) (q16 : σ 49 16 = A 49 16) (q59 : ∀ j, σ 59 j = A 59 j) {k : Nat} (hk : 1 ≤ k ∧ k ≤ 6) (h1 : rowOK A k → wp d m_M_clearLook [.inr (.inr 49)] σ (fun (_ : Int) (s6 : Mem) => K_M_look_151 d Q (k : Int) 0 s6)) (h0 : ¬ rowOK A k → wp d m_M_refuse [.inr (.inr 49), .inl (-3)] σ (fun (r7 : Int) (s8 : Mem) => Q r7 s8)) : ((σ 49 16) = (w32 ((k : Int) * (σ 49 0))) → K_M_look_69 d Q (k : Int) 1 0 σ) ∧ (¬ (σ 49 16) = (w32 ((k : Int) * (σ 49 0))) → K_M_look_69 d Q (k : Int) 0 0 σ) := by
  have sc := hR.sc
  have hT4 := tN4 hR.1
  have hTe : A 7 1 = ((tN A : Nat) : Int) := by show A 7 1 = ((A 7 1).toNat : Int); omega
  have hb : k * tN A ≤ 24 := Nat.le_trans (Nat.mul_le_mul hk.2 hT4) (by decide)
  have e : w32 ((k : Int) * σ 49 0) = ((k * tN A : Nat) : Int) := by
    rw [q0, sc.1.1, hTe, ← Int.natCast_mul]
    exact w32_eq rfl (by omega)
  have no : ∀ x : Int, ¬ rowOK A k → K_M_look_69 d Q (k : Int) 0 x σ := fun x hx => e_M_look_69 ⟨fun _ => ⟨fun _ => ⟨fun _ => h0 hx, fun h => absurd rfl h⟩, fun h => absurd rfl h⟩, fun _ => ⟨fun _ => h0 hx, fun h => absurd rfl h⟩⟩
  rw [e]
  refine ⟨fun h => ?_, fun h => no 0 (fun z => h (by rw [q16]; have := z.1; omega))⟩
  have hL : A 0 2 = ((k * tN A : Nat) : Int) := by omega
  refine upto (n := tN A) (P := fun t => (∀ t2, t2 < t → sumN k (fun s => A 6 (t2 * k + s)) = 60) → K_M_look_69 d Q (k : Int) 1 ((t : Nat) : Int) σ) (fun hs => ?_) (fun t ht ih hs => ?_) (fun t2 h2 => absurd h2 (by omega))
  · exact e_M_look_69 ⟨fun h => by rw [q0] at h; omega, fun _ => ⟨fun h => by omega, fun _ => h1 ⟨hL, hs⟩⟩⟩
  · refine e_M_look_69 ⟨fun _ => ⟨fun h => by omega, fun _ => ?_⟩, fun h => by rw [q0] at h; omega⟩
    have hm := mul_up (k := k) ht
    rw [Nat.mul_comm (tN A) k] at hm
    have e1 : w32 ((t : Int) + 1) = ((t + 1 : Nat) : Int) := w32_eq (by omega) (by omega)
    have key := upto (n := k) (P := fun s => K_M_look_87 d Q (k : Int) (t : Int) (sumN s (fun s => A 6 (t * k + s))) ((s : Nat) : Int) σ) ?_ (fun s hs2 ih2 => ?_)
    · exact key
    · refine e_M_look_87 ⟨fun h => by omega, fun _ => ⟨fun h60 => ?_, fun h60 => no _ (fun z => h60 (z.2 t ht))⟩⟩
      rw [e1]
      refine ih (fun t2 h2 => ?_)
      by_cases e2 : t2 = t
      · subst e2; exact h60
      · exact hs t2 (by omega)
    · refine e_M_look_87 ⟨fun _ => ?_, fun h => by omega⟩
      have e2 : w32 ((k : Int) * (t : Int)) = ((t * k : Nat) : Int) := by rw [← Int.natCast_mul, Nat.mul_comm]; exact w32_eq rfl (by omega)
      have e3 : w32 (((t * k : Nat) : Int) + (s : Int)) = ((t * k + s : Nat) : Int) := w32_eq (by omega) (by omega)
      have e4 : w32 ((s : Int) + 1) = ((s + 1 : Nat) : Int) := w32_eq (by omega) (by omega)
      rw [e2, e3, e4, Int.toNat_natCast]
      have hb1 := sumN_bd (n := s) (f := fun s => A 6 (t * k + s)) (B := 60) (fun i hi => by
        have := hR.2.2.2.1.2.2.2 (t * k + i) (by omega)
        constructor <;> omega)
      have hb2 := hR.2.2.2.1.2.2.2 (t * k + s) (by omega)
      have hb3 : (s : Int) * 60 ≤ 360 := by omega
      rw [q59, ← hb2.1, w32_id (x := sumN s (fun s => A 6 (t * k + s)) + A 6 (t * k + s)) (by omega) (by omega)]
      exact ⟨⟨by omega, by omega⟩, ih2⟩
theorem pr_look {A : Mem} (hR : RR A) {a1 : Int} (i1 : InI a1) : wp 40 m_X_look [.inr (.inr 0), .inl a1] A (fun r σ1 => wp 40 m_M_look [.inr (.inr 49), .inl a1] σ1 (fun r2 σ2 => PQ r r2 σ2)) := by
  have sc := hR.sc
  have hT4 := tN4 hR.1
  unfold InI at i1
  have hTe : A 7 1 = ((tN A : Nat) : Int) := by show A 7 1 = ((A 7 1).toNat : Int); omega
  repeat' first
    | with_reducible refine e_X_look ?_
    | with_reducible refine xr1 ?_
    | with_reducible refine xr2 ?_
    | with_reducible refine xr3 ?_
    | with_reducible refine xr4 ?_
    | with_reducible refine xr6 ?_
    | with_reducible refine mr1 ?_
    | with_reducible refine mr2 ?_
    | with_reducible refine mr3 ?_
    | with_reducible refine mr4 ?_
    | with_reducible refine mr6 ?_
    | with_reducible refine xf1 ?_
    | with_reducible refine xf2 ?_
    | with_reducible refine xf3 ?_
    | with_reducible refine xf6 ?_
    | with_reducible refine mf1 ?_
    | with_reducible refine mf2 ?_
    | with_reducible refine mf3 ?_
    | with_reducible refine mf6 ?_
    | with_reducible exact isB0
    | with_reducible exact isB1
    | with_reducible refine And.intro ?_ ?_
    | (with_reducible refine fun (hz : (_ : Int) < _) => ?_) <;> ((try simp (discharger := first | decide | omega) only [ms_eq, ms_nk, ms_ni, w32_id, w64_id, Int.toNat_natCast, not_true_eq_false, not_false_eq_true] at hz) ; (try (exfalso; omega)))
    | (with_reducible refine fun (hz : (_ : Int) ≤ _) => ?_) <;> ((try simp (discharger := first | decide | omega) only [ms_eq, ms_nk, ms_ni, w32_id, w64_id, Int.toNat_natCast, not_true_eq_false, not_false_eq_true] at hz) ; (try (exfalso; omega)))
    | (with_reducible refine fun (hz : (_ : Int) = _) => ?_) <;> ((try simp (discharger := first | decide | omega) only [ms_eq, ms_nk, ms_ni, w32_id, w64_id, Int.toNat_natCast, not_true_eq_false, not_false_eq_true] at hz) ; (try (exfalso; omega)))
    | (with_reducible refine fun (hz : ¬ (_ : Int) = _) => ?_) <;> ((try simp (discharger := first | decide | omega) only [ms_eq, ms_nk, ms_ni, w32_id, w64_id, Int.toNat_natCast, not_true_eq_false, not_false_eq_true] at hz) ; (try (exfalso; omega)))
    | (with_reducible refine fun (hz : _ ∨ _) => ?_) <;> ((try simp (discharger := first | decide | omega) only [ms_eq, ms_nk, ms_ni, w32_id, w64_id, Int.toNat_natCast, not_true_eq_false, not_false_eq_true] at hz) ; (try (exfalso; omega)))
    | omega
    | (simp (discharger := first | decide | omega) only [ms_eq, ms_nk, ms_ni, w32_id, w64_id, Int.toNat_natCast, not_true_eq_false, not_false_eq_true] ; omega)
  all_goals first
    | (repeat' first
      | with_reducible refine e_M_look ?_
      | with_reducible refine xr1 ?_
      | with_reducible refine xr2 ?_
      | with_reducible refine xr3 ?_
      | with_reducible refine xr4 ?_
      | with_reducible refine xr6 ?_
      | with_reducible refine mr1 ?_
      | with_reducible refine mr2 ?_
      | with_reducible refine mr3 ?_
      | with_reducible refine mr4 ?_
      | with_reducible refine mr6 ?_
      | with_reducible refine xf1 ?_
      | with_reducible refine xf2 ?_
      | with_reducible refine xf3 ?_
      | with_reducible refine xf6 ?_
      | with_reducible refine mf1 ?_
      | with_reducible refine mf2 ?_
      | with_reducible refine mf3 ?_
      | with_reducible refine mf6 ?_
      | with_reducible exact isB0
      | with_reducible exact isB1
      | with_reducible refine And.intro ?_ ?_
      | (with_reducible refine fun (hz : (_ : Int) < _) => ?_) <;> ((try simp (discharger := first | decide | omega) only [ms_eq, ms_nk, ms_ni, w32_id, w64_id, Int.toNat_natCast, not_true_eq_false, not_false_eq_true] at hz) ; (try (exfalso; omega)))
      | (with_reducible refine fun (hz : (_ : Int) ≤ _) => ?_) <;> ((try simp (discharger := first | decide | omega) only [ms_eq, ms_nk, ms_ni, w32_id, w64_id, Int.toNat_natCast, not_true_eq_false, not_false_eq_true] at hz) ; (try (exfalso; omega)))
      | (with_reducible refine fun (hz : (_ : Int) = _) => ?_) <;> ((try simp (discharger := first | decide | omega) only [ms_eq, ms_nk, ms_ni, w32_id, w64_id, Int.toNat_natCast, not_true_eq_false, not_false_eq_true] at hz) ; (try (exfalso; omega)))
      | (with_reducible refine fun (hz : ¬ (_ : Int) = _) => ?_) <;> ((try simp (discharger := first | decide | omega) only [ms_eq, ms_nk, ms_ni, w32_id, w64_id, Int.toNat_natCast, not_true_eq_false, not_false_eq_true] at hz) ; (try (exfalso; omega)))
      | (with_reducible refine fun (hz : _ ∨ _) => ?_) <;> ((try simp (discharger := first | decide | omega) only [ms_eq, ms_nk, ms_ni, w32_id, w64_id, Int.toNat_natCast, not_true_eq_false, not_false_eq_true] at hz) ; (try (exfalso; omega)))
      | omega
      | (simp (discharger := first | decide | omega) only [ms_eq, ms_nk, ms_ni, w32_id, w64_id, Int.toNat_natCast, not_true_eq_false, not_false_eq_true] ; omega)
       all_goals first
         | exact PQ.rf0 hR (by decide)
         | skip
       done)
    | skip
  obtain ⟨m, o, hm, ho⟩ := moEx (n := A 31 0) (by omega)
  obtain ⟨k, rfl⟩ : ∃ k : Nat, a1 = (k : Int) := ⟨a1.toNat, by omega⟩
  obtain ⟨n, hn⟩ : ∃ n : Nat, A 7 10 = (n : Int) := ⟨(A 7 10).toNat, by omega⟩
  have hn12 : n < 12 := by omega
  have hk6 : 1 ≤ k ∧ k ≤ 6 := by omega
  have hb : k * tN A ≤ 24 := Nat.le_trans (Nat.mul_le_mul hk6.2 hT4) (by decide)
  refine sp_X_rowFits hR hk6 (fun hrow => ⟨fun h => by omega, fun _ => ?_⟩) (fun hrow => ⟨fun _ => xr3 ?_, fun h => absurd rfl h⟩)
  · have hfb : ∀ t s, t < tN A → s < k → A 6 (t * k + s) = A 59 (t * k + s) ∧ 0 ≤ A 6 (t * k + s) ∧ A 6 (t * k + s) ≤ 60 := fun t s ht hs => by
      have hm := mul_up (k := k) ht
      have := hrow.1
      rw [Nat.mul_comm] at this
      exact hR.2.2.2.1.2.2.2 (t * k + s) (by omega)
    refine upto (n := tN A) (P := fun t => ∀ σ g, WR 14 A σ n g → (∀ t2 s2, t2 < t → s2 < k → g t2 s2 = A 6 (t2 * k + s2)) → K_X_look_68 39 _ (k : Int) ((t : Nat) : Int) σ) (fun σ g hW hg => ?_) (fun t ht ih σ g hW hg => ?_) A _ WR.rfl (fun t2 s2 h => absurd h (by omega))
    · refine e_X_look_68 ⟨fun h => by rw [hW.out (by decide)] at h; omega, fun _ => ?_⟩
      refine sp_X_keepLook (k := k) (f := fun t s => A 6 (t * k + s)) hT4 (by omega) hW hn hn12 hg hm ho (fun σ1 X hv => ?_)
      have x49 : ∀ i, σ1 49 i = A 49 i := fun i => X.1 49 i (by omega) (by omega) (by omega) (by omega) (by omega)
      have x59 : ∀ i, σ1 59 i = A 59 i := fun i => X.1 59 i (by omega) (by omega) (by omega) (by omega) (by omega)
      refine e_M_look ⟨fun h => by rw [x49] at h; omega, fun _ => ⟨fun h => by omega, fun _ => ⟨fun h => by omega, fun _ => ⟨fun h => by rw [x49] at h; omega, fun _ => ?_⟩⟩⟩⟩
      refine sp_M_lk hR (x49 0) (x49 16) x59 hk6 (fun _ => ?_) (fun h => absurd hrow h)
      refine sp_M_clear (n := n) (by rw [x49]; omega) hn12 (fun σ2 g2 hW2 hg2 => ?_)
      refine upto (n := tN A) (P := fun t => ∀ σ g, WR 54 σ1 σ n g → (∀ t2 s2, t2 < t → s2 < k → g t2 s2 = A 6 (t2 * k + s2)) → K_M_look_151 39 _ (k : Int) ((t : Nat) : Int) σ) (fun σ g hW hg => ?_) (fun t ht ih σ g hW hg => ?_) σ2 g2 hW2 (fun t2 s2 h => absurd h (by omega))
      · refine e_M_look_151 ⟨fun h => by rw [hW.out (by decide), x49] at h; omega, fun _ => ?_⟩
        refine sp_M_newLook (k := k) (T := tN A) (f := fun t s => A 6 (t * k + s)) (m := m) (o := o) hT4 (by omega) hW (by rw [x49]; omega) hn12 hg (by rw [x49]; omega) ho (fun B M hv2 => ⟨rfl, ?_⟩)
        exact hR.addLook hn hn12 (by omega) hm ho X M (Or.inr ⟨hv, hv2⟩) (fun t2 s2 h1 h2 => (hfb t2 s2 h1 h2).2) (fun t2 h2 => hrow.2 t2 h2)
      · have e0 : σ 49 0 = A 7 1 := by rw [hW.out (by decide), x49]; omega
        refine e_M_look_151 ⟨fun _ => ?_, fun h => by rw [e0] at h; omega⟩
        have hmu := mul_up (k := k) ht
        rw [Nat.mul_comm (tN A) k] at hmu
        refine upto (n := k) (P := fun s => ∀ σ g, WR 54 σ1 σ n g → (∀ t2 s2, t2 < t → s2 < k → g t2 s2 = A 6 (t2 * k + s2)) → (∀ s2, s2 < s → g t s2 = A 6 (t * k + s2)) → K_M_look_162 39 _ (k : Int) (t : Int) ((s : Nat) : Int) σ) (fun σ g hW hg hg2 => ?_) (fun s hs ih2 σ g hW hg hg2 => ?_) σ g hW hg (fun s2 h => absurd h (by omega))
        · refine e_M_look_162 ⟨fun h => by omega, fun _ => ?_⟩
          have e1 : w32 ((t : Int) + 1) = ((t + 1 : Nat) : Int) := w32_eq (by omega) (by omega)
          rw [e1]
          refine ih _ _ hW (fun t2 s2 h1 h2 => ?_)
          by_cases e : t2 = t
          · subst e; exact hg2 s2 h2
          · exact hg t2 s2 (by omega) h2
        · have e1 : w32 ((s : Int) + 1) = ((s + 1 : Nat) : Int) := w32_eq (by omega) (by omega)
          have e6 : σ 49 6 = (n : Int) := by rw [hW.out (by decide), x49]; omega
          have e2 : w32 ((k : Int) * (t : Int)) = ((t * k : Nat) : Int) := by rw [← Int.natCast_mul, Nat.mul_comm]; exact w32_eq rfl (by omega)
          have e3 : w32 (((t * k : Nat) : Int) + (s : Int)) = ((t * k + s : Nat) : Int) := w32_eq (by omega) (by omega)
          refine e_M_look_162 ⟨fun _ => ?_, fun h => by omega⟩
          rw [e6, e1, e2, e3, Int.toNat_natCast]
          refine sp_M_place (by omega) (by omega) (by omega) ⟨⟨by omega, by omega⟩, ⟨by omega, by omega⟩, ?_⟩
          rw [Int.toNat_natCast, hW.out (by decide), x59, ← (hfb t s ht hs).1]
          refine ih2 _ _ (hW.set (by omega) (by omega)) (fun t2 s2 h1 h2 => ?_) (fun s2 h2 => ?_)
          · rw [updG_ne (by omega)]; exact hg t2 s2 h1 h2
          · by_cases e : s2 = s
            · subst e; exact updG_eq
            · rw [updG_ne (by omega)]; exact hg2 s2 (by omega)
    · have e0 : σ 7 1 = A 7 1 := hW.out (by decide)
      refine e_X_look_68 ⟨fun _ => ?_, fun h => by rw [e0] at h; omega⟩
      have hmu := mul_up (k := k) ht
      rw [Nat.mul_comm (tN A) k] at hmu
      refine upto (n := k) (P := fun s => ∀ σ g, WR 14 A σ n g → (∀ t2 s2, t2 < t → s2 < k → g t2 s2 = A 6 (t2 * k + s2)) → (∀ s2, s2 < s → g t s2 = A 6 (t * k + s2)) → K_X_look_81 39 _ (k : Int) (t : Int) ((s : Nat) : Int) σ) (fun σ g hW hg hg2 => ?_) (fun s hs ih2 σ g hW hg hg2 => ?_) σ g hW hg (fun s2 h => absurd h (by omega))
      · refine e_X_look_81 ⟨fun h => by omega, fun _ => ?_⟩
        have e1 : w32 ((t : Int) + 1) = ((t + 1 : Nat) : Int) := w32_eq (by omega) (by omega)
        rw [e1]
        refine ih _ _ hW (fun t2 s2 h1 h2 => ?_)
        by_cases e : t2 = t
        · subst e; exact hg2 s2 h2
        · exact hg t2 s2 (by omega) h2
      · have e1 : w32 ((s : Int) + 1) = ((s + 1 : Nat) : Int) := w32_eq (by omega) (by omega)
        have e2 : w32 ((t : Int) * (k : Int)) = ((t * k : Nat) : Int) := by rw [← Int.natCast_mul]; exact w32_eq rfl (by omega)
        have e3 : w32 (((t * k : Nat) : Int) + (s : Int)) = ((t * k + s : Nat) : Int) := w32_eq (by omega) (by omega)
        refine e_X_look_81 ⟨fun _ => ?_, fun h => by omega⟩
        rw [e1, e2, e3, Int.toNat_natCast, hW.out (by decide)]
        refine ⟨⟨by omega, by omega⟩, sp_S_write hW hn hn12 (by omega) (by omega) (fun σ3 hW3 => ih2 _ _ hW3 (fun t2 s2 h1 h2 => ?_) (fun s2 h2 => ?_))⟩
        · rw [updG_ne (by omega)]; exact hg t2 s2 h1 h2
        · by_cases e : s2 = s
          · subst e; exact updG_eq
          · rw [updG_ne (by omega)]; exact hg2 s2 (by omega)
  · have q : ∀ c i, c ≠ 48 → mset A 48 3 (w32 (A 48 3 + 1)) c i = A c i := fun c i h => ms_nk h
    refine e_M_look ⟨fun h => by rw [q 49 0 (by decide)] at h; omega, fun _ => ⟨fun h => by omega, fun _ => ⟨fun h => by omega, fun _ => ⟨fun h => by rw [q 49 6 (by decide)] at h; omega, fun _ => ?_⟩⟩⟩⟩
    refine sp_M_lk hR (q 49 0 (by decide)) (q 49 16 (by decide)) (fun j => q 59 j (by decide)) hk6 (fun h => absurd h hrow) (fun _ => mr3 ?_)
    exact PQ.rf0 hR (by decide)
