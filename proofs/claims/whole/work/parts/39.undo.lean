-- PURE, 10: undo, feed
theorem SR.lk2 {A : Mem} (h : SR 7 (mLive A) A) {l : Int} (h0 : 0 ≤ l) (hl : l ≤ A 7 10) (ht : ∀ i : Nat, (i : Int) < A 7 13 → A 15 i < l) : SR 7 (mLive (mset (mset A 7 10 l) 49 6 l)) (mset (mset A 7 10 l) 49 6 l) := by
  have hb := h.2.1
  refine ⟨⟨h.1.1, h.1.2.1, h.1.2.2.1, rfl, h.1.2.2.2.2.1, h.1.2.2.2.2.2⟩, ⟨hb.1, hb.2.1, hb.2.2.1, hb.2.2.2.1, hb.2.2.2.2.1, h0, Int.le_trans hl hb.2.2.2.2.2.2.1, hb.2.2.2.2.2.2.2⟩, h.2.2.1, h.2.2.2.1, h.2.2.2.2.1, h.2.2.2.2.2.1, fun i hi => ?_, fun i t s hi => ?_, fun i t hi => ?_, fun i hi => ?_, h.2.2.2.2.2.2.2.2.2.2⟩
  · exact h.2.2.2.2.2.2.1 i (Int.lt_of_lt_of_le hi hl)
  · exact h.2.2.2.2.2.2.2.1 i t s (Int.lt_of_lt_of_le hi hl)
  · exact h.2.2.2.2.2.2.2.2.1 i t (Int.lt_of_lt_of_le hi hl)
  · have g := h.2.2.2.2.2.2.2.2.2.1 i hi
    exact ⟨g.1, g.2.1, ht i hi, g.2.2.2⟩
theorem SR.ts2 {A : Mem} (h : SR 7 (mLive A) A) {l : Int} (h0 : 0 ≤ l) (hl : l ≤ A 7 13) : SR 7 (mLive (mset (mset A 7 13 l) 49 9 l)) (mset (mset A 7 13 l) 49 9 l) := by
  have hb := h.2.1
  refine ⟨⟨h.1.1, h.1.2.1, h.1.2.2.1, h.1.2.2.2.1, rfl, h.1.2.2.2.2.2⟩, ⟨hb.1, hb.2.1, hb.2.2.1, hb.2.2.2.1, hb.2.2.2.2.1, hb.2.2.2.2.2.1, hb.2.2.2.2.2.2.1, h0, Int.le_trans hl hb.2.2.2.2.2.2.2.2.1, hb.2.2.2.2.2.2.2.2.2⟩, h.2.2.1, h.2.2.2.1, h.2.2.2.2.1, h.2.2.2.2.2.1, h.2.2.2.2.2.2.1, h.2.2.2.2.2.2.2.1, h.2.2.2.2.2.2.2.2.1, fun i hi => ?_, h.2.2.2.2.2.2.2.2.2.2⟩
  exact h.2.2.2.2.2.2.2.2.2.1 i (Int.lt_of_lt_of_le hi hl)
theorem RR.pop {A A2 B : Mem} {n : Nat} (hR : RR A) (hn : A 31 0 = (n : Int) + 1) (hS : SR 7 (mLive A2) A2) (hI : RI A2) (e : ∀ c i, ¬ (c = 31 ∧ i = 0) → ¬ (c = 49 ∧ i = 19) → B c i = A2 c i)
    (x1 : B 31 0 = (n : Int)) (y1 : B 49 19 = (n : Int)) (z1 : A2 7 1 = A 7 1) (z2 : A2 7 2 = A 7 2) (zc : ∀ c i, c = 15 ∨ (31 < c ∧ c ≤ 34) ∨ (61 ≤ c ∧ c ≤ 63) → A2 c i = A c i)
    (hl : A2 7 10 = A 7 10 - (if A 32 n = 0 then 1 else 0)) (ht : A2 7 13 = A 7 13 - (if A 32 n = 1 then 1 else 0)) : RR B := by
  have f : ∀ c i, ¬ (c = 31 ∧ i = 0) ∧ ¬ (c = 49 ∧ i = 19) → B c i = A2 c i := fun c i h => e c i h.1 h.2
  have f2 : ∀ c i, c = 15 ∨ (31 < c ∧ c ≤ 34) ∨ (61 ≤ c ∧ c ≤ 63) → B c i = A c i := fun c i h => by rw [f c i (by omega), zc c i h]
  have hP := hR.2.2.1
  refine RR.mk3 hS (fun c i hl => f c i ?_) hI (fun c i hl => f c i ?_) ⟨by rw [x1, y1], by omega, ?_, fun j hj => ?_, ?_⟩
  · have n31 := live_x (o := 31) hl rfl
    have n49 := live_49 hl rfl
    omega
  · have n31 := live_x (o := 31) hl rfl
    have n49 := live_49 hl rfl
    omega
  · have := hP.2.2.1
    omega
  · have := hP.2.2.2.1 j (by omega)
    rw [f2 32 j (by omega), f2 61 j (by omega), f2 34 j (by omega), f2 63 j (by omega), f2 62 j (by omega), f2 33 j (by omega), f 7 1 (by omega), f 7 2 (by omega), z1, z2]
    exact this
  · have hV := hP.2.2.2.2
    have e1 : (A 31 0).toNat = n + 1 := by omega
    have e2 : (B 31 0).toNat = n := by omega
    rw [e1] at hV
    rw [e2, f 7 10 (by omega), f 7 13 (by omega), hl, ht]
    exact hV.2.congr (fun i _ => f2 15 i (by omega)) (fun j _ => f2 32 j (by omega))
theorem pr_undo {A : Mem} (hR : RR A) : wp 40 m_X_undo [.inr (.inr 0)] A (fun r σ1 => wp 40 m_M_undo [.inr (.inr 49)] σ1 (fun r2 σ2 => PQ r r2 σ2)) := by
  have sc := hR.sc
  have hP := hR.2.2.1
  by_cases h0 : A 31 0 = 0
  · repeat' first
    | with_reducible refine e_X_undo ?_
    | with_reducible refine e_M_undo ?_
    | with_reducible refine xr1 ?_
    | with_reducible refine xr2 ?_
    | with_reducible refine xr3 ?_
    | with_reducible refine xr4 ?_
    | with_reducible refine xr6 ?_
    | with_reducible refine mr1 ?_
    | with_reducible refine mr2 ?_
    | with_reducible refine mr3 ?_
    | with_reducible refine mr4 ?_
    | with_reducible refine mr6 ?_
    | with_reducible refine xf1 ?_
    | with_reducible refine xf2 ?_
    | with_reducible refine xf3 ?_
    | with_reducible refine xf6 ?_
    | with_reducible refine mf1 ?_
    | with_reducible refine mf2 ?_
    | with_reducible refine mf3 ?_
    | with_reducible refine mf6 ?_
    | with_reducible exact isB0
    | with_reducible exact isB1
    | with_reducible refine And.intro ?_ ?_
    | (with_reducible refine fun (hz : (_ : Int) < _) => ?_) <;> ((try simp (discharger := first | decide | omega) only [ms_eq, ms_nk, ms_ni, w32_id, w64_id, Int.toNat_natCast, not_true_eq_false, not_false_eq_true] at hz) ; (try (exfalso; omega)))
    | (with_reducible refine fun (hz : (_ : Int) ≤ _) => ?_) <;> ((try simp (discharger := first | decide | omega) only [ms_eq, ms_nk, ms_ni, w32_id, w64_id, Int.toNat_natCast, not_true_eq_false, not_false_eq_true] at hz) ; (try (exfalso; omega)))
    | (with_reducible refine fun (hz : (_ : Int) = _) => ?_) <;> ((try simp (discharger := first | decide | omega) only [ms_eq, ms_nk, ms_ni, w32_id, w64_id, Int.toNat_natCast, not_true_eq_false, not_false_eq_true] at hz) ; (try (exfalso; omega)))
    | (with_reducible refine fun (hz : ¬ (_ : Int) = _) => ?_) <;> ((try simp (discharger := first | decide | omega) only [ms_eq, ms_nk, ms_ni, w32_id, w64_id, Int.toNat_natCast, not_true_eq_false, not_false_eq_true] at hz) ; (try (exfalso; omega)))
    | (with_reducible refine fun (hz : _ ∨ _) => ?_) <;> ((try simp (discharger := first | decide | omega) only [ms_eq, ms_nk, ms_ni, w32_id, w64_id, Int.toNat_natCast, not_true_eq_false, not_false_eq_true] at hz) ; (try (exfalso; omega)))
    | omega
    | (simp (discharger := first | decide | omega) only [ms_eq, ms_nk, ms_ni, w32_id, w64_id, Int.toNat_natCast, not_true_eq_false, not_false_eq_true] ; omega)
    all_goals exact PQ.rf0 hR (by decide)
  obtain ⟨n, hn⟩ : ∃ n : Nat, A 31 0 = (n : Int) + 1 := ⟨(A 31 0).toNat - 1, by omega⟩
  have hn2 : A 49 19 = (n : Int) + 1 := by omega
  have hn3 : (n : Int) + 1 - 1 = (n : Int) := by omega
  have hE := hP.2.2.2.1 n (by omega)
  have hV := hP.2.2.2.2
  rw [show (A 31 0).toNat = n + 1 by omega] at hV
  have hV2 := hV.2.base
  rcases hE with hE | hE | hE | hE
  · rw [if_pos hE.1, if_neg (by omega), Int.sub_zero] at hV2
    repeat' first
      | with_reducible refine e_X_undo ?_
      | with_reducible refine e_P_takeBack ?_
      | with_reducible refine e_M_undo ?_
      | with_reducible refine e_M_undo_46 ?_
      | with_reducible refine e_M_undo_73 ?_
      | with_reducible refine e_M_undo_107 ?_
      | with_reducible refine e_M_undo_146 ?_
      | with_reducible refine xr1 ?_
      | with_reducible refine xr2 ?_
      | with_reducible refine xr3 ?_
      | with_reducible refine xr4 ?_
      | with_reducible refine xr6 ?_
      | with_reducible refine mr1 ?_
      | with_reducible refine mr2 ?_
      | with_reducible refine mr3 ?_
      | with_reducible refine mr4 ?_
      | with_reducible refine mr6 ?_
      | with_reducible refine xf1 ?_
      | with_reducible refine xf2 ?_
      | with_reducible refine xf3 ?_
      | with_reducible refine xf6 ?_
      | with_reducible refine mf1 ?_
      | with_reducible refine mf2 ?_
      | with_reducible refine mf3 ?_
      | with_reducible refine mf6 ?_
      | with_reducible exact isB0
      | with_reducible exact isB1
      | with_reducible refine And.intro ?_ ?_
      | (with_reducible refine fun (hz : (_ : Int) < _) => ?_) <;> ((try simp (discharger := first | decide | omega) only [ms_eq, ms_nk, ms_ni, w32_id, w64_id, Int.toNat_natCast, not_true_eq_false, not_false_eq_true, hn, hn2, hn3] at hz) ; (try (exfalso; omega)))
      | (with_reducible refine fun (hz : (_ : Int) ≤ _) => ?_) <;> ((try simp (discharger := first | decide | omega) only [ms_eq, ms_nk, ms_ni, w32_id, w64_id, Int.toNat_natCast, not_true_eq_false, not_false_eq_true, hn, hn2, hn3] at hz) ; (try (exfalso; omega)))
      | (with_reducible refine fun (hz : (_ : Int) = _) => ?_) <;> ((try simp (discharger := first | decide | omega) only [ms_eq, ms_nk, ms_ni, w32_id, w64_id, Int.toNat_natCast, not_true_eq_false, not_false_eq_true, hn, hn2, hn3] at hz) ; (try (exfalso; omega)))
      | (with_reducible refine fun (hz : ¬ (_ : Int) = _) => ?_) <;> ((try simp (discharger := first | decide | omega) only [ms_eq, ms_nk, ms_ni, w32_id, w64_id, Int.toNat_natCast, not_true_eq_false, not_false_eq_true, hn, hn2, hn3] at hz) ; (try (exfalso; omega)))
      | (with_reducible refine fun (hz : _ ∨ _) => ?_) <;> ((try simp (discharger := first | decide | omega) only [ms_eq, ms_nk, ms_ni, w32_id, w64_id, Int.toNat_natCast, not_true_eq_false, not_false_eq_true, hn, hn2, hn3] at hz) ; (try (exfalso; omega)))
      | omega
      | (simp (discharger := first | decide | omega) only [ms_eq, ms_nk, ms_ni, w32_id, w64_id, Int.toNat_natCast, not_true_eq_false, not_false_eq_true, hn, hn2, hn3] ; omega)
    simp (discharger := first | decide | omega) only [ms_eq, ms_nk, ms_ni, w32_id, w64_id, Int.toNat_natCast, not_true_eq_false, not_false_eq_true, hn, hn2, hn3]
    refine ⟨rfl, hR.pop (A2 := mset (mset A 7 10 (A 7 10 - 1)) 49 6 (A 7 10 - 1)) (n := n) hn (hR.1.lk2 hV2.1 (by omega) hV2.2.2) hR.ri (fun c i h1 h2 => ?_) ?_ ?_ rfl rfl (fun c i h => ?_) ?_ ?_⟩
    all_goals (simp only [mset]; grind)
  · rw [if_neg (by omega), if_pos hE.1, Int.sub_zero] at hV2
    repeat' first
      | with_reducible refine e_X_undo ?_
      | with_reducible refine e_P_takeBack ?_
      | with_reducible refine e_M_undo ?_
      | with_reducible refine e_M_undo_46 ?_
      | with_reducible refine e_M_undo_73 ?_
      | with_reducible refine e_M_undo_107 ?_
      | with_reducible refine e_M_undo_146 ?_
      | with_reducible refine xr1 ?_
      | with_reducible refine xr2 ?_
      | with_reducible refine xr3 ?_
      | with_reducible refine xr4 ?_
      | with_reducible refine xr6 ?_
      | with_reducible refine mr1 ?_
      | with_reducible refine mr2 ?_
      | with_reducible refine mr3 ?_
      | with_reducible refine mr4 ?_
      | with_reducible refine mr6 ?_
      | with_reducible refine xf1 ?_
      | with_reducible refine xf2 ?_
      | with_reducible refine xf3 ?_
      | with_reducible refine xf6 ?_
      | with_reducible refine mf1 ?_
      | with_reducible refine mf2 ?_
      | with_reducible refine mf3 ?_
      | with_reducible refine mf6 ?_
      | with_reducible exact isB0
      | with_reducible exact isB1
      | with_reducible refine And.intro ?_ ?_
      | (with_reducible refine fun (hz : (_ : Int) < _) => ?_) <;> ((try simp (discharger := first | decide | omega) only [ms_eq, ms_nk, ms_ni, w32_id, w64_id, Int.toNat_natCast, not_true_eq_false, not_false_eq_true, hn, hn2, hn3] at hz) ; (try (exfalso; omega)))
      | (with_reducible refine fun (hz : (_ : Int) ≤ _) => ?_) <;> ((try simp (discharger := first | decide | omega) only [ms_eq, ms_nk, ms_ni, w32_id, w64_id, Int.toNat_natCast, not_true_eq_false, not_false_eq_true, hn, hn2, hn3] at hz) ; (try (exfalso; omega)))
      | (with_reducible refine fun (hz : (_ : Int) = _) => ?_) <;> ((try simp (discharger := first | decide | omega) only [ms_eq, ms_nk, ms_ni, w32_id, w64_id, Int.toNat_natCast, not_true_eq_false, not_false_eq_true, hn, hn2, hn3] at hz) ; (try (exfalso; omega)))
      | (with_reducible refine fun (hz : ¬ (_ : Int) = _) => ?_) <;> ((try simp (discharger := first | decide | omega) only [ms_eq, ms_nk, ms_ni, w32_id, w64_id, Int.toNat_natCast, not_true_eq_false, not_false_eq_true, hn, hn2, hn3] at hz) ; (try (exfalso; omega)))
      | (with_reducible refine fun (hz : _ ∨ _) => ?_) <;> ((try simp (discharger := first | decide | omega) only [ms_eq, ms_nk, ms_ni, w32_id, w64_id, Int.toNat_natCast, not_true_eq_false, not_false_eq_true, hn, hn2, hn3] at hz) ; (try (exfalso; omega)))
      | omega
      | (simp (discharger := first | decide | omega) only [ms_eq, ms_nk, ms_ni, w32_id, w64_id, Int.toNat_natCast, not_true_eq_false, not_false_eq_true, hn, hn2, hn3] ; omega)
    simp (discharger := first | decide | omega) only [ms_eq, ms_nk, ms_ni, w32_id, w64_id, Int.toNat_natCast, not_true_eq_false, not_false_eq_true, hn, hn2, hn3]
    refine ⟨rfl, hR.pop (A2 := mset (mset A 7 13 (A 7 13 - 1)) 49 9 (A 7 13 - 1)) (n := n) hn (hR.1.ts2 hV2.2.1 (by omega)) hR.ri (fun c i h1 h2 => ?_) ?_ ?_ rfl rfl (fun c i h => ?_) ?_ ?_⟩
    all_goals (simp only [mset]; grind)
  · repeat' first
    | with_reducible refine e_X_undo ?_
    | with_reducible refine e_P_takeBack ?_
    | with_reducible refine e_M_undo ?_
    | with_reducible refine e_M_undo_46 ?_
    | with_reducible refine e_M_undo_73 ?_
    | with_reducible refine e_M_undo_107 ?_
    | with_reducible refine e_M_undo_146 ?_
    | with_reducible refine xr1 ?_
    | with_reducible refine xr2 ?_
    | with_reducible refine xr3 ?_
    | with_reducible refine xr4 ?_
    | with_reducible refine xr6 ?_
    | with_reducible refine mr1 ?_
    | with_reducible refine mr2 ?_
    | with_reducible refine mr3 ?_
    | with_reducible refine mr4 ?_
    | with_reducible refine mr6 ?_
    | with_reducible refine xf1 ?_
    | with_reducible refine xf2 ?_
    | with_reducible refine xf3 ?_
    | with_reducible refine xf6 ?_
    | with_reducible refine mf1 ?_
    | with_reducible refine mf2 ?_
    | with_reducible refine mf3 ?_
    | with_reducible refine mf6 ?_
    | with_reducible exact isB0
    | with_reducible exact isB1
    | with_reducible refine And.intro ?_ ?_
    | (with_reducible refine fun (hz : (_ : Int) < _) => ?_) <;> ((try simp (discharger := first | decide | omega) only [ms_eq, ms_nk, ms_ni, w32_id, w64_id, Int.toNat_natCast, not_true_eq_false, not_false_eq_true, hn, hn2, hn3] at hz) ; (try (exfalso; omega)))
    | (with_reducible refine fun (hz : (_ : Int) ≤ _) => ?_) <;> ((try simp (discharger := first | decide | omega) only [ms_eq, ms_nk, ms_ni, w32_id, w64_id, Int.toNat_natCast, not_true_eq_false, not_false_eq_true, hn, hn2, hn3] at hz) ; (try (exfalso; omega)))
    | (with_reducible refine fun (hz : (_ : Int) = _) => ?_) <;> ((try simp (discharger := first | decide | omega) only [ms_eq, ms_nk, ms_ni, w32_id, w64_id, Int.toNat_natCast, not_true_eq_false, not_false_eq_true, hn, hn2, hn3] at hz) ; (try (exfalso; omega)))
    | (with_reducible refine fun (hz : ¬ (_ : Int) = _) => ?_) <;> ((try simp (discharger := first | decide | omega) only [ms_eq, ms_nk, ms_ni, w32_id, w64_id, Int.toNat_natCast, not_true_eq_false, not_false_eq_true, hn, hn2, hn3] at hz) ; (try (exfalso; omega)))
    | (with_reducible refine fun (hz : _ ∨ _) => ?_) <;> ((try simp (discharger := first | decide | omega) only [ms_eq, ms_nk, ms_ni, w32_id, w64_id, Int.toNat_natCast, not_true_eq_false, not_false_eq_true, hn, hn2, hn3] at hz) ; (try (exfalso; omega)))
    | omega
    | (simp (discharger := first | decide | omega) only [ms_eq, ms_nk, ms_ni, w32_id, w64_id, Int.toNat_natCast, not_true_eq_false, not_false_eq_true, hn, hn2, hn3] ; omega)
    simp (discharger := first | decide | omega) only [ms_eq, ms_nk, ms_ni, w32_id, w64_id, Int.toNat_natCast, not_true_eq_false, not_false_eq_true, hn, hn2, hn3]
    refine ⟨rfl, hR.pop (A2 := mset (mset A 7 3 (A 34 n)) 49 5 (A 34 n)) (n := n) hn (hR.1.tie2 hE.2.2.2) hR.ri (fun c i h1 h2 => ?_) ?_ ?_ rfl rfl (fun c i h => ?_) ?_ ?_⟩
    all_goals (simp only [mset]; grind)
  · obtain ⟨hE1, hE2, hE3, hE4, hE5, hE6, a, t, ha, ht, hE7⟩ := hE
    have hE8 : A 62 n = ((48 + 4 * a + t : Nat) : Int) := by omega
    repeat' first
      | with_reducible refine e_X_undo ?_
      | with_reducible refine e_P_takeBack ?_
      | with_reducible refine e_M_undo ?_
      | with_reducible refine e_M_undo_46 ?_
      | with_reducible refine e_M_undo_73 ?_
      | with_reducible refine e_M_undo_107 ?_
      | with_reducible refine e_M_undo_146 ?_
      | with_reducible refine xr1 ?_
      | with_reducible refine xr2 ?_
      | with_reducible refine xr3 ?_
      | with_reducible refine xr4 ?_
      | with_reducible refine xr6 ?_
      | with_reducible refine mr1 ?_
      | with_reducible refine mr2 ?_
      | with_reducible refine mr3 ?_
      | with_reducible refine mr4 ?_
      | with_reducible refine mr6 ?_
      | with_reducible refine xf1 ?_
      | with_reducible refine xf2 ?_
      | with_reducible refine xf3 ?_
      | with_reducible refine xf6 ?_
      | with_reducible refine mf1 ?_
      | with_reducible refine mf2 ?_
      | with_reducible refine mf3 ?_
      | with_reducible refine mf6 ?_
      | with_reducible exact isB0
      | with_reducible exact isB1
      | with_reducible refine And.intro ?_ ?_
      | (with_reducible refine fun (hz : (_ : Int) < _) => ?_) <;> ((try simp (discharger := first | decide | omega) only [ms_eq, ms_nk, ms_ni, w32_id, w64_id, Int.toNat_natCast, not_true_eq_false, not_false_eq_true, hn, hn2, hn3, hE7, hE8] at hz) ; (try (exfalso; omega)))
      | (with_reducible refine fun (hz : (_ : Int) ≤ _) => ?_) <;> ((try simp (discharger := first | decide | omega) only [ms_eq, ms_nk, ms_ni, w32_id, w64_id, Int.toNat_natCast, not_true_eq_false, not_false_eq_true, hn, hn2, hn3, hE7, hE8] at hz) ; (try (exfalso; omega)))
      | (with_reducible refine fun (hz : (_ : Int) = _) => ?_) <;> ((try simp (discharger := first | decide | omega) only [ms_eq, ms_nk, ms_ni, w32_id, w64_id, Int.toNat_natCast, not_true_eq_false, not_false_eq_true, hn, hn2, hn3, hE7, hE8] at hz) ; (try (exfalso; omega)))
      | (with_reducible refine fun (hz : ¬ (_ : Int) = _) => ?_) <;> ((try simp (discharger := first | decide | omega) only [ms_eq, ms_nk, ms_ni, w32_id, w64_id, Int.toNat_natCast, not_true_eq_false, not_false_eq_true, hn, hn2, hn3, hE7, hE8] at hz) ; (try (exfalso; omega)))
      | (with_reducible refine fun (hz : _ ∨ _) => ?_) <;> ((try simp (discharger := first | decide | omega) only [ms_eq, ms_nk, ms_ni, w32_id, w64_id, Int.toNat_natCast, not_true_eq_false, not_false_eq_true, hn, hn2, hn3, hE7, hE8] at hz) ; (try (exfalso; omega)))
      | omega
      | (simp (discharger := first | decide | omega) only [ms_eq, ms_nk, ms_ni, w32_id, w64_id, Int.toNat_natCast, not_true_eq_false, not_false_eq_true, hn, hn2, hn3, hE7, hE8] ; omega)
    simp (discharger := first | decide | omega) only [ms_eq, ms_nk, ms_ni, w32_id, w64_id, Int.toNat_natCast, not_true_eq_false, not_false_eq_true, hn, hn2, hn3, hE7, hE8]
    refine ⟨rfl, hR.pop (A2 := mset (mset A 12 (4 * a + t) (A 34 n)) 52 (48 + 4 * a + t) (A 34 n)) (n := n) hn (hR.1.sec2 ha ht ⟨hE5, hE6⟩) hR.ri (fun c i h1 h2 => ?_) ?_ ?_ rfl rfl (fun c i h => ?_) ?_ ?_⟩
    all_goals (simp only [mset]; grind)
